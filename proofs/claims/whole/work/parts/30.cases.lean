/-! THE LAW: its 23 cases -/
set_option maxHeartbeats 4000000 in
set_option maxRecDepth 100000 in
theorem law_piece {p : Program} {l : Launch} {e : Env} {s : State} {m : MethodId} {below : List Frame} {meth : Method} {c : Code} {b L : Nat} {xs : Nat → Int32} {D : va_G} {cy : ClassId} {x : Nat} {A B M : Nat → Nat} {σ τ μ : Nat → Int → Int} {H : Heap} {locs : List Loc} {ls : Array Slot} {i : Int} (C0 : lwC p s m c b L xs D cy) (hR : Rel σ τ μ) (hi : 0 ≤ i ∧ i + 6 ≤ (L : Int)) (hP : va_P D vwCl (wP cy x A B σ τ ++ wM cy M μ) H) (hD : va_D (fun q : Nat => s.heap.size ≤ q) (wP cy x A B σ τ ++ wM cy M μ)) (hS : va_S (fun q : Nat => s.heap.size ≤ q) s.heap H locs) (hl : lv_has ls 4 [(3, .int (iI i)), (1, .ref x), (2, .ref (M 100)), (0, .ref b)]) (kk : ∀ (σ τ μ : Nat → Int → Int) (H : Heap) (locs : List Loc), Rel σ τ μ → va_P D vwCl (wP cy x A B σ τ ++ wM cy M μ) H → va_D (fun q : Nat => s.heap.size ≤ q) (wP cy x A B σ τ ++ wM cy M μ) → va_S (fun q : Nat => s.heap.size ≤ q) s.heap H locs → W p l e room_1 s m #[Value.ref b] below meth c H locs 34 1499 (lwZ below #[Value.ref b] s) (F0 m 949 ls [])) : W p l e room_1 s m #[Value.ref b] below meth c H locs 34 1499 (lwZ below #[Value.ref b] s) (F0 m 140 ls []) := by
  obtain ⟨hx, hb, hml, hown, hts, hK, hX, hbl, hL⟩ := C0
  have hA : ∀ q : Nat, s.heap.size ≤ q → (fun q : Nat => s.heap.size ≤ q) q := fun _ h => h
  have hbA : ¬ (fun q : Nat => s.heap.size ≤ q) b := Nat.not_le.mpr hbl
  refine lv_aload_n hx hb dL_law_140 rfl (lv_at hl 1 rfl) ?_
  refine lv_aload_n hx hb dL_law_141 rfl (lv_at hl 3 rfl) ?_
  refine lv_iload_n hx hb dL_law_142 rfl (lv_at hl 0 rfl) ?_
  refine lv_iconst (v := iI 1) hx hb dL_law_143 rfl ?_
  refine r_iadd hx hb dL_law_144 ?_
  refine r_sld hx hb hX hbl hbA hS (i := (i + 1)) (by omega) hL dL_law_145 ?_
  refine lv_aload_n hx hb dL_law_146 rfl (lv_at hl 3 rfl) ?_
  refine lv_iload_n hx hb dL_law_147 rfl (lv_at hl 0 rfl) ?_
  refine lv_iconst (v := iI 2) hx hb dL_law_148 rfl ?_
  refine r_iadd hx hb dL_law_149 ?_
  refine r_sld hx hb hX hbl hbA hS (i := (i + 2)) (by omega) hL dL_law_150 ?_
  refine lv_aload_n hx hb dL_law_151 rfl (lv_at hl 3 rfl) ?_
  refine lv_iload_n hx hb dL_law_152 rfl (lv_at hl 0 rfl) ?_
  refine lv_iconst (v := iI 3) hx hb dL_law_153 rfl ?_
  refine r_iadd hx hb dL_law_154 ?_
  refine r_sld hx hb hX hbl hbA hS (i := (i + 3)) (by omega) hL dL_law_155 ?_
  refine lv_aload_n hx hb dL_law_156 rfl (lv_at hl 3 rfl) ?_
  refine lv_iload_n hx hb dL_law_157 rfl (lv_at hl 0 rfl) ?_
  refine lv_iconst (v := iI 4) hx hb dL_law_158 rfl ?_
  refine r_iadd hx hb dL_law_159 ?_
  refine r_sld hx hb hX hbl hbA hS (i := (i + 4)) (by omega) hL dL_law_160 ?_
  refine lv_aload_n hx hb dL_law_161 rfl (lv_at hl 3 rfl) ?_
  refine lv_iload_n hx hb dL_law_162 rfl (lv_at hl 0 rfl) ?_
  refine lv_iconst (v := iI 5) hx hb dL_law_163 rfl ?_
  refine r_iadd hx hb dL_law_164 ?_
  refine r_sld hx hb hX hbl hbA hS (i := (i + 5)) (by omega) hL dL_law_165 ?_
  refine r_callMl (va_runV (As := [.int (iI (xz xs (i + 1))), .int (iI (xz xs (i + 2))), .int (iI (xz xs (i + 3))), .int (iI (xz xs (i + 4))), .int (iI (xz xs (i + 5)))]) (rest := []) ⟨hx, hb, hml, hown, hts⟩ (c_X2_piece l D cy x A B σ τ H.size (xz xs (i + 1)) (xz xs (i + 2)) (xz xs (i + 3)) (xz xs (i + 4)) (xz xs (i + 5)) hR.iN hR.iL hR.id (xz_ok xs _) (xz_ok xs _) (xz_ok xs _) (xz_ok xs _) (xz_ok xs _)) (cwV 5 hts gL_law_X2_piece rfl rfl rfl (by decide +kernel) ⟨Nat.le_of_ble_eq_true rfl, Nat.le_of_ble_eq_true rfl⟩) (pv_rw (C := RX2) (T := TX2) (N := 2) (ci := 2) (q0 := 0) (vpL (a := wP cy x A B σ τ) (b := wM cy M μ) hP) hK (vdL (a := wP cy x A B σ τ) (b := wM cy M μ) hD) rfl rfl) rfl rfl hl.1 rfl (lv_room (Nat.le_of_ble_eq_true rfl)) dL_law_166 ⟨Nat.le_of_ble_eq_true rfl, Nat.le_of_ble_eq_true rfl⟩) hP hD hS hA (fun _ => rfl) (fun ux H locs hux hP hD hS => ?_)
  have hP : va_P D vwCl (wP cy x A B (if ((-5000 ≤ (xz xs (i + 1)) ∧ (xz xs (i + 1)) ≤ 5000) ∧ (-5000 ≤ (xz xs (i + 2)) ∧ (xz xs (i + 2)) ≤ 5000)) ∧ (0 ≤ (xz xs (i + 3)) ∧ (xz xs (i + 3)) ≤ 1200) ∧ (0 ≤ (xz xs (i + 4)) ∧ (xz xs (i + 4)) ≤ 1200) ∧ (0 ≤ (xz xs (i + 5)) ∧ (xz xs (i + 5)) ≤ 1200) then nAddP σ (xz xs (i + 1)) (xz xs (i + 2)) (xz xs (i + 3)) (xz xs (i + 4)) (xz xs (i + 5)) else σ) τ ++ wM cy M μ) H := hP
  have hD : va_D (fun q : Nat => s.heap.size ≤ q) (wP cy x A B (if ((-5000 ≤ (xz xs (i + 1)) ∧ (xz xs (i + 1)) ≤ 5000) ∧ (-5000 ≤ (xz xs (i + 2)) ∧ (xz xs (i + 2)) ≤ 5000)) ∧ (0 ≤ (xz xs (i + 3)) ∧ (xz xs (i + 3)) ≤ 1200) ∧ (0 ≤ (xz xs (i + 4)) ∧ (xz xs (i + 4)) ≤ 1200) ∧ (0 ≤ (xz xs (i + 5)) ∧ (xz xs (i + 5)) ≤ 1200) then nAddP σ (xz xs (i + 1)) (xz xs (i + 2)) (xz xs (i + 3)) (xz xs (i + 4)) (xz xs (i + 5)) else σ) τ ++ wM cy M μ) := hD
  refine lv_aload_n hx hb dL_law_169 rfl (lv_at hl 2 rfl) ?_
  refine lv_aload_n hx hb dL_law_170 rfl (lv_at hl 3 rfl) ?_
  refine lv_iload_n hx hb dL_law_171 rfl (lv_at hl 0 rfl) ?_
  refine lv_iconst (v := iI 1) hx hb dL_law_172 rfl ?_
  refine r_iadd hx hb dL_law_173 ?_
  refine r_sld hx hb hX hbl hbA hS (i := (i + 1)) (by omega) hL dL_law_174 ?_
  refine lv_aload_n hx hb dL_law_175 rfl (lv_at hl 3 rfl) ?_
  refine lv_iload_n hx hb dL_law_176 rfl (lv_at hl 0 rfl) ?_
  refine lv_iconst (v := iI 2) hx hb dL_law_177 rfl ?_
  refine r_iadd hx hb dL_law_178 ?_
  refine r_sld hx hb hX hbl hbA hS (i := (i + 2)) (by omega) hL dL_law_179 ?_
  refine lv_aload_n hx hb dL_law_180 rfl (lv_at hl 3 rfl) ?_
  refine lv_iload_n hx hb dL_law_181 rfl (lv_at hl 0 rfl) ?_
  refine lv_iconst (v := iI 3) hx hb dL_law_182 rfl ?_
  refine r_iadd hx hb dL_law_183 ?_
  refine r_sld hx hb hX hbl hbA hS (i := (i + 3)) (by omega) hL dL_law_184 ?_
  refine lv_aload_n hx hb dL_law_185 rfl (lv_at hl 3 rfl) ?_
  refine lv_iload_n hx hb dL_law_186 rfl (lv_at hl 0 rfl) ?_
  refine lv_iconst (v := iI 4) hx hb dL_law_187 rfl ?_
  refine r_iadd hx hb dL_law_188 ?_
  refine r_sld hx hb hX hbl hbA hS (i := (i + 4)) (by omega) hL dL_law_189 ?_
  refine lv_aload_n hx hb dL_law_190 rfl (lv_at hl 3 rfl) ?_
  refine lv_iload_n hx hb dL_law_191 rfl (lv_at hl 0 rfl) ?_
  refine lv_iconst (v := iI 5) hx hb dL_law_192 rfl ?_
  refine r_iadd hx hb dL_law_193 ?_
  refine r_sld hx hb hX hbl hbA hS (i := (i + 5)) (by omega) hL dL_law_194 ?_
  refine r_callMr (va_runV (As := [.int (iI (xz xs (i + 1))), .int (iI (xz xs (i + 2))), .int (iI (xz xs (i + 3))), .int (iI (xz xs (i + 4))), .int (iI (xz xs (i + 5)))]) (rest := [.int (iI (if ((-5000 ≤ (xz xs (i + 1)) ∧ (xz xs (i + 1)) ≤ 5000) ∧ (-5000 ≤ (xz xs (i + 2)) ∧ (xz xs (i + 2)) ≤ 5000)) ∧ (0 ≤ (xz xs (i + 3)) ∧ (xz xs (i + 3)) ≤ 1200) ∧ (0 ≤ (xz xs (i + 4)) ∧ (xz xs (i + 4)) ≤ 1200) ∧ (0 ≤ (xz xs (i + 5)) ∧ (xz xs (i + 5)) ≤ 1200) then (if 12 ≤ σ 0 0 then -1 else σ 0 0) else -1))]) ⟨hx, hb, hml, hown, hts⟩ (c_X3_piece l D cy M μ H.size (xz xs (i + 1)) (xz xs (i + 2)) (xz xs (i + 3)) (xz xs (i + 4)) (xz xs (i + 5)) hR.iM (xz_ok xs _) (xz_ok xs _) (xz_ok xs _) (xz_ok xs _) (xz_ok xs _)) (cwV 5 hts gL_law_X3_piece rfl rfl rfl (by decide +kernel) ⟨Nat.le_of_ble_eq_true rfl, Nat.le_of_ble_eq_true rfl⟩) (pv_rw (C := RX3) (T := TX3) (N := 17) (ci := 3) (q0 := 0) (vpR (a := wP cy x A B (if ((-5000 ≤ (xz xs (i + 1)) ∧ (xz xs (i + 1)) ≤ 5000) ∧ (-5000 ≤ (xz xs (i + 2)) ∧ (xz xs (i + 2)) ≤ 5000)) ∧ (0 ≤ (xz xs (i + 3)) ∧ (xz xs (i + 3)) ≤ 1200) ∧ (0 ≤ (xz xs (i + 4)) ∧ (xz xs (i + 4)) ≤ 1200) ∧ (0 ≤ (xz xs (i + 5)) ∧ (xz xs (i + 5)) ≤ 1200) then nAddP σ (xz xs (i + 1)) (xz xs (i + 2)) (xz xs (i + 3)) (xz xs (i + 4)) (xz xs (i + 5)) else σ) τ) (b := wM cy M μ) hP) hK (vdR (a := wP cy x A B (if ((-5000 ≤ (xz xs (i + 1)) ∧ (xz xs (i + 1)) ≤ 5000) ∧ (-5000 ≤ (xz xs (i + 2)) ∧ (xz xs (i + 2)) ≤ 5000)) ∧ (0 ≤ (xz xs (i + 3)) ∧ (xz xs (i + 3)) ≤ 1200) ∧ (0 ≤ (xz xs (i + 4)) ∧ (xz xs (i + 4)) ≤ 1200) ∧ (0 ≤ (xz xs (i + 5)) ∧ (xz xs (i + 5)) ≤ 1200) then nAddP σ (xz xs (i + 1)) (xz xs (i + 2)) (xz xs (i + 3)) (xz xs (i + 4)) (xz xs (i + 5)) else σ) τ) (b := wM cy M μ) hD) rfl rfl) rfl rfl hl.1 rfl (lv_room (Nat.le_of_ble_eq_true rfl)) dL_law_195 ⟨Nat.le_of_ble_eq_true rfl, Nat.le_of_ble_eq_true rfl⟩) hP hD hS hA (fun _ => rfl) (fun uy H locs huy hP hD hS => ?_)
  have hP : va_P D vwCl (wP cy x A B (if ((-5000 ≤ (xz xs (i + 1)) ∧ (xz xs (i + 1)) ≤ 5000) ∧ (-5000 ≤ (xz xs (i + 2)) ∧ (xz xs (i + 2)) ≤ 5000)) ∧ (0 ≤ (xz xs (i + 3)) ∧ (xz xs (i + 3)) ≤ 1200) ∧ (0 ≤ (xz xs (i + 4)) ∧ (xz xs (i + 4)) ≤ 1200) ∧ (0 ≤ (xz xs (i + 5)) ∧ (xz xs (i + 5)) ≤ 1200) then nAddP σ (xz xs (i + 1)) (xz xs (i + 2)) (xz xs (i + 3)) (xz xs (i + 4)) (xz xs (i + 5)) else σ) τ ++ wM cy M (if (((-5000 ≤ (xz xs (i + 1)) ∧ (xz xs (i + 1)) ≤ 5000) ∧ (-5000 ≤ (xz xs (i + 2)) ∧ (xz xs (i + 2)) ≤ 5000)) ∧ (0 ≤ (xz xs (i + 3)) ∧ (xz xs (i + 3)) ≤ 1200) ∧ (0 ≤ (xz xs (i + 4)) ∧ (xz xs (i + 4)) ≤ 1200) ∧ (0 ≤ (xz xs (i + 5)) ∧ (xz xs (i + 5)) ≤ 1200)) ∧ μ 0 0 ≠ 12 then mPutP μ (xz xs (i + 1)) (xz xs (i + 2)) (xz xs (i + 3)) (xz xs (i + 4)) (xz xs (i + 5)) else μ)) H := hP
  have hD : va_D (fun q : Nat => s.heap.size ≤ q) (wP cy x A B (if ((-5000 ≤ (xz xs (i + 1)) ∧ (xz xs (i + 1)) ≤ 5000) ∧ (-5000 ≤ (xz xs (i + 2)) ∧ (xz xs (i + 2)) ≤ 5000)) ∧ (0 ≤ (xz xs (i + 3)) ∧ (xz xs (i + 3)) ≤ 1200) ∧ (0 ≤ (xz xs (i + 4)) ∧ (xz xs (i + 4)) ≤ 1200) ∧ (0 ≤ (xz xs (i + 5)) ∧ (xz xs (i + 5)) ≤ 1200) then nAddP σ (xz xs (i + 1)) (xz xs (i + 2)) (xz xs (i + 3)) (xz xs (i + 4)) (xz xs (i + 5)) else σ) τ ++ wM cy M (if (((-5000 ≤ (xz xs (i + 1)) ∧ (xz xs (i + 1)) ≤ 5000) ∧ (-5000 ≤ (xz xs (i + 2)) ∧ (xz xs (i + 2)) ≤ 5000)) ∧ (0 ≤ (xz xs (i + 3)) ∧ (xz xs (i + 3)) ≤ 1200) ∧ (0 ≤ (xz xs (i + 4)) ∧ (xz xs (i + 4)) ≤ 1200) ∧ (0 ≤ (xz xs (i + 5)) ∧ (xz xs (i + 5)) ≤ 1200)) ∧ μ 0 0 ≠ 12 then mPutP μ (xz xs (i + 1)) (xz xs (i + 2)) (xz xs (i + 3)) (xz xs (i + 4)) (xz xs (i + 5)) else μ)) := hD
  have hq := rel_piece hR (xz xs (i + 1)) (xz xs (i + 2)) (xz xs (i + 3)) (xz xs (i + 4)) (xz xs (i + 5)) (xz_ok xs _) (xz_ok xs _) (xz_ok xs _) (xz_ok xs _) (xz_ok xs _)
  refine lv_icmp_eq (tgt := 949) hx hb dL_law_198 (by decide) (fun _ => ?_) (fun h => absurd (congrArg iI hq.1) h)
  exact kk _ _ _ _ _ hq.2 hP hD hS
set_option maxHeartbeats 4000000 in
set_option maxRecDepth 100000 in
theorem law_house {p : Program} {l : Launch} {e : Env} {s : State} {m : MethodId} {below : List Frame} {meth : Method} {c : Code} {b L : Nat} {xs : Nat → Int32} {D : va_G} {cy : ClassId} {x : Nat} {A B M : Nat → Nat} {σ τ μ : Nat → Int → Int} {H : Heap} {locs : List Loc} {ls : Array Slot} {i : Int} (C0 : lwC p s m c b L xs D cy) (hR : Rel σ τ μ) (hi : 0 ≤ i ∧ i + 6 ≤ (L : Int)) (hP : va_P D vwCl (wP cy x A B σ τ ++ wM cy M μ) H) (hD : va_D (fun q : Nat => s.heap.size ≤ q) (wP cy x A B σ τ ++ wM cy M μ)) (hS : va_S (fun q : Nat => s.heap.size ≤ q) s.heap H locs) (hl : lv_has ls 4 [(3, .int (iI i)), (1, .ref x), (2, .ref (M 100)), (0, .ref b)]) (kk : ∀ (σ τ μ : Nat → Int → Int) (H : Heap) (locs : List Loc), Rel σ τ μ → va_P D vwCl (wP cy x A B σ τ ++ wM cy M μ) H → va_D (fun q : Nat => s.heap.size ≤ q) (wP cy x A B σ τ ++ wM cy M μ) → va_S (fun q : Nat => s.heap.size ≤ q) s.heap H locs → W p l e room_1 s m #[Value.ref b] below meth c H locs 34 1499 (lwZ below #[Value.ref b] s) (F0 m 949 ls [])) : W p l e room_1 s m #[Value.ref b] below meth c H locs 34 1499 (lwZ below #[Value.ref b] s) (F0 m 203 ls []) := by
  obtain ⟨hx, hb, hml, hown, hts, hK, hX, hbl, hL⟩ := C0
  have hA : ∀ q : Nat, s.heap.size ≤ q → (fun q : Nat => s.heap.size ≤ q) q := fun _ h => h
  have hbA : ¬ (fun q : Nat => s.heap.size ≤ q) b := Nat.not_le.mpr hbl
  refine lv_aload_n hx hb dL_law_203 rfl (lv_at hl 1 rfl) ?_
  refine lv_aload_n hx hb dL_law_204 rfl (lv_at hl 3 rfl) ?_
  refine lv_iload_n hx hb dL_law_205 rfl (lv_at hl 0 rfl) ?_
  refine lv_iconst (v := iI 1) hx hb dL_law_206 rfl ?_
  refine r_iadd hx hb dL_law_207 ?_
  refine r_sld hx hb hX hbl hbA hS (i := (i + 1)) (by omega) hL dL_law_208 ?_
  refine lv_aload_n hx hb dL_law_209 rfl (lv_at hl 3 rfl) ?_
  refine lv_iload_n hx hb dL_law_210 rfl (lv_at hl 0 rfl) ?_
  refine lv_iconst (v := iI 2) hx hb dL_law_211 rfl ?_
  refine r_iadd hx hb dL_law_212 ?_
  refine r_sld hx hb hX hbl hbA hS (i := (i + 2)) (by omega) hL dL_law_213 ?_
  refine lv_aload_n hx hb dL_law_214 rfl (lv_at hl 3 rfl) ?_
  refine lv_iload_n hx hb dL_law_215 rfl (lv_at hl 0 rfl) ?_
  refine lv_iconst (v := iI 3) hx hb dL_law_216 rfl ?_
  refine r_iadd hx hb dL_law_217 ?_
  refine r_sld hx hb hX hbl hbA hS (i := (i + 3)) (by omega) hL dL_law_218 ?_
  refine r_callMl (va_runV (As := [.int (iI (xz xs (i + 1))), .int (iI (xz xs (i + 2))), .int (iI (xz xs (i + 3)))]) (rest := []) ⟨hx, hb, hml, hown, hts⟩ (c_X2_house l D cy x A B σ τ H.size (xz xs (i + 1)) (xz xs (i + 2)) (xz xs (i + 3)) hR.iN hR.iL hR.id (xz_ok xs _) (xz_ok xs _) (xz_ok xs _)) (cwV 3 hts gL_law_X2_house rfl rfl rfl (by decide +kernel) ⟨Nat.le_of_ble_eq_true rfl, Nat.le_of_ble_eq_true rfl⟩) (pv_rw (C := RX2) (T := TX2) (N := 2) (ci := 2) (q0 := 0) (vpL (a := wP cy x A B σ τ) (b := wM cy M μ) hP) hK (vdL (a := wP cy x A B σ τ) (b := wM cy M μ) hD) rfl rfl) rfl rfl hl.1 rfl (lv_room (Nat.le_of_ble_eq_true rfl)) dL_law_219 ⟨Nat.le_of_ble_eq_true rfl, Nat.le_of_ble_eq_true rfl⟩) hP hD hS hA (fun _ => rfl) (fun ux H locs hux hP hD hS => ?_)
  have hP : va_P D vwCl (wP cy x A B (if ((-5000 ≤ (xz xs (i + 1)) ∧ (xz xs (i + 1)) ≤ 5000) ∧ (-5000 ≤ (xz xs (i + 2)) ∧ (xz xs (i + 2)) ≤ 5000)) ∧ (0 ≤ (xz xs (i + 3)) ∧ (xz xs (i + 3)) ≤ 1000) then nAddH σ (xz xs (i + 1)) (xz xs (i + 2)) (xz xs (i + 3)) else σ) τ ++ wM cy M μ) H := hP
  have hD : va_D (fun q : Nat => s.heap.size ≤ q) (wP cy x A B (if ((-5000 ≤ (xz xs (i + 1)) ∧ (xz xs (i + 1)) ≤ 5000) ∧ (-5000 ≤ (xz xs (i + 2)) ∧ (xz xs (i + 2)) ≤ 5000)) ∧ (0 ≤ (xz xs (i + 3)) ∧ (xz xs (i + 3)) ≤ 1000) then nAddH σ (xz xs (i + 1)) (xz xs (i + 2)) (xz xs (i + 3)) else σ) τ ++ wM cy M μ) := hD
  refine lv_aload_n hx hb dL_law_222 rfl (lv_at hl 2 rfl) ?_
  refine lv_aload_n hx hb dL_law_223 rfl (lv_at hl 3 rfl) ?_
  refine lv_iload_n hx hb dL_law_224 rfl (lv_at hl 0 rfl) ?_
  refine lv_iconst (v := iI 1) hx hb dL_law_225 rfl ?_
  refine r_iadd hx hb dL_law_226 ?_
  refine r_sld hx hb hX hbl hbA hS (i := (i + 1)) (by omega) hL dL_law_227 ?_
  refine lv_aload_n hx hb dL_law_228 rfl (lv_at hl 3 rfl) ?_
  refine lv_iload_n hx hb dL_law_229 rfl (lv_at hl 0 rfl) ?_
  refine lv_iconst (v := iI 2) hx hb dL_law_230 rfl ?_
  refine r_iadd hx hb dL_law_231 ?_
  refine r_sld hx hb hX hbl hbA hS (i := (i + 2)) (by omega) hL dL_law_232 ?_
  refine lv_aload_n hx hb dL_law_233 rfl (lv_at hl 3 rfl) ?_
  refine lv_iload_n hx hb dL_law_234 rfl (lv_at hl 0 rfl) ?_
  refine lv_iconst (v := iI 3) hx hb dL_law_235 rfl ?_
  refine r_iadd hx hb dL_law_236 ?_
  refine r_sld hx hb hX hbl hbA hS (i := (i + 3)) (by omega) hL dL_law_237 ?_
  refine r_callMr (va_runV (As := [.int (iI (xz xs (i + 1))), .int (iI (xz xs (i + 2))), .int (iI (xz xs (i + 3)))]) (rest := [.int (iI (if ((-5000 ≤ (xz xs (i + 1)) ∧ (xz xs (i + 1)) ≤ 5000) ∧ (-5000 ≤ (xz xs (i + 2)) ∧ (xz xs (i + 2)) ≤ 5000)) ∧ (0 ≤ (xz xs (i + 3)) ∧ (xz xs (i + 3)) ≤ 1000) then (if 20 ≤ σ 4 0 then -1 else σ 4 0) else -1))]) ⟨hx, hb, hml, hown, hts⟩ (c_X3_house l D cy M μ H.size (xz xs (i + 1)) (xz xs (i + 2)) (xz xs (i + 3)) hR.iM (xz_ok xs _) (xz_ok xs _) (xz_ok xs _)) (cwV 3 hts gL_law_X3_house rfl rfl rfl (by decide +kernel) ⟨Nat.le_of_ble_eq_true rfl, Nat.le_of_ble_eq_true rfl⟩) (pv_rw (C := RX3) (T := TX3) (N := 17) (ci := 3) (q0 := 0) (vpR (a := wP cy x A B (if ((-5000 ≤ (xz xs (i + 1)) ∧ (xz xs (i + 1)) ≤ 5000) ∧ (-5000 ≤ (xz xs (i + 2)) ∧ (xz xs (i + 2)) ≤ 5000)) ∧ (0 ≤ (xz xs (i + 3)) ∧ (xz xs (i + 3)) ≤ 1000) then nAddH σ (xz xs (i + 1)) (xz xs (i + 2)) (xz xs (i + 3)) else σ) τ) (b := wM cy M μ) hP) hK (vdR (a := wP cy x A B (if ((-5000 ≤ (xz xs (i + 1)) ∧ (xz xs (i + 1)) ≤ 5000) ∧ (-5000 ≤ (xz xs (i + 2)) ∧ (xz xs (i + 2)) ≤ 5000)) ∧ (0 ≤ (xz xs (i + 3)) ∧ (xz xs (i + 3)) ≤ 1000) then nAddH σ (xz xs (i + 1)) (xz xs (i + 2)) (xz xs (i + 3)) else σ) τ) (b := wM cy M μ) hD) rfl rfl) rfl rfl hl.1 rfl (lv_room (Nat.le_of_ble_eq_true rfl)) dL_law_238 ⟨Nat.le_of_ble_eq_true rfl, Nat.le_of_ble_eq_true rfl⟩) hP hD hS hA (fun _ => rfl) (fun uy H locs huy hP hD hS => ?_)
  have hP : va_P D vwCl (wP cy x A B (if ((-5000 ≤ (xz xs (i + 1)) ∧ (xz xs (i + 1)) ≤ 5000) ∧ (-5000 ≤ (xz xs (i + 2)) ∧ (xz xs (i + 2)) ≤ 5000)) ∧ (0 ≤ (xz xs (i + 3)) ∧ (xz xs (i + 3)) ≤ 1000) then nAddH σ (xz xs (i + 1)) (xz xs (i + 2)) (xz xs (i + 3)) else σ) τ ++ wM cy M (if (((-5000 ≤ (xz xs (i + 1)) ∧ (xz xs (i + 1)) ≤ 5000) ∧ (-5000 ≤ (xz xs (i + 2)) ∧ (xz xs (i + 2)) ≤ 5000)) ∧ (0 ≤ (xz xs (i + 3)) ∧ (xz xs (i + 3)) ≤ 1000)) ∧ μ 4 0 ≠ 20 then mPutH μ (xz xs (i + 1)) (xz xs (i + 2)) (xz xs (i + 3)) else μ)) H := hP
  have hD : va_D (fun q : Nat => s.heap.size ≤ q) (wP cy x A B (if ((-5000 ≤ (xz xs (i + 1)) ∧ (xz xs (i + 1)) ≤ 5000) ∧ (-5000 ≤ (xz xs (i + 2)) ∧ (xz xs (i + 2)) ≤ 5000)) ∧ (0 ≤ (xz xs (i + 3)) ∧ (xz xs (i + 3)) ≤ 1000) then nAddH σ (xz xs (i + 1)) (xz xs (i + 2)) (xz xs (i + 3)) else σ) τ ++ wM cy M (if (((-5000 ≤ (xz xs (i + 1)) ∧ (xz xs (i + 1)) ≤ 5000) ∧ (-5000 ≤ (xz xs (i + 2)) ∧ (xz xs (i + 2)) ≤ 5000)) ∧ (0 ≤ (xz xs (i + 3)) ∧ (xz xs (i + 3)) ≤ 1000)) ∧ μ 4 0 ≠ 20 then mPutH μ (xz xs (i + 1)) (xz xs (i + 2)) (xz xs (i + 3)) else μ)) := hD
  have hq := rel_house hR (xz xs (i + 1)) (xz xs (i + 2)) (xz xs (i + 3)) (xz_ok xs _) (xz_ok xs _) (xz_ok xs _)
  refine lv_icmp_eq (tgt := 949) hx hb dL_law_241 (by decide) (fun _ => ?_) (fun h => absurd (congrArg iI hq.1) h)
  exact kk _ _ _ _ _ hq.2 hP hD hS
set_option maxHeartbeats 4000000 in
set_option maxRecDepth 100000 in
theorem law_wall {p : Program} {l : Launch} {e : Env} {s : State} {m : MethodId} {below : List Frame} {meth : Method} {c : Code} {b L : Nat} {xs : Nat → Int32} {D : va_G} {cy : ClassId} {x : Nat} {A B M : Nat → Nat} {σ τ μ : Nat → Int → Int} {H : Heap} {locs : List Loc} {ls : Array Slot} {i : Int} (C0 : lwC p s m c b L xs D cy) (hR : Rel σ τ μ) (hi : 0 ≤ i ∧ i + 6 ≤ (L : Int)) (hP : va_P D vwCl (wP cy x A B σ τ ++ wM cy M μ) H) (hD : va_D (fun q : Nat => s.heap.size ≤ q) (wP cy x A B σ τ ++ wM cy M μ)) (hS : va_S (fun q : Nat => s.heap.size ≤ q) s.heap H locs) (hl : lv_has ls 4 [(3, .int (iI i)), (1, .ref x), (2, .ref (M 100)), (0, .ref b)]) (kk : ∀ (σ τ μ : Nat → Int → Int) (H : Heap) (locs : List Loc), Rel σ τ μ → va_P D vwCl (wP cy x A B σ τ ++ wM cy M μ) H → va_D (fun q : Nat => s.heap.size ≤ q) (wP cy x A B σ τ ++ wM cy M μ) → va_S (fun q : Nat => s.heap.size ≤ q) s.heap H locs → W p l e room_1 s m #[Value.ref b] below meth c H locs 34 1499 (lwZ below #[Value.ref b] s) (F0 m 949 ls [])) : W p l e room_1 s m #[Value.ref b] below meth c H locs 34 1499 (lwZ below #[Value.ref b] s) (F0 m 246 ls []) := by
  obtain ⟨hx, hb, hml, hown, hts, hK, hX, hbl, hL⟩ := C0
  have hA : ∀ q : Nat, s.heap.size ≤ q → (fun q : Nat => s.heap.size ≤ q) q := fun _ h => h
  have hbA : ¬ (fun q : Nat => s.heap.size ≤ q) b := Nat.not_le.mpr hbl
  refine lv_aload_n hx hb dL_law_246 rfl (lv_at hl 1 rfl) ?_
  refine lv_aload_n hx hb dL_law_247 rfl (lv_at hl 3 rfl) ?_
  refine lv_iload_n hx hb dL_law_248 rfl (lv_at hl 0 rfl) ?_
  refine lv_iconst (v := iI 1) hx hb dL_law_249 rfl ?_
  refine r_iadd hx hb dL_law_250 ?_
  refine r_sld hx hb hX hbl hbA hS (i := (i + 1)) (by omega) hL dL_law_251 ?_
  refine lv_aload_n hx hb dL_law_252 rfl (lv_at hl 3 rfl) ?_
  refine lv_iload_n hx hb dL_law_253 rfl (lv_at hl 0 rfl) ?_
  refine lv_iconst (v := iI 2) hx hb dL_law_254 rfl ?_
  refine r_iadd hx hb dL_law_255 ?_
  refine r_sld hx hb hX hbl hbA hS (i := (i + 2)) (by omega) hL dL_law_256 ?_
  refine lv_aload_n hx hb dL_law_257 rfl (lv_at hl 3 rfl) ?_
  refine lv_iload_n hx hb dL_law_258 rfl (lv_at hl 0 rfl) ?_
  refine lv_iconst (v := iI 3) hx hb dL_law_259 rfl ?_
  refine r_iadd hx hb dL_law_260 ?_
  refine r_sld hx hb hX hbl hbA hS (i := (i + 3)) (by omega) hL dL_law_261 ?_
  refine lv_aload_n hx hb dL_law_262 rfl (lv_at hl 3 rfl) ?_
  refine lv_iload_n hx hb dL_law_263 rfl (lv_at hl 0 rfl) ?_
  refine lv_iconst (v := iI 4) hx hb dL_law_264 rfl ?_
  refine r_iadd hx hb dL_law_265 ?_
  refine r_sld hx hb hX hbl hbA hS (i := (i + 4)) (by omega) hL dL_law_266 ?_
  refine lv_aload_n hx hb dL_law_267 rfl (lv_at hl 3 rfl) ?_
  refine lv_iload_n hx hb dL_law_268 rfl (lv_at hl 0 rfl) ?_
  refine lv_iconst (v := iI 5) hx hb dL_law_269 rfl ?_
  refine r_iadd hx hb dL_law_270 ?_
  refine r_sld hx hb hX hbl hbA hS (i := (i + 5)) (by omega) hL dL_law_271 ?_
  refine r_callMl (va_runV (As := [.int (iI (xz xs (i + 1))), .int (iI (xz xs (i + 2))), .int (iI (xz xs (i + 3))), .int (iI (xz xs (i + 4))), .int (iI (xz xs (i + 5)))]) (rest := []) ⟨hx, hb, hml, hown, hts⟩ (c_X2_wall l D cy x A B σ τ H.size (xz xs (i + 1)) (xz xs (i + 2)) (xz xs (i + 3)) (xz xs (i + 4)) (xz xs (i + 5)) hR.iN hR.iL hR.id (xz_ok xs _) (xz_ok xs _) (xz_ok xs _) (xz_ok xs _) (xz_ok xs _)) (cwV 5 hts gL_law_X2_wall rfl rfl rfl (by decide +kernel) ⟨Nat.le_of_ble_eq_true rfl, Nat.le_of_ble_eq_true rfl⟩) (pv_rw (C := RX2) (T := TX2) (N := 2) (ci := 2) (q0 := 0) (vpL (a := wP cy x A B σ τ) (b := wM cy M μ) hP) hK (vdL (a := wP cy x A B σ τ) (b := wM cy M μ) hD) rfl rfl) rfl rfl hl.1 rfl (lv_room (Nat.le_of_ble_eq_true rfl)) dL_law_272 ⟨Nat.le_of_ble_eq_true rfl, Nat.le_of_ble_eq_true rfl⟩) hP hD hS hA (fun _ => rfl) (fun ux H locs hux hP hD hS => ?_)
  have hP : va_P D vwCl (wP cy x A B (if ((-5000 ≤ (xz xs (i + 1)) ∧ (xz xs (i + 1)) ≤ 5000) ∧ (-5000 ≤ (xz xs (i + 2)) ∧ (xz xs (i + 2)) ≤ 5000)) ∧ ((-5000 ≤ (xz xs (i + 3)) ∧ (xz xs (i + 3)) ≤ 5000) ∧ (-5000 ≤ (xz xs (i + 4)) ∧ (xz xs (i + 4)) ≤ 5000)) ∧ ((xz xs (i + 1)) ≠ (xz xs (i + 3)) ∨ (xz xs (i + 2)) ≠ (xz xs (i + 4))) ∧ (0 ≤ (xz xs (i + 5)) ∧ (xz xs (i + 5)) ≤ 300) then nAddW σ (xz xs (i + 1)) (xz xs (i + 2)) (xz xs (i + 3)) (xz xs (i + 4)) (xz xs (i + 5)) else σ) τ ++ wM cy M μ) H := hP
  have hD : va_D (fun q : Nat => s.heap.size ≤ q) (wP cy x A B (if ((-5000 ≤ (xz xs (i + 1)) ∧ (xz xs (i + 1)) ≤ 5000) ∧ (-5000 ≤ (xz xs (i + 2)) ∧ (xz xs (i + 2)) ≤ 5000)) ∧ ((-5000 ≤ (xz xs (i + 3)) ∧ (xz xs (i + 3)) ≤ 5000) ∧ (-5000 ≤ (xz xs (i + 4)) ∧ (xz xs (i + 4)) ≤ 5000)) ∧ ((xz xs (i + 1)) ≠ (xz xs (i + 3)) ∨ (xz xs (i + 2)) ≠ (xz xs (i + 4))) ∧ (0 ≤ (xz xs (i + 5)) ∧ (xz xs (i + 5)) ≤ 300) then nAddW σ (xz xs (i + 1)) (xz xs (i + 2)) (xz xs (i + 3)) (xz xs (i + 4)) (xz xs (i + 5)) else σ) τ ++ wM cy M μ) := hD
  refine lv_aload_n hx hb dL_law_275 rfl (lv_at hl 2 rfl) ?_
  refine lv_aload_n hx hb dL_law_276 rfl (lv_at hl 3 rfl) ?_
  refine lv_iload_n hx hb dL_law_277 rfl (lv_at hl 0 rfl) ?_
  refine lv_iconst (v := iI 1) hx hb dL_law_278 rfl ?_
  refine r_iadd hx hb dL_law_279 ?_
  refine r_sld hx hb hX hbl hbA hS (i := (i + 1)) (by omega) hL dL_law_280 ?_
  refine lv_aload_n hx hb dL_law_281 rfl (lv_at hl 3 rfl) ?_
  refine lv_iload_n hx hb dL_law_282 rfl (lv_at hl 0 rfl) ?_
  refine lv_iconst (v := iI 2) hx hb dL_law_283 rfl ?_
  refine r_iadd hx hb dL_law_284 ?_
  refine r_sld hx hb hX hbl hbA hS (i := (i + 2)) (by omega) hL dL_law_285 ?_
  refine lv_aload_n hx hb dL_law_286 rfl (lv_at hl 3 rfl) ?_
  refine lv_iload_n hx hb dL_law_287 rfl (lv_at hl 0 rfl) ?_
  refine lv_iconst (v := iI 3) hx hb dL_law_288 rfl ?_
  refine r_iadd hx hb dL_law_289 ?_
  refine r_sld hx hb hX hbl hbA hS (i := (i + 3)) (by omega) hL dL_law_290 ?_
  refine lv_aload_n hx hb dL_law_291 rfl (lv_at hl 3 rfl) ?_
  refine lv_iload_n hx hb dL_law_292 rfl (lv_at hl 0 rfl) ?_
  refine lv_iconst (v := iI 4) hx hb dL_law_293 rfl ?_
  refine r_iadd hx hb dL_law_294 ?_
  refine r_sld hx hb hX hbl hbA hS (i := (i + 4)) (by omega) hL dL_law_295 ?_
  refine lv_aload_n hx hb dL_law_296 rfl (lv_at hl 3 rfl) ?_
  refine lv_iload_n hx hb dL_law_297 rfl (lv_at hl 0 rfl) ?_
  refine lv_iconst (v := iI 5) hx hb dL_law_298 rfl ?_
  refine r_iadd hx hb dL_law_299 ?_
  refine r_sld hx hb hX hbl hbA hS (i := (i + 5)) (by omega) hL dL_law_300 ?_
  refine r_callMr (va_runV (As := [.int (iI (xz xs (i + 1))), .int (iI (xz xs (i + 2))), .int (iI (xz xs (i + 3))), .int (iI (xz xs (i + 4))), .int (iI (xz xs (i + 5)))]) (rest := [.int (iI (if ((-5000 ≤ (xz xs (i + 1)) ∧ (xz xs (i + 1)) ≤ 5000) ∧ (-5000 ≤ (xz xs (i + 2)) ∧ (xz xs (i + 2)) ≤ 5000)) ∧ ((-5000 ≤ (xz xs (i + 3)) ∧ (xz xs (i + 3)) ≤ 5000) ∧ (-5000 ≤ (xz xs (i + 4)) ∧ (xz xs (i + 4)) ≤ 5000)) ∧ ((xz xs (i + 1)) ≠ (xz xs (i + 3)) ∨ (xz xs (i + 2)) ≠ (xz xs (i + 4))) ∧ (0 ≤ (xz xs (i + 5)) ∧ (xz xs (i + 5)) ≤ 300) then (if 8 ≤ σ 8 0 then -1 else σ 8 0) else -1))]) ⟨hx, hb, hml, hown, hts⟩ (c_X3_wall l D cy M μ H.size (xz xs (i + 1)) (xz xs (i + 2)) (xz xs (i + 3)) (xz xs (i + 4)) (xz xs (i + 5)) hR.iM (xz_ok xs _) (xz_ok xs _) (xz_ok xs _) (xz_ok xs _) (xz_ok xs _)) (cwV 5 hts gL_law_X3_wall rfl rfl rfl (by decide +kernel) ⟨Nat.le_of_ble_eq_true rfl, Nat.le_of_ble_eq_true rfl⟩) (pv_rw (C := RX3) (T := TX3) (N := 17) (ci := 3) (q0 := 0) (vpR (a := wP cy x A B (if ((-5000 ≤ (xz xs (i + 1)) ∧ (xz xs (i + 1)) ≤ 5000) ∧ (-5000 ≤ (xz xs (i + 2)) ∧ (xz xs (i + 2)) ≤ 5000)) ∧ ((-5000 ≤ (xz xs (i + 3)) ∧ (xz xs (i + 3)) ≤ 5000) ∧ (-5000 ≤ (xz xs (i + 4)) ∧ (xz xs (i + 4)) ≤ 5000)) ∧ ((xz xs (i + 1)) ≠ (xz xs (i + 3)) ∨ (xz xs (i + 2)) ≠ (xz xs (i + 4))) ∧ (0 ≤ (xz xs (i + 5)) ∧ (xz xs (i + 5)) ≤ 300) then nAddW σ (xz xs (i + 1)) (xz xs (i + 2)) (xz xs (i + 3)) (xz xs (i + 4)) (xz xs (i + 5)) else σ) τ) (b := wM cy M μ) hP) hK (vdR (a := wP cy x A B (if ((-5000 ≤ (xz xs (i + 1)) ∧ (xz xs (i + 1)) ≤ 5000) ∧ (-5000 ≤ (xz xs (i + 2)) ∧ (xz xs (i + 2)) ≤ 5000)) ∧ ((-5000 ≤ (xz xs (i + 3)) ∧ (xz xs (i + 3)) ≤ 5000) ∧ (-5000 ≤ (xz xs (i + 4)) ∧ (xz xs (i + 4)) ≤ 5000)) ∧ ((xz xs (i + 1)) ≠ (xz xs (i + 3)) ∨ (xz xs (i + 2)) ≠ (xz xs (i + 4))) ∧ (0 ≤ (xz xs (i + 5)) ∧ (xz xs (i + 5)) ≤ 300) then nAddW σ (xz xs (i + 1)) (xz xs (i + 2)) (xz xs (i + 3)) (xz xs (i + 4)) (xz xs (i + 5)) else σ) τ) (b := wM cy M μ) hD) rfl rfl) rfl rfl hl.1 rfl (lv_room (Nat.le_of_ble_eq_true rfl)) dL_law_301 ⟨Nat.le_of_ble_eq_true rfl, Nat.le_of_ble_eq_true rfl⟩) hP hD hS hA (fun _ => rfl) (fun uy H locs huy hP hD hS => ?_)
  have hP : va_P D vwCl (wP cy x A B (if ((-5000 ≤ (xz xs (i + 1)) ∧ (xz xs (i + 1)) ≤ 5000) ∧ (-5000 ≤ (xz xs (i + 2)) ∧ (xz xs (i + 2)) ≤ 5000)) ∧ ((-5000 ≤ (xz xs (i + 3)) ∧ (xz xs (i + 3)) ≤ 5000) ∧ (-5000 ≤ (xz xs (i + 4)) ∧ (xz xs (i + 4)) ≤ 5000)) ∧ ((xz xs (i + 1)) ≠ (xz xs (i + 3)) ∨ (xz xs (i + 2)) ≠ (xz xs (i + 4))) ∧ (0 ≤ (xz xs (i + 5)) ∧ (xz xs (i + 5)) ≤ 300) then nAddW σ (xz xs (i + 1)) (xz xs (i + 2)) (xz xs (i + 3)) (xz xs (i + 4)) (xz xs (i + 5)) else σ) τ ++ wM cy M (if (((-5000 ≤ (xz xs (i + 1)) ∧ (xz xs (i + 1)) ≤ 5000) ∧ (-5000 ≤ (xz xs (i + 2)) ∧ (xz xs (i + 2)) ≤ 5000)) ∧ ((-5000 ≤ (xz xs (i + 3)) ∧ (xz xs (i + 3)) ≤ 5000) ∧ (-5000 ≤ (xz xs (i + 4)) ∧ (xz xs (i + 4)) ≤ 5000)) ∧ ((xz xs (i + 1)) ≠ (xz xs (i + 3)) ∨ (xz xs (i + 2)) ≠ (xz xs (i + 4))) ∧ (0 ≤ (xz xs (i + 5)) ∧ (xz xs (i + 5)) ≤ 300)) ∧ μ 8 0 ≠ 8 then mPutW μ (xz xs (i + 1)) (xz xs (i + 2)) (xz xs (i + 3)) (xz xs (i + 4)) (xz xs (i + 5)) else μ)) H := hP
  have hD : va_D (fun q : Nat => s.heap.size ≤ q) (wP cy x A B (if ((-5000 ≤ (xz xs (i + 1)) ∧ (xz xs (i + 1)) ≤ 5000) ∧ (-5000 ≤ (xz xs (i + 2)) ∧ (xz xs (i + 2)) ≤ 5000)) ∧ ((-5000 ≤ (xz xs (i + 3)) ∧ (xz xs (i + 3)) ≤ 5000) ∧ (-5000 ≤ (xz xs (i + 4)) ∧ (xz xs (i + 4)) ≤ 5000)) ∧ ((xz xs (i + 1)) ≠ (xz xs (i + 3)) ∨ (xz xs (i + 2)) ≠ (xz xs (i + 4))) ∧ (0 ≤ (xz xs (i + 5)) ∧ (xz xs (i + 5)) ≤ 300) then nAddW σ (xz xs (i + 1)) (xz xs (i + 2)) (xz xs (i + 3)) (xz xs (i + 4)) (xz xs (i + 5)) else σ) τ ++ wM cy M (if (((-5000 ≤ (xz xs (i + 1)) ∧ (xz xs (i + 1)) ≤ 5000) ∧ (-5000 ≤ (xz xs (i + 2)) ∧ (xz xs (i + 2)) ≤ 5000)) ∧ ((-5000 ≤ (xz xs (i + 3)) ∧ (xz xs (i + 3)) ≤ 5000) ∧ (-5000 ≤ (xz xs (i + 4)) ∧ (xz xs (i + 4)) ≤ 5000)) ∧ ((xz xs (i + 1)) ≠ (xz xs (i + 3)) ∨ (xz xs (i + 2)) ≠ (xz xs (i + 4))) ∧ (0 ≤ (xz xs (i + 5)) ∧ (xz xs (i + 5)) ≤ 300)) ∧ μ 8 0 ≠ 8 then mPutW μ (xz xs (i + 1)) (xz xs (i + 2)) (xz xs (i + 3)) (xz xs (i + 4)) (xz xs (i + 5)) else μ)) := hD
  have hq := rel_wall hR (xz xs (i + 1)) (xz xs (i + 2)) (xz xs (i + 3)) (xz xs (i + 4)) (xz xs (i + 5)) (xz_ok xs _) (xz_ok xs _) (xz_ok xs _) (xz_ok xs _) (xz_ok xs _)
  refine lv_icmp_eq (tgt := 949) hx hb dL_law_304 (by decide) (fun _ => ?_) (fun h => absurd (congrArg iI hq.1) h)
  exact kk _ _ _ _ _ hq.2 hP hD hS
set_option maxHeartbeats 4000000 in
set_option maxRecDepth 100000 in
theorem law_fall {p : Program} {l : Launch} {e : Env} {s : State} {m : MethodId} {below : List Frame} {meth : Method} {c : Code} {b L : Nat} {xs : Nat → Int32} {D : va_G} {cy : ClassId} {x : Nat} {A B M : Nat → Nat} {σ τ μ : Nat → Int → Int} {H : Heap} {locs : List Loc} {ls : Array Slot} {i : Int} (C0 : lwC p s m c b L xs D cy) (hR : Rel σ τ μ) (hi : 0 ≤ i ∧ i + 6 ≤ (L : Int)) (hP : va_P D vwCl (wP cy x A B σ τ ++ wM cy M μ) H) (hD : va_D (fun q : Nat => s.heap.size ≤ q) (wP cy x A B σ τ ++ wM cy M μ)) (hS : va_S (fun q : Nat => s.heap.size ≤ q) s.heap H locs) (hl : lv_has ls 4 [(3, .int (iI i)), (1, .ref x), (2, .ref (M 100)), (0, .ref b)]) (kk : ∀ (σ τ μ : Nat → Int → Int) (H : Heap) (locs : List Loc), Rel σ τ μ → va_P D vwCl (wP cy x A B σ τ ++ wM cy M μ) H → va_D (fun q : Nat => s.heap.size ≤ q) (wP cy x A B σ τ ++ wM cy M μ) → va_S (fun q : Nat => s.heap.size ≤ q) s.heap H locs → W p l e room_1 s m #[Value.ref b] below meth c H locs 34 1499 (lwZ below #[Value.ref b] s) (F0 m 949 ls [])) : W p l e room_1 s m #[Value.ref b] below meth c H locs 34 1499 (lwZ below #[Value.ref b] s) (F0 m 309 ls []) := by
  obtain ⟨hx, hb, hml, hown, hts, hK, hX, hbl, hL⟩ := C0
  have hA : ∀ q : Nat, s.heap.size ≤ q → (fun q : Nat => s.heap.size ≤ q) q := fun _ h => h
  have hbA : ¬ (fun q : Nat => s.heap.size ≤ q) b := Nat.not_le.mpr hbl
  refine lv_aload_n hx hb dL_law_309 rfl (lv_at hl 1 rfl) ?_
  refine lv_aload_n hx hb dL_law_310 rfl (lv_at hl 3 rfl) ?_
  refine lv_iload_n hx hb dL_law_311 rfl (lv_at hl 0 rfl) ?_
  refine lv_iconst (v := iI 1) hx hb dL_law_312 rfl ?_
  refine r_iadd hx hb dL_law_313 ?_
  refine r_sld hx hb hX hbl hbA hS (i := (i + 1)) (by omega) hL dL_law_314 ?_
  refine r_callMl (va_runV (As := [.int (iI (xz xs (i + 1)))]) (rest := []) ⟨hx, hb, hml, hown, hts⟩ (c_X2_fall l D cy x A B σ τ H.size (xz xs (i + 1)) hR.iN hR.iL hR.id (xz_ok xs _)) (cwV 1 hts gL_law_X2_fall rfl rfl rfl (by decide +kernel) ⟨Nat.le_of_ble_eq_true rfl, Nat.le_of_ble_eq_true rfl⟩) (pv_rw (C := RX2) (T := TX2) (N := 2) (ci := 2) (q0 := 0) (vpL (a := wP cy x A B σ τ) (b := wM cy M μ) hP) hK (vdL (a := wP cy x A B σ τ) (b := wM cy M μ) hD) rfl rfl) rfl rfl hl.1 rfl (lv_room (Nat.le_of_ble_eq_true rfl)) dL_law_315 ⟨Nat.le_of_ble_eq_true rfl, Nat.le_of_ble_eq_true rfl⟩) hP hD hS hA (fun _ => rfl) (fun ux H locs hux hP hD hS => ?_)
  have hP : va_P D vwCl (wP cy x A B (if 0 ≤ (xz xs (i + 1)) ∧ (xz xs (i + 1)) ≤ 60 then su σ 14 (fun _ => (xz xs (i + 1))) else σ) τ ++ wM cy M μ) H := hP
  have hD : va_D (fun q : Nat => s.heap.size ≤ q) (wP cy x A B (if 0 ≤ (xz xs (i + 1)) ∧ (xz xs (i + 1)) ≤ 60 then su σ 14 (fun _ => (xz xs (i + 1))) else σ) τ ++ wM cy M μ) := hD
  refine lv_aload_n hx hb dL_law_318 rfl (lv_at hl 2 rfl) ?_
  refine lv_aload_n hx hb dL_law_319 rfl (lv_at hl 3 rfl) ?_
  refine lv_iload_n hx hb dL_law_320 rfl (lv_at hl 0 rfl) ?_
  refine lv_iconst (v := iI 1) hx hb dL_law_321 rfl ?_
  refine r_iadd hx hb dL_law_322 ?_
  refine r_sld hx hb hX hbl hbA hS (i := (i + 1)) (by omega) hL dL_law_323 ?_
  refine r_callMr (va_runV (As := [.int (iI (xz xs (i + 1)))]) (rest := [.int (iI (if 0 ≤ (xz xs (i + 1)) ∧ (xz xs (i + 1)) ≤ 60 then σ 14 0 else -1))]) ⟨hx, hb, hml, hown, hts⟩ (c_X3_fall l D cy M μ H.size (xz xs (i + 1)) hR.iM (xz_ok xs _)) (cwV 1 hts gL_law_X3_fall rfl rfl rfl (by decide +kernel) ⟨Nat.le_of_ble_eq_true rfl, Nat.le_of_ble_eq_true rfl⟩) (pv_rw (C := RX3) (T := TX3) (N := 17) (ci := 3) (q0 := 0) (vpR (a := wP cy x A B (if 0 ≤ (xz xs (i + 1)) ∧ (xz xs (i + 1)) ≤ 60 then su σ 14 (fun _ => (xz xs (i + 1))) else σ) τ) (b := wM cy M μ) hP) hK (vdR (a := wP cy x A B (if 0 ≤ (xz xs (i + 1)) ∧ (xz xs (i + 1)) ≤ 60 then su σ 14 (fun _ => (xz xs (i + 1))) else σ) τ) (b := wM cy M μ) hD) rfl rfl) rfl rfl hl.1 rfl (lv_room (Nat.le_of_ble_eq_true rfl)) dL_law_324 ⟨Nat.le_of_ble_eq_true rfl, Nat.le_of_ble_eq_true rfl⟩) hP hD hS hA (fun _ => rfl) (fun uy H locs huy hP hD hS => ?_)
  have hP : va_P D vwCl (wP cy x A B (if 0 ≤ (xz xs (i + 1)) ∧ (xz xs (i + 1)) ≤ 60 then su σ 14 (fun _ => (xz xs (i + 1))) else σ) τ ++ wM cy M (if 0 ≤ (xz xs (i + 1)) ∧ (xz xs (i + 1)) ≤ 60 then su μ 11 (fun _ => (xz xs (i + 1))) else μ)) H := hP
  have hD : va_D (fun q : Nat => s.heap.size ≤ q) (wP cy x A B (if 0 ≤ (xz xs (i + 1)) ∧ (xz xs (i + 1)) ≤ 60 then su σ 14 (fun _ => (xz xs (i + 1))) else σ) τ ++ wM cy M (if 0 ≤ (xz xs (i + 1)) ∧ (xz xs (i + 1)) ≤ 60 then su μ 11 (fun _ => (xz xs (i + 1))) else μ)) := hD
  have hq := rel_fall hR (xz xs (i + 1)) (xz_ok xs _)
  refine lv_icmp_eq (tgt := 949) hx hb dL_law_327 (by decide) (fun _ => ?_) (fun h => absurd (congrArg iI hq.1) h)
  exact kk _ _ _ _ _ hq.2 hP hD hS
set_option maxHeartbeats 4000000 in
set_option maxRecDepth 100000 in
theorem law_malus {p : Program} {l : Launch} {e : Env} {s : State} {m : MethodId} {below : List Frame} {meth : Method} {c : Code} {b L : Nat} {xs : Nat → Int32} {D : va_G} {cy : ClassId} {x : Nat} {A B M : Nat → Nat} {σ τ μ : Nat → Int → Int} {H : Heap} {locs : List Loc} {ls : Array Slot} {i : Int} (C0 : lwC p s m c b L xs D cy) (hR : Rel σ τ μ) (hi : 0 ≤ i ∧ i + 6 ≤ (L : Int)) (hP : va_P D vwCl (wP cy x A B σ τ ++ wM cy M μ) H) (hD : va_D (fun q : Nat => s.heap.size ≤ q) (wP cy x A B σ τ ++ wM cy M μ)) (hS : va_S (fun q : Nat => s.heap.size ≤ q) s.heap H locs) (hl : lv_has ls 4 [(3, .int (iI i)), (1, .ref x), (2, .ref (M 100)), (0, .ref b)]) (kk : ∀ (σ τ μ : Nat → Int → Int) (H : Heap) (locs : List Loc), Rel σ τ μ → va_P D vwCl (wP cy x A B σ τ ++ wM cy M μ) H → va_D (fun q : Nat => s.heap.size ≤ q) (wP cy x A B σ τ ++ wM cy M μ) → va_S (fun q : Nat => s.heap.size ≤ q) s.heap H locs → W p l e room_1 s m #[Value.ref b] below meth c H locs 34 1499 (lwZ below #[Value.ref b] s) (F0 m 949 ls [])) : W p l e room_1 s m #[Value.ref b] below meth c H locs 34 1499 (lwZ below #[Value.ref b] s) (F0 m 332 ls []) := by
  obtain ⟨hx, hb, hml, hown, hts, hK, hX, hbl, hL⟩ := C0
  have hA : ∀ q : Nat, s.heap.size ≤ q → (fun q : Nat => s.heap.size ≤ q) q := fun _ h => h
  have hbA : ¬ (fun q : Nat => s.heap.size ≤ q) b := Nat.not_le.mpr hbl
  refine lv_aload_n hx hb dL_law_332 rfl (lv_at hl 1 rfl) ?_
  refine lv_aload_n hx hb dL_law_333 rfl (lv_at hl 3 rfl) ?_
  refine lv_iload_n hx hb dL_law_334 rfl (lv_at hl 0 rfl) ?_
  refine lv_iconst (v := iI 1) hx hb dL_law_335 rfl ?_
  refine r_iadd hx hb dL_law_336 ?_
  refine r_sld hx hb hX hbl hbA hS (i := (i + 1)) (by omega) hL dL_law_337 ?_
  refine lv_aload_n hx hb dL_law_338 rfl (lv_at hl 3 rfl) ?_
  refine lv_iload_n hx hb dL_law_339 rfl (lv_at hl 0 rfl) ?_
  refine lv_iconst (v := iI 2) hx hb dL_law_340 rfl ?_
  refine r_iadd hx hb dL_law_341 ?_
  refine r_sld hx hb hX hbl hbA hS (i := (i + 2)) (by omega) hL dL_law_342 ?_
  refine r_callMl (va_runV (As := [.int (iI (xz xs (i + 1))), .int (iI (xz xs (i + 2)))]) (rest := []) ⟨hx, hb, hml, hown, hts⟩ (c_X2_malus l D cy x A B σ τ H.size (xz xs (i + 1)) (xz xs (i + 2)) hR.iN hR.iL hR.id (xz_ok xs _) (xz_ok xs _)) (cwV 2 hts gL_law_X2_malus rfl rfl rfl (by decide +kernel) ⟨Nat.le_of_ble_eq_true rfl, Nat.le_of_ble_eq_true rfl⟩) (pv_rw (C := RX2) (T := TX2) (N := 2) (ci := 2) (q0 := 0) (vpL (a := wP cy x A B σ τ) (b := wM cy M μ) hP) hK (vdL (a := wP cy x A B σ τ) (b := wM cy M μ) hD) rfl rfl) rfl rfl hl.1 rfl (lv_room (Nat.le_of_ble_eq_true rfl)) dL_law_343 ⟨Nat.le_of_ble_eq_true rfl, Nat.le_of_ble_eq_true rfl⟩) hP hD hS hA (fun _ => rfl) (fun ux H locs hux hP hD hS => ?_)
  have hP : va_P D vwCl (wP cy x A B (if (0 ≤ (xz xs (i + 1)) ∧ (xz xs (i + 1)) ≤ 2) ∧ (0 ≤ (xz xs (i + 2)) ∧ (xz xs (i + 2)) ≤ 200) then su σ 15 (up (σ 15) (xz xs (i + 1)) (xz xs (i + 2))) else σ) τ ++ wM cy M μ) H := hP
  have hD : va_D (fun q : Nat => s.heap.size ≤ q) (wP cy x A B (if (0 ≤ (xz xs (i + 1)) ∧ (xz xs (i + 1)) ≤ 2) ∧ (0 ≤ (xz xs (i + 2)) ∧ (xz xs (i + 2)) ≤ 200) then su σ 15 (up (σ 15) (xz xs (i + 1)) (xz xs (i + 2))) else σ) τ ++ wM cy M μ) := hD
  refine lv_aload_n hx hb dL_law_346 rfl (lv_at hl 2 rfl) ?_
  refine lv_aload_n hx hb dL_law_347 rfl (lv_at hl 3 rfl) ?_
  refine lv_iload_n hx hb dL_law_348 rfl (lv_at hl 0 rfl) ?_
  refine lv_iconst (v := iI 1) hx hb dL_law_349 rfl ?_
  refine r_iadd hx hb dL_law_350 ?_
  refine r_sld hx hb hX hbl hbA hS (i := (i + 1)) (by omega) hL dL_law_351 ?_
  refine lv_aload_n hx hb dL_law_352 rfl (lv_at hl 3 rfl) ?_
  refine lv_iload_n hx hb dL_law_353 rfl (lv_at hl 0 rfl) ?_
  refine lv_iconst (v := iI 2) hx hb dL_law_354 rfl ?_
  refine r_iadd hx hb dL_law_355 ?_
  refine r_sld hx hb hX hbl hbA hS (i := (i + 2)) (by omega) hL dL_law_356 ?_
  refine r_callMr (va_runV (As := [.int (iI (xz xs (i + 1))), .int (iI (xz xs (i + 2)))]) (rest := [.int (iI (if (0 ≤ (xz xs (i + 1)) ∧ (xz xs (i + 1)) ≤ 2) ∧ (0 ≤ (xz xs (i + 2)) ∧ (xz xs (i + 2)) ≤ 200) then σ 15 (xz xs (i + 1)) else -1))]) ⟨hx, hb, hml, hown, hts⟩ (c_X3_malus l D cy M μ H.size (xz xs (i + 1)) (xz xs (i + 2)) hR.iM (xz_ok xs _) (xz_ok xs _)) (cwV 2 hts gL_law_X3_malus rfl rfl rfl (by decide +kernel) ⟨Nat.le_of_ble_eq_true rfl, Nat.le_of_ble_eq_true rfl⟩) (pv_rw (C := RX3) (T := TX3) (N := 17) (ci := 3) (q0 := 0) (vpR (a := wP cy x A B (if (0 ≤ (xz xs (i + 1)) ∧ (xz xs (i + 1)) ≤ 2) ∧ (0 ≤ (xz xs (i + 2)) ∧ (xz xs (i + 2)) ≤ 200) then su σ 15 (up (σ 15) (xz xs (i + 1)) (xz xs (i + 2))) else σ) τ) (b := wM cy M μ) hP) hK (vdR (a := wP cy x A B (if (0 ≤ (xz xs (i + 1)) ∧ (xz xs (i + 1)) ≤ 2) ∧ (0 ≤ (xz xs (i + 2)) ∧ (xz xs (i + 2)) ≤ 200) then su σ 15 (up (σ 15) (xz xs (i + 1)) (xz xs (i + 2))) else σ) τ) (b := wM cy M μ) hD) rfl rfl) rfl rfl hl.1 rfl (lv_room (Nat.le_of_ble_eq_true rfl)) dL_law_357 ⟨Nat.le_of_ble_eq_true rfl, Nat.le_of_ble_eq_true rfl⟩) hP hD hS hA (fun _ => rfl) (fun uy H locs huy hP hD hS => ?_)
  have hP : va_P D vwCl (wP cy x A B (if (0 ≤ (xz xs (i + 1)) ∧ (xz xs (i + 1)) ≤ 2) ∧ (0 ≤ (xz xs (i + 2)) ∧ (xz xs (i + 2)) ≤ 200) then su σ 15 (up (σ 15) (xz xs (i + 1)) (xz xs (i + 2))) else σ) τ ++ wM cy M (if (0 ≤ (xz xs (i + 1)) ∧ (xz xs (i + 1)) ≤ 2) ∧ (0 ≤ (xz xs (i + 2)) ∧ (xz xs (i + 2)) ≤ 200) then su μ 12 (up (μ 12) (xz xs (i + 1)) (xz xs (i + 2))) else μ)) H := hP
  have hD : va_D (fun q : Nat => s.heap.size ≤ q) (wP cy x A B (if (0 ≤ (xz xs (i + 1)) ∧ (xz xs (i + 1)) ≤ 2) ∧ (0 ≤ (xz xs (i + 2)) ∧ (xz xs (i + 2)) ≤ 200) then su σ 15 (up (σ 15) (xz xs (i + 1)) (xz xs (i + 2))) else σ) τ ++ wM cy M (if (0 ≤ (xz xs (i + 1)) ∧ (xz xs (i + 1)) ≤ 2) ∧ (0 ≤ (xz xs (i + 2)) ∧ (xz xs (i + 2)) ≤ 200) then su μ 12 (up (μ 12) (xz xs (i + 1)) (xz xs (i + 2))) else μ)) := hD
  have hq := rel_malus hR (xz xs (i + 1)) (xz xs (i + 2)) (xz_ok xs _) (xz_ok xs _)
  refine lv_icmp_eq (tgt := 949) hx hb dL_law_360 (by decide) (fun _ => ?_) (fun h => absurd (congrArg iI hq.1) h)
  exact kk _ _ _ _ _ hq.2 hP hD hS
set_option maxHeartbeats 4000000 in
set_option maxRecDepth 100000 in
theorem law_gives {p : Program} {l : Launch} {e : Env} {s : State} {m : MethodId} {below : List Frame} {meth : Method} {c : Code} {b L : Nat} {xs : Nat → Int32} {D : va_G} {cy : ClassId} {x : Nat} {A B M : Nat → Nat} {σ τ μ : Nat → Int → Int} {H : Heap} {locs : List Loc} {ls : Array Slot} {i : Int} (C0 : lwC p s m c b L xs D cy) (hR : Rel σ τ μ) (hi : 0 ≤ i ∧ i + 6 ≤ (L : Int)) (hP : va_P D vwCl (wP cy x A B σ τ ++ wM cy M μ) H) (hD : va_D (fun q : Nat => s.heap.size ≤ q) (wP cy x A B σ τ ++ wM cy M μ)) (hS : va_S (fun q : Nat => s.heap.size ≤ q) s.heap H locs) (hl : lv_has ls 4 [(3, .int (iI i)), (1, .ref x), (2, .ref (M 100)), (0, .ref b)]) (kk : ∀ (σ τ μ : Nat → Int → Int) (H : Heap) (locs : List Loc), Rel σ τ μ → va_P D vwCl (wP cy x A B σ τ ++ wM cy M μ) H → va_D (fun q : Nat => s.heap.size ≤ q) (wP cy x A B σ τ ++ wM cy M μ) → va_S (fun q : Nat => s.heap.size ≤ q) s.heap H locs → W p l e room_1 s m #[Value.ref b] below meth c H locs 34 1499 (lwZ below #[Value.ref b] s) (F0 m 949 ls [])) : W p l e room_1 s m #[Value.ref b] below meth c H locs 34 1499 (lwZ below #[Value.ref b] s) (F0 m 365 ls []) := by
  obtain ⟨hx, hb, hml, hown, hts, hK, hX, hbl, hL⟩ := C0
  have hA : ∀ q : Nat, s.heap.size ≤ q → (fun q : Nat => s.heap.size ≤ q) q := fun _ h => h
  have hbA : ¬ (fun q : Nat => s.heap.size ≤ q) b := Nat.not_le.mpr hbl
  refine lv_aload_n hx hb dL_law_365 rfl (lv_at hl 1 rfl) ?_
  refine lv_aload_n hx hb dL_law_366 rfl (lv_at hl 3 rfl) ?_
  refine lv_iload_n hx hb dL_law_367 rfl (lv_at hl 0 rfl) ?_
  refine lv_iconst (v := iI 1) hx hb dL_law_368 rfl ?_
  refine r_iadd hx hb dL_law_369 ?_
  refine r_sld hx hb hX hbl hbA hS (i := (i + 1)) (by omega) hL dL_law_370 ?_
  refine lv_aload_n hx hb dL_law_371 rfl (lv_at hl 3 rfl) ?_
  refine lv_iload_n hx hb dL_law_372 rfl (lv_at hl 0 rfl) ?_
  refine lv_iconst (v := iI 2) hx hb dL_law_373 rfl ?_
  refine r_iadd hx hb dL_law_374 ?_
  refine r_sld hx hb hX hbl hbA hS (i := (i + 2)) (by omega) hL dL_law_375 ?_
  refine lv_aload_n hx hb dL_law_376 rfl (lv_at hl 3 rfl) ?_
  refine lv_iload_n hx hb dL_law_377 rfl (lv_at hl 0 rfl) ?_
  refine lv_iconst (v := iI 3) hx hb dL_law_378 rfl ?_
  refine r_iadd hx hb dL_law_379 ?_
  refine r_sld hx hb hX hbl hbA hS (i := (i + 3)) (by omega) hL dL_law_380 ?_
  refine r_calli (va_runV (As := [.int (iI (xz xs (i + 1))), .int (iI (xz xs (i + 2))), .int (iI (xz xs (i + 3)))]) (rest := []) ⟨hx, hb, hml, hown, hts⟩ (c_X2_gives l D cy x A B σ τ (xz xs (i + 1)) (xz xs (i + 2)) (xz xs (i + 3)) hR.iN hR.iL hR.id (xz_ok xs _) (xz_ok xs _) (xz_ok xs _)) (cwV 3 hts gL_law_X2_gives rfl rfl rfl (by decide +kernel) ⟨Nat.le_of_ble_eq_true rfl, Nat.le_of_ble_eq_true rfl⟩) (pv_ro (C := RX2) (T := TX2) (N := 2) (ci := 2) (q0 := 0) (vpL (a := wP cy x A B σ τ) (b := wM cy M μ) hP) hK rfl rfl) rfl rfl hl.1 rfl (lv_room (Nat.le_of_ble_eq_true rfl)) dL_law_381 ⟨Nat.le_of_ble_eq_true rfl, Nat.le_of_ble_eq_true rfl⟩) ?_
  refine lv_aload_n hx hb dL_law_384 rfl (lv_at hl 2 rfl) ?_
  refine lv_aload_n hx hb dL_law_385 rfl (lv_at hl 3 rfl) ?_
  refine lv_iload_n hx hb dL_law_386 rfl (lv_at hl 0 rfl) ?_
  refine lv_iconst (v := iI 1) hx hb dL_law_387 rfl ?_
  refine r_iadd hx hb dL_law_388 ?_
  refine r_sld hx hb hX hbl hbA hS (i := (i + 1)) (by omega) hL dL_law_389 ?_
  refine lv_aload_n hx hb dL_law_390 rfl (lv_at hl 3 rfl) ?_
  refine lv_iload_n hx hb dL_law_391 rfl (lv_at hl 0 rfl) ?_
  refine lv_iconst (v := iI 2) hx hb dL_law_392 rfl ?_
  refine r_iadd hx hb dL_law_393 ?_
  refine r_sld hx hb hX hbl hbA hS (i := (i + 2)) (by omega) hL dL_law_394 ?_
  refine lv_aload_n hx hb dL_law_395 rfl (lv_at hl 3 rfl) ?_
  refine lv_iload_n hx hb dL_law_396 rfl (lv_at hl 0 rfl) ?_
  refine lv_iconst (v := iI 3) hx hb dL_law_397 rfl ?_
  refine r_iadd hx hb dL_law_398 ?_
  refine r_sld hx hb hX hbl hbA hS (i := (i + 3)) (by omega) hL dL_law_399 ?_
  refine r_calli (va_runV (As := [.int (iI (xz xs (i + 1))), .int (iI (xz xs (i + 2))), .int (iI (xz xs (i + 3)))]) (rest := [.int (iI (if (0 ≤ (xz xs (i + 1)) ∧ (xz xs (i + 1)) < σ 0 0) ∧ (0 ≤ (xz xs (i + 2)) ∧ (xz xs (i + 2)) < σ 4 0) ∧ (0 ≤ (xz xs (i + 3)) ∧ (xz xs (i + 3)) ≤ 2) then nGiven σ (xz xs (i + 1)) (xz xs (i + 2)) (xz xs (i + 3)) else -1))]) ⟨hx, hb, hml, hown, hts⟩ (c_X3_gives l D cy M μ (xz xs (i + 1)) (xz xs (i + 2)) (xz xs (i + 3)) hR.iM (xz_ok xs _) (xz_ok xs _) (xz_ok xs _)) (cwV 3 hts gL_law_X3_gives rfl rfl rfl (by decide +kernel) ⟨Nat.le_of_ble_eq_true rfl, Nat.le_of_ble_eq_true rfl⟩) (pv_ro (C := RX3) (T := TX3) (N := 17) (ci := 3) (q0 := 0) (vpR (a := wP cy x A B σ τ) (b := wM cy M μ) hP) hK rfl rfl) rfl rfl hl.1 rfl (lv_room (Nat.le_of_ble_eq_true rfl)) dL_law_400 ⟨Nat.le_of_ble_eq_true rfl, Nat.le_of_ble_eq_true rfl⟩) ?_
  have hq := rel_gives hR (xz xs (i + 1)) (xz xs (i + 2)) (xz xs (i + 3)) (xz_ok xs _) (xz_ok xs _) (xz_ok xs _)
  refine lv_icmp_eq (tgt := 949) hx hb dL_law_403 (by decide) (fun _ => ?_) (fun h => absurd (congrArg iI hq.1) h)
  exact kk _ _ _ _ _ hq.2 hP hD hS
set_option maxHeartbeats 4000000 in
set_option maxRecDepth 100000 in
theorem law_level {p : Program} {l : Launch} {e : Env} {s : State} {m : MethodId} {below : List Frame} {meth : Method} {c : Code} {b L : Nat} {xs : Nat → Int32} {D : va_G} {cy : ClassId} {x : Nat} {A B M : Nat → Nat} {σ τ μ : Nat → Int → Int} {H : Heap} {locs : List Loc} {ls : Array Slot} {i : Int} (C0 : lwC p s m c b L xs D cy) (hR : Rel σ τ μ) (hi : 0 ≤ i ∧ i + 6 ≤ (L : Int)) (hP : va_P D vwCl (wP cy x A B σ τ ++ wM cy M μ) H) (hD : va_D (fun q : Nat => s.heap.size ≤ q) (wP cy x A B σ τ ++ wM cy M μ)) (hS : va_S (fun q : Nat => s.heap.size ≤ q) s.heap H locs) (hl : lv_has ls 4 [(3, .int (iI i)), (1, .ref x), (2, .ref (M 100)), (0, .ref b)]) (kk : ∀ (σ τ μ : Nat → Int → Int) (H : Heap) (locs : List Loc), Rel σ τ μ → va_P D vwCl (wP cy x A B σ τ ++ wM cy M μ) H → va_D (fun q : Nat => s.heap.size ≤ q) (wP cy x A B σ τ ++ wM cy M μ) → va_S (fun q : Nat => s.heap.size ≤ q) s.heap H locs → W p l e room_1 s m #[Value.ref b] below meth c H locs 34 1499 (lwZ below #[Value.ref b] s) (F0 m 949 ls [])) : W p l e room_1 s m #[Value.ref b] below meth c H locs 34 1499 (lwZ below #[Value.ref b] s) (F0 m 408 ls []) := by
  obtain ⟨hx, hb, hml, hown, hts, hK, hX, hbl, hL⟩ := C0
  have hA : ∀ q : Nat, s.heap.size ≤ q → (fun q : Nat => s.heap.size ≤ q) q := fun _ h => h
  have hbA : ¬ (fun q : Nat => s.heap.size ≤ q) b := Nat.not_le.mpr hbl
  refine lv_aload_n hx hb dL_law_408 rfl (lv_at hl 1 rfl) ?_
  refine lv_aload_n hx hb dL_law_409 rfl (lv_at hl 3 rfl) ?_
  refine lv_iload_n hx hb dL_law_410 rfl (lv_at hl 0 rfl) ?_
  refine lv_iconst (v := iI 1) hx hb dL_law_411 rfl ?_
  refine r_iadd hx hb dL_law_412 ?_
  refine r_sld hx hb hX hbl hbA hS (i := (i + 1)) (by omega) hL dL_law_413 ?_
  refine lv_aload_n hx hb dL_law_414 rfl (lv_at hl 3 rfl) ?_
  refine lv_iload_n hx hb dL_law_415 rfl (lv_at hl 0 rfl) ?_
  refine lv_iconst (v := iI 2) hx hb dL_law_416 rfl ?_
  refine r_iadd hx hb dL_law_417 ?_
  refine r_sld hx hb hX hbl hbA hS (i := (i + 2)) (by omega) hL dL_law_418 ?_
  refine r_calli (va_runV (As := [.int (iI (xz xs (i + 1))), .int (iI (xz xs (i + 2)))]) (rest := []) ⟨hx, hb, hml, hown, hts⟩ (c_X2_level l D cy x A B σ τ (xz xs (i + 1)) (xz xs (i + 2)) hR.iN hR.iL hR.id (xz_ok xs _) (xz_ok xs _)) (cwV 2 hts gL_law_X2_level rfl rfl rfl (by decide +kernel) ⟨Nat.le_of_ble_eq_true rfl, Nat.le_of_ble_eq_true rfl⟩) (pv_ro (C := RX2) (T := TX2) (N := 2) (ci := 2) (q0 := 0) (vpL (a := wP cy x A B σ τ) (b := wM cy M μ) hP) hK rfl rfl) rfl rfl hl.1 rfl (lv_room (Nat.le_of_ble_eq_true rfl)) dL_law_419 ⟨Nat.le_of_ble_eq_true rfl, Nat.le_of_ble_eq_true rfl⟩) ?_
  refine lv_aload_n hx hb dL_law_422 rfl (lv_at hl 2 rfl) ?_
  refine lv_aload_n hx hb dL_law_423 rfl (lv_at hl 3 rfl) ?_
  refine lv_iload_n hx hb dL_law_424 rfl (lv_at hl 0 rfl) ?_
  refine lv_iconst (v := iI 1) hx hb dL_law_425 rfl ?_
  refine r_iadd hx hb dL_law_426 ?_
  refine r_sld hx hb hX hbl hbA hS (i := (i + 1)) (by omega) hL dL_law_427 ?_
  refine lv_aload_n hx hb dL_law_428 rfl (lv_at hl 3 rfl) ?_
  refine lv_iload_n hx hb dL_law_429 rfl (lv_at hl 0 rfl) ?_
  refine lv_iconst (v := iI 2) hx hb dL_law_430 rfl ?_
  refine r_iadd hx hb dL_law_431 ?_
  refine r_sld hx hb hX hbl hbA hS (i := (i + 2)) (by omega) hL dL_law_432 ?_
  refine r_calli (va_runV (As := [.int (iI (xz xs (i + 1))), .int (iI (xz xs (i + 2)))]) (rest := [.int (iI (if (0 ≤ (xz xs (i + 1)) ∧ (xz xs (i + 1)) < σ 4 0) ∧ (0 ≤ (xz xs (i + 2)) ∧ (xz xs (i + 2)) ≤ 3) then (if (xz xs (i + 2)) = 3 then nDay σ (xz xs (i + 1)) else nPart σ (xz xs (i + 1)) (xz xs (i + 2))) else -1))]) ⟨hx, hb, hml, hown, hts⟩ (c_X3_level l D cy M μ (xz xs (i + 1)) (xz xs (i + 2)) hR.iM (xz_ok xs _) (xz_ok xs _)) (cwV 2 hts gL_law_X3_level rfl rfl rfl (by decide +kernel) ⟨Nat.le_of_ble_eq_true rfl, Nat.le_of_ble_eq_true rfl⟩) (pv_ro (C := RX3) (T := TX3) (N := 17) (ci := 3) (q0 := 0) (vpR (a := wP cy x A B σ τ) (b := wM cy M μ) hP) hK rfl rfl) rfl rfl hl.1 rfl (lv_room (Nat.le_of_ble_eq_true rfl)) dL_law_433 ⟨Nat.le_of_ble_eq_true rfl, Nat.le_of_ble_eq_true rfl⟩) ?_
  have hq := rel_level hR (xz xs (i + 1)) (xz xs (i + 2)) (xz_ok xs _) (xz_ok xs _)
  refine lv_icmp_eq (tgt := 949) hx hb dL_law_436 (by decide) (fun _ => ?_) (fun h => absurd (congrArg iI hq.1) h)
  exact kk _ _ _ _ _ hq.2 hP hD hS
set_option maxHeartbeats 4000000 in
set_option maxRecDepth 100000 in
theorem law_people {p : Program} {l : Launch} {e : Env} {s : State} {m : MethodId} {below : List Frame} {meth : Method} {c : Code} {b L : Nat} {xs : Nat → Int32} {D : va_G} {cy : ClassId} {x : Nat} {A B M : Nat → Nat} {σ τ μ : Nat → Int → Int} {H : Heap} {locs : List Loc} {ls : Array Slot} {i : Int} (C0 : lwC p s m c b L xs D cy) (hR : Rel σ τ μ) (hi : 0 ≤ i ∧ i + 6 ≤ (L : Int)) (hP : va_P D vwCl (wP cy x A B σ τ ++ wM cy M μ) H) (hD : va_D (fun q : Nat => s.heap.size ≤ q) (wP cy x A B σ τ ++ wM cy M μ)) (hS : va_S (fun q : Nat => s.heap.size ≤ q) s.heap H locs) (hl : lv_has ls 4 [(3, .int (iI i)), (1, .ref x), (2, .ref (M 100)), (0, .ref b)]) (kk : ∀ (σ τ μ : Nat → Int → Int) (H : Heap) (locs : List Loc), Rel σ τ μ → va_P D vwCl (wP cy x A B σ τ ++ wM cy M μ) H → va_D (fun q : Nat => s.heap.size ≤ q) (wP cy x A B σ τ ++ wM cy M μ) → va_S (fun q : Nat => s.heap.size ≤ q) s.heap H locs → W p l e room_1 s m #[Value.ref b] below meth c H locs 34 1499 (lwZ below #[Value.ref b] s) (F0 m 949 ls [])) : W p l e room_1 s m #[Value.ref b] below meth c H locs 34 1499 (lwZ below #[Value.ref b] s) (F0 m 441 ls []) := by
  obtain ⟨hx, hb, hml, hown, hts, hK, hX, hbl, hL⟩ := C0
  have hA : ∀ q : Nat, s.heap.size ≤ q → (fun q : Nat => s.heap.size ≤ q) q := fun _ h => h
  have hbA : ¬ (fun q : Nat => s.heap.size ≤ q) b := Nat.not_le.mpr hbl
  refine lv_aload_n hx hb dL_law_441 rfl (lv_at hl 1 rfl) ?_
  refine lv_aload_n hx hb dL_law_442 rfl (lv_at hl 3 rfl) ?_
  refine lv_iload_n hx hb dL_law_443 rfl (lv_at hl 0 rfl) ?_
  refine lv_iconst (v := iI 1) hx hb dL_law_444 rfl ?_
  refine r_iadd hx hb dL_law_445 ?_
  refine r_sld hx hb hX hbl hbA hS (i := (i + 1)) (by omega) hL dL_law_446 ?_
  refine r_calli (va_runV (As := [.int (iI (xz xs (i + 1)))]) (rest := []) ⟨hx, hb, hml, hown, hts⟩ (c_X2_people l D cy x A B σ τ (xz xs (i + 1)) hR.iN hR.iL hR.id (xz_ok xs _)) (cwV 1 hts gL_law_X2_people rfl rfl rfl (by decide +kernel) ⟨Nat.le_of_ble_eq_true rfl, Nat.le_of_ble_eq_true rfl⟩) (pv_ro (C := RX2) (T := TX2) (N := 2) (ci := 2) (q0 := 0) (vpL (a := wP cy x A B σ τ) (b := wM cy M μ) hP) hK rfl rfl) rfl rfl hl.1 rfl (lv_room (Nat.le_of_ble_eq_true rfl)) dL_law_447 ⟨Nat.le_of_ble_eq_true rfl, Nat.le_of_ble_eq_true rfl⟩) ?_
  refine lv_aload_n hx hb dL_law_450 rfl (lv_at hl 2 rfl) ?_
  refine lv_aload_n hx hb dL_law_451 rfl (lv_at hl 3 rfl) ?_
  refine lv_iload_n hx hb dL_law_452 rfl (lv_at hl 0 rfl) ?_
  refine lv_iconst (v := iI 1) hx hb dL_law_453 rfl ?_
  refine r_iadd hx hb dL_law_454 ?_
  refine r_sld hx hb hX hbl hbA hS (i := (i + 1)) (by omega) hL dL_law_455 ?_
  refine r_calli (va_runV (As := [.int (iI (xz xs (i + 1)))]) (rest := [.int (iI (nPeople σ (xz xs (i + 1))))]) ⟨hx, hb, hml, hown, hts⟩ (c_X3_people l D cy M μ (xz xs (i + 1)) hR.iM (xz_ok xs _)) (cwV 1 hts gL_law_X3_people rfl rfl rfl (by decide +kernel) ⟨Nat.le_of_ble_eq_true rfl, Nat.le_of_ble_eq_true rfl⟩) (pv_ro (C := RX3) (T := TX3) (N := 17) (ci := 3) (q0 := 0) (vpR (a := wP cy x A B σ τ) (b := wM cy M μ) hP) hK rfl rfl) rfl rfl hl.1 rfl (lv_room (Nat.le_of_ble_eq_true rfl)) dL_law_456 ⟨Nat.le_of_ble_eq_true rfl, Nat.le_of_ble_eq_true rfl⟩) ?_
  have hq := rel_people hR (xz xs (i + 1)) (xz_ok xs _)
  refine lv_icmp_eq (tgt := 949) hx hb dL_law_459 (by decide) (fun _ => ?_) (fun h => absurd (congrArg iI hq.1) h)
  exact kk _ _ _ _ _ hq.2 hP hD hS
set_option maxHeartbeats 4000000 in
set_option maxRecDepth 100000 in
theorem law_loudest {p : Program} {l : Launch} {e : Env} {s : State} {m : MethodId} {below : List Frame} {meth : Method} {c : Code} {b L : Nat} {xs : Nat → Int32} {D : va_G} {cy : ClassId} {x : Nat} {A B M : Nat → Nat} {σ τ μ : Nat → Int → Int} {H : Heap} {locs : List Loc} {ls : Array Slot} {i : Int} (C0 : lwC p s m c b L xs D cy) (hR : Rel σ τ μ) (hi : 0 ≤ i ∧ i + 6 ≤ (L : Int)) (hP : va_P D vwCl (wP cy x A B σ τ ++ wM cy M μ) H) (hD : va_D (fun q : Nat => s.heap.size ≤ q) (wP cy x A B σ τ ++ wM cy M μ)) (hS : va_S (fun q : Nat => s.heap.size ≤ q) s.heap H locs) (hl : lv_has ls 4 [(3, .int (iI i)), (1, .ref x), (2, .ref (M 100)), (0, .ref b)]) (kk : ∀ (σ τ μ : Nat → Int → Int) (H : Heap) (locs : List Loc), Rel σ τ μ → va_P D vwCl (wP cy x A B σ τ ++ wM cy M μ) H → va_D (fun q : Nat => s.heap.size ≤ q) (wP cy x A B σ τ ++ wM cy M μ) → va_S (fun q : Nat => s.heap.size ≤ q) s.heap H locs → W p l e room_1 s m #[Value.ref b] below meth c H locs 34 1499 (lwZ below #[Value.ref b] s) (F0 m 949 ls [])) : W p l e room_1 s m #[Value.ref b] below meth c H locs 34 1499 (lwZ below #[Value.ref b] s) (F0 m 464 ls []) := by
  obtain ⟨hx, hb, hml, hown, hts, hK, hX, hbl, hL⟩ := C0
  have hA : ∀ q : Nat, s.heap.size ≤ q → (fun q : Nat => s.heap.size ≤ q) q := fun _ h => h
  have hbA : ¬ (fun q : Nat => s.heap.size ≤ q) b := Nat.not_le.mpr hbl
  refine lv_aload_n hx hb dL_law_464 rfl (lv_at hl 1 rfl) ?_
  refine lv_aload_n hx hb dL_law_465 rfl (lv_at hl 3 rfl) ?_
  refine lv_iload_n hx hb dL_law_466 rfl (lv_at hl 0 rfl) ?_
  refine lv_iconst (v := iI 1) hx hb dL_law_467 rfl ?_
  refine r_iadd hx hb dL_law_468 ?_
  refine r_sld hx hb hX hbl hbA hS (i := (i + 1)) (by omega) hL dL_law_469 ?_
  refine lv_aload_n hx hb dL_law_470 rfl (lv_at hl 3 rfl) ?_
  refine lv_iload_n hx hb dL_law_471 rfl (lv_at hl 0 rfl) ?_
  refine lv_iconst (v := iI 2) hx hb dL_law_472 rfl ?_
  refine r_iadd hx hb dL_law_473 ?_
  refine r_sld hx hb hX hbl hbA hS (i := (i + 2)) (by omega) hL dL_law_474 ?_
  refine r_calli (va_runV (As := [.int (iI (xz xs (i + 1))), .int (iI (xz xs (i + 2)))]) (rest := []) ⟨hx, hb, hml, hown, hts⟩ (c_X2_loudest l D cy x A B σ τ (xz xs (i + 1)) (xz xs (i + 2)) hR.iN hR.iL hR.id (xz_ok xs _) (xz_ok xs _)) (cwV 2 hts gL_law_X2_loudest rfl rfl rfl (by decide +kernel) ⟨Nat.le_of_ble_eq_true rfl, Nat.le_of_ble_eq_true rfl⟩) (pv_ro (C := RX2) (T := TX2) (N := 2) (ci := 2) (q0 := 0) (vpL (a := wP cy x A B σ τ) (b := wM cy M μ) hP) hK rfl rfl) rfl rfl hl.1 rfl (lv_room (Nat.le_of_ble_eq_true rfl)) dL_law_475 ⟨Nat.le_of_ble_eq_true rfl, Nat.le_of_ble_eq_true rfl⟩) ?_
  refine lv_aload_n hx hb dL_law_478 rfl (lv_at hl 2 rfl) ?_
  refine lv_aload_n hx hb dL_law_479 rfl (lv_at hl 3 rfl) ?_
  refine lv_iload_n hx hb dL_law_480 rfl (lv_at hl 0 rfl) ?_
  refine lv_iconst (v := iI 1) hx hb dL_law_481 rfl ?_
  refine r_iadd hx hb dL_law_482 ?_
  refine r_sld hx hb hX hbl hbA hS (i := (i + 1)) (by omega) hL dL_law_483 ?_
  refine lv_aload_n hx hb dL_law_484 rfl (lv_at hl 3 rfl) ?_
  refine lv_iload_n hx hb dL_law_485 rfl (lv_at hl 0 rfl) ?_
  refine lv_iconst (v := iI 2) hx hb dL_law_486 rfl ?_
  refine r_iadd hx hb dL_law_487 ?_
  refine r_sld hx hb hX hbl hbA hS (i := (i + 2)) (by omega) hL dL_law_488 ?_
  refine r_calli (va_runV (As := [.int (iI (xz xs (i + 1))), .int (iI (xz xs (i + 2)))]) (rest := [.int (iI (if (0 ≤ (xz xs (i + 1)) ∧ (xz xs (i + 1)) < σ 4 0) ∧ (0 ≤ (xz xs (i + 2)) ∧ (xz xs (i + 2)) ≤ 2) then nLoud σ (xz xs (i + 1)) (xz xs (i + 2)) else -1))]) ⟨hx, hb, hml, hown, hts⟩ (c_X3_loudest l D cy M μ (xz xs (i + 1)) (xz xs (i + 2)) hR.iM (xz_ok xs _) (xz_ok xs _)) (cwV 2 hts gL_law_X3_loudest rfl rfl rfl (by decide +kernel) ⟨Nat.le_of_ble_eq_true rfl, Nat.le_of_ble_eq_true rfl⟩) (pv_ro (C := RX3) (T := TX3) (N := 17) (ci := 3) (q0 := 0) (vpR (a := wP cy x A B σ τ) (b := wM cy M μ) hP) hK rfl rfl) rfl rfl hl.1 rfl (lv_room (Nat.le_of_ble_eq_true rfl)) dL_law_489 ⟨Nat.le_of_ble_eq_true rfl, Nat.le_of_ble_eq_true rfl⟩) ?_
  have hq := rel_loudest hR (xz xs (i + 1)) (xz xs (i + 2)) (xz_ok xs _) (xz_ok xs _)
  refine lv_icmp_eq (tgt := 949) hx hb dL_law_492 (by decide) (fun _ => ?_) (fun h => absurd (congrArg iI hq.1) h)
  exact kk _ _ _ _ _ hq.2 hP hD hS
set_option maxHeartbeats 4000000 in
set_option maxRecDepth 100000 in
theorem law_ranked {p : Program} {l : Launch} {e : Env} {s : State} {m : MethodId} {below : List Frame} {meth : Method} {c : Code} {b L : Nat} {xs : Nat → Int32} {D : va_G} {cy : ClassId} {x : Nat} {A B M : Nat → Nat} {σ τ μ : Nat → Int → Int} {H : Heap} {locs : List Loc} {ls : Array Slot} {i : Int} (C0 : lwC p s m c b L xs D cy) (hR : Rel σ τ μ) (hi : 0 ≤ i ∧ i + 6 ≤ (L : Int)) (hP : va_P D vwCl (wP cy x A B σ τ ++ wM cy M μ) H) (hD : va_D (fun q : Nat => s.heap.size ≤ q) (wP cy x A B σ τ ++ wM cy M μ)) (hS : va_S (fun q : Nat => s.heap.size ≤ q) s.heap H locs) (hl : lv_has ls 4 [(3, .int (iI i)), (1, .ref x), (2, .ref (M 100)), (0, .ref b)]) (kk : ∀ (σ τ μ : Nat → Int → Int) (H : Heap) (locs : List Loc), Rel σ τ μ → va_P D vwCl (wP cy x A B σ τ ++ wM cy M μ) H → va_D (fun q : Nat => s.heap.size ≤ q) (wP cy x A B σ τ ++ wM cy M μ) → va_S (fun q : Nat => s.heap.size ≤ q) s.heap H locs → W p l e room_1 s m #[Value.ref b] below meth c H locs 34 1499 (lwZ below #[Value.ref b] s) (F0 m 949 ls [])) : W p l e room_1 s m #[Value.ref b] below meth c H locs 34 1499 (lwZ below #[Value.ref b] s) (F0 m 497 ls []) := by
  obtain ⟨hx, hb, hml, hown, hts, hK, hX, hbl, hL⟩ := C0
  have hA : ∀ q : Nat, s.heap.size ≤ q → (fun q : Nat => s.heap.size ≤ q) q := fun _ h => h
  have hbA : ¬ (fun q : Nat => s.heap.size ≤ q) b := Nat.not_le.mpr hbl
  refine lv_aload_n hx hb dL_law_497 rfl (lv_at hl 1 rfl) ?_
  refine lv_aload_n hx hb dL_law_498 rfl (lv_at hl 3 rfl) ?_
  refine lv_iload_n hx hb dL_law_499 rfl (lv_at hl 0 rfl) ?_
  refine lv_iconst (v := iI 1) hx hb dL_law_500 rfl ?_
  refine r_iadd hx hb dL_law_501 ?_
  refine r_sld hx hb hX hbl hbA hS (i := (i + 1)) (by omega) hL dL_law_502 ?_
  refine r_callMl (va_runV (As := [.int (iI (xz xs (i + 1)))]) (rest := []) ⟨hx, hb, hml, hown, hts⟩ (c_X2_ranked l D cy x A B σ τ H.size (xz xs (i + 1)) hR.iN hR.iL hR.id (xz_ok xs _)) (cwV 1 hts gL_law_X2_ranked rfl rfl rfl (by decide +kernel) ⟨Nat.le_of_ble_eq_true rfl, Nat.le_of_ble_eq_true rfl⟩) (pv_rw (C := RX2) (T := TX2) (N := 2) (ci := 2) (q0 := 0) (vpL (a := wP cy x A B σ τ) (b := wM cy M μ) hP) hK (vdL (a := wP cy x A B σ τ) (b := wM cy M μ) hD) rfl rfl) rfl rfl hl.1 rfl (lv_room (Nat.le_of_ble_eq_true rfl)) dL_law_503 ⟨Nat.le_of_ble_eq_true rfl, Nat.le_of_ble_eq_true rfl⟩) hP hD hS hA (fun _ => rfl) (fun ux H locs hux hP hD hS => ?_)
  have hP : va_P D vwCl (wP cy x A B (su σ 18 ux) τ ++ wM cy M μ) H := hP
  have hD : va_D (fun q : Nat => s.heap.size ≤ q) (wP cy x A B (su σ 18 ux) τ ++ wM cy M μ) := hD
  refine lv_aload_n hx hb dL_law_506 rfl (lv_at hl 2 rfl) ?_
  refine lv_aload_n hx hb dL_law_507 rfl (lv_at hl 3 rfl) ?_
  refine lv_iload_n hx hb dL_law_508 rfl (lv_at hl 0 rfl) ?_
  refine lv_iconst (v := iI 1) hx hb dL_law_509 rfl ?_
  refine r_iadd hx hb dL_law_510 ?_
  refine r_sld hx hb hX hbl hbA hS (i := (i + 1)) (by omega) hL dL_law_511 ?_
  refine r_callMr (va_runV (As := [.int (iI (xz xs (i + 1)))]) (rest := [.int (iI (if 0 ≤ (xz xs (i + 1)) ∧ (xz xs (i + 1)) < σ 4 0 then nRank σ (xz xs (i + 1)) else -1))]) ⟨hx, hb, hml, hown, hts⟩ (c_X3_ranked l D cy M μ H.size (xz xs (i + 1)) hR.iM (xz_ok xs _)) (cwV 1 hts gL_law_X3_ranked rfl rfl rfl (by decide +kernel) ⟨Nat.le_of_ble_eq_true rfl, Nat.le_of_ble_eq_true rfl⟩) (pv_rw (C := RX3) (T := TX3) (N := 17) (ci := 3) (q0 := 0) (vpR (a := wP cy x A B (su σ 18 ux) τ) (b := wM cy M μ) hP) hK (vdR (a := wP cy x A B (su σ 18 ux) τ) (b := wM cy M μ) hD) rfl rfl) rfl rfl hl.1 rfl (lv_room (Nat.le_of_ble_eq_true rfl)) dL_law_512 ⟨Nat.le_of_ble_eq_true rfl, Nat.le_of_ble_eq_true rfl⟩) hP hD hS hA (fun _ => rfl) (fun uy H locs huy hP hD hS => ?_)
  have hP : va_P D vwCl (wP cy x A B (su σ 18 ux) τ ++ wM cy M (su μ 16 uy)) H := hP
  have hD : va_D (fun q : Nat => s.heap.size ≤ q) (wP cy x A B (su σ 18 ux) τ ++ wM cy M (su μ 16 uy)) := hD
  have hq := rel_ranked hR (xz xs (i + 1)) (xz_ok xs _) hux huy
  refine lv_icmp_eq (tgt := 949) hx hb dL_law_515 (by decide) (fun _ => ?_) (fun h => absurd (congrArg iI hq.1) h)
  exact kk _ _ _ _ _ hq.2 hP hD hS
set_option maxHeartbeats 4000000 in
set_option maxRecDepth 100000 in
theorem law_needed {p : Program} {l : Launch} {e : Env} {s : State} {m : MethodId} {below : List Frame} {meth : Method} {c : Code} {b L : Nat} {xs : Nat → Int32} {D : va_G} {cy : ClassId} {x : Nat} {A B M : Nat → Nat} {σ τ μ : Nat → Int → Int} {H : Heap} {locs : List Loc} {ls : Array Slot} {i : Int} (C0 : lwC p s m c b L xs D cy) (hR : Rel σ τ μ) (hi : 0 ≤ i ∧ i + 6 ≤ (L : Int)) (hP : va_P D vwCl (wP cy x A B σ τ ++ wM cy M μ) H) (hD : va_D (fun q : Nat => s.heap.size ≤ q) (wP cy x A B σ τ ++ wM cy M μ)) (hS : va_S (fun q : Nat => s.heap.size ≤ q) s.heap H locs) (hl : lv_has ls 4 [(3, .int (iI i)), (1, .ref x), (2, .ref (M 100)), (0, .ref b)]) (kk : ∀ (σ τ μ : Nat → Int → Int) (H : Heap) (locs : List Loc), Rel σ τ μ → va_P D vwCl (wP cy x A B σ τ ++ wM cy M μ) H → va_D (fun q : Nat => s.heap.size ≤ q) (wP cy x A B σ τ ++ wM cy M μ) → va_S (fun q : Nat => s.heap.size ≤ q) s.heap H locs → W p l e room_1 s m #[Value.ref b] below meth c H locs 34 1499 (lwZ below #[Value.ref b] s) (F0 m 949 ls [])) : W p l e room_1 s m #[Value.ref b] below meth c H locs 34 1499 (lwZ below #[Value.ref b] s) (F0 m 520 ls []) := by
  obtain ⟨hx, hb, hml, hown, hts, hK, hX, hbl, hL⟩ := C0
  have hA : ∀ q : Nat, s.heap.size ≤ q → (fun q : Nat => s.heap.size ≤ q) q := fun _ h => h
  have hbA : ¬ (fun q : Nat => s.heap.size ≤ q) b := Nat.not_le.mpr hbl
  refine lv_aload_n hx hb dL_law_520 rfl (lv_at hl 1 rfl) ?_
  refine lv_aload_n hx hb dL_law_521 rfl (lv_at hl 3 rfl) ?_
  refine lv_iload_n hx hb dL_law_522 rfl (lv_at hl 0 rfl) ?_
  refine lv_iconst (v := iI 1) hx hb dL_law_523 rfl ?_
  refine r_iadd hx hb dL_law_524 ?_
  refine r_sld hx hb hX hbl hbA hS (i := (i + 1)) (by omega) hL dL_law_525 ?_
  refine lv_aload_n hx hb dL_law_526 rfl (lv_at hl 3 rfl) ?_
  refine lv_iload_n hx hb dL_law_527 rfl (lv_at hl 0 rfl) ?_
  refine lv_iconst (v := iI 2) hx hb dL_law_528 rfl ?_
  refine r_iadd hx hb dL_law_529 ?_
  refine r_sld hx hb hX hbl hbA hS (i := (i + 2)) (by omega) hL dL_law_530 ?_
  refine r_callMl (va_runV (As := [.int (iI (xz xs (i + 1))), .int (iI (xz xs (i + 2)))]) (rest := []) ⟨hx, hb, hml, hown, hts⟩ (c_X2_needed l D cy x A B σ τ H.size (xz xs (i + 1)) (xz xs (i + 2)) hR.iN hR.iL hR.id (xz_ok xs _) (xz_ok xs _)) (cwV 2 hts gL_law_X2_needed rfl rfl rfl (by decide +kernel) ⟨Nat.le_of_ble_eq_true rfl, Nat.le_of_ble_eq_true rfl⟩) (pv_rw (C := RX2) (T := TX2) (N := 2) (ci := 2) (q0 := 0) (vpL (a := wP cy x A B σ τ) (b := wM cy M μ) hP) hK (vdL (a := wP cy x A B σ τ) (b := wM cy M μ) hD) rfl rfl) rfl rfl hl.1 rfl (lv_room (Nat.le_of_ble_eq_true rfl)) dL_law_531 ⟨Nat.le_of_ble_eq_true rfl, Nat.le_of_ble_eq_true rfl⟩) hP hD hS hA (fun _ => rfl) (fun ux H locs hux hP hD hS => ?_)
  have hP : va_P D vwCl (wP cy x A B σ τ ++ wM cy M μ) H := hP
  have hD : va_D (fun q : Nat => s.heap.size ≤ q) (wP cy x A B σ τ ++ wM cy M μ) := hD
  refine lv_aload_n hx hb dL_law_534 rfl (lv_at hl 2 rfl) ?_
  refine lv_aload_n hx hb dL_law_535 rfl (lv_at hl 3 rfl) ?_
  refine lv_iload_n hx hb dL_law_536 rfl (lv_at hl 0 rfl) ?_
  refine lv_iconst (v := iI 1) hx hb dL_law_537 rfl ?_
  refine r_iadd hx hb dL_law_538 ?_
  refine r_sld hx hb hX hbl hbA hS (i := (i + 1)) (by omega) hL dL_law_539 ?_
  refine lv_aload_n hx hb dL_law_540 rfl (lv_at hl 3 rfl) ?_
  refine lv_iload_n hx hb dL_law_541 rfl (lv_at hl 0 rfl) ?_
  refine lv_iconst (v := iI 2) hx hb dL_law_542 rfl ?_
  refine r_iadd hx hb dL_law_543 ?_
  refine r_sld hx hb hX hbl hbA hS (i := (i + 2)) (by omega) hL dL_law_544 ?_
  refine r_callMr (va_runV (As := [.int (iI (xz xs (i + 1))), .int (iI (xz xs (i + 2)))]) (rest := [.int (iI (if 0 ≤ (xz xs (i + 1)) ∧ (xz xs (i + 1)) < σ 8 0 then nLeast σ (xz xs (i + 1)) (xz xs (i + 2)) else -1))]) ⟨hx, hb, hml, hown, hts⟩ (c_X3_needed l D cy M μ H.size (xz xs (i + 1)) (xz xs (i + 2)) hR.iM (xz_ok xs _) (xz_ok xs _)) (cwV 2 hts gL_law_X3_needed rfl rfl rfl (by decide +kernel) ⟨Nat.le_of_ble_eq_true rfl, Nat.le_of_ble_eq_true rfl⟩) (pv_rw (C := RX3) (T := TX3) (N := 17) (ci := 3) (q0 := 0) (vpR (a := wP cy x A B σ τ) (b := wM cy M μ) hP) hK (vdR (a := wP cy x A B σ τ) (b := wM cy M μ) hD) rfl rfl) rfl rfl hl.1 rfl (lv_room (Nat.le_of_ble_eq_true rfl)) dL_law_545 ⟨Nat.le_of_ble_eq_true rfl, Nat.le_of_ble_eq_true rfl⟩) hP hD hS hA (fun _ => rfl) (fun uy H locs huy hP hD hS => ?_)
  have hP : va_P D vwCl (wP cy x A B σ τ ++ wM cy M μ) H := hP
  have hD : va_D (fun q : Nat => s.heap.size ≤ q) (wP cy x A B σ τ ++ wM cy M μ) := hD
  have hq := rel_needed hR (xz xs (i + 1)) (xz xs (i + 2)) (xz_ok xs _) (xz_ok xs _)
  refine lv_icmp_eq (tgt := 949) hx hb dL_law_548 (by decide) (fun _ => ?_) (fun h => absurd (congrArg iI hq.1) h)
  exact kk _ _ _ _ _ hq.2 hP hD hS
set_option maxHeartbeats 4000000 in
set_option maxRecDepth 100000 in
theorem law_recut {p : Program} {l : Launch} {e : Env} {s : State} {m : MethodId} {below : List Frame} {meth : Method} {c : Code} {b L : Nat} {xs : Nat → Int32} {D : va_G} {cy : ClassId} {x : Nat} {A B M : Nat → Nat} {σ τ μ : Nat → Int → Int} {H : Heap} {locs : List Loc} {ls : Array Slot} {i : Int} (C0 : lwC p s m c b L xs D cy) (hR : Rel σ τ μ) (hi : 0 ≤ i ∧ i + 6 ≤ (L : Int)) (hP : va_P D vwCl (wP cy x A B σ τ ++ wM cy M μ) H) (hD : va_D (fun q : Nat => s.heap.size ≤ q) (wP cy x A B σ τ ++ wM cy M μ)) (hS : va_S (fun q : Nat => s.heap.size ≤ q) s.heap H locs) (hl : lv_has ls 4 [(3, .int (iI i)), (1, .ref x), (2, .ref (M 100)), (0, .ref b)]) (kk : ∀ (σ τ μ : Nat → Int → Int) (H : Heap) (locs : List Loc), Rel σ τ μ → va_P D vwCl (wP cy x A B σ τ ++ wM cy M μ) H → va_D (fun q : Nat => s.heap.size ≤ q) (wP cy x A B σ τ ++ wM cy M μ) → va_S (fun q : Nat => s.heap.size ≤ q) s.heap H locs → W p l e room_1 s m #[Value.ref b] below meth c H locs 34 1499 (lwZ below #[Value.ref b] s) (F0 m 949 ls [])) : W p l e room_1 s m #[Value.ref b] below meth c H locs 34 1499 (lwZ below #[Value.ref b] s) (F0 m 553 ls []) := by
  obtain ⟨hx, hb, hml, hown, hts, hK, hX, hbl, hL⟩ := C0
  have hA : ∀ q : Nat, s.heap.size ≤ q → (fun q : Nat => s.heap.size ≤ q) q := fun _ h => h
  have hbA : ¬ (fun q : Nat => s.heap.size ≤ q) b := Nat.not_le.mpr hbl
  refine lv_aload_n hx hb dL_law_553 rfl (lv_at hl 1 rfl) ?_
  refine lv_aload_n hx hb dL_law_554 rfl (lv_at hl 3 rfl) ?_
  refine lv_iload_n hx hb dL_law_555 rfl (lv_at hl 0 rfl) ?_
  refine lv_iconst (v := iI 1) hx hb dL_law_556 rfl ?_
  refine r_iadd hx hb dL_law_557 ?_
  refine r_sld hx hb hX hbl hbA hS (i := (i + 1)) (by omega) hL dL_law_558 ?_
  refine lv_aload_n hx hb dL_law_559 rfl (lv_at hl 3 rfl) ?_
  refine lv_iload_n hx hb dL_law_560 rfl (lv_at hl 0 rfl) ?_
  refine lv_iconst (v := iI 2) hx hb dL_law_561 rfl ?_
  refine r_iadd hx hb dL_law_562 ?_
  refine r_sld hx hb hX hbl hbA hS (i := (i + 2)) (by omega) hL dL_law_563 ?_
  refine r_callMl (va_runV (As := [.int (iI (xz xs (i + 1))), .int (iI (xz xs (i + 2)))]) (rest := []) ⟨hx, hb, hml, hown, hts⟩ (c_X2_recut l D cy x A B σ τ H.size (xz xs (i + 1)) (xz xs (i + 2)) hR.iN hR.iL hR.id (xz_ok xs _) (xz_ok xs _)) (cwV 2 hts gL_law_X2_recut rfl rfl rfl (by decide +kernel) ⟨Nat.le_of_ble_eq_true rfl, Nat.le_of_ble_eq_true rfl⟩) (pv_rw (C := RX2) (T := TX2) (N := 2) (ci := 2) (q0 := 0) (vpL (a := wP cy x A B σ τ) (b := wM cy M μ) hP) hK (vdL (a := wP cy x A B σ τ) (b := wM cy M μ) hD) rfl rfl) rfl rfl hl.1 rfl (lv_room (Nat.le_of_ble_eq_true rfl)) dL_law_564 ⟨Nat.le_of_ble_eq_true rfl, Nat.le_of_ble_eq_true rfl⟩) hP hD hS hA (fun _ => rfl) (fun ux H locs hux hP hD hS => ?_)
  have hP : va_P D vwCl (wP cy x A B (if (0 ≤ (xz xs (i + 1)) ∧ (xz xs (i + 1)) < σ 8 0) ∧ (0 ≤ (xz xs (i + 2)) ∧ (xz xs (i + 2)) ≤ 300) then su σ 13 (up (σ 13) (xz xs (i + 1)) (xz xs (i + 2))) else σ) τ ++ wM cy M μ) H := hP
  have hD : va_D (fun q : Nat => s.heap.size ≤ q) (wP cy x A B (if (0 ≤ (xz xs (i + 1)) ∧ (xz xs (i + 1)) < σ 8 0) ∧ (0 ≤ (xz xs (i + 2)) ∧ (xz xs (i + 2)) ≤ 300) then su σ 13 (up (σ 13) (xz xs (i + 1)) (xz xs (i + 2))) else σ) τ ++ wM cy M μ) := hD
  refine lv_aload_n hx hb dL_law_567 rfl (lv_at hl 2 rfl) ?_
  refine lv_aload_n hx hb dL_law_568 rfl (lv_at hl 3 rfl) ?_
  refine lv_iload_n hx hb dL_law_569 rfl (lv_at hl 0 rfl) ?_
  refine lv_iconst (v := iI 1) hx hb dL_law_570 rfl ?_
  refine r_iadd hx hb dL_law_571 ?_
  refine r_sld hx hb hX hbl hbA hS (i := (i + 1)) (by omega) hL dL_law_572 ?_
  refine lv_aload_n hx hb dL_law_573 rfl (lv_at hl 3 rfl) ?_
  refine lv_iload_n hx hb dL_law_574 rfl (lv_at hl 0 rfl) ?_
  refine lv_iconst (v := iI 2) hx hb dL_law_575 rfl ?_
  refine r_iadd hx hb dL_law_576 ?_
  refine r_sld hx hb hX hbl hbA hS (i := (i + 2)) (by omega) hL dL_law_577 ?_
  refine r_callMr (va_runV (As := [.int (iI (xz xs (i + 1))), .int (iI (xz xs (i + 2)))]) (rest := [.int (iI (if (0 ≤ (xz xs (i + 1)) ∧ (xz xs (i + 1)) < σ 8 0) ∧ (0 ≤ (xz xs (i + 2)) ∧ (xz xs (i + 2)) ≤ 300) then σ 13 (xz xs (i + 1)) else -1))]) ⟨hx, hb, hml, hown, hts⟩ (c_X3_recut l D cy M μ H.size (xz xs (i + 1)) (xz xs (i + 2)) hR.iM (xz_ok xs _) (xz_ok xs _)) (cwV 2 hts gL_law_X3_recut rfl rfl rfl (by decide +kernel) ⟨Nat.le_of_ble_eq_true rfl, Nat.le_of_ble_eq_true rfl⟩) (pv_rw (C := RX3) (T := TX3) (N := 17) (ci := 3) (q0 := 0) (vpR (a := wP cy x A B (if (0 ≤ (xz xs (i + 1)) ∧ (xz xs (i + 1)) < σ 8 0) ∧ (0 ≤ (xz xs (i + 2)) ∧ (xz xs (i + 2)) ≤ 300) then su σ 13 (up (σ 13) (xz xs (i + 1)) (xz xs (i + 2))) else σ) τ) (b := wM cy M μ) hP) hK (vdR (a := wP cy x A B (if (0 ≤ (xz xs (i + 1)) ∧ (xz xs (i + 1)) < σ 8 0) ∧ (0 ≤ (xz xs (i + 2)) ∧ (xz xs (i + 2)) ≤ 300) then su σ 13 (up (σ 13) (xz xs (i + 1)) (xz xs (i + 2))) else σ) τ) (b := wM cy M μ) hD) rfl rfl) rfl rfl hl.1 rfl (lv_room (Nat.le_of_ble_eq_true rfl)) dL_law_578 ⟨Nat.le_of_ble_eq_true rfl, Nat.le_of_ble_eq_true rfl⟩) hP hD hS hA (fun _ => rfl) (fun uy H locs huy hP hD hS => ?_)
  have hP : va_P D vwCl (wP cy x A B (if (0 ≤ (xz xs (i + 1)) ∧ (xz xs (i + 1)) < σ 8 0) ∧ (0 ≤ (xz xs (i + 2)) ∧ (xz xs (i + 2)) ≤ 300) then su σ 13 (up (σ 13) (xz xs (i + 1)) (xz xs (i + 2))) else σ) τ ++ wM cy M (if (0 ≤ (xz xs (i + 1)) ∧ (xz xs (i + 1)) < μ 8 0) ∧ (0 ≤ (xz xs (i + 2)) ∧ (xz xs (i + 2)) ≤ 300) then su μ 10 (up (μ 10) (xz xs (i + 1)) (xz xs (i + 2))) else μ)) H := hP
  have hD : va_D (fun q : Nat => s.heap.size ≤ q) (wP cy x A B (if (0 ≤ (xz xs (i + 1)) ∧ (xz xs (i + 1)) < σ 8 0) ∧ (0 ≤ (xz xs (i + 2)) ∧ (xz xs (i + 2)) ≤ 300) then su σ 13 (up (σ 13) (xz xs (i + 1)) (xz xs (i + 2))) else σ) τ ++ wM cy M (if (0 ≤ (xz xs (i + 1)) ∧ (xz xs (i + 1)) < μ 8 0) ∧ (0 ≤ (xz xs (i + 2)) ∧ (xz xs (i + 2)) ≤ 300) then su μ 10 (up (μ 10) (xz xs (i + 1)) (xz xs (i + 2))) else μ)) := hD
  have hq := rel_recut hR (xz xs (i + 1)) (xz xs (i + 2)) (xz_ok xs _) (xz_ok xs _)
  refine lv_icmp_eq (tgt := 949) hx hb dL_law_581 (by decide) (fun _ => ?_) (fun h => absurd (congrArg iI hq.1) h)
  exact kk _ _ _ _ _ hq.2 hP hD hS
set_option maxHeartbeats 4000000 in
set_option maxRecDepth 100000 in
theorem law_lamp {p : Program} {l : Launch} {e : Env} {s : State} {m : MethodId} {below : List Frame} {meth : Method} {c : Code} {b L : Nat} {xs : Nat → Int32} {D : va_G} {cy : ClassId} {x : Nat} {A B M : Nat → Nat} {σ τ μ : Nat → Int → Int} {H : Heap} {locs : List Loc} {ls : Array Slot} {i : Int} (C0 : lwC p s m c b L xs D cy) (hR : Rel σ τ μ) (hi : 0 ≤ i ∧ i + 6 ≤ (L : Int)) (hP : va_P D vwCl (wP cy x A B σ τ ++ wM cy M μ) H) (hD : va_D (fun q : Nat => s.heap.size ≤ q) (wP cy x A B σ τ ++ wM cy M μ)) (hS : va_S (fun q : Nat => s.heap.size ≤ q) s.heap H locs) (hl : lv_has ls 4 [(3, .int (iI i)), (1, .ref x), (2, .ref (M 100)), (0, .ref b)]) (kk : ∀ (σ τ μ : Nat → Int → Int) (H : Heap) (locs : List Loc), Rel σ τ μ → va_P D vwCl (wP cy x A B σ τ ++ wM cy M μ) H → va_D (fun q : Nat => s.heap.size ≤ q) (wP cy x A B σ τ ++ wM cy M μ) → va_S (fun q : Nat => s.heap.size ≤ q) s.heap H locs → W p l e room_1 s m #[Value.ref b] below meth c H locs 34 1499 (lwZ below #[Value.ref b] s) (F0 m 949 ls [])) : W p l e room_1 s m #[Value.ref b] below meth c H locs 34 1499 (lwZ below #[Value.ref b] s) (F0 m 586 ls []) := by
  obtain ⟨hx, hb, hml, hown, hts, hK, hX, hbl, hL⟩ := C0
  have hA : ∀ q : Nat, s.heap.size ≤ q → (fun q : Nat => s.heap.size ≤ q) q := fun _ h => h
  have hbA : ¬ (fun q : Nat => s.heap.size ≤ q) b := Nat.not_le.mpr hbl
  refine lv_aload_n hx hb dL_law_586 rfl (lv_at hl 1 rfl) ?_
  refine lv_aload_n hx hb dL_law_587 rfl (lv_at hl 3 rfl) ?_
  refine lv_iload_n hx hb dL_law_588 rfl (lv_at hl 0 rfl) ?_
  refine lv_iconst (v := iI 1) hx hb dL_law_589 rfl ?_
  refine r_iadd hx hb dL_law_590 ?_
  refine r_sld hx hb hX hbl hbA hS (i := (i + 1)) (by omega) hL dL_law_591 ?_
  refine lv_aload_n hx hb dL_law_592 rfl (lv_at hl 3 rfl) ?_
  refine lv_iload_n hx hb dL_law_593 rfl (lv_at hl 0 rfl) ?_
  refine lv_iconst (v := iI 2) hx hb dL_law_594 rfl ?_
  refine r_iadd hx hb dL_law_595 ?_
  refine r_sld hx hb hX hbl hbA hS (i := (i + 2)) (by omega) hL dL_law_596 ?_
  refine r_callMl (va_runV (As := [.int (iI (xz xs (i + 1))), .int (iI (xz xs (i + 2)))]) (rest := []) ⟨hx, hb, hml, hown, hts⟩ (c_X2_lamp l D cy x A B σ τ H.size (xz xs (i + 1)) (xz xs (i + 2)) hR.iN hR.iL hR.id (xz_ok xs _) (xz_ok xs _)) (cwV 2 hts gL_law_X2_lamp rfl rfl rfl (by decide +kernel) ⟨Nat.le_of_ble_eq_true rfl, Nat.le_of_ble_eq_true rfl⟩) (pv_rw (C := RX2) (T := TX2) (N := 2) (ci := 2) (q0 := 0) (vpL (a := wP cy x A B σ τ) (b := wM cy M μ) hP) hK (vdL (a := wP cy x A B σ τ) (b := wM cy M μ) hD) rfl rfl) rfl rfl hl.1 rfl (lv_room (Nat.le_of_ble_eq_true rfl)) dL_law_597 ⟨Nat.le_of_ble_eq_true rfl, Nat.le_of_ble_eq_true rfl⟩) hP hD hS hA (fun _ => rfl) (fun ux H locs hux hP hD hS => ?_)
  have hP : va_P D vwCl (wP cy x A B σ (if (0 ≤ (xz xs (i + 1)) ∧ (xz xs (i + 1)) ≤ 300) ∧ (xz xs (i + 1)) % 10 = 0 ∧ (0 ≤ (xz xs (i + 2)) ∧ (xz xs (i + 2)) ≤ 100000) then su τ 0 (up (τ 0) ((xz xs (i + 1)) / 10) (xz xs (i + 2))) else τ) ++ wM cy M μ) H := hP
  have hD : va_D (fun q : Nat => s.heap.size ≤ q) (wP cy x A B σ (if (0 ≤ (xz xs (i + 1)) ∧ (xz xs (i + 1)) ≤ 300) ∧ (xz xs (i + 1)) % 10 = 0 ∧ (0 ≤ (xz xs (i + 2)) ∧ (xz xs (i + 2)) ≤ 100000) then su τ 0 (up (τ 0) ((xz xs (i + 1)) / 10) (xz xs (i + 2))) else τ) ++ wM cy M μ) := hD
  refine lv_aload_n hx hb dL_law_600 rfl (lv_at hl 2 rfl) ?_
  refine lv_aload_n hx hb dL_law_601 rfl (lv_at hl 3 rfl) ?_
  refine lv_iload_n hx hb dL_law_602 rfl (lv_at hl 0 rfl) ?_
  refine lv_iconst (v := iI 1) hx hb dL_law_603 rfl ?_
  refine r_iadd hx hb dL_law_604 ?_
  refine r_sld hx hb hX hbl hbA hS (i := (i + 1)) (by omega) hL dL_law_605 ?_
  refine lv_aload_n hx hb dL_law_606 rfl (lv_at hl 3 rfl) ?_
  refine lv_iload_n hx hb dL_law_607 rfl (lv_at hl 0 rfl) ?_
  refine lv_iconst (v := iI 2) hx hb dL_law_608 rfl ?_
  refine r_iadd hx hb dL_law_609 ?_
  refine r_sld hx hb hX hbl hbA hS (i := (i + 2)) (by omega) hL dL_law_610 ?_
  refine r_callMr (va_runV (As := [.int (iI (xz xs (i + 1))), .int (iI (xz xs (i + 2)))]) (rest := [.int (iI (if (0 ≤ (xz xs (i + 1)) ∧ (xz xs (i + 1)) ≤ 300) ∧ (xz xs (i + 1)) % 10 = 0 ∧ (0 ≤ (xz xs (i + 2)) ∧ (xz xs (i + 2)) ≤ 100000) then τ 0 ((xz xs (i + 1)) / 10) else -1))]) ⟨hx, hb, hml, hown, hts⟩ (c_X3_lamp l D cy M μ H.size (xz xs (i + 1)) (xz xs (i + 2)) hR.iM (xz_ok xs _) (xz_ok xs _)) (cwV 2 hts gL_law_X3_lamp rfl rfl rfl (by decide +kernel) ⟨Nat.le_of_ble_eq_true rfl, Nat.le_of_ble_eq_true rfl⟩) (pv_rw (C := RX3) (T := TX3) (N := 17) (ci := 3) (q0 := 0) (vpR (a := wP cy x A B σ (if (0 ≤ (xz xs (i + 1)) ∧ (xz xs (i + 1)) ≤ 300) ∧ (xz xs (i + 1)) % 10 = 0 ∧ (0 ≤ (xz xs (i + 2)) ∧ (xz xs (i + 2)) ≤ 100000) then su τ 0 (up (τ 0) ((xz xs (i + 1)) / 10) (xz xs (i + 2))) else τ)) (b := wM cy M μ) hP) hK (vdR (a := wP cy x A B σ (if (0 ≤ (xz xs (i + 1)) ∧ (xz xs (i + 1)) ≤ 300) ∧ (xz xs (i + 1)) % 10 = 0 ∧ (0 ≤ (xz xs (i + 2)) ∧ (xz xs (i + 2)) ≤ 100000) then su τ 0 (up (τ 0) ((xz xs (i + 1)) / 10) (xz xs (i + 2))) else τ)) (b := wM cy M μ) hD) rfl rfl) rfl rfl hl.1 rfl (lv_room (Nat.le_of_ble_eq_true rfl)) dL_law_611 ⟨Nat.le_of_ble_eq_true rfl, Nat.le_of_ble_eq_true rfl⟩) hP hD hS hA (fun _ => rfl) (fun uy H locs huy hP hD hS => ?_)
  have hP : va_P D vwCl (wP cy x A B σ (if (0 ≤ (xz xs (i + 1)) ∧ (xz xs (i + 1)) ≤ 300) ∧ (xz xs (i + 1)) % 10 = 0 ∧ (0 ≤ (xz xs (i + 2)) ∧ (xz xs (i + 2)) ≤ 100000) then su τ 0 (up (τ 0) ((xz xs (i + 1)) / 10) (xz xs (i + 2))) else τ) ++ wM cy M (if (0 ≤ (xz xs (i + 1)) ∧ (xz xs (i + 1)) ≤ 300) ∧ (xz xs (i + 1)) % 10 = 0 ∧ (0 ≤ (xz xs (i + 2)) ∧ (xz xs (i + 2)) ≤ 100000) then su μ 13 (up (μ 13) ((xz xs (i + 1)) / 10) (xz xs (i + 2))) else μ)) H := hP
  have hD : va_D (fun q : Nat => s.heap.size ≤ q) (wP cy x A B σ (if (0 ≤ (xz xs (i + 1)) ∧ (xz xs (i + 1)) ≤ 300) ∧ (xz xs (i + 1)) % 10 = 0 ∧ (0 ≤ (xz xs (i + 2)) ∧ (xz xs (i + 2)) ≤ 100000) then su τ 0 (up (τ 0) ((xz xs (i + 1)) / 10) (xz xs (i + 2))) else τ) ++ wM cy M (if (0 ≤ (xz xs (i + 1)) ∧ (xz xs (i + 1)) ≤ 300) ∧ (xz xs (i + 1)) % 10 = 0 ∧ (0 ≤ (xz xs (i + 2)) ∧ (xz xs (i + 2)) ≤ 100000) then su μ 13 (up (μ 13) ((xz xs (i + 1)) / 10) (xz xs (i + 2))) else μ)) := hD
  have hq := rel_lamp hR (xz xs (i + 1)) (xz xs (i + 2)) (xz_ok xs _) (xz_ok xs _)
  refine lv_icmp_eq (tgt := 949) hx hb dL_law_614 (by decide) (fun _ => ?_) (fun h => absurd (congrArg iI hq.1) h)
  exact kk _ _ _ _ _ hq.2 hP hD hS
set_option maxHeartbeats 4000000 in
set_option maxRecDepth 100000 in
theorem law_shines {p : Program} {l : Launch} {e : Env} {s : State} {m : MethodId} {below : List Frame} {meth : Method} {c : Code} {b L : Nat} {xs : Nat → Int32} {D : va_G} {cy : ClassId} {x : Nat} {A B M : Nat → Nat} {σ τ μ : Nat → Int → Int} {H : Heap} {locs : List Loc} {ls : Array Slot} {i : Int} (C0 : lwC p s m c b L xs D cy) (hR : Rel σ τ μ) (hi : 0 ≤ i ∧ i + 6 ≤ (L : Int)) (hP : va_P D vwCl (wP cy x A B σ τ ++ wM cy M μ) H) (hD : va_D (fun q : Nat => s.heap.size ≤ q) (wP cy x A B σ τ ++ wM cy M μ)) (hS : va_S (fun q : Nat => s.heap.size ≤ q) s.heap H locs) (hl : lv_has ls 4 [(3, .int (iI i)), (1, .ref x), (2, .ref (M 100)), (0, .ref b)]) (kk : ∀ (σ τ μ : Nat → Int → Int) (H : Heap) (locs : List Loc), Rel σ τ μ → va_P D vwCl (wP cy x A B σ τ ++ wM cy M μ) H → va_D (fun q : Nat => s.heap.size ≤ q) (wP cy x A B σ τ ++ wM cy M μ) → va_S (fun q : Nat => s.heap.size ≤ q) s.heap H locs → W p l e room_1 s m #[Value.ref b] below meth c H locs 34 1499 (lwZ below #[Value.ref b] s) (F0 m 949 ls [])) : W p l e room_1 s m #[Value.ref b] below meth c H locs 34 1499 (lwZ below #[Value.ref b] s) (F0 m 619 ls []) := by
  obtain ⟨hx, hb, hml, hown, hts, hK, hX, hbl, hL⟩ := C0
  have hA : ∀ q : Nat, s.heap.size ≤ q → (fun q : Nat => s.heap.size ≤ q) q := fun _ h => h
  have hbA : ¬ (fun q : Nat => s.heap.size ≤ q) b := Nat.not_le.mpr hbl
  refine lv_aload_n hx hb dL_law_619 rfl (lv_at hl 1 rfl) ?_
  refine lv_aload_n hx hb dL_law_620 rfl (lv_at hl 3 rfl) ?_
  refine lv_iload_n hx hb dL_law_621 rfl (lv_at hl 0 rfl) ?_
  refine lv_iconst (v := iI 1) hx hb dL_law_622 rfl ?_
  refine r_iadd hx hb dL_law_623 ?_
  refine r_sld hx hb hX hbl hbA hS (i := (i + 1)) (by omega) hL dL_law_624 ?_
  refine r_calli (va_runV (As := [.int (iI (xz xs (i + 1)))]) (rest := []) ⟨hx, hb, hml, hown, hts⟩ (c_X2_shines l D cy x A B σ τ (xz xs (i + 1)) hR.iN hR.iL hR.id (xz_ok xs _)) (cwV 1 hts gL_law_X2_shines rfl rfl rfl (by decide +kernel) ⟨Nat.le_of_ble_eq_true rfl, Nat.le_of_ble_eq_true rfl⟩) (pv_ro (C := RX2) (T := TX2) (N := 2) (ci := 2) (q0 := 0) (vpL (a := wP cy x A B σ τ) (b := wM cy M μ) hP) hK rfl rfl) rfl rfl hl.1 rfl (lv_room (Nat.le_of_ble_eq_true rfl)) dL_law_625 ⟨Nat.le_of_ble_eq_true rfl, Nat.le_of_ble_eq_true rfl⟩) ?_
  refine lv_aload_n hx hb dL_law_628 rfl (lv_at hl 2 rfl) ?_
  refine lv_aload_n hx hb dL_law_629 rfl (lv_at hl 3 rfl) ?_
  refine lv_iload_n hx hb dL_law_630 rfl (lv_at hl 0 rfl) ?_
  refine lv_iconst (v := iI 1) hx hb dL_law_631 rfl ?_
  refine r_iadd hx hb dL_law_632 ?_
  refine r_sld hx hb hX hbl hbA hS (i := (i + 1)) (by omega) hL dL_law_633 ?_
  refine r_calli (va_runV (As := [.int (iI (xz xs (i + 1)))]) (rest := [.int (iI (if (xz xs (i + 1)) < 0 then -1 else lFrom τ (xz xs (i + 1))))]) ⟨hx, hb, hml, hown, hts⟩ (c_X3_shines l D cy M μ (xz xs (i + 1)) hR.iM (xz_ok xs _)) (cwV 1 hts gL_law_X3_shines rfl rfl rfl (by decide +kernel) ⟨Nat.le_of_ble_eq_true rfl, Nat.le_of_ble_eq_true rfl⟩) (pv_ro (C := RX3) (T := TX3) (N := 17) (ci := 3) (q0 := 0) (vpR (a := wP cy x A B σ τ) (b := wM cy M μ) hP) hK rfl rfl) rfl rfl hl.1 rfl (lv_room (Nat.le_of_ble_eq_true rfl)) dL_law_634 ⟨Nat.le_of_ble_eq_true rfl, Nat.le_of_ble_eq_true rfl⟩) ?_
  have hq := rel_shines hR (xz xs (i + 1)) (xz_ok xs _)
  refine lv_icmp_eq (tgt := 949) hx hb dL_law_637 (by decide) (fun _ => ?_) (fun h => absurd (congrArg iI hq.1) h)
  exact kk _ _ _ _ _ hq.2 hP hD hS
set_option maxHeartbeats 4000000 in
set_option maxRecDepth 100000 in
theorem law_road {p : Program} {l : Launch} {e : Env} {s : State} {m : MethodId} {below : List Frame} {meth : Method} {c : Code} {b L : Nat} {xs : Nat → Int32} {D : va_G} {cy : ClassId} {x : Nat} {A B M : Nat → Nat} {σ τ μ : Nat → Int → Int} {H : Heap} {locs : List Loc} {ls : Array Slot} {i : Int} (C0 : lwC p s m c b L xs D cy) (hR : Rel σ τ μ) (hi : 0 ≤ i ∧ i + 6 ≤ (L : Int)) (hP : va_P D vwCl (wP cy x A B σ τ ++ wM cy M μ) H) (hD : va_D (fun q : Nat => s.heap.size ≤ q) (wP cy x A B σ τ ++ wM cy M μ)) (hS : va_S (fun q : Nat => s.heap.size ≤ q) s.heap H locs) (hl : lv_has ls 4 [(3, .int (iI i)), (1, .ref x), (2, .ref (M 100)), (0, .ref b)]) (kk : ∀ (σ τ μ : Nat → Int → Int) (H : Heap) (locs : List Loc), Rel σ τ μ → va_P D vwCl (wP cy x A B σ τ ++ wM cy M μ) H → va_D (fun q : Nat => s.heap.size ≤ q) (wP cy x A B σ τ ++ wM cy M μ) → va_S (fun q : Nat => s.heap.size ≤ q) s.heap H locs → W p l e room_1 s m #[Value.ref b] below meth c H locs 34 1499 (lwZ below #[Value.ref b] s) (F0 m 949 ls [])) : W p l e room_1 s m #[Value.ref b] below meth c H locs 34 1499 (lwZ below #[Value.ref b] s) (F0 m 642 ls []) := by
  obtain ⟨hx, hb, hml, hown, hts, hK, hX, hbl, hL⟩ := C0
  have hA : ∀ q : Nat, s.heap.size ≤ q → (fun q : Nat => s.heap.size ≤ q) q := fun _ h => h
  have hbA : ¬ (fun q : Nat => s.heap.size ≤ q) b := Nat.not_le.mpr hbl
  refine lv_aload_n hx hb dL_law_642 rfl (lv_at hl 1 rfl) ?_
  refine lv_aload_n hx hb dL_law_643 rfl (lv_at hl 3 rfl) ?_
  refine lv_iload_n hx hb dL_law_644 rfl (lv_at hl 0 rfl) ?_
  refine lv_iconst (v := iI 1) hx hb dL_law_645 rfl ?_
  refine r_iadd hx hb dL_law_646 ?_
  refine r_sld hx hb hX hbl hbA hS (i := (i + 1)) (by omega) hL dL_law_647 ?_
  refine r_callMl (va_runV (As := [.int (iI (xz xs (i + 1)))]) (rest := []) ⟨hx, hb, hml, hown, hts⟩ (c_X2_road l D cy x A B σ τ H.size (xz xs (i + 1)) hR.iN hR.iL hR.id (xz_ok xs _)) (cwV 1 hts gL_law_X2_road rfl rfl rfl (by decide +kernel) ⟨Nat.le_of_ble_eq_true rfl, Nat.le_of_ble_eq_true rfl⟩) (pv_rw (C := RX2) (T := TX2) (N := 2) (ci := 2) (q0 := 0) (vpL (a := wP cy x A B σ τ) (b := wM cy M μ) hP) hK (vdL (a := wP cy x A B σ τ) (b := wM cy M μ) hD) rfl rfl) rfl rfl hl.1 rfl (lv_room (Nat.le_of_ble_eq_true rfl)) dL_law_648 ⟨Nat.le_of_ble_eq_true rfl, Nat.le_of_ble_eq_true rfl⟩) hP hD hS hA (fun _ => rfl) (fun ux H locs hux hP hD hS => ?_)
  have hP : va_P D vwCl (wP cy x A B σ (if 0 ≤ (xz xs (i + 1)) ∧ (xz xs (i + 1)) ≤ 5000 then su τ 3 (fun _ => (xz xs (i + 1))) else τ) ++ wM cy M μ) H := hP
  have hD : va_D (fun q : Nat => s.heap.size ≤ q) (wP cy x A B σ (if 0 ≤ (xz xs (i + 1)) ∧ (xz xs (i + 1)) ≤ 5000 then su τ 3 (fun _ => (xz xs (i + 1))) else τ) ++ wM cy M μ) := hD
  refine lv_aload_n hx hb dL_law_651 rfl (lv_at hl 2 rfl) ?_
  refine lv_aload_n hx hb dL_law_652 rfl (lv_at hl 3 rfl) ?_
  refine lv_iload_n hx hb dL_law_653 rfl (lv_at hl 0 rfl) ?_
  refine lv_iconst (v := iI 1) hx hb dL_law_654 rfl ?_
  refine r_iadd hx hb dL_law_655 ?_
  refine r_sld hx hb hX hbl hbA hS (i := (i + 1)) (by omega) hL dL_law_656 ?_
  refine r_callMr (va_runV (As := [.int (iI (xz xs (i + 1)))]) (rest := [.int (iI (if 0 ≤ (xz xs (i + 1)) ∧ (xz xs (i + 1)) ≤ 5000 then τ 3 0 else -1))]) ⟨hx, hb, hml, hown, hts⟩ (c_X3_road l D cy M μ H.size (xz xs (i + 1)) hR.iM (xz_ok xs _)) (cwV 1 hts gL_law_X3_road rfl rfl rfl (by decide +kernel) ⟨Nat.le_of_ble_eq_true rfl, Nat.le_of_ble_eq_true rfl⟩) (pv_rw (C := RX3) (T := TX3) (N := 17) (ci := 3) (q0 := 0) (vpR (a := wP cy x A B σ (if 0 ≤ (xz xs (i + 1)) ∧ (xz xs (i + 1)) ≤ 5000 then su τ 3 (fun _ => (xz xs (i + 1))) else τ)) (b := wM cy M μ) hP) hK (vdR (a := wP cy x A B σ (if 0 ≤ (xz xs (i + 1)) ∧ (xz xs (i + 1)) ≤ 5000 then su τ 3 (fun _ => (xz xs (i + 1))) else τ)) (b := wM cy M μ) hD) rfl rfl) rfl rfl hl.1 rfl (lv_room (Nat.le_of_ble_eq_true rfl)) dL_law_657 ⟨Nat.le_of_ble_eq_true rfl, Nat.le_of_ble_eq_true rfl⟩) hP hD hS hA (fun _ => rfl) (fun uy H locs huy hP hD hS => ?_)
  have hP : va_P D vwCl (wP cy x A B σ (if 0 ≤ (xz xs (i + 1)) ∧ (xz xs (i + 1)) ≤ 5000 then su τ 3 (fun _ => (xz xs (i + 1))) else τ) ++ wM cy M (if 0 ≤ (xz xs (i + 1)) ∧ (xz xs (i + 1)) ≤ 5000 then su μ 14 (fun _ => (xz xs (i + 1))) else μ)) H := hP
  have hD : va_D (fun q : Nat => s.heap.size ≤ q) (wP cy x A B σ (if 0 ≤ (xz xs (i + 1)) ∧ (xz xs (i + 1)) ≤ 5000 then su τ 3 (fun _ => (xz xs (i + 1))) else τ) ++ wM cy M (if 0 ≤ (xz xs (i + 1)) ∧ (xz xs (i + 1)) ≤ 5000 then su μ 14 (fun _ => (xz xs (i + 1))) else μ)) := hD
  have hq := rel_road hR (xz xs (i + 1)) (xz_ok xs _)
  refine lv_icmp_eq (tgt := 949) hx hb dL_law_660 (by decide) (fun _ => ?_) (fun h => absurd (congrArg iI hq.1) h)
  exact kk _ _ _ _ _ hq.2 hP hD hS
set_option maxHeartbeats 4000000 in
set_option maxRecDepth 100000 in
theorem law_dim {p : Program} {l : Launch} {e : Env} {s : State} {m : MethodId} {below : List Frame} {meth : Method} {c : Code} {b L : Nat} {xs : Nat → Int32} {D : va_G} {cy : ClassId} {x : Nat} {A B M : Nat → Nat} {σ τ μ : Nat → Int → Int} {H : Heap} {locs : List Loc} {ls : Array Slot} {i : Int} (C0 : lwC p s m c b L xs D cy) (hR : Rel σ τ μ) (hi : 0 ≤ i ∧ i + 6 ≤ (L : Int)) (hP : va_P D vwCl (wP cy x A B σ τ ++ wM cy M μ) H) (hD : va_D (fun q : Nat => s.heap.size ≤ q) (wP cy x A B σ τ ++ wM cy M μ)) (hS : va_S (fun q : Nat => s.heap.size ≤ q) s.heap H locs) (hl : lv_has ls 4 [(3, .int (iI i)), (1, .ref x), (2, .ref (M 100)), (0, .ref b)]) (kk : ∀ (σ τ μ : Nat → Int → Int) (H : Heap) (locs : List Loc), Rel σ τ μ → va_P D vwCl (wP cy x A B σ τ ++ wM cy M μ) H → va_D (fun q : Nat => s.heap.size ≤ q) (wP cy x A B σ τ ++ wM cy M μ) → va_S (fun q : Nat => s.heap.size ≤ q) s.heap H locs → W p l e room_1 s m #[Value.ref b] below meth c H locs 34 1499 (lwZ below #[Value.ref b] s) (F0 m 949 ls [])) : W p l e room_1 s m #[Value.ref b] below meth c H locs 34 1499 (lwZ below #[Value.ref b] s) (F0 m 665 ls []) := by
  obtain ⟨hx, hb, hml, hown, hts, hK, hX, hbl, hL⟩ := C0
  have hA : ∀ q : Nat, s.heap.size ≤ q → (fun q : Nat => s.heap.size ≤ q) q := fun _ h => h
  have hbA : ¬ (fun q : Nat => s.heap.size ≤ q) b := Nat.not_le.mpr hbl
  refine lv_aload_n hx hb dL_law_665 rfl (lv_at hl 1 rfl) ?_
  refine lv_aload_n hx hb dL_law_666 rfl (lv_at hl 3 rfl) ?_
  refine lv_iload_n hx hb dL_law_667 rfl (lv_at hl 0 rfl) ?_
  refine lv_iconst (v := iI 1) hx hb dL_law_668 rfl ?_
  refine r_iadd hx hb dL_law_669 ?_
  refine r_sld hx hb hX hbl hbA hS (i := (i + 1)) (by omega) hL dL_law_670 ?_
  refine lv_aload_n hx hb dL_law_671 rfl (lv_at hl 3 rfl) ?_
  refine lv_iload_n hx hb dL_law_672 rfl (lv_at hl 0 rfl) ?_
  refine lv_iconst (v := iI 2) hx hb dL_law_673 rfl ?_
  refine r_iadd hx hb dL_law_674 ?_
  refine r_sld hx hb hX hbl hbA hS (i := (i + 2)) (by omega) hL dL_law_675 ?_
  refine r_callMl (va_runV (As := [.int (iI (xz xs (i + 1))), .int (iI (xz xs (i + 2)))]) (rest := []) ⟨hx, hb, hml, hown, hts⟩ (c_X2_dim l D cy x A B σ τ H.size (xz xs (i + 1)) (xz xs (i + 2)) hR.iN hR.iL hR.id (xz_ok xs _) (xz_ok xs _)) (cwV 2 hts gL_law_X2_dim rfl rfl rfl (by decide +kernel) ⟨Nat.le_of_ble_eq_true rfl, Nat.le_of_ble_eq_true rfl⟩) (pv_rw (C := RX2) (T := TX2) (N := 2) (ci := 2) (q0 := 0) (vpL (a := wP cy x A B σ τ) (b := wM cy M μ) hP) hK (vdL (a := wP cy x A B σ τ) (b := wM cy M μ) hD) rfl rfl) rfl rfl hl.1 rfl (lv_room (Nat.le_of_ble_eq_true rfl)) dL_law_676 ⟨Nat.le_of_ble_eq_true rfl, Nat.le_of_ble_eq_true rfl⟩) hP hD hS hA (fun _ => rfl) (fun ux H locs hux hP hD hS => ?_)
  have hP : va_P D vwCl (wP cy x A B σ (if (0 ≤ (xz xs (i + 1)) ∧ (xz xs (i + 1)) ≤ 23) ∧ (0 ≤ (xz xs (i + 2)) ∧ (xz xs (i + 2)) ≤ 100) then su τ 1 (up (τ 1) (xz xs (i + 1)) (xz xs (i + 2))) else τ) ++ wM cy M μ) H := hP
  have hD : va_D (fun q : Nat => s.heap.size ≤ q) (wP cy x A B σ (if (0 ≤ (xz xs (i + 1)) ∧ (xz xs (i + 1)) ≤ 23) ∧ (0 ≤ (xz xs (i + 2)) ∧ (xz xs (i + 2)) ≤ 100) then su τ 1 (up (τ 1) (xz xs (i + 1)) (xz xs (i + 2))) else τ) ++ wM cy M μ) := hD
  refine lv_aload_n hx hb dL_law_679 rfl (lv_at hl 2 rfl) ?_
  refine lv_aload_n hx hb dL_law_680 rfl (lv_at hl 3 rfl) ?_
  refine lv_iload_n hx hb dL_law_681 rfl (lv_at hl 0 rfl) ?_
  refine lv_iconst (v := iI 1) hx hb dL_law_682 rfl ?_
  refine r_iadd hx hb dL_law_683 ?_
  refine r_sld hx hb hX hbl hbA hS (i := (i + 1)) (by omega) hL dL_law_684 ?_
  refine lv_aload_n hx hb dL_law_685 rfl (lv_at hl 3 rfl) ?_
  refine lv_iload_n hx hb dL_law_686 rfl (lv_at hl 0 rfl) ?_
  refine lv_iconst (v := iI 2) hx hb dL_law_687 rfl ?_
  refine r_iadd hx hb dL_law_688 ?_
  refine r_sld hx hb hX hbl hbA hS (i := (i + 2)) (by omega) hL dL_law_689 ?_
  refine r_callMr (va_runV (As := [.int (iI (xz xs (i + 1))), .int (iI (xz xs (i + 2)))]) (rest := [.int (iI (if (0 ≤ (xz xs (i + 1)) ∧ (xz xs (i + 1)) ≤ 23) ∧ (0 ≤ (xz xs (i + 2)) ∧ (xz xs (i + 2)) ≤ 100) then τ 1 (xz xs (i + 1)) else -1))]) ⟨hx, hb, hml, hown, hts⟩ (c_X3_dim l D cy M μ H.size (xz xs (i + 1)) (xz xs (i + 2)) hR.iM (xz_ok xs _) (xz_ok xs _)) (cwV 2 hts gL_law_X3_dim rfl rfl rfl (by decide +kernel) ⟨Nat.le_of_ble_eq_true rfl, Nat.le_of_ble_eq_true rfl⟩) (pv_rw (C := RX3) (T := TX3) (N := 17) (ci := 3) (q0 := 0) (vpR (a := wP cy x A B σ (if (0 ≤ (xz xs (i + 1)) ∧ (xz xs (i + 1)) ≤ 23) ∧ (0 ≤ (xz xs (i + 2)) ∧ (xz xs (i + 2)) ≤ 100) then su τ 1 (up (τ 1) (xz xs (i + 1)) (xz xs (i + 2))) else τ)) (b := wM cy M μ) hP) hK (vdR (a := wP cy x A B σ (if (0 ≤ (xz xs (i + 1)) ∧ (xz xs (i + 1)) ≤ 23) ∧ (0 ≤ (xz xs (i + 2)) ∧ (xz xs (i + 2)) ≤ 100) then su τ 1 (up (τ 1) (xz xs (i + 1)) (xz xs (i + 2))) else τ)) (b := wM cy M μ) hD) rfl rfl) rfl rfl hl.1 rfl (lv_room (Nat.le_of_ble_eq_true rfl)) dL_law_690 ⟨Nat.le_of_ble_eq_true rfl, Nat.le_of_ble_eq_true rfl⟩) hP hD hS hA (fun _ => rfl) (fun uy H locs huy hP hD hS => ?_)
  have hP : va_P D vwCl (wP cy x A B σ (if (0 ≤ (xz xs (i + 1)) ∧ (xz xs (i + 1)) ≤ 23) ∧ (0 ≤ (xz xs (i + 2)) ∧ (xz xs (i + 2)) ≤ 100) then su τ 1 (up (τ 1) (xz xs (i + 1)) (xz xs (i + 2))) else τ) ++ wM cy M (if (0 ≤ (xz xs (i + 1)) ∧ (xz xs (i + 1)) ≤ 23) ∧ (0 ≤ (xz xs (i + 2)) ∧ (xz xs (i + 2)) ≤ 100) then su μ 15 (up (μ 15) (xz xs (i + 1)) (xz xs (i + 2))) else μ)) H := hP
  have hD : va_D (fun q : Nat => s.heap.size ≤ q) (wP cy x A B σ (if (0 ≤ (xz xs (i + 1)) ∧ (xz xs (i + 1)) ≤ 23) ∧ (0 ≤ (xz xs (i + 2)) ∧ (xz xs (i + 2)) ≤ 100) then su τ 1 (up (τ 1) (xz xs (i + 1)) (xz xs (i + 2))) else τ) ++ wM cy M (if (0 ≤ (xz xs (i + 1)) ∧ (xz xs (i + 1)) ≤ 23) ∧ (0 ≤ (xz xs (i + 2)) ∧ (xz xs (i + 2)) ≤ 100) then su μ 15 (up (μ 15) (xz xs (i + 1)) (xz xs (i + 2))) else μ)) := hD
  have hq := rel_dim hR (xz xs (i + 1)) (xz xs (i + 2)) (xz_ok xs _) (xz_ok xs _)
  refine lv_icmp_eq (tgt := 949) hx hb dL_law_693 (by decide) (fun _ => ?_) (fun h => absurd (congrArg iI hq.1) h)
  exact kk _ _ _ _ _ hq.2 hP hD hS
set_option maxHeartbeats 4000000 in
set_option maxRecDepth 100000 in
theorem law_at {p : Program} {l : Launch} {e : Env} {s : State} {m : MethodId} {below : List Frame} {meth : Method} {c : Code} {b L : Nat} {xs : Nat → Int32} {D : va_G} {cy : ClassId} {x : Nat} {A B M : Nat → Nat} {σ τ μ : Nat → Int → Int} {H : Heap} {locs : List Loc} {ls : Array Slot} {i : Int} (C0 : lwC p s m c b L xs D cy) (hR : Rel σ τ μ) (hi : 0 ≤ i ∧ i + 6 ≤ (L : Int)) (hP : va_P D vwCl (wP cy x A B σ τ ++ wM cy M μ) H) (hD : va_D (fun q : Nat => s.heap.size ≤ q) (wP cy x A B σ τ ++ wM cy M μ)) (hS : va_S (fun q : Nat => s.heap.size ≤ q) s.heap H locs) (hl : lv_has ls 4 [(3, .int (iI i)), (1, .ref x), (2, .ref (M 100)), (0, .ref b)]) (kk : ∀ (σ τ μ : Nat → Int → Int) (H : Heap) (locs : List Loc), Rel σ τ μ → va_P D vwCl (wP cy x A B σ τ ++ wM cy M μ) H → va_D (fun q : Nat => s.heap.size ≤ q) (wP cy x A B σ τ ++ wM cy M μ) → va_S (fun q : Nat => s.heap.size ≤ q) s.heap H locs → W p l e room_1 s m #[Value.ref b] below meth c H locs 34 1499 (lwZ below #[Value.ref b] s) (F0 m 949 ls [])) : W p l e room_1 s m #[Value.ref b] below meth c H locs 34 1499 (lwZ below #[Value.ref b] s) (F0 m 698 ls []) := by
  obtain ⟨hx, hb, hml, hown, hts, hK, hX, hbl, hL⟩ := C0
  have hA : ∀ q : Nat, s.heap.size ≤ q → (fun q : Nat => s.heap.size ≤ q) q := fun _ h => h
  have hbA : ¬ (fun q : Nat => s.heap.size ≤ q) b := Nat.not_le.mpr hbl
  refine lv_aload_n hx hb dL_law_698 rfl (lv_at hl 1 rfl) ?_
  refine lv_aload_n hx hb dL_law_699 rfl (lv_at hl 3 rfl) ?_
  refine lv_iload_n hx hb dL_law_700 rfl (lv_at hl 0 rfl) ?_
  refine lv_iconst (v := iI 1) hx hb dL_law_701 rfl ?_
  refine r_iadd hx hb dL_law_702 ?_
  refine r_sld hx hb hX hbl hbA hS (i := (i + 1)) (by omega) hL dL_law_703 ?_
  refine lv_aload_n hx hb dL_law_704 rfl (lv_at hl 3 rfl) ?_
  refine lv_iload_n hx hb dL_law_705 rfl (lv_at hl 0 rfl) ?_
  refine lv_iconst (v := iI 2) hx hb dL_law_706 rfl ?_
  refine r_iadd hx hb dL_law_707 ?_
  refine r_sld hx hb hX hbl hbA hS (i := (i + 2)) (by omega) hL dL_law_708 ?_
  refine lv_aload_n hx hb dL_law_709 rfl (lv_at hl 3 rfl) ?_
  refine lv_iload_n hx hb dL_law_710 rfl (lv_at hl 0 rfl) ?_
  refine lv_iconst (v := iI 3) hx hb dL_law_711 rfl ?_
  refine r_iadd hx hb dL_law_712 ?_
  refine r_sld hx hb hX hbl hbA hS (i := (i + 3)) (by omega) hL dL_law_713 ?_
  refine r_calli (va_runV (As := [.int (iI (xz xs (i + 1))), .int (iI (xz xs (i + 2))), .int (iI (xz xs (i + 3)))]) (rest := []) ⟨hx, hb, hml, hown, hts⟩ (c_X2_at l D cy x A B σ τ (xz xs (i + 1)) (xz xs (i + 2)) (xz xs (i + 3)) hR.iN hR.iL hR.id (xz_ok xs _) (xz_ok xs _) (xz_ok xs _)) (cwV 3 hts gL_law_X2_at rfl rfl rfl (by decide +kernel) ⟨Nat.le_of_ble_eq_true rfl, Nat.le_of_ble_eq_true rfl⟩) (pv_ro (C := RX2) (T := TX2) (N := 2) (ci := 2) (q0 := 0) (vpL (a := wP cy x A B σ τ) (b := wM cy M μ) hP) hK rfl rfl) rfl rfl hl.1 rfl (lv_room (Nat.le_of_ble_eq_true rfl)) dL_law_714 ⟨Nat.le_of_ble_eq_true rfl, Nat.le_of_ble_eq_true rfl⟩) ?_
  refine lv_aload_n hx hb dL_law_717 rfl (lv_at hl 2 rfl) ?_
  refine lv_aload_n hx hb dL_law_718 rfl (lv_at hl 3 rfl) ?_
  refine lv_iload_n hx hb dL_law_719 rfl (lv_at hl 0 rfl) ?_
  refine lv_iconst (v := iI 1) hx hb dL_law_720 rfl ?_
  refine r_iadd hx hb dL_law_721 ?_
  refine r_sld hx hb hX hbl hbA hS (i := (i + 1)) (by omega) hL dL_law_722 ?_
  refine lv_aload_n hx hb dL_law_723 rfl (lv_at hl 3 rfl) ?_
  refine lv_iload_n hx hb dL_law_724 rfl (lv_at hl 0 rfl) ?_
  refine lv_iconst (v := iI 2) hx hb dL_law_725 rfl ?_
  refine r_iadd hx hb dL_law_726 ?_
  refine r_sld hx hb hX hbl hbA hS (i := (i + 2)) (by omega) hL dL_law_727 ?_
  refine lv_aload_n hx hb dL_law_728 rfl (lv_at hl 3 rfl) ?_
  refine lv_iload_n hx hb dL_law_729 rfl (lv_at hl 0 rfl) ?_
  refine lv_iconst (v := iI 3) hx hb dL_law_730 rfl ?_
  refine r_iadd hx hb dL_law_731 ?_
  refine r_sld hx hb hX hbl hbA hS (i := (i + 3)) (by omega) hL dL_law_732 ?_
  refine r_calli (va_runV (As := [.int (iI (xz xs (i + 1))), .int (iI (xz xs (i + 2))), .int (iI (xz xs (i + 3)))]) (rest := [.int (iI (if (0 ≤ (xz xs (i + 1)) ∧ (xz xs (i + 1)) ≤ τ 3 0) ∧ (10 ≤ (xz xs (i + 2)) ∧ (xz xs (i + 2)) ≤ 600) ∧ (0 ≤ (xz xs (i + 3)) ∧ (xz xs (i + 3)) ≤ 23) then lAt τ (xz xs (i + 1)) (xz xs (i + 2)) * τ 1 (xz xs (i + 3)) / 100 else -1))]) ⟨hx, hb, hml, hown, hts⟩ (c_X3_at l D cy M μ (xz xs (i + 1)) (xz xs (i + 2)) (xz xs (i + 3)) hR.iM (xz_ok xs _) (xz_ok xs _) (xz_ok xs _)) (cwV 3 hts gL_law_X3_at rfl rfl rfl (by decide +kernel) ⟨Nat.le_of_ble_eq_true rfl, Nat.le_of_ble_eq_true rfl⟩) (pv_ro (C := RX3) (T := TX3) (N := 17) (ci := 3) (q0 := 0) (vpR (a := wP cy x A B σ τ) (b := wM cy M μ) hP) hK rfl rfl) rfl rfl hl.1 rfl (lv_room (Nat.le_of_ble_eq_true rfl)) dL_law_733 ⟨Nat.le_of_ble_eq_true rfl, Nat.le_of_ble_eq_true rfl⟩) ?_
  have hq := rel_at hR (xz xs (i + 1)) (xz xs (i + 2)) (xz xs (i + 3)) (xz_ok xs _) (xz_ok xs _) (xz_ok xs _)
  refine lv_icmp_eq (tgt := 949) hx hb dL_law_736 (by decide) (fun _ => ?_) (fun h => absurd (congrArg iI hq.1) h)
  exact kk _ _ _ _ _ hq.2 hP hD hS
set_option maxHeartbeats 4000000 in
set_option maxRecDepth 100000 in
theorem law_row {p : Program} {l : Launch} {e : Env} {s : State} {m : MethodId} {below : List Frame} {meth : Method} {c : Code} {b L : Nat} {xs : Nat → Int32} {D : va_G} {cy : ClassId} {x : Nat} {A B M : Nat → Nat} {σ τ μ : Nat → Int → Int} {H : Heap} {locs : List Loc} {ls : Array Slot} {i : Int} (C0 : lwC p s m c b L xs D cy) (hR : Rel σ τ μ) (hi : 0 ≤ i ∧ i + 6 ≤ (L : Int)) (hP : va_P D vwCl (wP cy x A B σ τ ++ wM cy M μ) H) (hD : va_D (fun q : Nat => s.heap.size ≤ q) (wP cy x A B σ τ ++ wM cy M μ)) (hS : va_S (fun q : Nat => s.heap.size ≤ q) s.heap H locs) (hl : lv_has ls 4 [(3, .int (iI i)), (1, .ref x), (2, .ref (M 100)), (0, .ref b)]) (kk : ∀ (σ τ μ : Nat → Int → Int) (H : Heap) (locs : List Loc), Rel σ τ μ → va_P D vwCl (wP cy x A B σ τ ++ wM cy M μ) H → va_D (fun q : Nat => s.heap.size ≤ q) (wP cy x A B σ τ ++ wM cy M μ) → va_S (fun q : Nat => s.heap.size ≤ q) s.heap H locs → W p l e room_1 s m #[Value.ref b] below meth c H locs 34 1499 (lwZ below #[Value.ref b] s) (F0 m 949 ls [])) : W p l e room_1 s m #[Value.ref b] below meth c H locs 34 1499 (lwZ below #[Value.ref b] s) (F0 m 741 ls []) := by
  obtain ⟨hx, hb, hml, hown, hts, hK, hX, hbl, hL⟩ := C0
  have hA : ∀ q : Nat, s.heap.size ≤ q → (fun q : Nat => s.heap.size ≤ q) q := fun _ h => h
  have hbA : ¬ (fun q : Nat => s.heap.size ≤ q) b := Nat.not_le.mpr hbl
  refine lv_aload_n hx hb dL_law_741 rfl (lv_at hl 1 rfl) ?_
  refine lv_aload_n hx hb dL_law_742 rfl (lv_at hl 3 rfl) ?_
  refine lv_iload_n hx hb dL_law_743 rfl (lv_at hl 0 rfl) ?_
  refine lv_iconst (v := iI 1) hx hb dL_law_744 rfl ?_
  refine r_iadd hx hb dL_law_745 ?_
  refine r_sld hx hb hX hbl hbA hS (i := (i + 1)) (by omega) hL dL_law_746 ?_
  refine lv_aload_n hx hb dL_law_747 rfl (lv_at hl 3 rfl) ?_
  refine lv_iload_n hx hb dL_law_748 rfl (lv_at hl 0 rfl) ?_
  refine lv_iconst (v := iI 2) hx hb dL_law_749 rfl ?_
  refine r_iadd hx hb dL_law_750 ?_
  refine r_sld hx hb hX hbl hbA hS (i := (i + 2)) (by omega) hL dL_law_751 ?_
  refine r_callMl (va_runV (As := [.int (iI (xz xs (i + 1))), .int (iI (xz xs (i + 2)))]) (rest := []) ⟨hx, hb, hml, hown, hts⟩ (c_X2_row l D cy x A B σ τ H.size (xz xs (i + 1)) (xz xs (i + 2)) hR.iN hR.iL hR.id (xz_ok xs _) (xz_ok xs _)) (cwV 2 hts gL_law_X2_row rfl rfl rfl (by decide +kernel) ⟨Nat.le_of_ble_eq_true rfl, Nat.le_of_ble_eq_true rfl⟩) (pv_rw (C := RX2) (T := TX2) (N := 2) (ci := 2) (q0 := 0) (vpL (a := wP cy x A B σ τ) (b := wM cy M μ) hP) hK (vdL (a := wP cy x A B σ τ) (b := wM cy M μ) hD) rfl rfl) rfl rfl hl.1 rfl (lv_room (Nat.le_of_ble_eq_true rfl)) dL_law_752 ⟨Nat.le_of_ble_eq_true rfl, Nat.le_of_ble_eq_true rfl⟩) hP hD hS hA (fun _ => rfl) (fun ux H locs hux hP hD hS => ?_)
  have hP : va_P D vwCl (wP cy x A B σ (su τ 2 ux) ++ wM cy M μ) H := hP
  have hD : va_D (fun q : Nat => s.heap.size ≤ q) (wP cy x A B σ (su τ 2 ux) ++ wM cy M μ) := hD
  refine lv_aload_n hx hb dL_law_755 rfl (lv_at hl 2 rfl) ?_
  refine lv_aload_n hx hb dL_law_756 rfl (lv_at hl 3 rfl) ?_
  refine lv_iload_n hx hb dL_law_757 rfl (lv_at hl 0 rfl) ?_
  refine lv_iconst (v := iI 1) hx hb dL_law_758 rfl ?_
  refine r_iadd hx hb dL_law_759 ?_
  refine r_sld hx hb hX hbl hbA hS (i := (i + 1)) (by omega) hL dL_law_760 ?_
  refine lv_aload_n hx hb dL_law_761 rfl (lv_at hl 3 rfl) ?_
  refine lv_iload_n hx hb dL_law_762 rfl (lv_at hl 0 rfl) ?_
  refine lv_iconst (v := iI 2) hx hb dL_law_763 rfl ?_
  refine r_iadd hx hb dL_law_764 ?_
  refine r_sld hx hb hX hbl hbA hS (i := (i + 2)) (by omega) hL dL_law_765 ?_
  refine r_calli (va_runV (As := [.int (iI (xz xs (i + 1))), .int (iI (xz xs (i + 2)))]) (rest := [.int (iI (if (10 ≤ (xz xs (i + 1)) ∧ (xz xs (i + 1)) ≤ 600) ∧ (0 ≤ (xz xs (i + 2)) ∧ (xz xs (i + 2)) ≤ 3) then (if (xz xs (i + 2)) = 0 then rLst τ (xz xs (i + 1)) else if (xz xs (i + 2)) = 1 then rMean τ (xz xs (i + 1)) 100 else if (xz xs (i + 2)) = 2 then rEven τ (xz xs (i + 1)) else τ 3 0 / (xz xs (i + 1)) + 1) else -1))]) ⟨hx, hb, hml, hown, hts⟩ (c_X3_row l D cy M μ (xz xs (i + 1)) (xz xs (i + 2)) hR.iM (xz_ok xs _) (xz_ok xs _)) (cwV 2 hts gL_law_X3_row rfl rfl rfl (by decide +kernel) ⟨Nat.le_of_ble_eq_true rfl, Nat.le_of_ble_eq_true rfl⟩) (pv_ro (C := RX3) (T := TX3) (N := 17) (ci := 3) (q0 := 0) (vpR (a := wP cy x A B σ (su τ 2 ux)) (b := wM cy M μ) hP) hK rfl rfl) rfl rfl hl.1 rfl (lv_room (Nat.le_of_ble_eq_true rfl)) dL_law_766 ⟨Nat.le_of_ble_eq_true rfl, Nat.le_of_ble_eq_true rfl⟩) ?_
  have hq := rel_row hR (xz xs (i + 1)) (xz xs (i + 2)) (xz_ok xs _) (xz_ok xs _) hux
  refine lv_icmp_eq (tgt := 949) hx hb dL_law_769 (by decide) (fun _ => ?_) (fun h => absurd (congrArg iI hq.1) h)
  exact kk _ _ _ _ _ hq.2 hP hD hS
set_option maxHeartbeats 4000000 in
set_option maxRecDepth 100000 in
theorem law_spacing {p : Program} {l : Launch} {e : Env} {s : State} {m : MethodId} {below : List Frame} {meth : Method} {c : Code} {b L : Nat} {xs : Nat → Int32} {D : va_G} {cy : ClassId} {x : Nat} {A B M : Nat → Nat} {σ τ μ : Nat → Int → Int} {H : Heap} {locs : List Loc} {ls : Array Slot} {i : Int} (C0 : lwC p s m c b L xs D cy) (hR : Rel σ τ μ) (hi : 0 ≤ i ∧ i + 6 ≤ (L : Int)) (hP : va_P D vwCl (wP cy x A B σ τ ++ wM cy M μ) H) (hD : va_D (fun q : Nat => s.heap.size ≤ q) (wP cy x A B σ τ ++ wM cy M μ)) (hS : va_S (fun q : Nat => s.heap.size ≤ q) s.heap H locs) (hl : lv_has ls 4 [(3, .int (iI i)), (1, .ref x), (2, .ref (M 100)), (0, .ref b)]) (kk : ∀ (σ τ μ : Nat → Int → Int) (H : Heap) (locs : List Loc), Rel σ τ μ → va_P D vwCl (wP cy x A B σ τ ++ wM cy M μ) H → va_D (fun q : Nat => s.heap.size ≤ q) (wP cy x A B σ τ ++ wM cy M μ) → va_S (fun q : Nat => s.heap.size ≤ q) s.heap H locs → W p l e room_1 s m #[Value.ref b] below meth c H locs 34 1499 (lwZ below #[Value.ref b] s) (F0 m 949 ls [])) : W p l e room_1 s m #[Value.ref b] below meth c H locs 34 1499 (lwZ below #[Value.ref b] s) (F0 m 774 ls []) := by
  obtain ⟨hx, hb, hml, hown, hts, hK, hX, hbl, hL⟩ := C0
  have hA : ∀ q : Nat, s.heap.size ≤ q → (fun q : Nat => s.heap.size ≤ q) q := fun _ h => h
  have hbA : ¬ (fun q : Nat => s.heap.size ≤ q) b := Nat.not_le.mpr hbl
  refine lv_aload_n hx hb dL_law_774 rfl (lv_at hl 1 rfl) ?_
  refine lv_aload_n hx hb dL_law_775 rfl (lv_at hl 3 rfl) ?_
  refine lv_iload_n hx hb dL_law_776 rfl (lv_at hl 0 rfl) ?_
  refine lv_iconst (v := iI 1) hx hb dL_law_777 rfl ?_
  refine r_iadd hx hb dL_law_778 ?_
  refine r_sld hx hb hX hbl hbA hS (i := (i + 1)) (by omega) hL dL_law_779 ?_
  refine lv_aload_n hx hb dL_law_780 rfl (lv_at hl 3 rfl) ?_
  refine lv_iload_n hx hb dL_law_781 rfl (lv_at hl 0 rfl) ?_
  refine lv_iconst (v := iI 2) hx hb dL_law_782 rfl ?_
  refine r_iadd hx hb dL_law_783 ?_
  refine r_sld hx hb hX hbl hbA hS (i := (i + 2)) (by omega) hL dL_law_784 ?_
  refine r_callMl (va_runV (As := [.int (iI (xz xs (i + 1))), .int (iI (xz xs (i + 2)))]) (rest := []) ⟨hx, hb, hml, hown, hts⟩ (c_X2_spacing l D cy x A B σ τ H.size (xz xs (i + 1)) (xz xs (i + 2)) hR.iN hR.iL hR.id (xz_ok xs _) (xz_ok xs _)) (cwV 2 hts gL_law_X2_spacing rfl rfl rfl (by decide +kernel) ⟨Nat.le_of_ble_eq_true rfl, Nat.le_of_ble_eq_true rfl⟩) (pv_rw (C := RX2) (T := TX2) (N := 2) (ci := 2) (q0 := 0) (vpL (a := wP cy x A B σ τ) (b := wM cy M μ) hP) hK (vdL (a := wP cy x A B σ τ) (b := wM cy M μ) hD) rfl rfl) rfl rfl hl.1 rfl (lv_room (Nat.le_of_ble_eq_true rfl)) dL_law_785 ⟨Nat.le_of_ble_eq_true rfl, Nat.le_of_ble_eq_true rfl⟩) hP hD hS hA (fun _ => rfl) (fun ux H locs hux hP hD hS => ?_)
  have hP : va_P D vwCl (wP cy x A B σ (su τ 2 ux) ++ wM cy M μ) H := hP
  have hD : va_D (fun q : Nat => s.heap.size ≤ q) (wP cy x A B σ (su τ 2 ux) ++ wM cy M μ) := hD
  refine lv_aload_n hx hb dL_law_788 rfl (lv_at hl 2 rfl) ?_
  refine lv_aload_n hx hb dL_law_789 rfl (lv_at hl 3 rfl) ?_
  refine lv_iload_n hx hb dL_law_790 rfl (lv_at hl 0 rfl) ?_
  refine lv_iconst (v := iI 1) hx hb dL_law_791 rfl ?_
  refine r_iadd hx hb dL_law_792 ?_
  refine r_sld hx hb hX hbl hbA hS (i := (i + 1)) (by omega) hL dL_law_793 ?_
  refine lv_aload_n hx hb dL_law_794 rfl (lv_at hl 3 rfl) ?_
  refine lv_iload_n hx hb dL_law_795 rfl (lv_at hl 0 rfl) ?_
  refine lv_iconst (v := iI 2) hx hb dL_law_796 rfl ?_
  refine r_iadd hx hb dL_law_797 ?_
  refine r_sld hx hb hX hbl hbA hS (i := (i + 2)) (by omega) hL dL_law_798 ?_
  refine r_calli (va_runV (As := [.int (iI (xz xs (i + 1))), .int (iI (xz xs (i + 2)))]) (rest := [.int (iI (lWide τ (xz xs (i + 1)) (xz xs (i + 2))))]) ⟨hx, hb, hml, hown, hts⟩ (c_X3_spacing l D cy M μ (xz xs (i + 1)) (xz xs (i + 2)) hR.iM (xz_ok xs _) (xz_ok xs _)) (cwV 2 hts gL_law_X3_spacing rfl rfl rfl (by decide +kernel) ⟨Nat.le_of_ble_eq_true rfl, Nat.le_of_ble_eq_true rfl⟩) (pv_ro (C := RX3) (T := TX3) (N := 17) (ci := 3) (q0 := 0) (vpR (a := wP cy x A B σ (su τ 2 ux)) (b := wM cy M μ) hP) hK rfl rfl) rfl rfl hl.1 rfl (lv_room (Nat.le_of_ble_eq_true rfl)) dL_law_799 ⟨Nat.le_of_ble_eq_true rfl, Nat.le_of_ble_eq_true rfl⟩) ?_
  have hq := rel_spacing hR (xz xs (i + 1)) (xz xs (i + 2)) (xz_ok xs _) (xz_ok xs _) hux
  refine lv_icmp_eq (tgt := 949) hx hb dL_law_802 (by decide) (fun _ => ?_) (fun h => absurd (congrArg iI hq.1) h)
  exact kk _ _ _ _ _ hq.2 hP hD hS
set_option maxHeartbeats 4000000 in
set_option maxRecDepth 100000 in
theorem law_dark {p : Program} {l : Launch} {e : Env} {s : State} {m : MethodId} {below : List Frame} {meth : Method} {c : Code} {b L : Nat} {xs : Nat → Int32} {D : va_G} {cy : ClassId} {x : Nat} {A B M : Nat → Nat} {σ τ μ : Nat → Int → Int} {H : Heap} {locs : List Loc} {ls : Array Slot} {i : Int} (C0 : lwC p s m c b L xs D cy) (hR : Rel σ τ μ) (hi : 0 ≤ i ∧ i + 6 ≤ (L : Int)) (hP : va_P D vwCl (wP cy x A B σ τ ++ wM cy M μ) H) (hD : va_D (fun q : Nat => s.heap.size ≤ q) (wP cy x A B σ τ ++ wM cy M μ)) (hS : va_S (fun q : Nat => s.heap.size ≤ q) s.heap H locs) (hl : lv_has ls 4 [(3, .int (iI i)), (1, .ref x), (2, .ref (M 100)), (0, .ref b)]) (kk : ∀ (σ τ μ : Nat → Int → Int) (H : Heap) (locs : List Loc), Rel σ τ μ → va_P D vwCl (wP cy x A B σ τ ++ wM cy M μ) H → va_D (fun q : Nat => s.heap.size ≤ q) (wP cy x A B σ τ ++ wM cy M μ) → va_S (fun q : Nat => s.heap.size ≤ q) s.heap H locs → W p l e room_1 s m #[Value.ref b] below meth c H locs 34 1499 (lwZ below #[Value.ref b] s) (F0 m 949 ls [])) : W p l e room_1 s m #[Value.ref b] below meth c H locs 34 1499 (lwZ below #[Value.ref b] s) (F0 m 807 ls []) := by
  obtain ⟨hx, hb, hml, hown, hts, hK, hX, hbl, hL⟩ := C0
  have hA : ∀ q : Nat, s.heap.size ≤ q → (fun q : Nat => s.heap.size ≤ q) q := fun _ h => h
  have hbA : ¬ (fun q : Nat => s.heap.size ≤ q) b := Nat.not_le.mpr hbl
  refine lv_aload_n hx hb dL_law_807 rfl (lv_at hl 1 rfl) ?_
  refine lv_aload_n hx hb dL_law_808 rfl (lv_at hl 3 rfl) ?_
  refine lv_iload_n hx hb dL_law_809 rfl (lv_at hl 0 rfl) ?_
  refine lv_iconst (v := iI 1) hx hb dL_law_810 rfl ?_
  refine r_iadd hx hb dL_law_811 ?_
  refine r_sld hx hb hX hbl hbA hS (i := (i + 1)) (by omega) hL dL_law_812 ?_
  refine lv_aload_n hx hb dL_law_813 rfl (lv_at hl 3 rfl) ?_
  refine lv_iload_n hx hb dL_law_814 rfl (lv_at hl 0 rfl) ?_
  refine lv_iconst (v := iI 2) hx hb dL_law_815 rfl ?_
  refine r_iadd hx hb dL_law_816 ?_
  refine r_sld hx hb hX hbl hbA hS (i := (i + 2)) (by omega) hL dL_law_817 ?_
  refine r_callMl (va_runV (As := [.int (iI (xz xs (i + 1))), .int (iI (xz xs (i + 2)))]) (rest := []) ⟨hx, hb, hml, hown, hts⟩ (c_X2_dark l D cy x A B σ τ H.size (xz xs (i + 1)) (xz xs (i + 2)) hR.iN hR.iL hR.id (xz_ok xs _) (xz_ok xs _)) (cwV 2 hts gL_law_X2_dark rfl rfl rfl (by decide +kernel) ⟨Nat.le_of_ble_eq_true rfl, Nat.le_of_ble_eq_true rfl⟩) (pv_rw (C := RX2) (T := TX2) (N := 2) (ci := 2) (q0 := 0) (vpL (a := wP cy x A B σ τ) (b := wM cy M μ) hP) hK (vdL (a := wP cy x A B σ τ) (b := wM cy M μ) hD) rfl rfl) rfl rfl hl.1 rfl (lv_room (Nat.le_of_ble_eq_true rfl)) dL_law_818 ⟨Nat.le_of_ble_eq_true rfl, Nat.le_of_ble_eq_true rfl⟩) hP hD hS hA (fun _ => rfl) (fun ux H locs hux hP hD hS => ?_)
  have hP : va_P D vwCl (wP cy x A B σ (su τ 2 ux) ++ wM cy M μ) H := hP
  have hD : va_D (fun q : Nat => s.heap.size ≤ q) (wP cy x A B σ (su τ 2 ux) ++ wM cy M μ) := hD
  refine lv_aload_n hx hb dL_law_821 rfl (lv_at hl 2 rfl) ?_
  refine lv_aload_n hx hb dL_law_822 rfl (lv_at hl 3 rfl) ?_
  refine lv_iload_n hx hb dL_law_823 rfl (lv_at hl 0 rfl) ?_
  refine lv_iconst (v := iI 1) hx hb dL_law_824 rfl ?_
  refine r_iadd hx hb dL_law_825 ?_
  refine r_sld hx hb hX hbl hbA hS (i := (i + 1)) (by omega) hL dL_law_826 ?_
  refine lv_aload_n hx hb dL_law_827 rfl (lv_at hl 3 rfl) ?_
  refine lv_iload_n hx hb dL_law_828 rfl (lv_at hl 0 rfl) ?_
  refine lv_iconst (v := iI 2) hx hb dL_law_829 rfl ?_
  refine r_iadd hx hb dL_law_830 ?_
  refine r_sld hx hb hX hbl hbA hS (i := (i + 2)) (by omega) hL dL_law_831 ?_
  refine r_calli (va_runV (As := [.int (iI (xz xs (i + 1))), .int (iI (xz xs (i + 2)))]) (rest := [.int (iI (if 10 ≤ (xz xs (i + 1)) ∧ (xz xs (i + 1)) ≤ 600 then lDark τ (xz xs (i + 1)) (xz xs (i + 2)) else -1))]) ⟨hx, hb, hml, hown, hts⟩ (c_X3_dark l D cy M μ (xz xs (i + 1)) (xz xs (i + 2)) hR.iM (xz_ok xs _) (xz_ok xs _)) (cwV 2 hts gL_law_X3_dark rfl rfl rfl (by decide +kernel) ⟨Nat.le_of_ble_eq_true rfl, Nat.le_of_ble_eq_true rfl⟩) (pv_ro (C := RX3) (T := TX3) (N := 17) (ci := 3) (q0 := 0) (vpR (a := wP cy x A B σ (su τ 2 ux)) (b := wM cy M μ) hP) hK rfl rfl) rfl rfl hl.1 rfl (lv_room (Nat.le_of_ble_eq_true rfl)) dL_law_832 ⟨Nat.le_of_ble_eq_true rfl, Nat.le_of_ble_eq_true rfl⟩) ?_
  have hq := rel_dark hR (xz xs (i + 1)) (xz xs (i + 2)) (xz_ok xs _) (xz_ok xs _) hux
  refine lv_icmp_eq (tgt := 949) hx hb dL_law_835 (by decide) (fun _ => ?_) (fun h => absurd (congrArg iI hq.1) h)
  exact kk _ _ _ _ _ hq.2 hP hD hS
set_option maxHeartbeats 4000000 in
set_option maxRecDepth 100000 in
theorem law_drop {p : Program} {l : Launch} {e : Env} {s : State} {m : MethodId} {below : List Frame} {meth : Method} {c : Code} {b L : Nat} {xs : Nat → Int32} {D : va_G} {cy : ClassId} {x : Nat} {A B M : Nat → Nat} {σ τ μ : Nat → Int → Int} {H : Heap} {locs : List Loc} {ls : Array Slot} {i : Int} (C0 : lwC p s m c b L xs D cy) (hR : Rel σ τ μ) (hi : 0 ≤ i ∧ i + 6 ≤ (L : Int)) (hP : va_P D vwCl (wP cy x A B σ τ ++ wM cy M μ) H) (hD : va_D (fun q : Nat => s.heap.size ≤ q) (wP cy x A B σ τ ++ wM cy M μ)) (hS : va_S (fun q : Nat => s.heap.size ≤ q) s.heap H locs) (hl : lv_has ls 4 [(3, .int (iI i)), (1, .ref x), (2, .ref (M 100)), (0, .ref b)]) (kk : ∀ (σ τ μ : Nat → Int → Int) (H : Heap) (locs : List Loc), Rel σ τ μ → va_P D vwCl (wP cy x A B σ τ ++ wM cy M μ) H → va_D (fun q : Nat => s.heap.size ≤ q) (wP cy x A B σ τ ++ wM cy M μ) → va_S (fun q : Nat => s.heap.size ≤ q) s.heap H locs → W p l e room_1 s m #[Value.ref b] below meth c H locs 34 1499 (lwZ below #[Value.ref b] s) (F0 m 949 ls [])) : W p l e room_1 s m #[Value.ref b] below meth c H locs 34 1499 (lwZ below #[Value.ref b] s) (F0 m 840 ls []) := by
  obtain ⟨hx, hb, hml, hown, hts, hK, hX, hbl, hL⟩ := C0
  have hA : ∀ q : Nat, s.heap.size ≤ q → (fun q : Nat => s.heap.size ≤ q) q := fun _ h => h
  have hbA : ¬ (fun q : Nat => s.heap.size ≤ q) b := Nat.not_le.mpr hbl
  refine lv_aload_n hx hb dL_law_840 rfl (lv_at hl 1 rfl) ?_
  refine lv_aload_n hx hb dL_law_841 rfl (lv_at hl 3 rfl) ?_
  refine lv_iload_n hx hb dL_law_842 rfl (lv_at hl 0 rfl) ?_
  refine lv_iconst (v := iI 1) hx hb dL_law_843 rfl ?_
  refine r_iadd hx hb dL_law_844 ?_
  refine r_sld hx hb hX hbl hbA hS (i := (i + 1)) (by omega) hL dL_law_845 ?_
  refine lv_aload_n hx hb dL_law_846 rfl (lv_at hl 3 rfl) ?_
  refine lv_iload_n hx hb dL_law_847 rfl (lv_at hl 0 rfl) ?_
  refine lv_iconst (v := iI 2) hx hb dL_law_848 rfl ?_
  refine r_iadd hx hb dL_law_849 ?_
  refine r_sld hx hb hX hbl hbA hS (i := (i + 2)) (by omega) hL dL_law_850 ?_
  refine lv_aload_n hx hb dL_law_851 rfl (lv_at hl 3 rfl) ?_
  refine lv_iload_n hx hb dL_law_852 rfl (lv_at hl 0 rfl) ?_
  refine lv_iconst (v := iI 3) hx hb dL_law_853 rfl ?_
  refine r_iadd hx hb dL_law_854 ?_
  refine r_sld hx hb hX hbl hbA hS (i := (i + 3)) (by omega) hL dL_law_855 ?_
  refine r_calli (va_runV (As := [.int (iI (xz xs (i + 1))), .int (iI (xz xs (i + 2))), .int (iI (xz xs (i + 3)))]) (rest := []) ⟨hx, hb, hml, hown, hts⟩ (c_X2_drop l D cy x A B σ τ (xz xs (i + 1)) (xz xs (i + 2)) (xz xs (i + 3)) hR.iN hR.iL hR.id (xz_ok xs _) (xz_ok xs _) (xz_ok xs _)) (cwV 3 hts gL_law_X2_drop rfl rfl rfl (by decide +kernel) ⟨Nat.le_of_ble_eq_true rfl, Nat.le_of_ble_eq_true rfl⟩) (pv_ro (C := RX2) (T := TX2) (N := 2) (ci := 2) (q0 := 0) (vpL (a := wP cy x A B σ τ) (b := wM cy M μ) hP) hK rfl rfl) rfl rfl hl.1 rfl (lv_room (Nat.le_of_ble_eq_true rfl)) dL_law_856 ⟨Nat.le_of_ble_eq_true rfl, Nat.le_of_ble_eq_true rfl⟩) ?_
  refine lv_aload_n hx hb dL_law_859 rfl (lv_at hl 2 rfl) ?_
  refine lv_aload_n hx hb dL_law_860 rfl (lv_at hl 3 rfl) ?_
  refine lv_iload_n hx hb dL_law_861 rfl (lv_at hl 0 rfl) ?_
  refine lv_iconst (v := iI 1) hx hb dL_law_862 rfl ?_
  refine r_iadd hx hb dL_law_863 ?_
  refine r_sld hx hb hX hbl hbA hS (i := (i + 1)) (by omega) hL dL_law_864 ?_
  refine lv_aload_n hx hb dL_law_865 rfl (lv_at hl 3 rfl) ?_
  refine lv_iload_n hx hb dL_law_866 rfl (lv_at hl 0 rfl) ?_
  refine lv_iconst (v := iI 2) hx hb dL_law_867 rfl ?_
  refine r_iadd hx hb dL_law_868 ?_
  refine r_sld hx hb hX hbl hbA hS (i := (i + 2)) (by omega) hL dL_law_869 ?_
  refine lv_aload_n hx hb dL_law_870 rfl (lv_at hl 3 rfl) ?_
  refine lv_iload_n hx hb dL_law_871 rfl (lv_at hl 0 rfl) ?_
  refine lv_iconst (v := iI 3) hx hb dL_law_872 rfl ?_
  refine r_iadd hx hb dL_law_873 ?_
  refine r_sld hx hb hX hbl hbA hS (i := (i + 3)) (by omega) hL dL_law_874 ?_
  refine r_calli (va_runV (As := [.int (iI (xz xs (i + 1))), .int (iI (xz xs (i + 2))), .int (iI (xz xs (i + 3)))]) (rest := [.int (iI (if (10 ≤ (xz xs (i + 1)) ∧ (xz xs (i + 1)) ≤ 600) ∧ (0 ≤ (xz xs (i + 2)) ∧ (xz xs (i + 2)) ≤ 20000) ∧ (0 ≤ (xz xs (i + 3)) ∧ (xz xs (i + 3)) ≤ 10000) then lMv τ (xz xs (i + 1)) (xz xs (i + 2)) (xz xs (i + 3)) else -1))]) ⟨hx, hb, hml, hown, hts⟩ (c_X3_drop l D cy M μ (xz xs (i + 1)) (xz xs (i + 2)) (xz xs (i + 3)) hR.iM (xz_ok xs _) (xz_ok xs _) (xz_ok xs _)) (cwV 3 hts gL_law_X3_drop rfl rfl rfl (by decide +kernel) ⟨Nat.le_of_ble_eq_true rfl, Nat.le_of_ble_eq_true rfl⟩) (pv_ro (C := RX3) (T := TX3) (N := 17) (ci := 3) (q0 := 0) (vpR (a := wP cy x A B σ τ) (b := wM cy M μ) hP) hK rfl rfl) rfl rfl hl.1 rfl (lv_room (Nat.le_of_ble_eq_true rfl)) dL_law_875 ⟨Nat.le_of_ble_eq_true rfl, Nat.le_of_ble_eq_true rfl⟩) ?_
  have hq := rel_drop hR (xz xs (i + 1)) (xz xs (i + 2)) (xz xs (i + 3)) (xz_ok xs _) (xz_ok xs _) (xz_ok xs _)
  refine lv_icmp_eq (tgt := 949) hx hb dL_law_878 (by decide) (fun _ => ?_) (fun h => absurd (congrArg iI hq.1) h)
  exact kk _ _ _ _ _ hq.2 hP hD hS
set_option maxHeartbeats 4000000 in
set_option maxRecDepth 100000 in
theorem law_wired {p : Program} {l : Launch} {e : Env} {s : State} {m : MethodId} {below : List Frame} {meth : Method} {c : Code} {b L : Nat} {xs : Nat → Int32} {D : va_G} {cy : ClassId} {x : Nat} {A B M : Nat → Nat} {σ τ μ : Nat → Int → Int} {H : Heap} {locs : List Loc} {ls : Array Slot} {i : Int} (C0 : lwC p s m c b L xs D cy) (hR : Rel σ τ μ) (hi : 0 ≤ i ∧ i + 6 ≤ (L : Int)) (hP : va_P D vwCl (wP cy x A B σ τ ++ wM cy M μ) H) (hD : va_D (fun q : Nat => s.heap.size ≤ q) (wP cy x A B σ τ ++ wM cy M μ)) (hS : va_S (fun q : Nat => s.heap.size ≤ q) s.heap H locs) (hl : lv_has ls 4 [(3, .int (iI i)), (1, .ref x), (2, .ref (M 100)), (0, .ref b)]) (kk : ∀ (σ τ μ : Nat → Int → Int) (H : Heap) (locs : List Loc), Rel σ τ μ → va_P D vwCl (wP cy x A B σ τ ++ wM cy M μ) H → va_D (fun q : Nat => s.heap.size ≤ q) (wP cy x A B σ τ ++ wM cy M μ) → va_S (fun q : Nat => s.heap.size ≤ q) s.heap H locs → W p l e room_1 s m #[Value.ref b] below meth c H locs 34 1499 (lwZ below #[Value.ref b] s) (F0 m 949 ls [])) : W p l e room_1 s m #[Value.ref b] below meth c H locs 34 1499 (lwZ below #[Value.ref b] s) (F0 m 883 ls []) := by
  obtain ⟨hx, hb, hml, hown, hts, hK, hX, hbl, hL⟩ := C0
  have hA : ∀ q : Nat, s.heap.size ≤ q → (fun q : Nat => s.heap.size ≤ q) q := fun _ h => h
  have hbA : ¬ (fun q : Nat => s.heap.size ≤ q) b := Nat.not_le.mpr hbl
  refine lv_aload_n hx hb dL_law_883 rfl (lv_at hl 1 rfl) ?_
  refine lv_aload_n hx hb dL_law_884 rfl (lv_at hl 3 rfl) ?_
  refine lv_iload_n hx hb dL_law_885 rfl (lv_at hl 0 rfl) ?_
  refine lv_iconst (v := iI 1) hx hb dL_law_886 rfl ?_
  refine r_iadd hx hb dL_law_887 ?_
  refine r_sld hx hb hX hbl hbA hS (i := (i + 1)) (by omega) hL dL_law_888 ?_
  refine lv_aload_n hx hb dL_law_889 rfl (lv_at hl 3 rfl) ?_
  refine lv_iload_n hx hb dL_law_890 rfl (lv_at hl 0 rfl) ?_
  refine lv_iconst (v := iI 2) hx hb dL_law_891 rfl ?_
  refine r_iadd hx hb dL_law_892 ?_
  refine r_sld hx hb hX hbl hbA hS (i := (i + 2)) (by omega) hL dL_law_893 ?_
  refine lv_aload_n hx hb dL_law_894 rfl (lv_at hl 3 rfl) ?_
  refine lv_iload_n hx hb dL_law_895 rfl (lv_at hl 0 rfl) ?_
  refine lv_iconst (v := iI 3) hx hb dL_law_896 rfl ?_
  refine r_iadd hx hb dL_law_897 ?_
  refine r_sld hx hb hX hbl hbA hS (i := (i + 3)) (by omega) hL dL_law_898 ?_
  refine r_calli (va_runV (As := [.int (iI (xz xs (i + 1))), .int (iI (xz xs (i + 2))), .int (iI (xz xs (i + 3)))]) (rest := []) ⟨hx, hb, hml, hown, hts⟩ (c_X2_wired l D cy x A B σ τ (xz xs (i + 1)) (xz xs (i + 2)) (xz xs (i + 3)) hR.iN hR.iL hR.id (xz_ok xs _) (xz_ok xs _) (xz_ok xs _)) (cwV 3 hts gL_law_X2_wired rfl rfl rfl (by decide +kernel) ⟨Nat.le_of_ble_eq_true rfl, Nat.le_of_ble_eq_true rfl⟩) (pv_ro (C := RX2) (T := TX2) (N := 2) (ci := 2) (q0 := 0) (vpL (a := wP cy x A B σ τ) (b := wM cy M μ) hP) hK rfl rfl) rfl rfl hl.1 rfl (lv_room (Nat.le_of_ble_eq_true rfl)) dL_law_899 ⟨Nat.le_of_ble_eq_true rfl, Nat.le_of_ble_eq_true rfl⟩) ?_
  refine lv_aload_n hx hb dL_law_902 rfl (lv_at hl 2 rfl) ?_
  refine lv_aload_n hx hb dL_law_903 rfl (lv_at hl 3 rfl) ?_
  refine lv_iload_n hx hb dL_law_904 rfl (lv_at hl 0 rfl) ?_
  refine lv_iconst (v := iI 1) hx hb dL_law_905 rfl ?_
  refine r_iadd hx hb dL_law_906 ?_
  refine r_sld hx hb hX hbl hbA hS (i := (i + 1)) (by omega) hL dL_law_907 ?_
  refine lv_aload_n hx hb dL_law_908 rfl (lv_at hl 3 rfl) ?_
  refine lv_iload_n hx hb dL_law_909 rfl (lv_at hl 0 rfl) ?_
  refine lv_iconst (v := iI 2) hx hb dL_law_910 rfl ?_
  refine r_iadd hx hb dL_law_911 ?_
  refine r_sld hx hb hX hbl hbA hS (i := (i + 2)) (by omega) hL dL_law_912 ?_
  refine lv_aload_n hx hb dL_law_913 rfl (lv_at hl 3 rfl) ?_
  refine lv_iload_n hx hb dL_law_914 rfl (lv_at hl 0 rfl) ?_
  refine lv_iconst (v := iI 3) hx hb dL_law_915 rfl ?_
  refine r_iadd hx hb dL_law_916 ?_
  refine r_sld hx hb hX hbl hbA hS (i := (i + 3)) (by omega) hL dL_law_917 ?_
  refine r_calli (va_runV (As := [.int (iI (xz xs (i + 1))), .int (iI (xz xs (i + 2))), .int (iI (xz xs (i + 3)))]) (rest := [.int (iI (if (0 ≤ (xz xs (i + 1)) ∧ (xz xs (i + 1)) ≤ 20000) ∧ (0 ≤ (xz xs (i + 2)) ∧ (xz xs (i + 2)) ≤ 10000) then lWired τ (xz xs (i + 1)) (xz xs (i + 2)) (xz xs (i + 3)) else -1))]) ⟨hx, hb, hml, hown, hts⟩ (c_X3_wired l D cy M μ (xz xs (i + 1)) (xz xs (i + 2)) (xz xs (i + 3)) hR.iM (xz_ok xs _) (xz_ok xs _) (xz_ok xs _)) (cwV 3 hts gL_law_X3_wired rfl rfl rfl (by decide +kernel) ⟨Nat.le_of_ble_eq_true rfl, Nat.le_of_ble_eq_true rfl⟩) (pv_ro (C := RX3) (T := TX3) (N := 17) (ci := 3) (q0 := 0) (vpR (a := wP cy x A B σ τ) (b := wM cy M μ) hP) hK rfl rfl) rfl rfl hl.1 rfl (lv_room (Nat.le_of_ble_eq_true rfl)) dL_law_918 ⟨Nat.le_of_ble_eq_true rfl, Nat.le_of_ble_eq_true rfl⟩) ?_
  have hq := rel_wired hR (xz xs (i + 1)) (xz xs (i + 2)) (xz xs (i + 3)) (xz_ok xs _) (xz_ok xs _) (xz_ok xs _)
  refine lv_icmp_eq (tgt := 949) hx hb dL_law_921 (by decide) (fun _ => ?_) (fun h => absurd (congrArg iI hq.1) h)
  exact kk _ _ _ _ _ hq.2 hP hD hS
set_option maxHeartbeats 4000000 in
set_option maxRecDepth 100000 in
theorem law_count {p : Program} {l : Launch} {e : Env} {s : State} {m : MethodId} {below : List Frame} {meth : Method} {c : Code} {b L : Nat} {xs : Nat → Int32} {D : va_G} {cy : ClassId} {x : Nat} {A B M : Nat → Nat} {σ τ μ : Nat → Int → Int} {H : Heap} {locs : List Loc} {ls : Array Slot} {i : Int} (C0 : lwC p s m c b L xs D cy) (hR : Rel σ τ μ) (hi : 0 ≤ i ∧ i + 6 ≤ (L : Int)) (hP : va_P D vwCl (wP cy x A B σ τ ++ wM cy M μ) H) (hD : va_D (fun q : Nat => s.heap.size ≤ q) (wP cy x A B σ τ ++ wM cy M μ)) (hS : va_S (fun q : Nat => s.heap.size ≤ q) s.heap H locs) (hl : lv_has ls 4 [(3, .int (iI i)), (1, .ref x), (2, .ref (M 100)), (0, .ref b)]) (kk : ∀ (σ τ μ : Nat → Int → Int) (H : Heap) (locs : List Loc), Rel σ τ μ → va_P D vwCl (wP cy x A B σ τ ++ wM cy M μ) H → va_D (fun q : Nat => s.heap.size ≤ q) (wP cy x A B σ τ ++ wM cy M μ) → va_S (fun q : Nat => s.heap.size ≤ q) s.heap H locs → W p l e room_1 s m #[Value.ref b] below meth c H locs 34 1499 (lwZ below #[Value.ref b] s) (F0 m 949 ls [])) : W p l e room_1 s m #[Value.ref b] below meth c H locs 34 1499 (lwZ below #[Value.ref b] s) (F0 m 926 ls []) := by
  obtain ⟨hx, hb, hml, hown, hts, hK, hX, hbl, hL⟩ := C0
  have hA : ∀ q : Nat, s.heap.size ≤ q → (fun q : Nat => s.heap.size ≤ q) q := fun _ h => h
  have hbA : ¬ (fun q : Nat => s.heap.size ≤ q) b := Nat.not_le.mpr hbl
  refine lv_aload_n hx hb dL_law_926 rfl (lv_at hl 1 rfl) ?_
  refine lv_aload_n hx hb dL_law_927 rfl (lv_at hl 3 rfl) ?_
  refine lv_iload_n hx hb dL_law_928 rfl (lv_at hl 0 rfl) ?_
  refine lv_iconst (v := iI 1) hx hb dL_law_929 rfl ?_
  refine r_iadd hx hb dL_law_930 ?_
  refine r_sld hx hb hX hbl hbA hS (i := (i + 1)) (by omega) hL dL_law_931 ?_
  refine r_calli (va_runV (As := [.int (iI (xz xs (i + 1)))]) (rest := []) ⟨hx, hb, hml, hown, hts⟩ (c_X2_count l D cy x A B σ τ (xz xs (i + 1)) hR.iN hR.iL hR.id (xz_ok xs _)) (cwV 1 hts gL_law_X2_count rfl rfl rfl (by decide +kernel) ⟨Nat.le_of_ble_eq_true rfl, Nat.le_of_ble_eq_true rfl⟩) (pv_ro (C := RX2) (T := TX2) (N := 2) (ci := 2) (q0 := 0) (vpL (a := wP cy x A B σ τ) (b := wM cy M μ) hP) hK rfl rfl) rfl rfl hl.1 rfl (lv_room (Nat.le_of_ble_eq_true rfl)) dL_law_932 ⟨Nat.le_of_ble_eq_true rfl, Nat.le_of_ble_eq_true rfl⟩) ?_
  refine lv_aload_n hx hb dL_law_935 rfl (lv_at hl 2 rfl) ?_
  refine lv_aload_n hx hb dL_law_936 rfl (lv_at hl 3 rfl) ?_
  refine lv_iload_n hx hb dL_law_937 rfl (lv_at hl 0 rfl) ?_
  refine lv_iconst (v := iI 1) hx hb dL_law_938 rfl ?_
  refine r_iadd hx hb dL_law_939 ?_
  refine r_sld hx hb hX hbl hbA hS (i := (i + 1)) (by omega) hL dL_law_940 ?_
  refine r_calli (va_runV (As := [.int (iI (xz xs (i + 1)))]) (rest := [.int (iI (if (xz xs (i + 1)) = 0 then σ 0 0 else if (xz xs (i + 1)) = 1 then σ 4 0 else if (xz xs (i + 1)) = 2 then σ 8 0 else if (xz xs (i + 1)) = 3 then nAll σ else if (xz xs (i + 1)) = 4 then lLit τ else if (xz xs (i + 1)) = 5 then τ 3 0 else -1))]) ⟨hx, hb, hml, hown, hts⟩ (c_X3_count l D cy M μ (xz xs (i + 1)) hR.iM (xz_ok xs _)) (cwV 1 hts gL_law_X3_count rfl rfl rfl (by decide +kernel) ⟨Nat.le_of_ble_eq_true rfl, Nat.le_of_ble_eq_true rfl⟩) (pv_ro (C := RX3) (T := TX3) (N := 17) (ci := 3) (q0 := 0) (vpR (a := wP cy x A B σ τ) (b := wM cy M μ) hP) hK rfl rfl) rfl rfl hl.1 rfl (lv_room (Nat.le_of_ble_eq_true rfl)) dL_law_941 ⟨Nat.le_of_ble_eq_true rfl, Nat.le_of_ble_eq_true rfl⟩) ?_
  have hq := rel_count hR (xz xs (i + 1)) (xz_ok xs _)
  refine lv_icmp_eq (tgt := 949) hx hb dL_law_944 (by decide) (fun _ => ?_) (fun h => absurd (congrArg iI hq.1) h)
  exact kk _ _ _ _ _ hq.2 hP hD hS
