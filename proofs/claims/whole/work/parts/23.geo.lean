/-! GEOMETRY: two ways to see whether two stretches meet -/
theorem ss_pp {u v S T : Int} (e : v * S = u * T) (hS : 0 < S) (hT : 0 < T) : (0 < v → 0 < u) ∧ (v < 0 → u < 0) := by
  refine ⟨fun h => ?_, fun h => ?_⟩
  · have h1 := Int.mul_pos h hS
    rcases Int.lt_or_le 0 u with q | q
    · exact q
    · have h2 := Int.mul_nonneg (show 0 ≤ -u by omega) (show 0 ≤ T by omega)
      rw [Int.neg_mul] at h2
      omega
  · have h1 := Int.mul_pos (show 0 < -v by omega) hS
    rw [Int.neg_mul] at h1
    rcases Int.lt_or_le u 0 with q | q
    · exact q
    · have h2 := Int.mul_nonneg q (show 0 ≤ T by omega)
      omega
theorem ss {u v S T : Int} (e : v * S = u * T) (h : (0 < S ∧ 0 < T) ∨ (S < 0 ∧ T < 0)) : (0 < v → 0 < u) ∧ (v < 0 → u < 0) ∧ (0 < u → 0 < v) ∧ (u < 0 → v < 0) := by
  rcases h with h | h
  · have a := ss_pp e h.1 h.2
    have b := ss_pp e.symm h.2 h.1
    exact ⟨a.1, a.2, b.1, b.2⟩
  · have e2 : v * (-S) = u * (-T) := by rw [Int.mul_neg, Int.mul_neg, e]
    have a := ss_pp e2 (by omega) (by omega)
    have b := ss_pp e2.symm (by omega) (by omega)
    exact ⟨a.1, a.2, b.1, b.2⟩
theorem tu_ex (ox oy wx wy bx b2 cx cy : Int) : (cx - ox) * tuZ ox oy wx wy bx b2 - (bx - ox) * tuZ ox oy wx wy cx cy = -((wx - ox) * tuZ bx b2 cx cy ox oy) := by
  unfold tuZ
  grind
theorem tu_ey (ox oy wx wy bx b2 cx cy : Int) : (cy - oy) * tuZ ox oy wx wy bx b2 - (b2 - oy) * tuZ ox oy wx wy cx cy = -((wy - oy) * tuZ bx b2 cx cy ox oy) := by
  unfold tuZ
  grind
theorem tu_sw (ax ay bx b2 cx cy : Int) : tuZ bx b2 ax ay cx cy = -tuZ ax ay bx b2 cx cy := by
  unfold tuZ
  grind
theorem tu_sum (ax ay bx b2 px py qx qy : Int) : tuZ ax ay bx b2 px py - tuZ ax ay bx b2 qx qy + tuZ px py qx qy ax ay - tuZ px py qx qy bx b2 = 0 := by
  unfold tuZ
  grind
theorem tu_ax (ax ay bx b2 px py qx qy : Int) : tuZ px py qx qy ax ay * bx - tuZ px py qx qy bx b2 * ax + tuZ ax ay bx b2 px py * qx - tuZ ax ay bx b2 qx qy * px = 0 := by
  unfold tuZ
  grind
theorem tu_ay (ax ay bx b2 px py qx qy : Int) : tuZ px py qx qy ax ay * b2 - tuZ px py qx qy bx b2 * ay + tuZ ax ay bx b2 px py * qy - tuZ ax ay bx b2 qx qy * py = 0 := by
  unfold tuZ
  grind
theorem tu_col (bx b2 cx cy ox oy : Int) : tuZ bx b2 cx cy ox oy = (bx - ox) * (cy - oy) - (cx - ox) * (b2 - oy) := by
  unfold tuZ
  grind
theorem seg_on {ox oy wx wy bx b2 cx cy : Int} (hz : tuZ bx b2 cx cy ox oy = 0) (hb : btP bx b2 cx cy ox oy) (hne : bx ≠ cx ∨ b2 ≠ cy) : ¬ osP (tuZ ox oy wx wy bx b2) (tuZ ox oy wx wy cx cy) := by
  intro h
  have ex := tu_ex ox oy wx wy bx b2 cx cy
  have ey := tu_ey ox oy wx wy bx b2 cx cy
  rw [hz] at ex ey
  have a := ss (v := cx - ox) (u := bx - ox) (by omega) h
  have b := ss (v := cy - oy) (u := b2 - oy) (by omega) h
  omega
theorem seg_off {ox oy wx wy bx b2 cx cy : Int} (hz : tuZ bx b2 cx cy ox oy = 0) (hb : ¬ btP bx b2 cx cy ox oy) : osP (tuZ ox oy wx wy bx b2) (tuZ ox oy wx wy cx cy) ∨ (tuZ ox oy wx wy bx b2 = 0 ∧ tuZ ox oy wx wy cx cy = 0) := by
  have ex := tu_ex ox oy wx wy bx b2 cx cy
  have ey := tu_ey ox oy wx wy bx b2 cx cy
  rw [hz] at ex ey
  by_cases hx : (0 < cx - ox ∧ 0 < bx - ox) ∨ (cx - ox < 0 ∧ bx - ox < 0)
  · have a := ss (v := tuZ ox oy wx wy bx b2) (u := tuZ ox oy wx wy cx cy) (S := cx - ox) (T := bx - ox) (by rw [Int.mul_comm, Int.mul_comm (tuZ ox oy wx wy cx cy)]; omega) hx
    omega
  · have a := ss (v := tuZ ox oy wx wy bx b2) (u := tuZ ox oy wx wy cx cy) (S := cy - oy) (T := b2 - oy) (by rw [Int.mul_comm, Int.mul_comm (tuZ ox oy wx wy cx cy)]; omega) (by omega)
    omega
/-- on the line, and between in x (the ends' x differ): between -/
theorem seg_x {ox oy bx b2 cx cy : Int} (hz : tuZ bx b2 cx cy ox oy = 0) (hne : bx ≠ cx) (hb : (bx ≤ ox ∧ ox ≤ cx) ∨ (cx ≤ ox ∧ ox ≤ bx)) : btP bx b2 cx cy ox oy := by
  refine ⟨hb, ?_⟩
  rw [tu_col] at hz
  by_cases h : (0 < cy - oy ∧ 0 < b2 - oy) ∨ (cy - oy < 0 ∧ b2 - oy < 0)
  · have a := ss (v := bx - ox) (u := cx - ox) (S := cy - oy) (T := b2 - oy) (by omega) h
    omega
  · omega
theorem mul_z {a b : Int} (h : a * b = 0) (ha : a ≠ 0) : b = 0 := by
  rcases Int.mul_eq_zero.mp h with q | q
  · exact absurd q ha
  · exact q
/-- all on one line, and the boxes meet: an end lies on the other -/
theorem all_col {ax ay bx b2 px py qx qy : Int} (hne : px ≠ qx ∨ py ≠ qy) (h1 : tuZ ax ay bx b2 px py = 0) (h2 : tuZ ax ay bx b2 qx qy = 0) (h3 : tuZ px py qx qy ax ay = 0) (h4 : tuZ px py qx qy bx b2 = 0) (sx : spP ax bx px qx) (sy : spP ay b2 py qy) : onP ax ay bx b2 px py qx qy ∨ onP px py qx qy ax ay bx b2 := by
  have m1 := mnZ_s px qx
  have m2 := mxZ_s ax bx
  have m3 := mnZ_s ax bx
  have m4 := mxZ_s px qx
  by_cases hx : px = qx
  · have hy : qy - py ≠ 0 := by omega
    have e3 : (qy - py) * (ax - px) = 0 := by unfold tuZ at h3; rw [hx, Int.sub_self, Int.zero_mul] at h3; rw [hx]; omega
    have e4 : (qy - py) * (bx - px) = 0 := by unfold tuZ at h4; rw [hx, Int.sub_self, Int.zero_mul] at h4; rw [hx]; omega
    have ea := mul_z e3 hy
    have eb := mul_z e4 hy
    have n1 := mnZ_s py qy
    have n2 := mxZ_s ay b2
    have n3 := mnZ_s ay b2
    have n4 := mxZ_s py qy
    clear m1 m2 m3 m4 sx
    by_cases ka : (py ≤ ay ∧ ay ≤ qy) ∨ (qy ≤ ay ∧ ay ≤ py)
    · exact Or.inl (Or.inl ⟨h3, by omega, ka⟩)
    · by_cases kb : (py ≤ b2 ∧ b2 ≤ qy) ∨ (qy ≤ b2 ∧ b2 ≤ py)
      · exact Or.inl (Or.inr ⟨h4, by omega, kb⟩)
      · exact Or.inr (Or.inl ⟨h1, by omega, by omega⟩)
  · clear sy
    by_cases ka : (px ≤ ax ∧ ax ≤ qx) ∨ (qx ≤ ax ∧ ax ≤ px)
    · exact Or.inl (Or.inl ⟨h3, seg_x h3 hx ka⟩)
    · by_cases kb : (px ≤ bx ∧ bx ≤ qx) ∨ (qx ≤ bx ∧ bx ≤ px)
      · exact Or.inl (Or.inr ⟨h4, seg_x h4 hx kb⟩)
      · exact Or.inr (Or.inl ⟨h1, seg_x h1 (by omega) (by omega)⟩)
/-- crossing in the open: the spans meet -/
theorem op_span {T1 T2 T3 T4 a b p q : Int} (hs : T1 - T2 + T3 - T4 = 0) (he : T3 * b - T4 * a + T1 * q - T2 * p = 0) (h12 : opP T1 T2) (h34 : opP T3 T4) : spP a b p q := by
  have m1 := mnZ_s p q
  have m2 := mxZ_s a b
  have m3 := mnZ_s a b
  have m4 := mxZ_s p q
  have key : ∀ (U V A B P Q : Int), 0 < U → 0 < V → ∀ S W : Int, 0 < S → 0 < W → U + V = S + W → U * A + V * B = S * P + W * Q → ¬ (A < P ∧ A < Q ∧ B < P ∧ B < Q) := by
    intro U V A B P Q hU hV S W hS hW hsum heq h
    have k1 : U * A ≤ U * (mnZ P Q - 1) := Int.mul_le_mul_of_nonneg_left (by have := mnZ_s P Q; omega) (by omega)
    have k2 : V * B ≤ V * (mnZ P Q - 1) := Int.mul_le_mul_of_nonneg_left (by have := mnZ_s P Q; omega) (by omega)
    have k3 : S * mnZ P Q ≤ S * P := Int.mul_le_mul_of_nonneg_left (by have := mnZ_s P Q; omega) (by omega)
    have k4 : W * mnZ P Q ≤ W * Q := Int.mul_le_mul_of_nonneg_left (by have := mnZ_s P Q; omega) (by omega)
    have k5 : U * (mnZ P Q - 1) + V * (mnZ P Q - 1) = S * mnZ P Q + W * mnZ P Q - (U + V) := by
      rw [← Int.add_mul, ← Int.add_mul, hsum, Int.mul_sub, Int.mul_one]
    omega
  have hA : ¬ (a < p ∧ a < q ∧ b < p ∧ b < q) ∧ ¬ (p < a ∧ p < b ∧ q < a ∧ q < b) := by
    rcases h34 with h | h
    · have g : T1 < 0 ∧ 0 < T2 := by omega
      have e1 : T3 * b + (-T4) * a = T2 * p + (-T1) * q := by rw [Int.neg_mul, Int.neg_mul]; omega
      have k1 := key T3 (-T4) b a p q (by omega) (by omega) T2 (-T1) (by omega) (by omega) (by omega) e1
      have k2 := key T2 (-T1) p q b a (by omega) (by omega) T3 (-T4) (by omega) (by omega) (by omega) e1.symm
      omega
    · have g : T2 < 0 ∧ 0 < T1 := by omega
      have e1 : (-T3) * b + T4 * a = (-T2) * p + T1 * q := by rw [Int.neg_mul, Int.neg_mul]; omega
      have k1 := key (-T3) T4 b a p q (by omega) (by omega) (-T2) T1 (by omega) (by omega) (by omega) e1
      have k2 := key (-T2) T1 p q b a (by omega) (by omega) (-T3) T4 (by omega) (by omega) (by omega) e1.symm
      omega
  constructor
  · rcases m1 with m1 | m1 <;> rcases m2 with m2 | m2 <;> omega
  · rcases m3 with m3 | m3 <;> rcases m4 with m4 | m4 <;> omega
theorem sp_of_bt {a b p q z : Int} (h1 : (p ≤ z ∧ z ≤ q) ∨ (q ≤ z ∧ z ≤ p)) (h2 : z = a ∨ z = b) : spP a b p q := by
  have m1 := mnZ_s p q
  have m2 := mxZ_s a b
  have m3 := mnZ_s a b
  have m4 := mxZ_s p q
  constructor
  · rcases m1 with m1 | m1 <;> rcases m2 with m2 | m2 <;> omega
  · rcases m3 with m3 | m3 <;> rcases m4 with m4 | m4 <;> omega
theorem sp_sym {a b p q : Int} (h : spP a b p q) : spP p q a b := ⟨h.2, h.1⟩
theorem op_mk {a b : Int} (ha : a ≠ 0) (hb : b ≠ 0) (n : ¬ osP a b) : opP a b := by omega
theorem nos_of_op {a b : Int} (h : opP a b) : ¬ osP a b := by omega
theorem nos_z1 {a b : Int} (h : a = 0) : ¬ osP a b := by omega
theorem nos_z2 {a b : Int} (h : b = 0) : ¬ osP a b := by omega
theorem os_neg {a b : Int} (h : osP (-a) (-b)) : osP a b := by omega
theorem nos_neg {a b : Int} (h : ¬ osP (-a) (-b)) : ¬ osP a b := by omega
theorem z_4 {a b c d : Int} (h : a - b + c - d = 0) (ha : a = 0) (hb : b = 0) (hc : c = 0) : d = 0 := by omega
theorem z_3 {a b c d : Int} (h : a - b + c - d = 0) (ha : -a = 0) (hb : -b = 0) (hd : d = 0) : a = 0 ∧ b = 0 ∧ c = 0 := by omega
theorem z_2 {a b c d : Int} (h : a - b + c - d = 0) (ha : a = 0) (hc : c = 0) (hd : d = 0) : b = 0 := by omega
theorem z_1 {a b c d : Int} (h : a - b + c - d = 0) (hb : b = 0) (hc : -c = 0) (hd : -d = 0) : a = 0 ∧ c = 0 ∧ d = 0 := by omega
theorem geo {ax ay bx b2 px py qx qy : Int} (hne : px ≠ qx ∨ py ≠ qy) : (spP ax bx px qx ∧ spP ay b2 py qy ∧ ¬ osP (tuZ ax ay bx b2 px py) (tuZ ax ay bx b2 qx qy) ∧ ¬ osP (tuZ px py qx qy ax ay) (tuZ px py qx qy bx b2)) ↔ crP ax ay bx b2 px py qx qy := by
  have hsum := tu_sum ax ay bx b2 px py qx qy
  constructor
  · rintro ⟨sx, sy, n12, n34⟩
    by_cases hap : ax ≠ bx ∨ ay ≠ b2
    · by_cases o1 : onP ax ay bx b2 px py qx qy
      · exact Or.inr (Or.inl o1)
      · by_cases o2 : onP px py qx qy ax ay bx b2
        · exact Or.inr (Or.inr ⟨hap, o2⟩)
        · have hz : ¬ (tuZ ax ay bx b2 px py = 0 ∧ tuZ ax ay bx b2 qx qy = 0 ∧ tuZ px py qx qy ax ay = 0 ∧ tuZ px py qx qy bx b2 = 0) := fun ⟨z1, z2, z3, z4⟩ => (all_col hne z1 z2 z3 z4 sx sy).elim o1 o2
          have f3 : tuZ px py qx qy ax ay ≠ 0 := fun z => (seg_off (wx := bx) (wy := b2) z (fun k => o1 (Or.inl ⟨z, k⟩))).elim n12 (fun w => hz ⟨w.1, w.2, z, z_4 hsum w.1 w.2 z⟩)
          have f4 : tuZ px py qx qy bx b2 ≠ 0 := fun z => by
            have w := seg_off (wx := ax) (wy := ay) z (fun k => o1 (Or.inr ⟨z, k⟩))
            rw [tu_sw ax ay bx b2 px py, tu_sw ax ay bx b2 qx qy] at w
            exact w.elim (fun w => n12 (os_neg w)) (fun w => hz ⟨(z_3 hsum w.1 w.2 z).1, (z_3 hsum w.1 w.2 z).2.1, (z_3 hsum w.1 w.2 z).2.2, z⟩)
          have f1 : tuZ ax ay bx b2 px py ≠ 0 := fun z => (seg_off (wx := qx) (wy := qy) z (fun k => o2 (Or.inl ⟨z, k⟩))).elim n34 (fun w => hz ⟨z, z_2 hsum z w.1 w.2, w.1, w.2⟩)
          have f2 : tuZ ax ay bx b2 qx qy ≠ 0 := fun z => by
            have w := seg_off (wx := px) (wy := py) z (fun k => o2 (Or.inr ⟨z, k⟩))
            rw [tu_sw px py qx qy ax ay, tu_sw px py qx qy bx b2] at w
            exact w.elim (fun w => n34 (os_neg w)) (fun w => hz ⟨(z_1 hsum z w.1 w.2).1, z, (z_1 hsum z w.1 w.2).2.1, (z_1 hsum z w.1 w.2).2.2⟩)
          exact Or.inl ⟨hap, op_mk f3 f4 n34, op_mk f1 f2 n12⟩
    · have ex : ax = bx := by omega
      have ey : ay = b2 := by omega
      subst ex; subst ey
      have z1 : tuZ ax ay ax ay px py = 0 := by unfold tuZ; rw [Int.sub_self, Int.sub_self, Int.zero_mul, Int.zero_mul]; rfl
      have z3 : tuZ px py qx qy ax ay = 0 := by clear hap sx sy n12; omega
      clear n12 n34 hap hsum z1
      have m1 := mnZ_s px qx
      have m2 := mxZ_s ax ax
      have m3 := mnZ_s ax ax
      have m4 := mxZ_s px qx
      have n1 := mnZ_s py qy
      have n2 := mxZ_s ay ay
      have n3 := mnZ_s ay ay
      have n4 := mxZ_s py qy
      exact Or.inr (Or.inl (Or.inl ⟨z3, by omega, by omega⟩))
  · rintro (⟨hap, o34, o12⟩ | (⟨z, k⟩ | ⟨z, k⟩) | ⟨hap, ⟨z, k⟩ | ⟨z, k⟩⟩)
    · exact ⟨op_span hsum (tu_ax ax ay bx b2 px py qx qy) o12 o34, op_span hsum (tu_ay ax ay bx b2 px py qx qy) o12 o34, nos_of_op o12, nos_of_op o34⟩
    · exact ⟨sp_of_bt k.1 (Or.inl rfl), sp_of_bt k.2 (Or.inl rfl), seg_on z k hne, nos_z1 z⟩
    · have := seg_on (wx := ax) (wy := ay) z k hne
      rw [tu_sw ax ay bx b2 px py, tu_sw ax ay bx b2 qx qy] at this
      exact ⟨sp_of_bt k.1 (Or.inr rfl), sp_of_bt k.2 (Or.inr rfl), nos_neg this, nos_z2 z⟩
    · exact ⟨sp_sym (sp_of_bt k.1 (Or.inl rfl)), sp_sym (sp_of_bt k.2 (Or.inl rfl)), nos_z1 z, seg_on z k hap⟩
    · have := seg_on (wx := px) (wy := py) z k hap
      rw [tu_sw px py qx qy ax ay, tu_sw px py qx qy bx b2] at this
      exact ⟨sp_sym (sp_of_bt k.1 (Or.inr rfl)), sp_sym (sp_of_bt k.2 (Or.inr rfl)), nos_z2 z, nos_neg this⟩
