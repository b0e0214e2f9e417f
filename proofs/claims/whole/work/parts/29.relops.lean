/-! each call keeps class and reference side by side -/
theorem if_both {P Q : Prop} [Decidable P] [Decidable Q] {a b c d : Int} (h : P ↔ Q) (e : P → a = b) (e2 : ¬ P → c = d) : (if P then a else c) = if Q then b else d := by
  by_cases p : P
  · rw [if_pos p, if_pos (h.mp p)]; exact e p
  · rw [if_neg p, if_neg (fun q => p (h.mpr q))]; exact e2 p
/-- the lamps' cells are the reference's, but for what is kept of places -/
theorem tau_eq {σ τ μ : Nat → Int → Int} (hR : Rel σ τ μ) : τ 0 = vL μ 0 ∧ τ 1 = vL μ 1 ∧ τ 3 = vL μ 3 := hR.2.2.2.2.2.2.1
theorem lFrom_eq {τ τ2 : Nat → Int → Int} (h : τ 0 = τ2 0) (d : Int) : lFrom τ d = lFrom τ2 d := by
  unfold lFrom
  rw [h]
theorem lAt_eq {τ τ2 : Nat → Int → Int} (h : τ 0 = τ2 0) (h3 : τ 3 = τ2 3) (a b : Int) : lAt τ a b = lAt τ2 a b := by
  unfold lAt
  have e : lAtF τ a = lAtF τ2 a := by
    funext q
    exact lFrom_eq h _
  rw [e, h3]
theorem lG_eq {τ τ2 : Nat → Int → Int} (h : τ 0 = τ2 0) (h3 : τ 3 = τ2 3) (a : Int) : lG τ a = lG τ2 a := by
  funext k
  exact lAt_eq h h3 _ _
theorem rMean_eq {τ τ2 : Nat → Int → Int} (h : τ 0 = τ2 0) (h3 : τ 3 = τ2 3) (a b : Int) : rMean τ a b = rMean τ2 a b := by
  show fo (lMeanF (su τ 2 (lG τ a)) b) 0 (τ 3 0 / 10 + 1) / (τ 3 0 / 10 + 1) = fo (lMeanF (su τ2 2 (lG τ2 a)) b) 0 (τ2 3 0 / 10 + 1) / (τ2 3 0 / 10 + 1)
  have e : lMeanF (su τ 2 (lG τ a)) b = lMeanF (su τ2 2 (lG τ2 a)) b := by
    funext x k
    show x + lG τ a k * b / 100 = x + lG τ2 a k * b / 100
    rw [lG_eq h h3]
  rw [e, h3]
theorem rLst_eq {τ τ2 : Nat → Int → Int} (h : τ 0 = τ2 0) (h3 : τ 3 = τ2 3) (a : Int) : rLst τ a = rLst τ2 a := by
  show fo (lLstF (su τ 2 (lG τ a))) (lG τ a 0) (τ 3 0 / 10) = fo (lLstF (su τ2 2 (lG τ2 a))) (lG τ2 a 0) (τ2 3 0 / 10)
  have e : lLstF (su τ 2 (lG τ a)) = lLstF (su τ2 2 (lG τ2 a)) := by
    funext x k
    show mnZ x (lG τ a (1 + k)) = mnZ x (lG τ2 a (1 + k))
    rw [lG_eq h h3]
  rw [e, h3, lG_eq h h3]
theorem rEven_eq {τ τ2 : Nat → Int → Int} (h : τ 0 = τ2 0) (h3 : τ 3 = τ2 3) (a : Int) : rEven τ a = rEven τ2 a := by
  show (if rMean τ a 100 = 0 then 0 else rLst τ a * 1000 / rMean τ a 100) = if rMean τ2 a 100 = 0 then 0 else rLst τ2 a * 1000 / rMean τ2 a 100
  rw [rMean_eq h h3, rLst_eq h h3]
theorem lMv_eq {τ τ2 : Nat → Int → Int} (h3 : τ 3 = τ2 3) (a b z : Int) : lMv τ a b z = lMv τ2 a b z := by
  unfold lMv
  rw [h3]
/-- the noise's cells -/
theorem day_cut {σ τ μ : Nat → Int → Int} (hR : Rel σ τ μ) {p h : Int} (hp : 0 ≤ p ∧ p < σ 0 0) (hh : 0 ≤ h ∧ h < σ 4 0) {w : Int} (hw : 0 ≤ w ∧ w < σ 8 0) : nBtw σ w p h ↔ mCr μ w (μ 1 p) (μ 2 p) (μ 5 h) (μ 6 h) := by
  obtain ⟨-, -, -, -, ⟨e0, e1, e2, e3, e4, e5, e6, e7, e8⟩, ⟨e9, e10, e11, e12, -⟩, -, hne, -⟩ := hR
  have h9 := hne w hw.1 hw.2
  rw [e9, e10, e11, e12] at h9
  unfold nBtw
  rw [e1, e2, e5, e6, e9, e10, e11, e12]
  exact geo h9
theorem or_bit (m w v : Nat) : (m ||| 2 ^ w).testBit v = (m.testBit v || decide (w = v)) := by
  rw [Nat.testBit_or, Nat.testBit_two_pow]
theorem orZ_bit {m w v : Int} (hm : 0 ≤ m) : (orZ m w).toNat.testBit v.toNat = (m.toNat.testBit v.toNat || decide (w.toNat = v.toNat)) := by
  unfold orZ
  rw [Int.toNat_natCast, or_bit]
/-- a mask's bits are the walls between -/
theorem msk_bit (σ : Nat → Int → Int) (p h : Int) {n : Int} (hn : 0 ≤ n ∧ n ≤ 8) {v : Int} (hv : 0 ≤ v) : 0 ≤ fo (nMskF σ p h) 0 n ∧ ((fo (nMskF σ p h) 0 n).toNat.testBit v.toNat = true ↔ (v < n ∧ nBtw σ v p h)) := by
  refine fo_inv (fun i (x : Int) => 0 ≤ x ∧ (x.toNat.testBit v.toNat = true ↔ (v < i ∧ nBtw σ v p h))) _ _ hn.1 ⟨by omega, ?_⟩ (fun i x h0 h1 hx => ?_)
  · constructor
    · intro z
      rw [show (0 : Int).toNat = 0 from rfl, Nat.zero_testBit] at z
      cases z
    · intro z
      omega
  · show 0 ≤ nMskF σ p h x i ∧ ((nMskF σ p h x i).toNat.testBit v.toNat = true ↔ (v < i + 1 ∧ nBtw σ v p h))
    unfold nMskF
    by_cases q : nBtw σ i p h
    · rw [if_pos q]
      refine ⟨by unfold orZ; omega, ?_⟩
      rw [orZ_bit hx.1, Bool.or_eq_true, hx.2, decide_eq_true_eq]
      constructor
      · rintro (⟨a, b⟩ | a)
        · exact ⟨by omega, b⟩
        · have : i = v := by omega
          subst this
          exact ⟨by omega, q⟩
      · rintro ⟨a, b⟩
        by_cases hv2 : v < i
        · exact Or.inl ⟨hv2, b⟩
        · exact Or.inr (by omega)
    · rw [if_neg q]
      refine ⟨hx.1, hx.2.trans ?_⟩
      constructor
      · rintro ⟨a, b⟩; exact ⟨by omega, b⟩
      · rintro ⟨a, b⟩
        refine ⟨?_, b⟩
        by_cases hv2 : v < i
        · exact hv2
        · have : v = i := by omega
          subst this
          exact absurd b q
theorem cut_eq {σ τ μ : Nat → Int → Int} (hR : Rel σ τ μ) {p h : Int} (hp : 0 ≤ p ∧ p < σ 0 0) (hh : 0 ≤ h ∧ h < σ 4 0) : nCut σ (p * 20 + h) = mCut μ p h := by
  have hI := hR.iN
  have hca := (hR.2.2.2.2.2.2.2.2.1 p h hp.1 hp.2 hh.1 hh.2).2
  have e8 : σ 8 = μ 8 := hR.2.2.2.2.1.2.2.2.2.2.2.2.2
  have e13 : σ 13 = μ 10 := hR.2.2.2.2.2.1.2.2.2.2.1
  have h8 := hI.2.2.1
  unfold nCut mCut
  rw [← e8]
  refine fo_congr _ _ _ (fun w x h0 h1 => ?_)
  show nCutF σ (p * 20 + h) x w = mCutF μ p h x w
  have hb := (msk_bit σ p h (n := σ 8 0) h8 h0).2
  rw [show fo (nMskF σ p h) 0 (σ 8 0) = σ 17 (p * 20 + h) from hca.symm] at hb
  have hz := bitZ_s (σ 17 (p * 20 + h)) w (by omega)
  have hd := day_cut hR hp hh ⟨h0, h1⟩
  unfold nCutF mCutF
  rw [← e13]
  by_cases q : nBtw σ w p h
  · have hbit := hb.mpr ⟨h1, q⟩
    have hm := hd.mp q
    have hz2 : bitZ (σ 17 (p * 20 + h)) w ≠ 0 := by
      rcases hz with ⟨-, k⟩ | ⟨k, -⟩
      · rw [hbit] at k; cases k
      · omega
    by_cases g : x < σ 13 w
    · rw [if_pos ⟨hz2, g⟩, if_pos ⟨g, hm⟩]
    · rw [if_neg (fun k => g k.2), if_neg (fun k => g k.1)]
  · have hz2 : ¬ bitZ (σ 17 (p * 20 + h)) w ≠ 0 := by
      rcases hz with ⟨k, -⟩ | ⟨-, -, k⟩
      · omega
      · exact absurd (hb.mp k).2 q
    rw [if_neg (fun k => hz2 k.1), if_neg (fun k => q (hd.mpr k.2))]
theorem d2_eq {σ τ μ : Nat → Int → Int} (hR : Rel σ τ μ) (p h : Int) : d2Z σ p h = mD2 μ p h := by
  obtain ⟨-, -, -, -, ⟨e0, e1, e2, e3, e4, e5, e6, e7, e8⟩, -⟩ := hR
  unfold d2Z mD2
  rw [e1, e2, e5, e6]
theorem given_eq {σ τ μ : Nat → Int → Int} (hR : Rel σ τ μ) {p h : Int} (hp : 0 ≤ p ∧ p < σ 0 0) (hh : 0 ≤ h ∧ h < σ 4 0) (t : Int) : nGiven σ p h t = mGives μ p h t := by
  have hI := hR.iN
  have hca := (hR.2.2.2.2.2.2.2.2.1 p h hp.1 hp.2 hh.1 hh.2).1
  have e3 : σ 3 = μ 3 := hR.2.2.2.2.1.2.2.2.1
  have e14 : σ 14 = μ 11 := hR.2.2.2.2.2.1.2.2.2.2.2.1
  unfold nGiven mGives
  rw [cut_eq hR hp hh, hca, d2_eq hR, e14, e3, show p * 3 + t = 3 * p + t from by omega]
  by_cases z : μ 3 (3 * p + t) = 0
  · rw [if_pos z, z]
    have h1 := mCut_bd hR.iM p h
    have h2 := mul_bd (a := μ 11 0) (b := nDbl (mD2 μ p h)) hR.iM.2.2.2.1 (nDbl_bd _)
    have h3 := mxZ_s (0 - μ 11 0 * nDbl (mD2 μ p h) - mCut μ p h) 0
    omega
  · rw [if_neg z]
theorem part_eq {σ τ μ : Nat → Int → Int} (hR : Rel σ τ μ) {h : Int} (hh : 0 ≤ h ∧ h < σ 4 0) (t : Int) : nPart σ h t = mPart μ h t := by
  have e0 : σ 0 = μ 0 := hR.2.2.2.2.1.1
  unfold nPart mPart
  rw [← e0]
  refine fo_congr _ _ _ (fun p x h0 h1 => ?_)
  show nJoin x (nGiven σ p h t) = nJoin x (mGives μ p h t)
  rw [given_eq hR ⟨h0, h1⟩ hh]
theorem day_eq {σ τ μ : Nat → Int → Int} (hR : Rel σ τ μ) {h : Int} (hh : 0 ≤ h ∧ h < σ 4 0) : nDay σ h = mDay μ h := by
  have e15 : σ 15 = μ 12 := hR.2.2.2.2.2.1.2.2.2.2.2.2
  unfold nDay mDay
  refine fo_congr _ _ _ (fun t x h0 h1 => ?_)
  show nDayF σ h x t = mDayF μ h x t
  unfold nDayF mDayF
  rw [part_eq hR hh, e15]
theorem none_eq {σ τ μ : Nat → Int → Int} (hR : Rel σ τ μ) (lim : Int) : nNone σ lim = mNone μ lim := by
  have e4 : σ 4 = μ 4 := hR.2.2.2.2.1.2.2.2.2.1
  unfold nNone mNone
  rw [← e4]
  refine ft_congr _ _ _ _ _ (fun h h0 h1 => ⟨?_, fun _ => rfl⟩)
  rw [day_eq hR ⟨h0, h1⟩]
theorem rel_same {σ τ μ : Nat → Int → Int} (hR : Rel σ τ μ) : Rel σ τ μ := hR
theorem rel_gives {σ τ μ : Nat → Int → Int} (hR : Rel σ τ μ) (z1 z2 z3 : Int) (hz1 : I32 z1) (hz2 : I32 z2) (hz3 : I32 z3) : (if (0 ≤ z1 ∧ z1 < σ 0 0) ∧ (0 ≤ z2 ∧ z2 < σ 4 0) ∧ (0 ≤ z3 ∧ z3 ≤ 2) then nGiven σ z1 z2 z3 else -1) = (if (0 ≤ z1 ∧ z1 < μ 0 0) ∧ (0 ≤ z2 ∧ z2 < μ 4 0) ∧ (0 ≤ z3 ∧ z3 ≤ 2) then mGives μ z1 z2 z3 else -1) ∧ Rel (σ) (τ) (μ) := by
  have e0 : σ 0 = μ 0 := hR.2.2.2.2.1.1
  have e4 : σ 4 = μ 4 := hR.2.2.2.2.1.2.2.2.2.1
  exact ⟨if_both (by rw [e0, e4]) (fun h => given_eq hR h.1 h.2.1 _) (fun _ => rfl), hR⟩
theorem rel_level {σ τ μ : Nat → Int → Int} (hR : Rel σ τ μ) (z1 z2 : Int) (hz1 : I32 z1) (hz2 : I32 z2) : (if (0 ≤ z1 ∧ z1 < σ 4 0) ∧ (0 ≤ z2 ∧ z2 ≤ 3) then (if z2 = 3 then nDay σ z1 else nPart σ z1 z2) else -1) = (if (0 ≤ z1 ∧ z1 < μ 4 0) ∧ (0 ≤ z2 ∧ z2 ≤ 3) then (if z2 = 3 then mDay μ z1 else mPart μ z1 z2) else -1) ∧ Rel (σ) (τ) (μ) := by
  have e4 : σ 4 = μ 4 := hR.2.2.2.2.1.2.2.2.2.1
  exact ⟨if_both (by rw [e4]) (fun h => by rw [day_eq hR h.1, part_eq hR h.1]) (fun _ => rfl), hR⟩
theorem rel_people {σ τ μ : Nat → Int → Int} (hR : Rel σ τ μ) (z1 : Int) (hz1 : I32 z1) : (nPeople σ z1) = (mPeople μ z1) ∧ Rel (σ) (τ) (μ) := by
  have e4 : σ 4 = μ 4 := hR.2.2.2.2.1.2.2.2.2.1
  have e7 : σ 7 = μ 7 := hR.2.2.2.2.1.2.2.2.2.2.2.2.1
  refine ⟨?_, hR⟩
  unfold nPeople mPeople
  rw [← e4]
  refine fo_congr _ _ _ (fun h x h0 h1 => ?_)
  show nPeopleF σ z1 x h = mPeopleF μ z1 x h
  unfold nPeopleF mPeopleF
  rw [day_eq hR ⟨h0, h1⟩, e7]
theorem rel_loudest {σ τ μ : Nat → Int → Int} (hR : Rel σ τ μ) (z1 z2 : Int) (hz1 : I32 z1) (hz2 : I32 z2) : (if (0 ≤ z1 ∧ z1 < σ 4 0) ∧ (0 ≤ z2 ∧ z2 ≤ 2) then nLoud σ z1 z2 else -1) = (if (0 ≤ z1 ∧ z1 < μ 4 0) ∧ (0 ≤ z2 ∧ z2 ≤ 2) then mLoud μ z1 z2 else -1) ∧ Rel (σ) (τ) (μ) := by
  have e0 : σ 0 = μ 0 := hR.2.2.2.2.1.1
  have e4 : σ 4 = μ 4 := hR.2.2.2.2.1.2.2.2.2.1
  refine ⟨if_both (by rw [e4]) (fun h => ?_) (fun _ => rfl), hR⟩
  unfold nLoud mLoud
  rw [← e0, fo_congr (nLoudF σ z1 z2) (mLoudF μ z1 z2) _ (fun q x h0 h1 => ?_)]
  show nLoudF σ z1 z2 x q = mLoudF μ z1 z2 x q
  unfold nLoudF mLoudF
  rw [given_eq hR ⟨h0, h1⟩ h.1]
theorem nAhead_lt (g : Int → Int) {c h : Int} (hh : 0 ≤ h ∧ h < c) : nAhead g c h < c := by
  have := fo_inv (fun i x => 0 ≤ x ∧ x ≤ i ∧ (h < i → x < i)) (nAheadF g h) 0 (n := c) (by omega) (by omega) (fun i x h0 h1 hx => by
    unfold nAheadF
    by_cases q : i = h
    · subst q
      rw [if_neg (by omega)]
      omega
    · split <;> omega)
  exact this.2.2 hh.2
theorem rank_eq {σ τ μ : Nat → Int → Int} (hR : Rel σ τ μ) (z : Int) : nRank σ z = mRank μ z := by
  have e4 : σ 4 = μ 4 := hR.2.2.2.2.1.2.2.2.2.1
  unfold nRank mRank
  rw [← e4]
  refine ft_congr _ _ _ _ _ (fun h h0 h1 => ⟨?_, fun _ => rfl⟩)
  rw [nAhead_congr (g2 := mDay μ) ⟨h0, h1⟩ (fun k k0 k1 => day_eq hR ⟨k0, k1⟩)]
theorem rel_ranked {σ τ μ : Nat → Int → Int} (hR : Rel σ τ μ) (z1 : Int) (hz1 : I32 z1) {u : Int → Int} (hu : ∀ k, I32 (u k)) {u2 : Int → Int} (hu2 : ∀ k, I32 (u2 k)) : (if 0 ≤ z1 ∧ z1 < σ 4 0 then nRank σ z1 else -1) = (mRank μ z1) ∧ Rel ((su σ 18 u)) (τ) ((su μ 16 u2)) := by
  constructor
  · by_cases q : 0 ≤ z1 ∧ z1 < σ 4 0
    · rw [if_pos q, rank_eq hR]
    · rw [if_neg q, ← rank_eq hR]
      unfold nRank
      rw [ft_none _ _ _ (fun h h0 h1 => decide_eq_false (fun e => ?_))]
      have h4 := hR.iN.2.1
      have a := nAhead_lt (nDay σ) (c := σ 4 0) (h := h) ⟨h0, h1⟩
      have b := nAhead_bd (nDay σ) (σ 4 0) h h4.1
      omega
  · obtain ⟨a1, a2, a3, a4, a5, a6, a7, a8, a9, a10⟩ := hR
    exact ⟨inv_18 a1, a2, ivM_16 a3 hu2, hu, a5, a6, a7, a8, a9, a10⟩
/-- another cut of one wall -/
theorem rel_cut {σ τ μ : Nat → Int → Int} (hR : Rel σ τ μ) {g : Int → Int} (hg : ∀ k, 0 ≤ g k ∧ g k ≤ 300) : Rel (su σ 13 g) τ (su μ 10 g) := by
  obtain ⟨a1, a2, a3, a4, a5, ⟨b1, b2, b3, b4, b5, b6⟩, a7, a8, a9, a10⟩ := hR
  exact ⟨inv_13 a1 hg, a2, ivM_10 a3 hg, a4, a5, ⟨b1, b2, b3, b4, rfl, b6⟩, a7, a8, a9, a10⟩
theorem rel_needed {σ τ μ : Nat → Int → Int} (hR : Rel σ τ μ) (z1 z2 : Int) (hz1 : I32 z1) (hz2 : I32 z2) : (if 0 ≤ z1 ∧ z1 < σ 8 0 then nLeast σ z1 z2 else -1) = (if 0 ≤ z1 ∧ z1 < μ 8 0 then mLeast μ z1 z2 else -1) ∧ Rel (σ) (τ) (μ) := by
  have e8 : σ 8 = μ 8 := hR.2.2.2.2.1.2.2.2.2.2.2.2.2
  have e13 : σ 13 = μ 10 := hR.2.2.2.2.2.1.2.2.2.2.1
  refine ⟨if_both (by rw [e8]) (fun h => ?_) (fun _ => rfl), hR⟩
  have hI := hR.iN
  obtain ⟨-, -, -, -, -, -, -, -, -, -, -, -, -, -, hB13, -⟩ := hI
  unfold nLeast mLeast
  rw [← e13]
  refine ft_congr _ _ _ _ _ (fun j h0 h1 => ⟨?_, fun _ => rfl⟩)
  rw [none_eq (rel_cut hR (up_bd (i := z1) (v := 5 * j) hB13 (by omega)))]
theorem rel_shines {σ τ μ : Nat → Int → Int} (hR : Rel σ τ μ) (z1 : Int) (hz1 : I32 z1) : (if z1 < 0 then -1 else lFrom τ z1) = (if z1 < 0 then -1 else lFrom (vL μ) z1) ∧ Rel (σ) (τ) (μ) := by
  rw [lFrom_eq (tau_eq hR).1]
  exact ⟨rfl, hR⟩
theorem rel_at {σ τ μ : Nat → Int → Int} (hR : Rel σ τ μ) (z1 z2 z3 : Int) (hz1 : I32 z1) (hz2 : I32 z2) (hz3 : I32 z3) : (if (0 ≤ z1 ∧ z1 ≤ τ 3 0) ∧ (10 ≤ z2 ∧ z2 ≤ 600) ∧ (0 ≤ z3 ∧ z3 ≤ 23) then lAt τ z1 z2 * τ 1 z3 / 100 else -1) = (if (0 ≤ z1 ∧ z1 ≤ μ 14 0) ∧ (10 ≤ z2 ∧ z2 ≤ 600) ∧ (0 ≤ z3 ∧ z3 ≤ 23) then lAt (vL μ) z1 z2 * μ 15 z3 / 100 else -1) ∧ Rel (σ) (τ) (μ) := by
  obtain ⟨t0, t1, t3⟩ := tau_eq hR
  have t1 : τ 1 = μ 15 := t1
  rw [lAt_eq t0 t3, t1, show τ 3 = μ 14 from t3]
  exact ⟨rfl, hR⟩
theorem rel_row {σ τ μ : Nat → Int → Int} (hR : Rel σ τ μ) (z1 z2 : Int) (hz1 : I32 z1) (hz2 : I32 z2) {u : Int → Int} (hu : ∀ k, 0 ≤ u k ∧ u k ≤ 7000000) : (if (10 ≤ z1 ∧ z1 ≤ 600) ∧ (0 ≤ z2 ∧ z2 ≤ 3) then (if z2 = 0 then rLst τ z1 else if z2 = 1 then rMean τ z1 100 else if z2 = 2 then rEven τ z1 else τ 3 0 / z1 + 1) else -1) = (if (10 ≤ z1 ∧ z1 ≤ 600) ∧ (0 ≤ z2 ∧ z2 ≤ 3) then (if z2 = 0 then rLst (vL μ) z1 else if z2 = 1 then rMean (vL μ) z1 100 else if z2 = 2 then rEven (vL μ) z1 else μ 14 0 / z1 + 1) else -1) ∧ Rel (σ) ((su τ 2 u)) (μ) := by
  obtain ⟨t0, t1, t3⟩ := tau_eq hR
  rw [rLst_eq t0 t3, rMean_eq t0 t3, rEven_eq t0 t3, show τ 3 = μ 14 from t3]
  obtain ⟨a1, a2, a3⟩ := hR
  exact ⟨rfl, a1, invL_2 a2 hu, a3⟩
theorem rel_spacing {σ τ μ : Nat → Int → Int} (hR : Rel σ τ μ) (z1 z2 : Int) (hz1 : I32 z1) (hz2 : I32 z2) {u : Int → Int} (hu : ∀ k, 0 ≤ u k ∧ u k ≤ 7000000) : (lWide τ z1 z2) = (lWide (vL μ) z1 z2) ∧ Rel (σ) ((su τ 2 u)) (μ) := by
  obtain ⟨t0, t1, t3⟩ := tau_eq hR
  constructor
  · unfold lWide
    refine ft_congr _ _ _ _ _ (fun j h0 h1 => ⟨?_, fun _ => rfl⟩)
    rw [rMean_eq t0 t3, rEven_eq t0 t3]
  · obtain ⟨a1, a2, a3⟩ := hR
    exact ⟨a1, invL_2 a2 hu, a3⟩
theorem rel_dark {σ τ μ : Nat → Int → Int} (hR : Rel σ τ μ) (z1 z2 : Int) (hz1 : I32 z1) (hz2 : I32 z2) {u : Int → Int} (hu : ∀ k, 0 ≤ u k ∧ u k ≤ 7000000) : (if 10 ≤ z1 ∧ z1 ≤ 600 then lDark τ z1 z2 else -1) = (if 10 ≤ z1 ∧ z1 ≤ 600 then lDark (vL μ) z1 z2 else -1) ∧ Rel (σ) ((su τ 2 u)) (μ) := by
  obtain ⟨t0, t1, t3⟩ := tau_eq hR
  constructor
  · have e : lDark τ z1 z2 = lDark (vL μ) z1 z2 := by
      unfold lDark
      refine fo_congr _ _ _ (fun h x h0 h1 => ?_)
      show lDarkF τ z1 z2 x h = lDarkF (vL μ) z1 z2 x h
      unfold lDarkF
      rw [rMean_eq t0 t3, t1]
    rw [e]
  · obtain ⟨a1, a2, a3⟩ := hR
    exact ⟨a1, invL_2 a2 hu, a3⟩
theorem rel_drop {σ τ μ : Nat → Int → Int} (hR : Rel σ τ μ) (z1 z2 z3 : Int) (hz1 : I32 z1) (hz2 : I32 z2) (hz3 : I32 z3) : (if (10 ≤ z1 ∧ z1 ≤ 600) ∧ (0 ≤ z2 ∧ z2 ≤ 20000) ∧ (0 ≤ z3 ∧ z3 ≤ 10000) then lMv τ z1 z2 z3 else -1) = (if (10 ≤ z1 ∧ z1 ≤ 600) ∧ (0 ≤ z2 ∧ z2 ≤ 20000) ∧ (0 ≤ z3 ∧ z3 ≤ 10000) then lMv (vL μ) z1 z2 z3 else -1) ∧ Rel (σ) (τ) (μ) := by
  rw [lMv_eq (tau_eq hR).2.2]
  exact ⟨rfl, hR⟩
theorem rel_wired {σ τ μ : Nat → Int → Int} (hR : Rel σ τ μ) (z1 z2 z3 : Int) (hz1 : I32 z1) (hz2 : I32 z2) (hz3 : I32 z3) : (if (0 ≤ z1 ∧ z1 ≤ 20000) ∧ (0 ≤ z2 ∧ z2 ≤ 10000) then lWired τ z1 z2 z3 else -1) = (if (0 ≤ z1 ∧ z1 ≤ 20000) ∧ (0 ≤ z2 ∧ z2 ≤ 10000) then lWired (vL μ) z1 z2 z3 else -1) ∧ Rel (σ) (τ) (μ) := by
  have e : lWired τ z1 z2 z3 = lWired (vL μ) z1 z2 z3 := by
    unfold lWired
    refine ft_congr _ _ _ _ _ (fun j h0 h1 => ⟨?_, fun _ => rfl⟩)
    rw [lMv_eq (tau_eq hR).2.2]
  rw [e]
  exact ⟨rfl, hR⟩
theorem rel_count {σ τ μ : Nat → Int → Int} (hR : Rel σ τ μ) (z1 : Int) (hz1 : I32 z1) : (if z1 = 0 then σ 0 0 else if z1 = 1 then σ 4 0 else if z1 = 2 then σ 8 0 else if z1 = 3 then nAll σ else if z1 = 4 then lLit τ else if z1 = 5 then τ 3 0 else -1) = (if z1 = 0 then μ 0 0 else if z1 = 1 then μ 4 0 else if z1 = 2 then μ 8 0 else if z1 = 3 then fo (fun n h => n + μ 7 h) 0 (μ 4 0) else if z1 = 4 then lLit (vL μ) else if z1 = 5 then μ 14 0 else -1) ∧ Rel (σ) (τ) (μ) := by
  obtain ⟨t0, t1, t3⟩ := tau_eq hR
  have e5 : lLit τ = lLit (vL μ) := by
    unfold lLit
    refine fo_congr _ _ _ (fun h x h0 h1 => ?_)
    show lLitF τ x h = lLitF (vL μ) x h
    unfold lLitF
    rw [t0]
  have e6 : nAll σ = fo (fun n h => n + μ 7 h) 0 (μ 4 0) := by
    unfold nAll
    rw [hR.2.2.2.2.1.2.2.2.2.2.2.2.1, hR.2.2.2.2.1.2.2.2.2.1]
  rw [e5, e6, hR.2.2.2.2.1.1, hR.2.2.2.2.1.2.2.2.2.1, hR.2.2.2.2.1.2.2.2.2.2.2.2.2, show τ 3 = μ 14 from t3]
  exact ⟨rfl, hR⟩
theorem rel_fall {σ τ μ : Nat → Int → Int} (hR : Rel σ τ μ) (z1 : Int) (hz1 : I32 z1) : (if 0 ≤ z1 ∧ z1 ≤ 60 then σ 14 0 else -1) = (if 0 ≤ z1 ∧ z1 ≤ 60 then μ 11 0 else -1) ∧ Rel ((if 0 ≤ z1 ∧ z1 ≤ 60 then su σ 14 (fun _ => z1) else σ)) (τ) ((if 0 ≤ z1 ∧ z1 ≤ 60 then su μ 11 (fun _ => z1) else μ)) := by
  by_cases q : 0 ≤ z1 ∧ z1 ≤ 60
  · simp only [if_pos q]
    obtain ⟨a1, a2, a3, a4, a5, ⟨b1, b2, b3, b4, b5, b6, b7⟩, a7, a8, a9, a10⟩ := hR
    exact ⟨by rw [b6], inv_14 a1 q, a2, ivM_11 a3 q, a4, a5, ⟨b1, b2, b3, b4, b5, rfl, b7⟩, a7, a8, a9, a10⟩
  · simp only [if_neg q]
    exact ⟨trivial, hR⟩
theorem rel_malus {σ τ μ : Nat → Int → Int} (hR : Rel σ τ μ) (z1 z2 : Int) (hz1 : I32 z1) (hz2 : I32 z2) : (if (0 ≤ z1 ∧ z1 ≤ 2) ∧ (0 ≤ z2 ∧ z2 ≤ 200) then σ 15 z1 else -1) = (if (0 ≤ z1 ∧ z1 ≤ 2) ∧ (0 ≤ z2 ∧ z2 ≤ 200) then μ 12 z1 else -1) ∧ Rel ((if (0 ≤ z1 ∧ z1 ≤ 2) ∧ (0 ≤ z2 ∧ z2 ≤ 200) then su σ 15 (up (σ 15) z1 z2) else σ)) (τ) ((if (0 ≤ z1 ∧ z1 ≤ 2) ∧ (0 ≤ z2 ∧ z2 ≤ 200) then su μ 12 (up (μ 12) z1 z2) else μ)) := by
  by_cases q : (0 ≤ z1 ∧ z1 ≤ 2) ∧ (0 ≤ z2 ∧ z2 ≤ 200)
  · simp only [if_pos q]
    obtain ⟨a1, a2, a3, a4, a5, ⟨b1, b2, b3, b4, b5, b6, b7⟩, a7, a8, a9, a10⟩ := hR
    have hm : ∀ k, 0 ≤ μ 12 k ∧ μ 12 k ≤ 200 := a3.2.2.2.2.2.2.2.2.2.2.2.2.2.1
    rw [b7]
    exact ⟨rfl, inv_15 a1 (up_bd hm q.2), a2, ivM_12 a3 (up_bd hm q.2), a4, a5, ⟨b1, b2, b3, b4, b5, b6, rfl⟩, a7, a8, a9, a10⟩
  · simp only [if_neg q]
    exact ⟨trivial, hR⟩
theorem rel_recut {σ τ μ : Nat → Int → Int} (hR : Rel σ τ μ) (z1 z2 : Int) (hz1 : I32 z1) (hz2 : I32 z2) : (if (0 ≤ z1 ∧ z1 < σ 8 0) ∧ (0 ≤ z2 ∧ z2 ≤ 300) then σ 13 z1 else -1) = (if (0 ≤ z1 ∧ z1 < μ 8 0) ∧ (0 ≤ z2 ∧ z2 ≤ 300) then μ 10 z1 else -1) ∧ Rel ((if (0 ≤ z1 ∧ z1 < σ 8 0) ∧ (0 ≤ z2 ∧ z2 ≤ 300) then su σ 13 (up (σ 13) z1 z2) else σ)) (τ) ((if (0 ≤ z1 ∧ z1 < μ 8 0) ∧ (0 ≤ z2 ∧ z2 ≤ 300) then su μ 10 (up (μ 10) z1 z2) else μ)) := by
  have e8 : σ 8 = μ 8 := hR.2.2.2.2.1.2.2.2.2.2.2.2.2
  have e13 : σ 13 = μ 10 := hR.2.2.2.2.2.1.2.2.2.2.1
  have hm : ∀ k, 0 ≤ μ 10 k ∧ μ 10 k ≤ 300 := hR.iM.2.2.2.2.2.2.2.2.2.2.2.2.1
  rw [← e8]
  by_cases q : (0 ≤ z1 ∧ z1 < σ 8 0) ∧ (0 ≤ z2 ∧ z2 ≤ 300)
  · simp only [if_pos q]
    rw [e13]
    exact ⟨rfl, rel_cut hR (up_bd hm q.2)⟩
  · simp only [if_neg q]
    exact ⟨trivial, hR⟩
theorem rel_lamp {σ τ μ : Nat → Int → Int} (hR : Rel σ τ μ) (z1 z2 : Int) (hz1 : I32 z1) (hz2 : I32 z2) : (if (0 ≤ z1 ∧ z1 ≤ 300) ∧ z1 % 10 = 0 ∧ (0 ≤ z2 ∧ z2 ≤ 100000) then τ 0 (z1 / 10) else -1) = (if (0 ≤ z1 ∧ z1 ≤ 300) ∧ z1 % 10 = 0 ∧ (0 ≤ z2 ∧ z2 ≤ 100000) then μ 13 (z1 / 10) else -1) ∧ Rel (σ) ((if (0 ≤ z1 ∧ z1 ≤ 300) ∧ z1 % 10 = 0 ∧ (0 ≤ z2 ∧ z2 ≤ 100000) then su τ 0 (up (τ 0) (z1 / 10) z2) else τ)) ((if (0 ≤ z1 ∧ z1 ≤ 300) ∧ z1 % 10 = 0 ∧ (0 ≤ z2 ∧ z2 ≤ 100000) then su μ 13 (up (μ 13) (z1 / 10) z2) else μ)) := by
  by_cases q : (0 ≤ z1 ∧ z1 ≤ 300) ∧ z1 % 10 = 0 ∧ (0 ≤ z2 ∧ z2 ≤ 100000)
  · simp only [if_pos q]
    obtain ⟨a1, a2, a3, a4, a5, a6, ⟨b1, b2, b3⟩, a8, a9, a10⟩ := hR
    have hm : ∀ k, 0 ≤ μ 13 k ∧ μ 13 k ≤ 100000 := a3.2.2.2.2.2.2.2.2.2.2.2.2.2.2.1
    rw [b1]
    exact ⟨rfl, a1, invL_0 a2 (up_bd hm q.2.2), ivM_13 a3 (up_bd hm q.2.2), a4, a5, a6, ⟨rfl, b2, b3⟩, a8, a9, a10⟩
  · simp only [if_neg q]
    exact ⟨trivial, hR⟩
theorem rel_road {σ τ μ : Nat → Int → Int} (hR : Rel σ τ μ) (z1 : Int) (hz1 : I32 z1) : (if 0 ≤ z1 ∧ z1 ≤ 5000 then τ 3 0 else -1) = (if 0 ≤ z1 ∧ z1 ≤ 5000 then μ 14 0 else -1) ∧ Rel (σ) ((if 0 ≤ z1 ∧ z1 ≤ 5000 then su τ 3 (fun _ => z1) else τ)) ((if 0 ≤ z1 ∧ z1 ≤ 5000 then su μ 14 (fun _ => z1) else μ)) := by
  by_cases q : 0 ≤ z1 ∧ z1 ≤ 5000
  · simp only [if_pos q]
    obtain ⟨a1, a2, a3, a4, a5, a6, ⟨b1, b2, b3⟩, a8, a9, a10⟩ := hR
    exact ⟨by rw [b3], a1, invL_3 a2 q, ivM_14 a3 q, a4, a5, a6, ⟨b1, b2, rfl⟩, a8, a9, a10⟩
  · simp only [if_neg q]
    exact ⟨trivial, hR⟩
theorem rel_dim {σ τ μ : Nat → Int → Int} (hR : Rel σ τ μ) (z1 z2 : Int) (hz1 : I32 z1) (hz2 : I32 z2) : (if (0 ≤ z1 ∧ z1 ≤ 23) ∧ (0 ≤ z2 ∧ z2 ≤ 100) then τ 1 z1 else -1) = (if (0 ≤ z1 ∧ z1 ≤ 23) ∧ (0 ≤ z2 ∧ z2 ≤ 100) then μ 15 z1 else -1) ∧ Rel (σ) ((if (0 ≤ z1 ∧ z1 ≤ 23) ∧ (0 ≤ z2 ∧ z2 ≤ 100) then su τ 1 (up (τ 1) z1 z2) else τ)) ((if (0 ≤ z1 ∧ z1 ≤ 23) ∧ (0 ≤ z2 ∧ z2 ≤ 100) then su μ 15 (up (μ 15) z1 z2) else μ)) := by
  by_cases q : (0 ≤ z1 ∧ z1 ≤ 23) ∧ (0 ≤ z2 ∧ z2 ≤ 100)
  · simp only [if_pos q]
    obtain ⟨a1, a2, a3, a4, a5, a6, ⟨b1, b2, b3⟩, a8, a9, a10⟩ := hR
    have hm : ∀ k, 0 ≤ μ 15 k ∧ μ 15 k ≤ 100 := a3.2.2.2.2.2.2.2.2.2.2.2.2.2.2.2.1
    rw [b2]
    exact ⟨rfl, a1, invL_1 a2 (up_bd hm q.2), ivM_15 a3 (up_bd hm q.2), a4, a5, a6, ⟨b1, rfl, b3⟩, a8, a9, a10⟩
  · simp only [if_neg q]
    exact ⟨trivial, hR⟩
