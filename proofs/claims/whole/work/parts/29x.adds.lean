/-! additions: a piece, a house, a wall -/
theorem btw_congr {σ ρ : Nat → Int → Int} {w p h : Int} (h1 : ρ 1 p = σ 1 p) (h2 : ρ 2 p = σ 2 p) (h5 : ρ 5 h = σ 5 h) (h6 : ρ 6 h = σ 6 h) (h9 : ρ 9 w = σ 9 w) (h10 : ρ 10 w = σ 10 w) (h11 : ρ 11 w = σ 11 w) (h12 : ρ 12 w = σ 12 w) : nBtw ρ w p h ↔ nBtw σ w p h := by
  unfold nBtw
  rw [h1, h2, h5, h6, h9, h10, h11, h12]
theorem msk_congr {σ ρ : Nat → Int → Int} {p h n m : Int} (hb : ∀ w, 0 ≤ w → w < n → (nBtw ρ w p h ↔ nBtw σ w p h)) : fo (nMskF ρ p h) m n = fo (nMskF σ p h) m n := by
  refine fo_congr _ _ _ (fun w x h0 h1 => ?_)
  show nMskF ρ p h x w = nMskF σ p h x w
  unfold nMskF
  have := hb w h0 h1
  by_cases q : nBtw σ w p h
  · rw [if_pos q, if_pos (this.mpr q)]
  · rw [if_neg q, if_neg (fun z => q (this.mp z))]
theorem nMea_row (σ : Nat → Int → Int) (ρ : Nat → Int → Int) (n c : Int) (hc : 0 ≤ c) : (∀ k, fo (fun d h => nMeaD ρ n h d) (σ 16) c k = if n * 20 ≤ k ∧ k < n * 20 + c then nDbl (d2Z ρ n (k - n * 20)) else σ 16 k) ∧ (∀ k, fo (fun d h => nMeaB ρ n h d) (σ 17) c k = if n * 20 ≤ k ∧ k < n * 20 + c then nMsk ρ n (k - n * 20) (σ 17 k) else σ 17 k) := by
  constructor
  · refine fo_inv (fun i (d : Int → Int) => ∀ k, d k = if n * 20 ≤ k ∧ k < n * 20 + i then nDbl (d2Z ρ n (k - n * 20)) else σ 16 k) _ _ hc (fun k => by rw [if_neg (by omega)]) (fun i d h0 h1 hd k => ?_)
    show up d (n * 20 + i) (nDbl (d2Z ρ n i)) k = _
    by_cases q : k = n * 20 + i
    · rw [q, up_s, if_pos (by omega), show n * 20 + i - n * 20 = i from by omega]
    · rw [up_n _ _ q, hd k]
      by_cases z : n * 20 ≤ k ∧ k < n * 20 + i
      · rw [if_pos z, if_pos (by omega)]
      · rw [if_neg z, if_neg (by omega)]
  · refine fo_inv (fun i (d : Int → Int) => ∀ k, d k = if n * 20 ≤ k ∧ k < n * 20 + i then nMsk ρ n (k - n * 20) (σ 17 k) else σ 17 k) _ _ hc (fun k => by rw [if_neg (by omega)]) (fun i d h0 h1 hd k => ?_)
    show up d (n * 20 + i) (nMsk ρ n i (d (n * 20 + i))) k = _
    by_cases q : k = n * 20 + i
    · rw [q, up_s, if_pos (by omega), show n * 20 + i - n * 20 = i from by omega, hd, if_neg (by omega)]
    · rw [up_n _ _ q, hd k]
      by_cases z : n * 20 ≤ k ∧ k < n * 20 + i
      · rw [if_pos z, if_pos (by omega)]
      · rw [if_neg z, if_neg (by omega)]
theorem nMea_col (σ : Nat → Int → Int) (ρ : Nat → Int → Int) (n c : Int) (hc : 0 ≤ c) : (∀ k, fo (fun d p => nMeaD ρ p n d) (σ 16) c k = if (k - n) % 20 = 0 ∧ 0 ≤ (k - n) / 20 ∧ (k - n) / 20 < c then nDbl (d2Z ρ ((k - n) / 20) n) else σ 16 k) ∧ (∀ k, fo (fun d p => nMeaB ρ p n d) (σ 17) c k = if (k - n) % 20 = 0 ∧ 0 ≤ (k - n) / 20 ∧ (k - n) / 20 < c then nMsk ρ ((k - n) / 20) n (σ 17 k) else σ 17 k) := by
  constructor
  · refine fo_inv (fun i (d : Int → Int) => ∀ k, d k = if (k - n) % 20 = 0 ∧ 0 ≤ (k - n) / 20 ∧ (k - n) / 20 < i then nDbl (d2Z ρ ((k - n) / 20) n) else σ 16 k) _ _ hc (fun k => by rw [if_neg (by omega)]) (fun i d h0 h1 hd k => ?_)
    show up d (i * 20 + n) (nDbl (d2Z ρ i n)) k = _
    by_cases q : k = i * 20 + n
    · rw [q, up_s, if_pos (by omega), show (i * 20 + n - n) / 20 = i from by omega]
    · rw [up_n _ _ q, hd k]
      by_cases z : (k - n) % 20 = 0 ∧ 0 ≤ (k - n) / 20 ∧ (k - n) / 20 < i
      · rw [if_pos z, if_pos (by omega)]
      · rw [if_neg z, if_neg (by omega)]
  · refine fo_inv (fun i (d : Int → Int) => ∀ k, d k = if (k - n) % 20 = 0 ∧ 0 ≤ (k - n) / 20 ∧ (k - n) / 20 < i then nMsk ρ ((k - n) / 20) n (σ 17 k) else σ 17 k) _ _ hc (fun k => by rw [if_neg (by omega)]) (fun i d h0 h1 hd k => ?_)
    show up d (i * 20 + n) (nMsk ρ i n (d (i * 20 + n))) k = _
    by_cases q : k = i * 20 + n
    · rw [q, up_s, if_pos (by omega), show (i * 20 + n - n) / 20 = i from by omega, hd, if_neg (by omega)]
    · rw [up_n _ _ q, hd k]
      by_cases z : (k - n) % 20 = 0 ∧ 0 ≤ (k - n) / 20 ∧ (k - n) / 20 < i
      · rw [if_pos z, if_pos (by omega)]
      · rw [if_neg z, if_neg (by omega)]
theorem mea_bd {ρ : Nat → Int → Int} (hI : invN ρ) {d0 m0 : Int → Int} (hd : ∀ k, 0 ≤ d0 k ∧ d0 k ≤ 10) (hm : ∀ k, 0 ≤ m0 k ∧ m0 k < 256) (n c : Int) (hc : 0 ≤ c) : (∀ k, 0 ≤ fo (fun d h => nMeaD ρ n h d) d0 c k ∧ fo (fun d h => nMeaD ρ n h d) d0 c k ≤ 10) ∧ (∀ k, 0 ≤ fo (fun d h => nMeaB ρ n h d) m0 c k ∧ fo (fun d h => nMeaB ρ n h d) m0 c k < 256) ∧ (∀ k, 0 ≤ fo (fun d h => nMeaD ρ h n d) d0 c k ∧ fo (fun d h => nMeaD ρ h n d) d0 c k ≤ 10) ∧ (∀ k, 0 ≤ fo (fun d h => nMeaB ρ h n d) m0 c k ∧ fo (fun d h => nMeaB ρ h n d) m0 c k < 256) := by
  refine ⟨?_, ?_, ?_, ?_⟩
  · exact fo_inv (fun _ (d : Int → Int) => ∀ k, 0 ≤ d k ∧ d k ≤ 10) _ _ hc hd (fun i d _ _ h => up_bd h (nDbl_bd _))
  · exact fo_inv (fun _ (d : Int → Int) => ∀ k, 0 ≤ d k ∧ d k < 256) _ _ hc hm (fun i d _ _ h => up_bl h (nMsk_bd hI _ _ (h _)))
  · exact fo_inv (fun _ (d : Int → Int) => ∀ k, 0 ≤ d k ∧ d k ≤ 10) _ _ hc hd (fun i d _ _ h => up_bd h (nDbl_bd _))
  · exact fo_inv (fun _ (d : Int → Int) => ∀ k, 0 ≤ d k ∧ d k < 256) _ _ hc hm (fun i d _ _ h => up_bl h (nMsk_bd hI _ _ (h _)))
/-- one more piece -/
theorem add_p {σ τ μ : Nat → Int → Int} (hR : Rel σ τ μ) {x y a b t : Int} (hn : σ 0 0 < 12) (hx : -5000 ≤ x ∧ x ≤ 5000) (hy : -5000 ≤ y ∧ y ≤ 5000) (ha : 0 ≤ a ∧ a ≤ 1200) (hb : 0 ≤ b ∧ b ≤ 1200) (ht : 0 ≤ t ∧ t ≤ 1200) : Rel (nAddP σ x y a b t) τ (mPutP μ x y a b t) := by
  obtain ⟨a1, a2, a3, a4, ⟨e0, e1, e2, e3, e4, e5, e6, e7, e8⟩, a6, a7, a8, a9, a10⟩ := hR
  obtain ⟨hN0, hN4, hN8, hN14, hB1, hB2, hB3, hB5, hB6, hB7, hB9, hB10, hB11, hB12, hB13, hB15, hB16, hB17⟩ := id a1
  have hIp : invN (nPutP σ x y a b t) := inv_3 (inv_2 (inv_1 (inv_0 (g := fun _ => σ 0 0 + 1) a1 (by omega)) (up_bd (i := σ 0 0) hB1 hx)) (up_bd (i := σ 0 0) hB2 hy)) (up_bd (i := σ 0 0 * 3 + 2) (up_bd (i := σ 0 0 * 3 + 1) (up_bd (i := σ 0 0 * 3) hB3 ha) hb) ht)
  have hbd := mea_bd hIp hB16 hB17 (σ 0 0) (σ 4 0) hN4.1
  obtain ⟨rD, rB⟩ := nMea_row σ (nPutP σ x y a b t) (σ 0 0) (σ 4 0) hN4.1
  have hM : invM (mPutP μ x y a b t) := by
    have m0 : σ 0 0 = μ 0 0 := by rw [e0]
    have hm3 : ∀ k, 0 ≤ μ 3 k ∧ μ 3 k ≤ 1200 := by rw [← e3]; exact hB3
    exact ivM_0 (ivM_3 (ivM_2 (ivM_1 a3 (up_bd (by rw [← e1]; exact hB1) hx)) (up_bd (by rw [← e2]; exact hB2) hy)) (up_bd (up_bd (up_bd hm3 ha) hb) ht)) (by omega)
  unfold nAddP
  rw [if_neg (by omega)]
  have old1 : ∀ p, p < σ 0 0 → up (σ 1) (σ 0 0) x p = σ 1 p := fun p hp => up_n _ _ (by omega)
  have old2 : ∀ p, p < σ 0 0 → up (σ 2) (σ 0 0) y p = σ 2 p := fun p hp => up_n _ _ (by omega)
  refine ⟨inv_17 (inv_16 hIp hbd.1) hbd.2.1, a2, hM, a4, ⟨?_, ?_, ?_, ?_, e4, e5, e6, e7, e8⟩, a6, a7, a8, ?_, ?_⟩
  · show (fun _ : Int => σ 0 0 + 1) = fun _ => μ 0 0 + 1
    rw [e0]
  · show up (σ 1) (σ 0 0) x = up (μ 1) (μ 0 0) x
    rw [e0, e1]
  · show up (σ 2) (σ 0 0) y = up (μ 2) (μ 0 0) y
    rw [e0, e2]
  · show up (up (up (σ 3) (σ 0 0 * 3) a) (σ 0 0 * 3 + 1) b) (σ 0 0 * 3 + 2) t = up (up (up (μ 3) (3 * μ 0 0) a) (3 * μ 0 0 + 1) b) (3 * μ 0 0 + 2) t
    rw [e0, e3, Int.mul_comm]
  · intro p h p0 p1 h0 h1
    have p1 : p < σ 0 0 + 1 := p1
    have h1 : h < σ 4 0 := h1
    show fo (fun d h => nMeaD (nPutP σ x y a b t) (σ 0 0) h d) (σ 16) (σ 4 0) (p * 20 + h) = nDbl (d2Z (nPutP σ x y a b t) p h) ∧ fo (fun m h => nMeaB (nPutP σ x y a b t) (σ 0 0) h m) (σ 17) (σ 4 0) (p * 20 + h) = nMsk (nPutP σ x y a b t) p h 0
    rw [rD, rB]
    by_cases q : p = σ 0 0
    · rw [if_pos (by omega), if_pos (by omega), show p * 20 + h - σ 0 0 * 20 = h from by omega, ← q, a10 p h p0 (by omega) h0 (by omega) (Or.inl (by omega))]
      exact ⟨rfl, rfl⟩
    · have hp : p < σ 0 0 := by omega
      rw [if_neg (by omega), if_neg (by omega)]
      obtain ⟨c1, c2⟩ := a9 p h p0 hp h0 h1
      refine ⟨c1.trans ?_, c2.trans ?_⟩
      · show nDbl (d2Z σ p h) = nDbl ((up (σ 1) (σ 0 0) x p - σ 5 h) * (up (σ 1) (σ 0 0) x p - σ 5 h) + (up (σ 2) (σ 0 0) y p - σ 6 h) * (up (σ 2) (σ 0 0) y p - σ 6 h))
        rw [old1 p hp, old2 p hp]
        rfl
      · exact (msk_congr (ρ := nPutP σ x y a b t) (fun w w0 w1 => btw_congr (σ := σ) (ρ := nPutP σ x y a b t) (p := p) (h := h) (w := w) (old1 p hp) (old2 p hp) rfl rfl rfl rfl rfl rfl)).symm
  · intro p h p0 p1 h0 h1 hc
    have hc : σ 0 0 + 1 ≤ p ∨ σ 4 0 ≤ h := hc
    show fo (fun m h => nMeaB (nPutP σ x y a b t) (σ 0 0) h m) (σ 17) (σ 4 0) (p * 20 + h) = 0
    rw [rB, if_neg (by omega)]
    exact a10 p h p0 p1 h0 h1 (by omega)
/-- one more house -/
theorem add_h {σ τ μ : Nat → Int → Int} (hR : Rel σ τ μ) {x y n : Int} (hn : σ 4 0 < 20) (hx : -5000 ≤ x ∧ x ≤ 5000) (hy : -5000 ≤ y ∧ y ≤ 5000) (ha : 0 ≤ n ∧ n ≤ 1000) : Rel (nAddH σ x y n) τ (mPutH μ x y n) := by
  obtain ⟨a1, a2, a3, a4, ⟨e0, e1, e2, e3, e4, e5, e6, e7, e8⟩, a6, a7, a8, a9, a10⟩ := hR
  obtain ⟨hN0, hN4, hN8, hN14, hB1, hB2, hB3, hB5, hB6, hB7, hB9, hB10, hB11, hB12, hB13, hB15, hB16, hB17⟩ := id a1
  have hIp : invN (nPutH σ x y n) := inv_7 (inv_6 (inv_5 (inv_4 (g := fun _ => σ 4 0 + 1) a1 (by omega)) (up_bd (i := σ 4 0) hB5 hx)) (up_bd (i := σ 4 0) hB6 hy)) (up_bd (i := σ 4 0) hB7 ha)
  have hbd := mea_bd hIp hB16 hB17 (σ 4 0) (σ 0 0) hN0.1
  obtain ⟨rD, rB⟩ := nMea_col σ (nPutH σ x y n) (σ 4 0) (σ 0 0) hN0.1
  have hM : invM (mPutH μ x y n) := by
    have m0 : σ 4 0 = μ 4 0 := by rw [e4]
    exact ivM_4 (ivM_7 (ivM_6 (ivM_5 a3 (up_bd (by rw [← e5]; exact hB5) hx)) (up_bd (by rw [← e6]; exact hB6) hy)) (up_bd (by rw [← e7]; exact hB7) ha)) (by omega)
  unfold nAddH
  rw [if_neg (by omega)]
  have old5 : ∀ p, p < σ 4 0 → up (σ 5) (σ 4 0) x p = σ 5 p := fun p hp => up_n _ _ (by omega)
  have old6 : ∀ p, p < σ 4 0 → up (σ 6) (σ 4 0) y p = σ 6 p := fun p hp => up_n _ _ (by omega)
  refine ⟨inv_17 (inv_16 hIp hbd.2.2.1) hbd.2.2.2, a2, hM, a4, ⟨e0, e1, e2, e3, ?_, ?_, ?_, ?_, e8⟩, a6, a7, a8, ?_, ?_⟩
  · show (fun _ : Int => σ 4 0 + 1) = fun _ => μ 4 0 + 1
    rw [e4]
  · show up (σ 5) (σ 4 0) x = up (μ 5) (μ 4 0) x
    rw [e4, e5]
  · show up (σ 6) (σ 4 0) y = up (μ 6) (μ 4 0) y
    rw [e4, e6]
  · show up (σ 7) (σ 4 0) n = up (μ 7) (μ 4 0) n
    rw [e4, e7]
  · intro p h p0 p1 h0 h1
    have p1 : p < σ 0 0 := p1
    have h1 : h < σ 4 0 + 1 := h1
    show fo (fun d p => nMeaD (nPutH σ x y n) p (σ 4 0) d) (σ 16) (σ 0 0) (p * 20 + h) = nDbl (d2Z (nPutH σ x y n) p h) ∧ fo (fun m p => nMeaB (nPutH σ x y n) p (σ 4 0) m) (σ 17) (σ 0 0) (p * 20 + h) = nMsk (nPutH σ x y n) p h 0
    rw [rD, rB]
    by_cases q : h = σ 4 0
    · rw [if_pos (by omega), if_pos (by omega), show (p * 20 + h - σ 4 0) / 20 = p from by omega, ← q, a10 p h p0 (by omega) h0 (by omega) (Or.inr (by omega))]
      exact ⟨rfl, rfl⟩
    · have hp : h < σ 4 0 := by omega
      rw [if_neg (by omega), if_neg (by omega)]
      obtain ⟨c1, c2⟩ := a9 p h p0 p1 h0 hp
      refine ⟨c1.trans ?_, c2.trans ?_⟩
      · show nDbl (d2Z σ p h) = nDbl ((σ 1 p - up (σ 5) (σ 4 0) x h) * (σ 1 p - up (σ 5) (σ 4 0) x h) + (σ 2 p - up (σ 6) (σ 4 0) y h) * (σ 2 p - up (σ 6) (σ 4 0) y h))
        rw [old5 h hp, old6 h hp]
        rfl
      · exact (msk_congr (ρ := nPutH σ x y n) (fun w w0 w1 => btw_congr (σ := σ) (ρ := nPutH σ x y n) (p := p) (h := h) (w := w) rfl rfl (old5 h hp) (old6 h hp) rfl rfl rfl rfl)).symm
  · intro p h p0 p1 h0 h1 hc
    have hc : σ 0 0 ≤ p ∨ σ 4 0 + 1 ≤ h := hc
    show fo (fun m p => nMeaB (nPutH σ x y n) p (σ 4 0) m) (σ 17) (σ 0 0) (p * 20 + h) = 0
    rw [rB, if_neg (by omega)]
    exact a10 p h p0 p1 h0 h1 (by omega)
theorem nRow_c (ρ : Nat → Int → Int) (w i c : Int) (hc : 0 ≤ c ∧ c ≤ 20) (hi : 0 ≤ i) (m0 : Int → Int) : ∀ k, 0 ≤ k → nRowS ρ w i c m0 k = if k / 20 = i ∧ k % 20 < c ∧ nBtw ρ w (k / 20) (k % 20) then orZ (m0 k) w else m0 k := by
  refine fo_inv (fun j (m : Int → Int) => ∀ k, 0 ≤ k → m k = if k / 20 = i ∧ k % 20 < j ∧ nBtw ρ w (k / 20) (k % 20) then orZ (m0 k) w else m0 k) _ _ hc.1 (fun k hk => by rw [if_neg (fun z => absurd z.2.1 (by omega))]) (fun j m h0 h1 hm k hk => ?_)
  show nNoteS ρ w i j m k = _
  unfold nNoteS
  by_cases q : k = i * 20 + j
  · have e1 : k / 20 = i := by omega
    have e2 : k % 20 = j := by omega
    rw [e1, e2]
    by_cases g : nBtw ρ w i j
    · rw [if_pos g, q, up_s, if_pos ⟨rfl, by omega, g⟩, ← q, hm k hk, if_neg (fun z => absurd z.2.1 (by omega))]
    · rw [if_neg g, hm k hk, if_neg (fun z => absurd z.2.1 (by omega)), if_neg (fun z => g z.2.2)]
  · have e : (if nBtw ρ w i j then up m (i * 20 + j) (orZ (m (i * 20 + j)) w) else m) k = m k := by
      by_cases g : nBtw ρ w i j
      · rw [if_pos g, up_n _ _ q]
      · rw [if_neg g]
    rw [e, hm k hk]
    by_cases z : k / 20 = i ∧ k % 20 < j ∧ nBtw ρ w (k / 20) (k % 20)
    · rw [if_pos z, if_pos ⟨z.1, by have := z.2.1; omega, z.2.2⟩]
    · rw [if_neg z, if_neg (fun y => z ⟨y.1, by have a1 := y.1; have a2 := y.2.1; clear z y e hm; omega, y.2.2⟩)]
theorem nWall_c (ρ : Nat → Int → Int) (w r c : Int) (hr : 0 ≤ r) (hc : 0 ≤ c ∧ c ≤ 20) (m0 : Int → Int) : ∀ k, 0 ≤ k → fo (fun m p => nRowS ρ w p c m) m0 r k = if k / 20 < r ∧ k % 20 < c ∧ nBtw ρ w (k / 20) (k % 20) then orZ (m0 k) w else m0 k := by
  refine fo_inv (fun i (m : Int → Int) => ∀ k, 0 ≤ k → m k = if k / 20 < i ∧ k % 20 < c ∧ nBtw ρ w (k / 20) (k % 20) then orZ (m0 k) w else m0 k) _ _ hr (fun k hk => by rw [if_neg (fun z => absurd z.1 (by omega))]) (fun i m h0 h1 hm k hk => ?_)
  show nRowS ρ w i c m k = _
  rw [nRow_c ρ w i c hc h0 m k hk, hm k hk]
  by_cases e : k / 20 = i
  · by_cases z : k % 20 < c ∧ nBtw ρ w (k / 20) (k % 20)
    · rw [if_pos ⟨e, z⟩, if_neg (fun y => absurd y.1 (by clear z hm y; omega)), if_pos ⟨by clear z hm; omega, z⟩]
    · rw [if_neg (fun y => z y.2), if_neg (fun y => z y.2), if_neg (fun y => z y.2)]
  · rw [if_neg (fun y => e y.1)]
    by_cases z : k / 20 < i ∧ k % 20 < c ∧ nBtw ρ w (k / 20) (k % 20)
    · rw [if_pos z, if_pos ⟨by have := z.1; clear z hm; omega, z.2⟩]
    · rw [if_neg z, if_neg (fun y => z ⟨by have a1 := y.1; clear z y hm; omega, y.2⟩)]
theorem wall_bd {ρ : Nat → Int → Int} {w : Int} (hw : 0 ≤ w ∧ w < 8) {m0 : Int → Int} (hm : ∀ k, 0 ≤ m0 k ∧ m0 k < 256) (r c : Int) (hr : 0 ≤ r) (hc : 0 ≤ c) : ∀ k, 0 ≤ fo (fun m p => nRowS ρ w p c m) m0 r k ∧ fo (fun m p => nRowS ρ w p c m) m0 r k < 256 :=
  fo_inv (fun _ (m : Int → Int) => ∀ k, 0 ≤ m k ∧ m k < 256) _ _ hr hm (fun i m _ _ h => fo_inv (fun _ (m : Int → Int) => ∀ k, 0 ≤ m k ∧ m k < 256) _ _ hc h (fun j m _ _ h => by
    show ∀ k, 0 ≤ nNoteS ρ w i j m k ∧ nNoteS ρ w i j m k < 256
    unfold nNoteS
    by_cases g : nBtw ρ w i j
    · rw [if_pos g]; exact up_bl h (orZ_bd (h _) hw)
    · rw [if_neg g]; exact h))
theorem up4 (f : Int → Int) (n x y z w k : Int) (h : k ≠ n) (r : Int) (hr : 0 ≤ r ∧ r < 4) : up (up (up (up f (4 * n) x) (4 * n + 1) y) (4 * n + 2) z) (4 * n + 3) w (4 * k + r) = f (4 * k + r) := by
  rw [up_n _ _ (by omega), up_n _ _ (by omega), up_n _ _ (by omega), up_n _ _ (by omega)]
/-- one more wall -/
theorem add_w {σ τ μ : Nat → Int → Int} (hR : Rel σ τ μ) {x y z w v : Int} (hn : σ 8 0 < 8) (hx : -5000 ≤ x ∧ x ≤ 5000) (hy : -5000 ≤ y ∧ y ≤ 5000) (hz : -5000 ≤ z ∧ z ≤ 5000) (hw : -5000 ≤ w ∧ w ≤ 5000) (hv : 0 ≤ v ∧ v ≤ 300) (hne : x ≠ z ∨ y ≠ w) : Rel (nAddW σ x y z w v) τ (mPutW μ x y z w v) := by
  obtain ⟨a1, a2, a3, a4, ⟨e0, e1, e2, e3, e4, e5, e6, e7, e8⟩, ⟨e9, e10, e11, e12, e13, e14, e15⟩, a7, a8, a9, a10⟩ := hR
  obtain ⟨hN0, hN4, hN8, hN14, hB1, hB2, hB3, hB5, hB6, hB7, hB9, hB10, hB11, hB12, hB13, hB15, hB16, hB17⟩ := id a1
  have hIp : invN (nPutW σ x y z w v) := inv_13 (inv_12 (inv_11 (inv_10 (inv_9 (inv_8 (g := fun _ => σ 8 0 + 1) a1 (by omega)) (up_bd (i := σ 8 0) hB9 hx)) (up_bd (i := σ 8 0) hB10 hy)) (up_bd (i := σ 8 0) hB11 hz)) (up_bd (i := σ 8 0) hB12 hw)) (up_bd (i := σ 8 0) hB13 hv)
  have hbd := wall_bd (ρ := nPutW σ x y z w v) (w := σ 8 0) (by omega) hB17 (σ 0 0) (σ 4 0) hN0.1 hN4.1
  have rB := nWall_c (nPutW σ x y z w v) (σ 8 0) (σ 0 0) (σ 4 0) hN0.1 hN4 (σ 17)
  have m8 : σ 8 0 = μ 8 0 := by rw [e8]
  have hM : invM (mPutW μ x y z w v) := by
    have hm9 : ∀ k, -5000 ≤ μ 9 k ∧ μ 9 k ≤ 5000 := a3.2.2.2.2.2.2.2.2.2.2.2.1
    exact ivM_8 (ivM_10 (ivM_9 a3 (up_bd (up_bd (up_bd (up_bd hm9 hx) hy) hz) hw)) (up_bd (by rw [← e13]; exact hB13) hv)) (by omega)
  unfold nAddW
  rw [if_neg (by omega)]
  have old : ∀ (f : Int → Int) (q : Int) {k : Int}, k < σ 8 0 → up f (σ 8 0) q k = f k := fun f q k hk => up_n _ _ (by omega)
  refine ⟨inv_17 hIp hbd, a2, hM, a4, ⟨e0, e1, e2, e3, e4, e5, e6, e7, ?_⟩, ⟨?_, ?_, ?_, ?_, ?_, e14, e15⟩, a7, ?_, ?_, ?_⟩
  · show (fun _ : Int => σ 8 0 + 1) = fun _ => μ 8 0 + 1
    rw [e8]
  · intro k
    show up (σ 9) (σ 8 0) x k = up (up (up (up (μ 9) (4 * μ 8 0) x) (4 * μ 8 0 + 1) y) (4 * μ 8 0 + 2) z) (4 * μ 8 0 + 3) w (4 * k)
    rw [m8]
    by_cases q : k = μ 8 0
    · rw [q, up_s, up_n _ _ (by omega), up_n _ _ (by omega), up_n _ _ (by omega), up_s]
    · have := up4 (μ 9) (μ 8 0) x y z w k q 0 (by omega)
      rw [Int.add_zero] at this
      rw [this, up_n _ _ q, e9]
  · intro k
    show up (σ 10) (σ 8 0) y k = up (up (up (up (μ 9) (4 * μ 8 0) x) (4 * μ 8 0 + 1) y) (4 * μ 8 0 + 2) z) (4 * μ 8 0 + 3) w (4 * k + 1)
    rw [m8]
    by_cases q : k = μ 8 0
    · rw [q, up_s, up_n _ _ (by omega), up_n _ _ (by omega), up_s]
    · rw [up4 (μ 9) (μ 8 0) x y z w k q 1 (by omega), up_n _ _ q, e10]
  · intro k
    show up (σ 11) (σ 8 0) z k = up (up (up (up (μ 9) (4 * μ 8 0) x) (4 * μ 8 0 + 1) y) (4 * μ 8 0 + 2) z) (4 * μ 8 0 + 3) w (4 * k + 2)
    rw [m8]
    by_cases q : k = μ 8 0
    · rw [q, up_s, up_n _ _ (by omega), up_s]
    · rw [up4 (μ 9) (μ 8 0) x y z w k q 2 (by omega), up_n _ _ q, e11]
  · intro k
    show up (σ 12) (σ 8 0) w k = up (up (up (up (μ 9) (4 * μ 8 0) x) (4 * μ 8 0 + 1) y) (4 * μ 8 0 + 2) z) (4 * μ 8 0 + 3) w (4 * k + 3)
    rw [m8]
    by_cases q : k = μ 8 0
    · rw [q, up_s, up_s]
    · rw [up4 (μ 9) (μ 8 0) x y z w k q 3 (by omega), up_n _ _ q, e12]
  · show up (σ 13) (σ 8 0) v = up (μ 10) (μ 8 0) v
    rw [e13, m8]
  · intro k k0 k1
    have k1 : k < σ 8 0 + 1 := k1
    show up (σ 9) (σ 8 0) x k ≠ up (σ 11) (σ 8 0) z k ∨ up (σ 10) (σ 8 0) y k ≠ up (σ 12) (σ 8 0) w k
    by_cases q : k = σ 8 0
    · rw [q, up_s, up_s, up_s, up_s]; exact hne
    · rw [up_n _ _ q, up_n _ _ q, up_n _ _ q, up_n _ _ q]; exact a8 k k0 (by omega)
  · intro p h p0 p1 h0 h1
    have p1 : p < σ 0 0 := p1
    have h1 : h < σ 4 0 := h1
    obtain ⟨c1, c2⟩ := a9 p h p0 p1 h0 h1
    refine ⟨c1, ?_⟩
    show fo (fun m p => nRowS (nPutW σ x y z w v) (σ 8 0) p (σ 4 0) m) (σ 17) (σ 0 0) (p * 20 + h) = fo (nMskF (nPutW σ x y z w v) p h) 0 (σ 8 0 + 1)
    rw [rB _ (by omega), fo_s _ _ hN8.1, msk_congr (σ := σ) (ρ := nPutW σ x y z w v) (p := p) (h := h) (n := σ 8 0) (m := 0) (fun k k0 k1 => btw_congr (σ := σ) (ρ := nPutW σ x y z w v) (p := p) (h := h) (w := k) rfl rfl rfl rfl (old _ _ k1) (old _ _ k1) (old _ _ k1) (old _ _ k1))]
    have c2 : σ 17 (p * 20 + h) = fo (nMskF σ p h) 0 (σ 8 0) := c2
    rw [← c2, show (p * 20 + h) / 20 = p from by omega, show (p * 20 + h) % 20 = h from by omega]
    unfold nMskF
    by_cases g : nBtw (nPutW σ x y z w v) (σ 8 0) p h
    · rw [if_pos g, if_pos ⟨p1, h1, g⟩]
    · rw [if_neg g, if_neg (fun q => g q.2.2)]
  · intro p h p0 p1 h0 h1 hc
    have hc : σ 0 0 ≤ p ∨ σ 4 0 ≤ h := hc
    show fo (fun m p => nRowS (nPutW σ x y z w v) (σ 8 0) p (σ 4 0) m) (σ 17) (σ 0 0) (p * 20 + h) = 0
    rw [rB _ (by omega), show (p * 20 + h) / 20 = p from by omega, show (p * 20 + h) % 20 = h from by omega, if_neg (fun q => by have b1 := q.1; have b2 := q.2.1; clear q; omega)]
    exact a10 p h p0 p1 h0 h1 hc
theorem f24_bd : ∀ k, 0 ≤ f24 k ∧ f24 k ≤ 100 := fo_inv (fun _ (m : Int → Int) => ∀ k, 0 ≤ m k ∧ m k ≤ 100) _ _ (by decide) (fun _ => by omega) (fun i m _ _ h => up_bd h (by omega))
theorem rel_0 : Rel nz0 lz0 mz0 := by
  have zz : ∀ k : Int, (0 : Int) ≤ (fun _ : Int => (0 : Int)) k ∧ (fun _ : Int => (0 : Int)) k ≤ 200 := fun k => ⟨Int.le_refl 0, by show (0 : Int) ≤ 200; decide⟩
  have z5 : ∀ _k : Int, (-5000 : Int) ≤ 0 ∧ (0 : Int) ≤ 5000 := fun _ => by decide
  refine ⟨⟨by decide, by decide, by decide, by decide, z5, z5, fun _ => ?_, z5, z5, fun _ => ?_, z5, z5, z5, z5, fun _ => ?_, up_bd (up_bd (up_bd zz (by decide)) (by decide)) (by decide), fun _ => ?_, fun _ => ?_⟩, ⟨by decide, fun _ => ?_, f24_bd, fun _ => ?_⟩, ⟨by decide, by decide, by decide, by decide, by decide, z5, z5, fun _ => ?_, z5, z5, fun _ => ?_, z5, fun _ => ?_, up_bd (up_bd zz (by decide)) (by decide), fun _ => ?_, f24_bd, fun _ => ?_⟩, fun _ => ?_, ⟨rfl, rfl, rfl, rfl, rfl, rfl, rfl, rfl, rfl⟩, ⟨fun _ => rfl, fun _ => rfl, fun _ => rfl, fun _ => rfl, rfl, rfl, ?_⟩, ⟨rfl, rfl, rfl⟩, fun w h0 h1 => ?_, fun p h h0 h1 => ?_, fun _ _ _ _ _ _ _ => rfl⟩
  case refine_14 =>
    show up (up (up (fun _ => 0) 0 0) 1 50) 2 100 = up (up (fun _ => 0) 1 50) 2 100
    rw [up_id (fun _ => 0) 0]
  all_goals first | (show (0 : Int) ≤ 0 ∧ (0 : Int) ≤ _; decide) | (show (0 : Int) ≤ 0 ∧ (0 : Int) < _; decide) | (show (-2147483648 : Int) ≤ 0 ∧ (0 : Int) ≤ 2147483647; decide) | exact absurd h1 (by show ¬ _ < (0 : Int); omega) | (show up (up (up (fun _ => 0) 0 0) 1 50) 2 100 = up (up (fun _ => 0) 1 50) 2 100; rw [up_id (fun _ => 0) 0])
theorem rel_piece {σ τ μ : Nat → Int → Int} (hR : Rel σ τ μ) (z1 z2 z3 z4 z5 : Int) (hz1 : I32 z1) (hz2 : I32 z2) (hz3 : I32 z3) (hz4 : I32 z4) (hz5 : I32 z5) : (if ((-5000 ≤ z1 ∧ z1 ≤ 5000) ∧ (-5000 ≤ z2 ∧ z2 ≤ 5000)) ∧ (0 ≤ z3 ∧ z3 ≤ 1200) ∧ (0 ≤ z4 ∧ z4 ≤ 1200) ∧ (0 ≤ z5 ∧ z5 ≤ 1200) then (if 12 ≤ σ 0 0 then -1 else σ 0 0) else -1) = (if (((-5000 ≤ z1 ∧ z1 ≤ 5000) ∧ (-5000 ≤ z2 ∧ z2 ≤ 5000)) ∧ (0 ≤ z3 ∧ z3 ≤ 1200) ∧ (0 ≤ z4 ∧ z4 ≤ 1200) ∧ (0 ≤ z5 ∧ z5 ≤ 1200)) ∧ μ 0 0 ≠ 12 then μ 0 0 else -1) ∧ Rel ((if ((-5000 ≤ z1 ∧ z1 ≤ 5000) ∧ (-5000 ≤ z2 ∧ z2 ≤ 5000)) ∧ (0 ≤ z3 ∧ z3 ≤ 1200) ∧ (0 ≤ z4 ∧ z4 ≤ 1200) ∧ (0 ≤ z5 ∧ z5 ≤ 1200) then nAddP σ z1 z2 z3 z4 z5 else σ)) (τ) ((if (((-5000 ≤ z1 ∧ z1 ≤ 5000) ∧ (-5000 ≤ z2 ∧ z2 ≤ 5000)) ∧ (0 ≤ z3 ∧ z3 ≤ 1200) ∧ (0 ≤ z4 ∧ z4 ≤ 1200) ∧ (0 ≤ z5 ∧ z5 ≤ 1200)) ∧ μ 0 0 ≠ 12 then mPutP μ z1 z2 z3 z4 z5 else μ)) := by
  have e0 : σ 0 = μ 0 := hR.2.2.2.2.1.1
  have hN := hR.iN.1
  by_cases q : ((-5000 ≤ z1 ∧ z1 ≤ 5000) ∧ (-5000 ≤ z2 ∧ z2 ≤ 5000)) ∧ (0 ≤ z3 ∧ z3 ≤ 1200) ∧ (0 ≤ z4 ∧ z4 ≤ 1200) ∧ (0 ≤ z5 ∧ z5 ≤ 1200)
  · by_cases f : 12 ≤ σ 0 0
    · have f2 : ¬ ((((-5000 ≤ z1 ∧ z1 ≤ 5000) ∧ (-5000 ≤ z2 ∧ z2 ≤ 5000)) ∧ (0 ≤ z3 ∧ z3 ≤ 1200) ∧ (0 ≤ z4 ∧ z4 ≤ 1200) ∧ (0 ≤ z5 ∧ z5 ≤ 1200)) ∧ μ 0 0 ≠ 12) := fun k => k.2 (by rw [← e0]; omega)
      rw [if_pos q, if_pos f, if_neg f2, if_pos q, if_neg f2]
      unfold nAddP
      rw [if_pos f]
      exact ⟨rfl, hR⟩
    · have f2 : (((-5000 ≤ z1 ∧ z1 ≤ 5000) ∧ (-5000 ≤ z2 ∧ z2 ≤ 5000)) ∧ (0 ≤ z3 ∧ z3 ≤ 1200) ∧ (0 ≤ z4 ∧ z4 ≤ 1200) ∧ (0 ≤ z5 ∧ z5 ≤ 1200)) ∧ μ 0 0 ≠ 12 := ⟨q, by rw [← e0]; omega⟩
      rw [if_pos q, if_neg f, if_pos f2, if_pos q, if_pos f2]
      exact ⟨by rw [e0], add_p hR (by omega) q.1.1 q.1.2 q.2.1 q.2.2.1 q.2.2.2⟩
  · rw [if_neg q, if_neg (fun k => q k.1), if_neg q, if_neg (fun k => q k.1)]
    exact ⟨rfl, hR⟩
theorem rel_house {σ τ μ : Nat → Int → Int} (hR : Rel σ τ μ) (z1 z2 z3 : Int) (hz1 : I32 z1) (hz2 : I32 z2) (hz3 : I32 z3) : (if ((-5000 ≤ z1 ∧ z1 ≤ 5000) ∧ (-5000 ≤ z2 ∧ z2 ≤ 5000)) ∧ (0 ≤ z3 ∧ z3 ≤ 1000) then (if 20 ≤ σ 4 0 then -1 else σ 4 0) else -1) = (if (((-5000 ≤ z1 ∧ z1 ≤ 5000) ∧ (-5000 ≤ z2 ∧ z2 ≤ 5000)) ∧ (0 ≤ z3 ∧ z3 ≤ 1000)) ∧ μ 4 0 ≠ 20 then μ 4 0 else -1) ∧ Rel ((if ((-5000 ≤ z1 ∧ z1 ≤ 5000) ∧ (-5000 ≤ z2 ∧ z2 ≤ 5000)) ∧ (0 ≤ z3 ∧ z3 ≤ 1000) then nAddH σ z1 z2 z3 else σ)) (τ) ((if (((-5000 ≤ z1 ∧ z1 ≤ 5000) ∧ (-5000 ≤ z2 ∧ z2 ≤ 5000)) ∧ (0 ≤ z3 ∧ z3 ≤ 1000)) ∧ μ 4 0 ≠ 20 then mPutH μ z1 z2 z3 else μ)) := by
  have e4 : σ 4 = μ 4 := hR.2.2.2.2.1.2.2.2.2.1
  have hN := hR.iN.2.1
  by_cases q : ((-5000 ≤ z1 ∧ z1 ≤ 5000) ∧ (-5000 ≤ z2 ∧ z2 ≤ 5000)) ∧ (0 ≤ z3 ∧ z3 ≤ 1000)
  · by_cases f : 20 ≤ σ 4 0
    · have f2 : ¬ ((((-5000 ≤ z1 ∧ z1 ≤ 5000) ∧ (-5000 ≤ z2 ∧ z2 ≤ 5000)) ∧ (0 ≤ z3 ∧ z3 ≤ 1000)) ∧ μ 4 0 ≠ 20) := fun k => k.2 (by rw [← e4]; omega)
      rw [if_pos q, if_pos f, if_neg f2, if_pos q, if_neg f2]
      unfold nAddH
      rw [if_pos f]
      exact ⟨rfl, hR⟩
    · have f2 : (((-5000 ≤ z1 ∧ z1 ≤ 5000) ∧ (-5000 ≤ z2 ∧ z2 ≤ 5000)) ∧ (0 ≤ z3 ∧ z3 ≤ 1000)) ∧ μ 4 0 ≠ 20 := ⟨q, by rw [← e4]; omega⟩
      rw [if_pos q, if_neg f, if_pos f2, if_pos q, if_pos f2]
      exact ⟨by rw [e4], add_h hR (by omega) q.1.1 q.1.2 q.2⟩
  · rw [if_neg q, if_neg (fun k => q k.1), if_neg q, if_neg (fun k => q k.1)]
    exact ⟨rfl, hR⟩
theorem rel_wall {σ τ μ : Nat → Int → Int} (hR : Rel σ τ μ) (z1 z2 z3 z4 z5 : Int) (hz1 : I32 z1) (hz2 : I32 z2) (hz3 : I32 z3) (hz4 : I32 z4) (hz5 : I32 z5) : (if ((-5000 ≤ z1 ∧ z1 ≤ 5000) ∧ (-5000 ≤ z2 ∧ z2 ≤ 5000)) ∧ ((-5000 ≤ z3 ∧ z3 ≤ 5000) ∧ (-5000 ≤ z4 ∧ z4 ≤ 5000)) ∧ (z1 ≠ z3 ∨ z2 ≠ z4) ∧ (0 ≤ z5 ∧ z5 ≤ 300) then (if 8 ≤ σ 8 0 then -1 else σ 8 0) else -1) = (if (((-5000 ≤ z1 ∧ z1 ≤ 5000) ∧ (-5000 ≤ z2 ∧ z2 ≤ 5000)) ∧ ((-5000 ≤ z3 ∧ z3 ≤ 5000) ∧ (-5000 ≤ z4 ∧ z4 ≤ 5000)) ∧ (z1 ≠ z3 ∨ z2 ≠ z4) ∧ (0 ≤ z5 ∧ z5 ≤ 300)) ∧ μ 8 0 ≠ 8 then μ 8 0 else -1) ∧ Rel ((if ((-5000 ≤ z1 ∧ z1 ≤ 5000) ∧ (-5000 ≤ z2 ∧ z2 ≤ 5000)) ∧ ((-5000 ≤ z3 ∧ z3 ≤ 5000) ∧ (-5000 ≤ z4 ∧ z4 ≤ 5000)) ∧ (z1 ≠ z3 ∨ z2 ≠ z4) ∧ (0 ≤ z5 ∧ z5 ≤ 300) then nAddW σ z1 z2 z3 z4 z5 else σ)) (τ) ((if (((-5000 ≤ z1 ∧ z1 ≤ 5000) ∧ (-5000 ≤ z2 ∧ z2 ≤ 5000)) ∧ ((-5000 ≤ z3 ∧ z3 ≤ 5000) ∧ (-5000 ≤ z4 ∧ z4 ≤ 5000)) ∧ (z1 ≠ z3 ∨ z2 ≠ z4) ∧ (0 ≤ z5 ∧ z5 ≤ 300)) ∧ μ 8 0 ≠ 8 then mPutW μ z1 z2 z3 z4 z5 else μ)) := by
  have e8 : σ 8 = μ 8 := hR.2.2.2.2.1.2.2.2.2.2.2.2.2
  have hN := hR.iN.2.2.1
  by_cases q : ((-5000 ≤ z1 ∧ z1 ≤ 5000) ∧ (-5000 ≤ z2 ∧ z2 ≤ 5000)) ∧ ((-5000 ≤ z3 ∧ z3 ≤ 5000) ∧ (-5000 ≤ z4 ∧ z4 ≤ 5000)) ∧ (z1 ≠ z3 ∨ z2 ≠ z4) ∧ (0 ≤ z5 ∧ z5 ≤ 300)
  · by_cases f : 8 ≤ σ 8 0
    · have f2 : ¬ ((((-5000 ≤ z1 ∧ z1 ≤ 5000) ∧ (-5000 ≤ z2 ∧ z2 ≤ 5000)) ∧ ((-5000 ≤ z3 ∧ z3 ≤ 5000) ∧ (-5000 ≤ z4 ∧ z4 ≤ 5000)) ∧ (z1 ≠ z3 ∨ z2 ≠ z4) ∧ (0 ≤ z5 ∧ z5 ≤ 300)) ∧ μ 8 0 ≠ 8) := fun k => k.2 (by rw [← e8]; omega)
      rw [if_pos q, if_pos f, if_neg f2, if_pos q, if_neg f2]
      unfold nAddW
      rw [if_pos f]
      exact ⟨rfl, hR⟩
    · have f2 : (((-5000 ≤ z1 ∧ z1 ≤ 5000) ∧ (-5000 ≤ z2 ∧ z2 ≤ 5000)) ∧ ((-5000 ≤ z3 ∧ z3 ≤ 5000) ∧ (-5000 ≤ z4 ∧ z4 ≤ 5000)) ∧ (z1 ≠ z3 ∨ z2 ≠ z4) ∧ (0 ≤ z5 ∧ z5 ≤ 300)) ∧ μ 8 0 ≠ 8 := ⟨q, by rw [← e8]; omega⟩
      rw [if_pos q, if_neg f, if_pos f2, if_pos q, if_pos f2]
      exact ⟨by rw [e8], add_w hR (by omega) q.1.1 q.1.2 q.2.1.1 q.2.1.2 q.2.2.2 q.2.2.1⟩
  · rw [if_neg q, if_neg (fun k => q k.1), if_neg q, if_neg (fun k => q k.1)]
    exact ⟨rfl, hR⟩
