/-! THE REFERENCE, as functions of its cells μ -/
def vL (μ : Nat → Int → Int) : Nat → Int → Int := fun j => bif Nat.beq j 0 then μ 13 else bif Nat.beq j 1 then μ 15 else bif Nat.beq j 3 then μ 14 else fun _ => 0
def invM (μ : Nat → Int → Int) : Prop := (0 ≤ μ 0 0 ∧ μ 0 0 ≤ 12) ∧ (0 ≤ μ 4 0 ∧ μ 4 0 ≤ 20) ∧ (0 ≤ μ 8 0 ∧ μ 8 0 ≤ 8) ∧ (0 ≤ μ 11 0 ∧ μ 11 0 ≤ 60) ∧ (0 ≤ μ 14 0 ∧ μ 14 0 ≤ 5000) ∧ (∀ k, -5000 ≤ μ 1 k ∧ μ 1 k ≤ 5000) ∧ (∀ k, -5000 ≤ μ 2 k ∧ μ 2 k ≤ 5000) ∧ (∀ k, 0 ≤ μ 3 k ∧ μ 3 k ≤ 1200) ∧ (∀ k, -5000 ≤ μ 5 k ∧ μ 5 k ≤ 5000) ∧ (∀ k, -5000 ≤ μ 6 k ∧ μ 6 k ≤ 5000) ∧ (∀ k, 0 ≤ μ 7 k ∧ μ 7 k ≤ 1000) ∧ (∀ k, -5000 ≤ μ 9 k ∧ μ 9 k ≤ 5000) ∧ (∀ k, 0 ≤ μ 10 k ∧ μ 10 k ≤ 300) ∧ (∀ k, 0 ≤ μ 12 k ∧ μ 12 k ≤ 200) ∧ (∀ k, 0 ≤ μ 13 k ∧ μ 13 k ≤ 100000) ∧ (∀ k, 0 ≤ μ 15 k ∧ μ 15 k ≤ 100) ∧ (∀ k, -2147483648 ≤ μ 16 k ∧ μ 16 k ≤ 2147483647)
theorem ivM_0 {μ : Nat → Int → Int} {g : Int → Int} (h : invM μ) (hg : 0 ≤ g 0 ∧ g 0 ≤ 12) : invM (su μ 0 g) := by
  obtain ⟨h0, h4, h8, h11, h14, h1, h2, h3, h5, h6, h7, h9, h10, h12, h13, h15, h16⟩ := h
  exact ⟨hg, h4, h8, h11, h14, h1, h2, h3, h5, h6, h7, h9, h10, h12, h13, h15, h16⟩
theorem ivM_4 {μ : Nat → Int → Int} {g : Int → Int} (h : invM μ) (hg : 0 ≤ g 0 ∧ g 0 ≤ 20) : invM (su μ 4 g) := by
  obtain ⟨h0, h4, h8, h11, h14, h1, h2, h3, h5, h6, h7, h9, h10, h12, h13, h15, h16⟩ := h
  exact ⟨h0, hg, h8, h11, h14, h1, h2, h3, h5, h6, h7, h9, h10, h12, h13, h15, h16⟩
theorem ivM_8 {μ : Nat → Int → Int} {g : Int → Int} (h : invM μ) (hg : 0 ≤ g 0 ∧ g 0 ≤ 8) : invM (su μ 8 g) := by
  obtain ⟨h0, h4, h8, h11, h14, h1, h2, h3, h5, h6, h7, h9, h10, h12, h13, h15, h16⟩ := h
  exact ⟨h0, h4, hg, h11, h14, h1, h2, h3, h5, h6, h7, h9, h10, h12, h13, h15, h16⟩
theorem ivM_11 {μ : Nat → Int → Int} {g : Int → Int} (h : invM μ) (hg : 0 ≤ g 0 ∧ g 0 ≤ 60) : invM (su μ 11 g) := by
  obtain ⟨h0, h4, h8, h11, h14, h1, h2, h3, h5, h6, h7, h9, h10, h12, h13, h15, h16⟩ := h
  exact ⟨h0, h4, h8, hg, h14, h1, h2, h3, h5, h6, h7, h9, h10, h12, h13, h15, h16⟩
theorem ivM_14 {μ : Nat → Int → Int} {g : Int → Int} (h : invM μ) (hg : 0 ≤ g 0 ∧ g 0 ≤ 5000) : invM (su μ 14 g) := by
  obtain ⟨h0, h4, h8, h11, h14, h1, h2, h3, h5, h6, h7, h9, h10, h12, h13, h15, h16⟩ := h
  exact ⟨h0, h4, h8, h11, hg, h1, h2, h3, h5, h6, h7, h9, h10, h12, h13, h15, h16⟩
theorem ivM_1 {μ : Nat → Int → Int} {g : Int → Int} (h : invM μ) (hg : ∀ k, -5000 ≤ g k ∧ g k ≤ 5000) : invM (su μ 1 g) := by
  obtain ⟨h0, h4, h8, h11, h14, h1, h2, h3, h5, h6, h7, h9, h10, h12, h13, h15, h16⟩ := h
  exact ⟨h0, h4, h8, h11, h14, hg, h2, h3, h5, h6, h7, h9, h10, h12, h13, h15, h16⟩
theorem ivM_2 {μ : Nat → Int → Int} {g : Int → Int} (h : invM μ) (hg : ∀ k, -5000 ≤ g k ∧ g k ≤ 5000) : invM (su μ 2 g) := by
  obtain ⟨h0, h4, h8, h11, h14, h1, h2, h3, h5, h6, h7, h9, h10, h12, h13, h15, h16⟩ := h
  exact ⟨h0, h4, h8, h11, h14, h1, hg, h3, h5, h6, h7, h9, h10, h12, h13, h15, h16⟩
theorem ivM_3 {μ : Nat → Int → Int} {g : Int → Int} (h : invM μ) (hg : ∀ k, 0 ≤ g k ∧ g k ≤ 1200) : invM (su μ 3 g) := by
  obtain ⟨h0, h4, h8, h11, h14, h1, h2, h3, h5, h6, h7, h9, h10, h12, h13, h15, h16⟩ := h
  exact ⟨h0, h4, h8, h11, h14, h1, h2, hg, h5, h6, h7, h9, h10, h12, h13, h15, h16⟩
theorem ivM_5 {μ : Nat → Int → Int} {g : Int → Int} (h : invM μ) (hg : ∀ k, -5000 ≤ g k ∧ g k ≤ 5000) : invM (su μ 5 g) := by
  obtain ⟨h0, h4, h8, h11, h14, h1, h2, h3, h5, h6, h7, h9, h10, h12, h13, h15, h16⟩ := h
  exact ⟨h0, h4, h8, h11, h14, h1, h2, h3, hg, h6, h7, h9, h10, h12, h13, h15, h16⟩
theorem ivM_6 {μ : Nat → Int → Int} {g : Int → Int} (h : invM μ) (hg : ∀ k, -5000 ≤ g k ∧ g k ≤ 5000) : invM (su μ 6 g) := by
  obtain ⟨h0, h4, h8, h11, h14, h1, h2, h3, h5, h6, h7, h9, h10, h12, h13, h15, h16⟩ := h
  exact ⟨h0, h4, h8, h11, h14, h1, h2, h3, h5, hg, h7, h9, h10, h12, h13, h15, h16⟩
theorem ivM_7 {μ : Nat → Int → Int} {g : Int → Int} (h : invM μ) (hg : ∀ k, 0 ≤ g k ∧ g k ≤ 1000) : invM (su μ 7 g) := by
  obtain ⟨h0, h4, h8, h11, h14, h1, h2, h3, h5, h6, h7, h9, h10, h12, h13, h15, h16⟩ := h
  exact ⟨h0, h4, h8, h11, h14, h1, h2, h3, h5, h6, hg, h9, h10, h12, h13, h15, h16⟩
theorem ivM_9 {μ : Nat → Int → Int} {g : Int → Int} (h : invM μ) (hg : ∀ k, -5000 ≤ g k ∧ g k ≤ 5000) : invM (su μ 9 g) := by
  obtain ⟨h0, h4, h8, h11, h14, h1, h2, h3, h5, h6, h7, h9, h10, h12, h13, h15, h16⟩ := h
  exact ⟨h0, h4, h8, h11, h14, h1, h2, h3, h5, h6, h7, hg, h10, h12, h13, h15, h16⟩
theorem ivM_10 {μ : Nat → Int → Int} {g : Int → Int} (h : invM μ) (hg : ∀ k, 0 ≤ g k ∧ g k ≤ 300) : invM (su μ 10 g) := by
  obtain ⟨h0, h4, h8, h11, h14, h1, h2, h3, h5, h6, h7, h9, h10, h12, h13, h15, h16⟩ := h
  exact ⟨h0, h4, h8, h11, h14, h1, h2, h3, h5, h6, h7, h9, hg, h12, h13, h15, h16⟩
theorem ivM_12 {μ : Nat → Int → Int} {g : Int → Int} (h : invM μ) (hg : ∀ k, 0 ≤ g k ∧ g k ≤ 200) : invM (su μ 12 g) := by
  obtain ⟨h0, h4, h8, h11, h14, h1, h2, h3, h5, h6, h7, h9, h10, h12, h13, h15, h16⟩ := h
  exact ⟨h0, h4, h8, h11, h14, h1, h2, h3, h5, h6, h7, h9, h10, hg, h13, h15, h16⟩
theorem ivM_13 {μ : Nat → Int → Int} {g : Int → Int} (h : invM μ) (hg : ∀ k, 0 ≤ g k ∧ g k ≤ 100000) : invM (su μ 13 g) := by
  obtain ⟨h0, h4, h8, h11, h14, h1, h2, h3, h5, h6, h7, h9, h10, h12, h13, h15, h16⟩ := h
  exact ⟨h0, h4, h8, h11, h14, h1, h2, h3, h5, h6, h7, h9, h10, h12, hg, h15, h16⟩
theorem ivM_15 {μ : Nat → Int → Int} {g : Int → Int} (h : invM μ) (hg : ∀ k, 0 ≤ g k ∧ g k ≤ 100) : invM (su μ 15 g) := by
  obtain ⟨h0, h4, h8, h11, h14, h1, h2, h3, h5, h6, h7, h9, h10, h12, h13, h15, h16⟩ := h
  exact ⟨h0, h4, h8, h11, h14, h1, h2, h3, h5, h6, h7, h9, h10, h12, h13, hg, h16⟩
theorem ivM_16 {μ : Nat → Int → Int} {g : Int → Int} (h : invM μ) (hg : ∀ k, -2147483648 ≤ g k ∧ g k ≤ 2147483647) : invM (su μ 16 g) := by
  obtain ⟨h0, h4, h8, h11, h14, h1, h2, h3, h5, h6, h7, h9, h10, h12, h13, h15, h16⟩ := h
  exact ⟨h0, h4, h8, h11, h14, h1, h2, h3, h5, h6, h7, h9, h10, h12, h13, h15, hg⟩
theorem invL_vL {μ : Nat → Int → Int} (h : invM μ) : invL (vL μ) := by
  obtain ⟨-, -, -, -, h14, -, -, -, -, -, -, -, -, -, h13, h15, -⟩ := h
  exact ⟨h14, h13, h15, fun _ => ⟨Int.le_refl 0, by show (0 : Int) ≤ 7000000; omega⟩⟩
theorem ls_zero (F : Int → Int) {sp far : Int} (hs : 1 ≤ sp) : ∀ (k : Nat) (q : Int), far - q + 1 ≤ (k : Int) → (∀ z, q ≤ z → F z = 0) → lSum F sp far q = 0 := by
  intro k
  induction k with
  | zero => intro q h _; exact ls_end F (by omega)
  | succ k ih =>
    intro q h hz
    by_cases hq : q ≤ far
    · rw [ls_step F hs hq, hz q (Int.le_refl q), ih (q + sp) (by omega) (fun z hz2 => hz z (by omega))]; rfl
    · exact ls_end F (by omega)
theorem ls_skip1 (F : Int → Int) {sp far q : Int} (hs : 1 ≤ sp) (h : F q = 0) : lSum F sp far q = lSum F sp far (q + sp) := by
  by_cases hq : q ≤ far
  · rw [ls_step F hs hq, h, Int.zero_add]
  · rw [ls_end F (by omega), ls_end F (by omega)]
theorem ls_skip (F : Int → Int) {sp far : Int} (hs : 1 ≤ sp) : ∀ n : Nat, (∀ k : Nat, k < n → F ((k : Int) * sp) = 0) → lSum F sp far 0 = lSum F sp far ((n : Int) * sp) := by
  intro n
  induction n with
  | zero => intro _; rw [show ((0 : Nat) : Int) * sp = 0 from by simp]
  | succ n ih =>
    intro h
    rw [ih (fun k hk => h k (by omega)), ls_skip1 F hs (h n (by omega)), show ((n + 1 : Nat) : Int) * sp = (n : Int) * sp + sp from by rw [show ((n + 1 : Nat) : Int) = (n : Int) + 1 from by omega, Int.add_mul, Int.one_mul]]
theorem ls_cut (F : Int → Int) {sp far far2 : Int} (hs : 1 ≤ sp) (hf : far2 ≤ far) (hz : ∀ z, far2 < z → F z = 0) : ∀ (k : Nat) (q : Int), far - q + 1 ≤ (k : Int) → lSum F sp far q = lSum F sp far2 q := by
  intro k
  induction k with
  | zero => intro q h; rw [ls_end F (by omega), ls_end F (by omega)]
  | succ k ih =>
    intro q h
    by_cases hq : q ≤ far2
    · rw [ls_step F hs hq, ls_step F hs (by omega), ih (q + sp) (by omega)]
    · rw [ls_end F (far := far2) (by omega)]
      exact ls_zero F hs _ q (Int.le_of_lt (lt_tn _)) (fun z h2 => hz z (by omega))
/-- all poles, or those in reach alone -/
theorem lAt_all (τ : Nat → Int → Int) {pl sp : Int} (hp : 0 ≤ pl) (hs : 10 ≤ sp ∧ sp ≤ 600) : lSum (lAtF τ pl) sp (τ 3 0) 0 = lAt τ pl sp := by
  have far0 : ∀ z, (z < pl - 300 ∨ pl + 300 < z) → lAtF τ pl z = 0 := by
    intro z hz
    unfold lAtF lFrom
    have := abZ_s (pl - z)
    rw [if_pos (by omega)]
  have hm := mnZ_s (τ 3 0) (pl + 300)
  have e1 : lSum (lAtF τ pl) sp (τ 3 0) 0 = lSum (lAtF τ pl) sp (mnZ (τ 3 0) (pl + 300)) 0 := by
    rcases hm with h | h
    · exact ls_cut _ (by omega) (by omega) (fun z hz => far0 z (by omega)) _ 0 (Int.le_of_lt (lt_tn _))
    · rw [h.1]
  rw [e1]
  unfold lAt
  unfold lFirst
  by_cases h0 : pl - 300 ≤ 0
  · rw [if_pos h0]
  · rw [if_neg h0]
    have hq0 : 0 ≤ (pl - 300 + sp - 1) / sp := Int.ediv_nonneg (by omega) (by omega)
    obtain ⟨n, hn⟩ := Int.eq_ofNat_of_zero_le hq0
    rw [hn]
    refine ls_skip _ (by omega) n (fun k hk => far0 _ (Or.inl ?_))
    have h1 := Int.ediv_mul_le (pl - 300 + sp - 1) (show sp ≠ 0 by omega)
    rw [hn] at h1
    have h2 : ((k : Int) + 1) * sp ≤ (n : Int) * sp := Int.mul_le_mul_of_nonneg_right (by omega) (by omega)
    rw [Int.add_mul, Int.one_mul] at h2
    omega
def sgZ (t : Int) : Int := if 0 < t then 1 else if t < 0 then -1 else 0
theorem sgZ_s (t : Int) : (sgZ t = 1 ∧ 0 < t) ∨ (sgZ t = -1 ∧ t < 0) ∨ (sgZ t = 0 ∧ t = 0) := by
  unfold sgZ
  by_cases h : 0 < t
  · rw [if_pos h]; exact Or.inl ⟨rfl, h⟩
  · rw [if_neg h]
    by_cases h2 : t < 0
    · rw [if_pos h2]; exact Or.inr (Or.inl ⟨rfl, h2⟩)
    · rw [if_neg h2]; exact Or.inr (Or.inr ⟨rfl, by omega⟩)
abbrev opP (t u : Int) : Prop := (0 < t ∧ u < 0) ∨ (t < 0 ∧ 0 < u)
theorem sgm (x y : Int) : (sgZ x * sgZ y = -1 ∧ opP x y) ∨ (0 ≤ sgZ x * sgZ y ∧ sgZ x * sgZ y ≤ 1 ∧ ¬ opP x y) := by
  rcases sgZ_s x with h | h | h <;> rcases sgZ_s y with k | k | k <;> rw [h.1, k.1] <;> omega
abbrev btP (ax ay bx b2 x y : Int) : Prop := ((ax ≤ x ∧ x ≤ bx) ∨ (bx ≤ x ∧ x ≤ ax)) ∧ ((ay ≤ y ∧ y ≤ b2) ∨ (b2 ≤ y ∧ y ≤ ay))
abbrev onP (ax ay bx b2 px py qx qy : Int) : Prop := (tuZ px py qx qy ax ay = 0 ∧ btP px py qx qy ax ay) ∨ (tuZ px py qx qy bx b2 = 0 ∧ btP px py qx qy bx b2)
abbrev crP (ax ay bx b2 px py qx qy : Int) : Prop := ((ax ≠ bx ∨ ay ≠ b2) ∧ opP (tuZ px py qx qy ax ay) (tuZ px py qx qy bx b2) ∧ opP (tuZ ax ay bx b2 px py) (tuZ ax ay bx b2 qx qy)) ∨ onP ax ay bx b2 px py qx qy ∨ ((ax ≠ bx ∨ ay ≠ b2) ∧ onP px py qx qy ax ay bx b2)
abbrev mCr (μ : Nat → Int → Int) (w ax ay bx b2 : Int) : Prop := crP ax ay bx b2 (μ 9 (4 * w)) (μ 9 (4 * w + 1)) (μ 9 (4 * w + 2)) (μ 9 (4 * w + 3))
def mCutF (μ : Nat → Int → Int) (p h g w : Int) : Int := if g < μ 10 w ∧ mCr μ w (μ 1 p) (μ 2 p) (μ 5 h) (μ 6 h) then μ 10 w else g
def mCut (μ : Nat → Int → Int) (p h : Int) : Int := fo (mCutF μ p h) 0 (μ 8 0)
def mD2 (μ : Nat → Int → Int) (p h : Int) : Int := (μ 1 p - μ 5 h) * (μ 1 p - μ 5 h) + (μ 2 p - μ 6 h) * (μ 2 p - μ 6 h)
def mGives (μ : Nat → Int → Int) (p h t : Int) : Int := if μ 3 (3 * p + t) = 0 then 0 else mxZ (μ 3 (3 * p + t) - μ 11 0 * nDbl (mD2 μ p h) - mCut μ p h) 0
def mPart (μ : Nat → Int → Int) (h t : Int) : Int := fo (fun j p => nJoin j (mGives μ p h t)) 0 (μ 0 0)
def mDayF (μ : Nat → Int → Int) (h g t : Int) : Int := if 0 < mPart μ h t then mxZ g (mPart μ h t + μ 12 t) else g
def mDay (μ : Nat → Int → Int) (h : Int) : Int := fo (mDayF μ h) 0 3
def mPeopleF (μ : Nat → Int → Int) (lim n h : Int) : Int := if lim < mDay μ h then n + μ 7 h else n
def mPeople (μ : Nat → Int → Int) (lim : Int) : Int := fo (mPeopleF μ lim) 0 (μ 4 0)
def mLoudF (μ : Nat → Int → Int) (h t : Int) (q : Int × Int) (p : Int) : Int × Int := if q.2 < mGives μ p h t then (p, mGives μ p h t) else q
def mLoud (μ : Nat → Int → Int) (h t : Int) : Int := (fo (mLoudF μ h t) (-1, 0) (μ 0 0)).1
def mRank (μ : Nat → Int → Int) (k : Int) : Int := ft (fun h => decide (nAhead (mDay μ) (μ 4 0) h = k)) (fun h => h) (-1) 0 (μ 4 0)
def mNone (μ : Nat → Int → Int) (lim : Int) : Int := ft (fun h => decide (lim < mDay μ h)) (fun _ => 0) 1 0 (μ 4 0)
def mLeast (μ : Nat → Int → Int) (w lim : Int) : Int := ft (fun j => decide (mNone (su μ 10 (up (μ 10) w (5 * j))) lim ≠ 0)) (fun j => 5 * j) (-1) 0 61
theorem mD2_bd {μ : Nat → Int → Int} (hI : invM μ) (p h : Int) : 0 ≤ mD2 μ p h ∧ mD2 μ p h ≤ 200000000 ∧ -100000000 ≤ (μ 1 p - μ 5 h) * (μ 1 p - μ 5 h) ∧ (μ 1 p - μ 5 h) * (μ 1 p - μ 5 h) ≤ 100000000 := by
  obtain ⟨-, -, -, -, -, hB1, hB2, hB3, hB5, hB6, -⟩ := hI
  have h1 := hB1 p
  have h2 := hB2 p
  have h3 := hB5 h
  have h4 := hB6 h
  have a1 := mul_ab (a := μ 1 p - μ 5 h) (b := μ 1 p - μ 5 h) (A := 10000) (B := 10000) (by omega) (by omega)
  have a2 := mul_ab (a := μ 2 p - μ 6 h) (b := μ 2 p - μ 6 h) (A := 10000) (B := 10000) (by omega) (by omega)
  have s1 : 0 ≤ (μ 1 p - μ 5 h) * (μ 1 p - μ 5 h) := by
    rcases Int.le_total 0 (μ 1 p - μ 5 h) with q | q
    · exact Int.mul_nonneg q q
    · exact Int.mul_nonneg_of_nonpos_of_nonpos q q
  have s2 : 0 ≤ (μ 2 p - μ 6 h) * (μ 2 p - μ 6 h) := by
    rcases Int.le_total 0 (μ 2 p - μ 6 h) with q | q
    · exact Int.mul_nonneg q q
    · exact Int.mul_nonneg_of_nonpos_of_nonpos q q
  unfold mD2
  omega
theorem mCut_bd {μ : Nat → Int → Int} (hI : invM μ) (p h : Int) : 0 ≤ mCut μ p h ∧ mCut μ p h ≤ 300 := by
  obtain ⟨-, -, hN8, -, -, -, -, -, -, -, -, -, hB10, -⟩ := hI
  refine fo_inv (fun _ x => 0 ≤ x ∧ x ≤ 300) _ _ hN8.1 (by omega) (fun i x _ _ hx => ?_)
  show 0 ≤ mCutF μ p h x i ∧ mCutF μ p h x i ≤ 300
  have := hB10 i
  unfold mCutF
  split <;> omega
theorem mGives_bd {μ : Nat → Int → Int} (hI : invM μ) (p h t : Int) : 0 ≤ mGives μ p h t ∧ mGives μ p h t ≤ 1200 := by
  have hc := mCut_bd hI p h
  obtain ⟨-, -, -, hN11, -, -, -, hB3, -⟩ := hI
  have h1 := hB3 (3 * p + t)
  have h2 := mul_bd (a := μ 11 0) (b := nDbl (mD2 μ p h)) hN11 (nDbl_bd _)
  unfold mGives
  have h3 := mxZ_s (μ 3 (3 * p + t) - μ 11 0 * nDbl (mD2 μ p h) - mCut μ p h) 0
  split <;> omega
theorem mPart_bd {μ : Nat → Int → Int} (hI : invM μ) (h t : Int) : 0 ≤ mPart μ h t ∧ mPart μ h t ≤ 1560 := by
  have hN0 := hI.1
  have := fo_inv (fun i x => 0 ≤ x ∧ x ≤ 1200 + 30 * i) (fun j p => nJoin j (mGives μ p h t)) 0 hN0.1 (by omega) (fun i x _ _ hx => by
    have g := mGives_bd hI i h t
    have := nJoin_bd (a := x) (b := mGives μ i h t) (X := 1200 + 30 * i) (by omega) (by omega)
    omega)
  unfold mPart
  omega
theorem mDay_bd {μ : Nat → Int → Int} (hI : invM μ) (h : Int) : 0 ≤ mDay μ h ∧ mDay μ h ≤ 1760 := by
  refine fo_inv (fun _ x => 0 ≤ x ∧ x ≤ 1760) _ _ (by omega) (by omega) (fun i x _ _ hx => ?_)
  show 0 ≤ mDayF μ h x i ∧ mDayF μ h x i ≤ 1760
  have h1 := mPart_bd hI h i
  obtain ⟨-, -, -, -, -, -, -, -, -, -, -, -, -, hB12, -⟩ := hI
  have h2 := hB12 i
  have h3 := mxZ_s x (mPart μ h i + μ 12 i)
  unfold mDayF
  split <;> omega
theorem ft_01 (P : Int → Bool) (i n : Int) : ft P (fun _ => 0) 1 i n = 0 ∨ ft P (fun _ => 0) 1 i n = 1 := by
  have key : ∀ (k : Nat) (i : Int), ftN P (fun _ => 0) 1 k i = 0 ∨ ftN P (fun _ => 0) 1 k i = 1 := by
    intro k
    induction k with
    | zero => intro i; exact Or.inr rfl
    | succ k ih =>
      intro i
      show (bif P i then (0 : Int) else ftN _ _ _ k (i + 1)) = 0 ∨ (bif P i then (0 : Int) else ftN _ _ _ k (i + 1)) = 1
      cases P i with
      | true => exact Or.inl rfl
      | false => exact ih (i + 1)
  exact key _ _
theorem mNone_01 (μ : Nat → Int → Int) (lim : Int) : mNone μ lim = 0 ∨ mNone μ lim = 1 := ft_01 _ _ _
theorem mNone_10 (μ : Nat → Int → Int) {g : Int → Int} {w : Int} (h : ∀ k, k ≠ w → g k = μ 10 k) (v lim : Int) : mNone (su (su μ 10 g) 10 (up g w v)) lim = mNone (su μ 10 (up (μ 10) w v)) lim := by
  rw [su_su, up_same h]
theorem nDbl_eq {d k : Int} (h : (k = 0 ∧ d < 400) ∨ (k = 1 ∧ 400 ≤ d ∧ d < 1600) ∨ (k = 2 ∧ 1600 ≤ d ∧ d < 6400) ∨ (k = 3 ∧ 6400 ≤ d ∧ d < 25600) ∨ (k = 4 ∧ 25600 ≤ d ∧ d < 102400) ∨ (k = 5 ∧ 102400 ≤ d ∧ d < 409600) ∨ (k = 6 ∧ 409600 ≤ d ∧ d < 1638400) ∨ (k = 7 ∧ 1638400 ≤ d ∧ d < 6553600) ∨ (k = 8 ∧ 6553600 ≤ d ∧ d < 26214400) ∨ (k = 9 ∧ 26214400 ≤ d ∧ d < 104857600) ∨ (k = 10 ∧ 104857600 ≤ d)) : nDbl d = k := by
  unfold nDbl
  repeat (first | omega | split)
theorem mlst_a {μ : Nat → Int → Int} {g : Int → Int} {w b i f : Int} (hN : mNone (su (su μ 10 g) 10 (up g w i)) b = mNone (su μ 10 (up (μ 10) w i)) b) (hi : 0 ≤ i ∧ i ≤ 305 ∧ i % 5 = 0) (h3 : i ≤ 300) (hf : (f = -1 ∧ mLeast μ w b = ft (fun j => decide (mNone (su μ 10 (up (μ 10) w (5 * j))) b ≠ 0)) (fun j => 5 * j) (-1) (i / 5) 61) ∨ (0 ≤ f ∧ f ≤ 300 ∧ mLeast μ w b = f)) (h1 : f < 0) (h0 : mNone (su (su μ 10 g) 10 (up g w i)) b = 0) : ((-1 : Int) = -1 ∧ mLeast μ w b = ft (fun j => decide (mNone (su μ 10 (up (μ 10) w (5 * j))) b ≠ 0)) (fun j => 5 * j) (-1) ((i + 5) / 5) 61) ∨ ((0 : Int) ≤ -1 ∧ (-1 : Int) ≤ 300 ∧ mLeast μ w b = -1) := by
  rcases hf with q | q
  · refine Or.inl ⟨rfl, ?_⟩
    rw [q.2, ft_miss _ _ _ (by omega) (decide_eq_false (by rw [show 5 * (i / 5) = i from by omega, ← hN]; exact fun z => z h0)), show (i + 5) / 5 = i / 5 + 1 from by omega]
  · omega
theorem mlst_b {μ : Nat → Int → Int} {g : Int → Int} {w b i f : Int} (hN : mNone (su (su μ 10 g) 10 (up g w i)) b = mNone (su μ 10 (up (μ 10) w i)) b) (hi : 0 ≤ i ∧ i ≤ 305 ∧ i % 5 = 0) (h3 : i ≤ 300) (hf : (f = -1 ∧ mLeast μ w b = ft (fun j => decide (mNone (su μ 10 (up (μ 10) w (5 * j))) b ≠ 0)) (fun j => 5 * j) (-1) (i / 5) 61) ∨ (0 ≤ f ∧ f ≤ 300 ∧ mLeast μ w b = f)) (h1 : f < 0) (h0 : mNone (su (su μ 10 g) 10 (up g w i)) b ≠ 0) : (i = -1 ∧ mLeast μ w b = ft (fun j => decide (mNone (su μ 10 (up (μ 10) w (5 * j))) b ≠ 0)) (fun j => 5 * j) (-1) ((i + 5) / 5) 61) ∨ (0 ≤ i ∧ i ≤ 300 ∧ mLeast μ w b = i) := by
  rcases hf with q | q
  · refine Or.inr ⟨hi.1, h3, ?_⟩
    rw [q.2, ft_hit _ _ _ (by omega) (decide_eq_true (by rw [show 5 * (i / 5) = i from by omega, ← hN]; exact h0))]
    omega
  · omega
theorem lAt_bdn {τ : Nat → Int → Int} (hI : invL τ) (pl : Int) {sp : Int} (hs : 10 ≤ sp ∧ sp ≤ 600) : 0 ≤ lAt τ pl sp ∧ lAt τ pl sp ≤ 7000000 := by
  by_cases hp : 0 ≤ pl
  · exact lAt_bd hI hp hs
  · have h2 := mnZ_s (τ 3 0) (pl + 300)
    have h3 := ls_bd (lAtF τ pl) (sp := sp) (far := mnZ (τ 3 0) (pl + 300)) hs.1 (fun q => lFrom_bd hI.2.1 (by have := abZ_s (pl - q); omega)) _ (lFirst pl sp) (Int.le_of_lt (lt_tn _))
    have h1 : lFirst pl sp = 0 := by unfold lFirst; rw [if_pos (by omega)]
    unfold lAt
    rw [h1] at h3 ⊢
    by_cases h4 : 0 ≤ mnZ (τ 3 0) (pl + 300)
    · have := h3.2.1 (by omega)
      omega
    · rw [h3.2.2 (by omega)]
      omega
theorem lG_bd {τ : Nat → Int → Int} (hI : invL τ) {sp : Int} (hs : 10 ≤ sp ∧ sp ≤ 600) (k : Int) : 0 ≤ lG τ sp k ∧ lG τ sp k ≤ 7000000 := lAt_bdn hI (k * 10) hs
theorem loud_leaf {μ : Nat → Int → Int} {b t i q g : Int} (hva : (i = 0 ∧ q = -1) ∨ ((0 ≤ b ∧ b < μ 4 0) ∧ (0 ≤ t ∧ t ≤ 2))) (hg : (q, g) = fo (mLoudF μ b t) (-1, 0) i) (hx : i = μ 0 0 ∨ ¬ ((0 ≤ b ∧ b < μ 4 0) ∧ (0 ≤ t ∧ t ≤ 2))) : q = if (0 ≤ b ∧ b < μ 4 0) ∧ (0 ≤ t ∧ t ≤ 2) then mLoud μ b t else -1 := by
  by_cases hz : (0 ≤ b ∧ b < μ 4 0) ∧ (0 ≤ t ∧ t ≤ 2)
  · rw [if_pos hz]
    unfold mLoud
    rcases hx with h | h
    · rw [← h, ← hg]
    · exact absurd hz h
  · rw [if_neg hz]
    rcases hva with h | h
    · exact h.2
    · exact absurd h hz
theorem quiet_a {μ : Nat → Int → Int} {b i qt : Int} (hg : (qt = 1 ∧ mNone μ b = ft (fun h => decide (b < mDay μ h)) (fun _ => 0) 1 i (μ 4 0)) ∨ (qt = 0 ∧ mNone μ b = 0)) (hi : i < μ 4 0) (hq : qt ≠ 0) (hd : mDay μ i ≤ b) : ((1 : Int) = 1 ∧ mNone μ b = ft (fun h => decide (b < mDay μ h)) (fun _ => 0) 1 (i + 1) (μ 4 0)) ∨ ((1 : Int) = 0 ∧ mNone μ b = 0) := by
  rcases hg with h | h
  · exact Or.inl ⟨rfl, by rw [h.2, ft_miss _ _ _ hi (decide_eq_false (by omega))]⟩
  · omega
theorem quiet_b {μ : Nat → Int → Int} {b i qt : Int} (hg : (qt = 1 ∧ mNone μ b = ft (fun h => decide (b < mDay μ h)) (fun _ => 0) 1 i (μ 4 0)) ∨ (qt = 0 ∧ mNone μ b = 0)) (hi : i < μ 4 0) (hq : qt ≠ 0) (hd : b < mDay μ i) : ((0 : Int) = 1 ∧ mNone μ b = ft (fun h => decide (b < mDay μ h)) (fun _ => 0) 1 (i + 1) (μ 4 0)) ∨ ((0 : Int) = 0 ∧ mNone μ b = 0) := by
  rcases hg with h | h
  · exact Or.inr ⟨rfl, by rw [h.2, ft_hit _ _ _ hi (decide_eq_true hd)]⟩
  · omega
theorem quiet_e {μ : Nat → Int → Int} {b i qt : Int} (hg : (qt = 1 ∧ mNone μ b = ft (fun h => decide (b < mDay μ h)) (fun _ => 0) 1 i (μ 4 0)) ∨ (qt = 0 ∧ mNone μ b = 0)) (hx : μ 4 0 ≤ i ∨ qt = 0) : qt = mNone μ b := by
  rcases hg with h | h
  · rw [h.2, ft_end _ _ _ (by omega)]; exact h.1
  · rw [h.1, h.2]
def drS (P cu re sp i : Int) : Int := (P * (P + 1) - i * (i + 1)) / 2 * (cu * re * sp)
theorem drS_0 (P cu re sp : Int) : (0 : Int) = drS P cu re sp (P + 1 - 1) := by
  unfold drS
  rw [show P + 1 - 1 = P from by omega, Int.sub_self]
  simp
theorem drS_s (P cu re sp i : Int) : drS P cu re sp i + cu * i * re * sp = drS P cu re sp (i + (-1)) := by
  unfold drS
  have e1 : (i + (-1)) * (i + (-1) + 1) = i * (i + 1) - 2 * i := by grind
  rw [e1]
  generalize P * (P + 1) = X
  generalize i * (i + 1) = Y
  rw [show (X - (Y - 2 * i)) / 2 = (X - Y) / 2 + i from by omega, Int.add_mul]
  grind
theorem drS_e (μ : Nat → Int → Int) (sp cu re : Int) : drS (μ 14 0 / sp) cu re sp 0 / 1000000 = lMv (vL μ) sp cu re := by
  show _ = ((μ 14 0 / sp + 1) * ((μ 14 0 / sp + 1) - 1) / 2 * cu * sp * re) / 1000000
  unfold drS
  generalize μ 14 0 / sp = P
  rw [show P + 1 - 1 = P from by omega, show P * (P + 1) - 0 * (0 + 1) = (P + 1) * P from by grind]
  generalize (P + 1) * P / 2 = X
  rw [show X * (cu * re * sp) = X * cu * sp * re from by grind]
def mPutP (μ : Nat → Int → Int) (x y a z t : Int) : Nat → Int → Int := su (su (su (su μ 1 (up (μ 1) (μ 0 0) x)) 2 (up (μ 2) (μ 0 0) y)) 3 (up (up (up (μ 3) (3 * μ 0 0) a) (3 * μ 0 0 + 1) z) (3 * μ 0 0 + 2) t)) 0 (fun _ => μ 0 0 + 1)
def mPutH (μ : Nat → Int → Int) (x y n : Int) : Nat → Int → Int := su (su (su (su μ 5 (up (μ 5) (μ 4 0) x)) 6 (up (μ 6) (μ 4 0) y)) 7 (up (μ 7) (μ 4 0) n)) 4 (fun _ => μ 4 0 + 1)
def mPutW (μ : Nat → Int → Int) (x y z w v : Int) : Nat → Int → Int := su (su (su μ 9 (up (up (up (up (μ 9) (4 * μ 8 0) x) (4 * μ 8 0 + 1) y) (4 * μ 8 0 + 2) z) (4 * μ 8 0 + 3) w)) 10 (up (μ 10) (μ 8 0) v)) 8 (fun _ => μ 8 0 + 1)
theorem sg_bd (t : Int) : -1 ≤ sgZ t ∧ sgZ t ≤ 1 := by rcases sgZ_s t with h | h | h <;> omega
theorem sg_i32 (t : Int) : I32 (sgZ t) := by have := sg_bd t; omega
theorem sgm_i32 (t u : Int) : I32 (sgZ t * sgZ u) := by rcases sgm t u with h | h <;> omega
theorem sg0 {t : Int} (h : sgZ t = 0) : t = 0 := by rcases sgZ_s t with q | q | q <;> omega
theorem sg1 {t : Int} (h : t = 0) : sgZ t = 0 := by rcases sgZ_s t with q | q | q <;> omega
theorem op_of {t u : Int} (h : sgZ t * sgZ u < 0) : opP t u := by rcases sgm t u with q | q; exact q.2; omega
theorem nop_of {t u : Int} (h : 0 ≤ sgZ t * sgZ u) : ¬ opP t u := by rcases sgm t u with q | q; omega; exact q.2.2
theorem bI_ne {z : Int} {P : Prop} {dP : Decidable P} (e : z = bI P) (h : z ≠ 0) : P := (bI_01 P).elim (fun q => q.2) (fun q => absurd (e.trans q.1) h)
theorem bI_z {z : Int} {P : Prop} {dP : Decidable P} (e : z = bI P) (h : z = 0) : ¬ P := (bI_01 P).elim (fun q => absurd (h.symm.trans (e.trans q.1)) (by decide)) (fun q => q.2)
theorem bI_i32 {z : Int} {P : Prop} {dP : Decidable P} (e : z = bI P) : I32 z := by rcases bI_01 P with q | q <;> omega
theorem i5 {z : Int} (h : -5000 ≤ z ∧ z ≤ 5000) : I32 z := by omega
theorem cmp_i32 (a b : Int) : I32 (cmpZ a b) := by rcases cmpZ_s a b with h | h | h <;> omega
theorem cmp_lt {a b : Int} (h : cmpZ a b < 0) : a < b := by rcases cmpZ_s a b with q | q | q <;> omega
theorem cmp_ge {a b : Int} (h : 0 ≤ cmpZ a b) : b ≤ a := by rcases cmpZ_s a b with q | q | q <;> omega
theorem cmp_le {a b : Int} (h : cmpZ a b ≤ 0) : a ≤ b := by rcases cmpZ_s a b with q | q | q <;> omega
theorem cmp_gt {a b : Int} (h : 0 < cmpZ a b) : b < a := by rcases cmpZ_s a b with q | q | q <;> omega
theorem nDbl_0 {d : Int} (h : d < 400) : nDbl d = 0 := nDbl_eq (by omega)
theorem nDbl_1 {d : Int} (h : 400 ≤ d ∧ d < 1600) : nDbl d = 1 := nDbl_eq (by omega)
theorem nDbl_2 {d : Int} (h : 1600 ≤ d ∧ d < 6400) : nDbl d = 2 := nDbl_eq (by omega)
theorem nDbl_3 {d : Int} (h : 6400 ≤ d ∧ d < 25600) : nDbl d = 3 := nDbl_eq (by omega)
theorem nDbl_4 {d : Int} (h : 25600 ≤ d ∧ d < 102400) : nDbl d = 4 := nDbl_eq (by omega)
theorem nDbl_5 {d : Int} (h : 102400 ≤ d ∧ d < 409600) : nDbl d = 5 := nDbl_eq (by omega)
theorem nDbl_6 {d : Int} (h : 409600 ≤ d ∧ d < 1638400) : nDbl d = 6 := nDbl_eq (by omega)
theorem nDbl_7 {d : Int} (h : 1638400 ≤ d ∧ d < 6553600) : nDbl d = 7 := nDbl_eq (by omega)
theorem nDbl_8 {d : Int} (h : 6553600 ≤ d ∧ d < 26214400) : nDbl d = 8 := nDbl_eq (by omega)
theorem nDbl_9 {d : Int} (h : 26214400 ≤ d ∧ d < 104857600) : nDbl d = 9 := nDbl_eq (by omega)
theorem nDbl_10 {d : Int} (h : 104857600 ≤ d) : nDbl d = 10 := nDbl_eq (by omega)
