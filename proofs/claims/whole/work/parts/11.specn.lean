/-! NOISE, as functions of its cells σ -/
def invN (σ : Nat → Int → Int) : Prop := (0 ≤ σ 0 0 ∧ σ 0 0 ≤ 12) ∧ (0 ≤ σ 4 0 ∧ σ 4 0 ≤ 20) ∧ (0 ≤ σ 8 0 ∧ σ 8 0 ≤ 8) ∧ (0 ≤ σ 14 0 ∧ σ 14 0 ≤ 60) ∧ (∀ k, -5000 ≤ σ 1 k ∧ σ 1 k ≤ 5000) ∧ (∀ k, -5000 ≤ σ 2 k ∧ σ 2 k ≤ 5000) ∧ (∀ k, 0 ≤ σ 3 k ∧ σ 3 k ≤ 1200) ∧ (∀ k, -5000 ≤ σ 5 k ∧ σ 5 k ≤ 5000) ∧ (∀ k, -5000 ≤ σ 6 k ∧ σ 6 k ≤ 5000) ∧ (∀ k, 0 ≤ σ 7 k ∧ σ 7 k ≤ 1000) ∧ (∀ k, -5000 ≤ σ 9 k ∧ σ 9 k ≤ 5000) ∧ (∀ k, -5000 ≤ σ 10 k ∧ σ 10 k ≤ 5000) ∧ (∀ k, -5000 ≤ σ 11 k ∧ σ 11 k ≤ 5000) ∧ (∀ k, -5000 ≤ σ 12 k ∧ σ 12 k ≤ 5000) ∧ (∀ k, 0 ≤ σ 13 k ∧ σ 13 k ≤ 300) ∧ (∀ k, 0 ≤ σ 15 k ∧ σ 15 k ≤ 200) ∧ (∀ k, 0 ≤ σ 16 k ∧ σ 16 k ≤ 10) ∧ (∀ k, 0 ≤ σ 17 k ∧ σ 17 k < 256)
theorem up_bd {f : Int → Int} {i v a b : Int} (hf : ∀ k, a ≤ f k ∧ f k ≤ b) (hv : a ≤ v ∧ v ≤ b) : ∀ k, a ≤ up f i v k ∧ up f i v k ≤ b := by
  intro k
  unfold up
  by_cases h : k = i
  · rw [if_pos h]; exact hv
  · rw [if_neg h]; exact hf k
theorem up_bl {f : Int → Int} {i v a b : Int} (hf : ∀ k, a ≤ f k ∧ f k < b) (hv : a ≤ v ∧ v < b) : ∀ k, a ≤ up f i v k ∧ up f i v k < b := by
  intro k
  unfold up
  by_cases h : k = i
  · rw [if_pos h]; exact hv
  · rw [if_neg h]; exact hf k
theorem inv_0 {σ : Nat → Int → Int} {g : Int → Int} (h : invN σ) (hg : 0 ≤ g 0 ∧ g 0 ≤ 12) : invN (su σ 0 g) := by
  obtain ⟨h0, h4, h8, h14, h1, h2, h3, h5, h6, h7, h9, h10, h11, h12, h13, h15, h16, h17⟩ := h
  exact ⟨hg, h4, h8, h14, h1, h2, h3, h5, h6, h7, h9, h10, h11, h12, h13, h15, h16, h17⟩
theorem inv_4 {σ : Nat → Int → Int} {g : Int → Int} (h : invN σ) (hg : 0 ≤ g 0 ∧ g 0 ≤ 20) : invN (su σ 4 g) := by
  obtain ⟨h0, h4, h8, h14, h1, h2, h3, h5, h6, h7, h9, h10, h11, h12, h13, h15, h16, h17⟩ := h
  exact ⟨h0, hg, h8, h14, h1, h2, h3, h5, h6, h7, h9, h10, h11, h12, h13, h15, h16, h17⟩
theorem inv_8 {σ : Nat → Int → Int} {g : Int → Int} (h : invN σ) (hg : 0 ≤ g 0 ∧ g 0 ≤ 8) : invN (su σ 8 g) := by
  obtain ⟨h0, h4, h8, h14, h1, h2, h3, h5, h6, h7, h9, h10, h11, h12, h13, h15, h16, h17⟩ := h
  exact ⟨h0, h4, hg, h14, h1, h2, h3, h5, h6, h7, h9, h10, h11, h12, h13, h15, h16, h17⟩
theorem inv_14 {σ : Nat → Int → Int} {g : Int → Int} (h : invN σ) (hg : 0 ≤ g 0 ∧ g 0 ≤ 60) : invN (su σ 14 g) := by
  obtain ⟨h0, h4, h8, h14, h1, h2, h3, h5, h6, h7, h9, h10, h11, h12, h13, h15, h16, h17⟩ := h
  exact ⟨h0, h4, h8, hg, h1, h2, h3, h5, h6, h7, h9, h10, h11, h12, h13, h15, h16, h17⟩
theorem inv_1 {σ : Nat → Int → Int} {g : Int → Int} (h : invN σ) (hg : ∀ k, -5000 ≤ g k ∧ g k ≤ 5000) : invN (su σ 1 g) := by
  obtain ⟨h0, h4, h8, h14, h1, h2, h3, h5, h6, h7, h9, h10, h11, h12, h13, h15, h16, h17⟩ := h
  exact ⟨h0, h4, h8, h14, hg, h2, h3, h5, h6, h7, h9, h10, h11, h12, h13, h15, h16, h17⟩
theorem inv_2 {σ : Nat → Int → Int} {g : Int → Int} (h : invN σ) (hg : ∀ k, -5000 ≤ g k ∧ g k ≤ 5000) : invN (su σ 2 g) := by
  obtain ⟨h0, h4, h8, h14, h1, h2, h3, h5, h6, h7, h9, h10, h11, h12, h13, h15, h16, h17⟩ := h
  exact ⟨h0, h4, h8, h14, h1, hg, h3, h5, h6, h7, h9, h10, h11, h12, h13, h15, h16, h17⟩
theorem inv_3 {σ : Nat → Int → Int} {g : Int → Int} (h : invN σ) (hg : ∀ k, 0 ≤ g k ∧ g k ≤ 1200) : invN (su σ 3 g) := by
  obtain ⟨h0, h4, h8, h14, h1, h2, h3, h5, h6, h7, h9, h10, h11, h12, h13, h15, h16, h17⟩ := h
  exact ⟨h0, h4, h8, h14, h1, h2, hg, h5, h6, h7, h9, h10, h11, h12, h13, h15, h16, h17⟩
theorem inv_5 {σ : Nat → Int → Int} {g : Int → Int} (h : invN σ) (hg : ∀ k, -5000 ≤ g k ∧ g k ≤ 5000) : invN (su σ 5 g) := by
  obtain ⟨h0, h4, h8, h14, h1, h2, h3, h5, h6, h7, h9, h10, h11, h12, h13, h15, h16, h17⟩ := h
  exact ⟨h0, h4, h8, h14, h1, h2, h3, hg, h6, h7, h9, h10, h11, h12, h13, h15, h16, h17⟩
theorem inv_6 {σ : Nat → Int → Int} {g : Int → Int} (h : invN σ) (hg : ∀ k, -5000 ≤ g k ∧ g k ≤ 5000) : invN (su σ 6 g) := by
  obtain ⟨h0, h4, h8, h14, h1, h2, h3, h5, h6, h7, h9, h10, h11, h12, h13, h15, h16, h17⟩ := h
  exact ⟨h0, h4, h8, h14, h1, h2, h3, h5, hg, h7, h9, h10, h11, h12, h13, h15, h16, h17⟩
theorem inv_7 {σ : Nat → Int → Int} {g : Int → Int} (h : invN σ) (hg : ∀ k, 0 ≤ g k ∧ g k ≤ 1000) : invN (su σ 7 g) := by
  obtain ⟨h0, h4, h8, h14, h1, h2, h3, h5, h6, h7, h9, h10, h11, h12, h13, h15, h16, h17⟩ := h
  exact ⟨h0, h4, h8, h14, h1, h2, h3, h5, h6, hg, h9, h10, h11, h12, h13, h15, h16, h17⟩
theorem inv_9 {σ : Nat → Int → Int} {g : Int → Int} (h : invN σ) (hg : ∀ k, -5000 ≤ g k ∧ g k ≤ 5000) : invN (su σ 9 g) := by
  obtain ⟨h0, h4, h8, h14, h1, h2, h3, h5, h6, h7, h9, h10, h11, h12, h13, h15, h16, h17⟩ := h
  exact ⟨h0, h4, h8, h14, h1, h2, h3, h5, h6, h7, hg, h10, h11, h12, h13, h15, h16, h17⟩
theorem inv_10 {σ : Nat → Int → Int} {g : Int → Int} (h : invN σ) (hg : ∀ k, -5000 ≤ g k ∧ g k ≤ 5000) : invN (su σ 10 g) := by
  obtain ⟨h0, h4, h8, h14, h1, h2, h3, h5, h6, h7, h9, h10, h11, h12, h13, h15, h16, h17⟩ := h
  exact ⟨h0, h4, h8, h14, h1, h2, h3, h5, h6, h7, h9, hg, h11, h12, h13, h15, h16, h17⟩
theorem inv_11 {σ : Nat → Int → Int} {g : Int → Int} (h : invN σ) (hg : ∀ k, -5000 ≤ g k ∧ g k ≤ 5000) : invN (su σ 11 g) := by
  obtain ⟨h0, h4, h8, h14, h1, h2, h3, h5, h6, h7, h9, h10, h11, h12, h13, h15, h16, h17⟩ := h
  exact ⟨h0, h4, h8, h14, h1, h2, h3, h5, h6, h7, h9, h10, hg, h12, h13, h15, h16, h17⟩
theorem inv_12 {σ : Nat → Int → Int} {g : Int → Int} (h : invN σ) (hg : ∀ k, -5000 ≤ g k ∧ g k ≤ 5000) : invN (su σ 12 g) := by
  obtain ⟨h0, h4, h8, h14, h1, h2, h3, h5, h6, h7, h9, h10, h11, h12, h13, h15, h16, h17⟩ := h
  exact ⟨h0, h4, h8, h14, h1, h2, h3, h5, h6, h7, h9, h10, h11, hg, h13, h15, h16, h17⟩
theorem inv_13 {σ : Nat → Int → Int} {g : Int → Int} (h : invN σ) (hg : ∀ k, 0 ≤ g k ∧ g k ≤ 300) : invN (su σ 13 g) := by
  obtain ⟨h0, h4, h8, h14, h1, h2, h3, h5, h6, h7, h9, h10, h11, h12, h13, h15, h16, h17⟩ := h
  exact ⟨h0, h4, h8, h14, h1, h2, h3, h5, h6, h7, h9, h10, h11, h12, hg, h15, h16, h17⟩
theorem inv_15 {σ : Nat → Int → Int} {g : Int → Int} (h : invN σ) (hg : ∀ k, 0 ≤ g k ∧ g k ≤ 200) : invN (su σ 15 g) := by
  obtain ⟨h0, h4, h8, h14, h1, h2, h3, h5, h6, h7, h9, h10, h11, h12, h13, h15, h16, h17⟩ := h
  exact ⟨h0, h4, h8, h14, h1, h2, h3, h5, h6, h7, h9, h10, h11, h12, h13, hg, h16, h17⟩
theorem inv_16 {σ : Nat → Int → Int} {g : Int → Int} (h : invN σ) (hg : ∀ k, 0 ≤ g k ∧ g k ≤ 10) : invN (su σ 16 g) := by
  obtain ⟨h0, h4, h8, h14, h1, h2, h3, h5, h6, h7, h9, h10, h11, h12, h13, h15, h16, h17⟩ := h
  exact ⟨h0, h4, h8, h14, h1, h2, h3, h5, h6, h7, h9, h10, h11, h12, h13, h15, hg, h17⟩
theorem inv_17 {σ : Nat → Int → Int} {g : Int → Int} (h : invN σ) (hg : ∀ k, 0 ≤ g k ∧ g k < 256) : invN (su σ 17 g) := by
  obtain ⟨h0, h4, h8, h14, h1, h2, h3, h5, h6, h7, h9, h10, h11, h12, h13, h15, h16, h17⟩ := h
  exact ⟨h0, h4, h8, h14, h1, h2, h3, h5, h6, h7, h9, h10, h11, h12, h13, h15, h16, hg⟩
theorem inv_18 {σ : Nat → Int → Int} {g : Int → Int} (h : invN σ) : invN (su σ 18 g) := h
def nMore (d : Int) : Int := if d < 15 then 30 else if d < 35 then 20 else if d < 95 then 10 else 0
def nJoin (a b : Int) : Int := if a = 0 ∨ b = 0 then a + b else mxZ a b + nMore (abZ (a - b))
def nDbl (d : Int) : Int := if d < 400 then 0 else if d < 1600 then 1 else if d < 6400 then 2 else if d < 25600 then 3 else if d < 102400 then 4 else if d < 409600 then 5 else if d < 1638400 then 6 else if d < 6553600 then 7 else if d < 26214400 then 8 else if d < 104857600 then 9 else 10
def nCutF (σ : Nat → Int → Int) (pr : Int) (g w : Int) : Int := if bitZ (σ 17 pr) w ≠ 0 ∧ g < σ 13 w then σ 13 w else g
def nCut (σ : Nat → Int → Int) (pr : Int) : Int := fo (nCutF σ pr) 0 (σ 8 0)
def nGiven (σ : Nat → Int → Int) (p h t : Int) : Int := mxZ (σ 3 (p * 3 + t) - σ 14 0 * σ 16 (p * 20 + h) - nCut σ (p * 20 + h)) 0
def nPart (σ : Nat → Int → Int) (h t : Int) : Int := fo (fun j p => nJoin j (nGiven σ p h t)) 0 (σ 0 0)
def nDayF (σ : Nat → Int → Int) (h g t : Int) : Int := if 0 < nPart σ h t then mxZ g (nPart σ h t + σ 15 t) else g
def nDay (σ : Nat → Int → Int) (h : Int) : Int := fo (nDayF σ h) 0 3
def nPeopleF (σ : Nat → Int → Int) (lim n h : Int) : Int := if lim < nDay σ h then n + σ 7 h else n
def nPeople (σ : Nat → Int → Int) (lim : Int) : Int := fo (nPeopleF σ lim) 0 (σ 4 0)
def nAll (σ : Nat → Int → Int) : Int := fo (fun n h => n + σ 7 h) 0 (σ 4 0)
def nLoudF (σ : Nat → Int → Int) (h t : Int) (q : Int × Int) (p : Int) : Int × Int := if q.2 < nGiven σ p h t then (p, nGiven σ p h t) else q
def nLoud (σ : Nat → Int → Int) (h t : Int) : Int := (fo (nLoudF σ h t) (-1, 0) (σ 0 0)).1
def nAheadF (g : Int → Int) (h n o : Int) : Int := if g h < g o ∨ (g o = g h ∧ o < h) then n + 1 else n
def nAhead (g : Int → Int) (c h : Int) : Int := fo (nAheadF g h) 0 c
def nNone (σ : Nat → Int → Int) (lim : Int) : Int := ft (fun h => decide (lim < nDay σ h)) (fun _ => 0) 1 0 (σ 4 0)
def nLeast (σ : Nat → Int → Int) (w lim : Int) : Int := ft (fun j => decide (nNone (su σ 13 (up (σ 13) w (5 * j))) lim ≠ 0)) (fun j => 5 * j) (-1) 0 61
def tuZ (ax ay bx b2 cx cy : Int) : Int := (bx - ax) * (cy - ay) - (b2 - ay) * (cx - ax)
abbrev spP (a b c d : Int) : Prop := mnZ c d ≤ mxZ a b ∧ mnZ a b ≤ mxZ c d
abbrev osP (t u : Int) : Prop := (0 < t ∧ 0 < u) ∨ (t < 0 ∧ u < 0)
abbrev nBtw (σ : Nat → Int → Int) (w p h : Int) : Prop := spP (σ 1 p) (σ 5 h) (σ 9 w) (σ 11 w) ∧ spP (σ 2 p) (σ 6 h) (σ 10 w) (σ 12 w) ∧ ¬ osP (tuZ (σ 1 p) (σ 2 p) (σ 5 h) (σ 6 h) (σ 9 w) (σ 10 w)) (tuZ (σ 1 p) (σ 2 p) (σ 5 h) (σ 6 h) (σ 11 w) (σ 12 w)) ∧ ¬ osP (tuZ (σ 9 w) (σ 10 w) (σ 11 w) (σ 12 w) (σ 1 p) (σ 2 p)) (tuZ (σ 9 w) (σ 10 w) (σ 11 w) (σ 12 w) (σ 5 h) (σ 6 h))
def nNoteF (σ : Nat → Int → Int) (w p h : Int) : Int → Int := if nBtw σ w p h then up (σ 17) (p * 20 + h) (orZ (σ 17 (p * 20 + h)) w) else σ 17
def d2Z (σ : Nat → Int → Int) (p h : Int) : Int := (σ 1 p - σ 5 h) * (σ 1 p - σ 5 h) + (σ 2 p - σ 6 h) * (σ 2 p - σ 6 h)
def nMskF (σ : Nat → Int → Int) (p h m w : Int) : Int := if nBtw σ w p h then orZ m w else m
def nMsk (σ : Nat → Int → Int) (p h m : Int) : Int := fo (nMskF σ p h) m (σ 8 0)
theorem mul_ab {a b A B : Int} (ha : -A ≤ a ∧ a ≤ A) (hb : -B ≤ b ∧ b ≤ B) : -(A * B) ≤ a * b ∧ a * b ≤ A * B := by
  have h1 : 0 ≤ (A - a) * (B + b) := Int.mul_nonneg (by omega) (by omega)
  have h2 : 0 ≤ (A + a) * (B - b) := Int.mul_nonneg (by omega) (by omega)
  have h3 : 0 ≤ (A - a) * (B - b) := Int.mul_nonneg (by omega) (by omega)
  have h4 : 0 ≤ (A + a) * (B + b) := Int.mul_nonneg (by omega) (by omega)
  have e1 : (A - a) * (B + b) + (A + a) * (B - b) = 2 * (A * B) - 2 * (a * b) := by grind
  have e2 : (A - a) * (B - b) + (A + a) * (B + b) = 2 * (A * B) + 2 * (a * b) := by grind
  omega
theorem tuZ_bd {ax ay bx b2 cx cy : Int} (h1 : -5000 ≤ ax ∧ ax ≤ 5000) (h2 : -5000 ≤ ay ∧ ay ≤ 5000) (h3 : -5000 ≤ bx ∧ bx ≤ 5000) (h4 : -5000 ≤ b2 ∧ b2 ≤ 5000) (h5 : -5000 ≤ cx ∧ cx ≤ 5000) (h6 : -5000 ≤ cy ∧ cy ≤ 5000) : -200000000 ≤ tuZ ax ay bx b2 cx cy ∧ tuZ ax ay bx b2 cx cy ≤ 200000000 := by
  have a1 := mul_ab (a := bx - ax) (b := cy - ay) (A := 10000) (B := 10000) (by omega) (by omega)
  have a2 := mul_ab (a := b2 - ay) (b := cx - ax) (A := 10000) (B := 10000) (by omega) (by omega)
  unfold tuZ
  omega
theorem d2Z_bd {σ : Nat → Int → Int} (hI : invN σ) (p h : Int) : 0 ≤ d2Z σ p h ∧ d2Z σ p h ≤ 200000000 := by
  obtain ⟨-, -, -, -, hB1, hB2, hB3, hB5, hB6, -⟩ := hI
  have h1 := hB1 p
  have h2 := hB2 p
  have h3 := hB5 h
  have h4 := hB6 h
  have a1 := mul_ab (a := σ 1 p - σ 5 h) (b := σ 1 p - σ 5 h) (A := 10000) (B := 10000) (by omega) (by omega)
  have a2 := mul_ab (a := σ 2 p - σ 6 h) (b := σ 2 p - σ 6 h) (A := 10000) (B := 10000) (by omega) (by omega)
  have s1 : 0 ≤ (σ 1 p - σ 5 h) * (σ 1 p - σ 5 h) := by
    rcases Int.le_total 0 (σ 1 p - σ 5 h) with q | q
    · exact Int.mul_nonneg q q
    · exact Int.mul_nonneg_of_nonpos_of_nonpos q q
  have s2 : 0 ≤ (σ 2 p - σ 6 h) * (σ 2 p - σ 6 h) := by
    rcases Int.le_total 0 (σ 2 p - σ 6 h) with q | q
    · exact Int.mul_nonneg q q
    · exact Int.mul_nonneg_of_nonpos_of_nonpos q q
  unfold d2Z
  omega
theorem nMore_bd (d : Int) : 0 ≤ nMore d ∧ nMore d ≤ 30 := by
  unfold nMore
  split
  · omega
  · split
    · omega
    · split <;> omega
theorem nDbl_bd (d : Int) : 0 ≤ nDbl d ∧ nDbl d ≤ 10 := by
  unfold nDbl
  repeat (first | omega | split)
theorem nJoin_bd {a b X : Int} (ha : 0 ≤ a ∧ a ≤ X) (hb : 0 ≤ b ∧ b ≤ X) : 0 ≤ nJoin a b ∧ nJoin a b ≤ X + 30 := by
  unfold nJoin
  split
  · omega
  · have h1 := mxZ_s a b
    have h2 := nMore_bd (abZ (a - b))
    omega
theorem nCut_bd {σ : Nat → Int → Int} (hI : invN σ) (pr : Int) : 0 ≤ nCut σ pr ∧ nCut σ pr ≤ 300 := by
  obtain ⟨-, -, hN8, -, -, -, -, -, -, -, -, -, -, -, hB13, -⟩ := hI
  refine fo_inv (fun _ x => 0 ≤ x ∧ x ≤ 300) _ _ hN8.1 (by omega) (fun i x _ _ hx => ?_)
  show 0 ≤ nCutF σ pr x i ∧ nCutF σ pr x i ≤ 300
  have := hB13 i
  unfold nCutF
  split <;> omega
theorem nGiven_bd {σ : Nat → Int → Int} (hI : invN σ) (p h t : Int) : 0 ≤ nGiven σ p h t ∧ nGiven σ p h t ≤ 1200 := by
  have hc := nCut_bd hI (p * 20 + h)
  obtain ⟨-, -, -, hN14, -, -, hB3, -, -, -, -, -, -, -, hB13, hB15, hB16, -⟩ := hI
  have h1 := hB3 (p * 3 + t)
  have h2 := mul_bd (a := σ 14 0) (b := σ 16 (p * 20 + h)) hN14 (hB16 _)
  unfold nGiven
  have h3 := mxZ_s (σ 3 (p * 3 + t) - σ 14 0 * σ 16 (p * 20 + h) - nCut σ (p * 20 + h)) 0
  omega
theorem nPart_bd {σ : Nat → Int → Int} (hI : invN σ) (h t : Int) : 0 ≤ nPart σ h t ∧ nPart σ h t ≤ 1560 := by
  have hN0 := hI.1
  have := fo_inv (fun i x => 0 ≤ x ∧ x ≤ 1200 + 30 * i) (fun j p => nJoin j (nGiven σ p h t)) 0 hN0.1 (by omega) (fun i x _ _ hx => by
    have g := nGiven_bd hI i h t
    have := nJoin_bd (a := x) (b := nGiven σ i h t) (X := 1200 + 30 * i) (by omega) (by omega)
    omega)
  unfold nPart
  omega
theorem nDay_bd {σ : Nat → Int → Int} (hI : invN σ) (h : Int) : 0 ≤ nDay σ h ∧ nDay σ h ≤ 1760 := by
  refine fo_inv (fun _ x => 0 ≤ x ∧ x ≤ 1760) _ _ (by omega) (by omega) (fun i x _ _ hx => ?_)
  show 0 ≤ nDayF σ h x i ∧ nDayF σ h x i ≤ 1760
  have h1 := nPart_bd hI h i
  obtain ⟨-, -, -, -, -, -, -, -, -, -, -, -, -, -, -, hB15, -⟩ := hI
  have h2 := hB15 i
  have h3 := mxZ_s x (nPart σ h i + σ 15 i)
  unfold nDayF
  split <;> omega
theorem nMsk_bd {σ : Nat → Int → Int} (hI : invN σ) (p h : Int) {m : Int} (hm : 0 ≤ m ∧ m < 256) : 0 ≤ nMsk σ p h m ∧ nMsk σ p h m < 256 := by
  obtain ⟨-, -, hN8, -⟩ := hI
  refine fo_inv (fun _ x => 0 ≤ x ∧ x < 256) _ _ hN8.1 hm (fun i x h0 h1 hx => ?_)
  show 0 ≤ nMskF σ p h x i ∧ nMskF σ p h x i < 256
  unfold nMskF
  split
  · exact orZ_bd hx (by omega)
  · exact hx
theorem nNone_01 (σ : Nat → Int → Int) (lim : Int) : nNone σ lim = 0 ∨ nNone σ lim = 1 := by
  have key : ∀ (k : Nat) (i : Int), ftN (fun h => decide (lim < nDay σ h)) (fun _ => 0) 1 k i = 0 ∨ ftN (fun h => decide (lim < nDay σ h)) (fun _ => 0) 1 k i = 1 := by
    intro k
    induction k with
    | zero => intro i; exact Or.inr rfl
    | succ k ih =>
      intro i
      show (bif decide (lim < nDay σ i) then (0 : Int) else ftN _ _ _ k (i + 1)) = 0 ∨ (bif decide (lim < nDay σ i) then (0 : Int) else ftN _ _ _ k (i + 1)) = 1
      cases decide (lim < nDay σ i) with
      | true => exact Or.inl rfl
      | false => exact ih (i + 1)
  exact key _ _
theorem up_id (f : Int → Int) (i : Int) : up f i (f i) = f := by
  funext k
  unfold up
  by_cases h : k = i
  · rw [if_pos h, h]
  · rw [if_neg h]
theorem up_up (f : Int → Int) (i v w : Int) : up (up f i v) i w = up f i w := by
  funext k
  unfold up
  by_cases h : k = i
  · rw [if_pos h, if_pos h]
  · rw [if_neg h, if_neg h, if_neg h]
