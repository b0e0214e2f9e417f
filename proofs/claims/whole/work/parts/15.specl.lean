/-! LAMPS, as functions of its cells τ -/
def invL (τ : Nat → Int → Int) : Prop := (0 ≤ τ 3 0 ∧ τ 3 0 ≤ 5000) ∧ (∀ k, 0 ≤ τ 0 k ∧ τ 0 k ≤ 100000) ∧ (∀ k, 0 ≤ τ 1 k ∧ τ 1 k ≤ 100) ∧ (∀ k, 0 ≤ τ 2 k ∧ τ 2 k ≤ 7000000)
theorem invL_0 {τ : Nat → Int → Int} {g : Int → Int} (h : invL τ) (hg : ∀ k, 0 ≤ g k ∧ g k ≤ 100000) : invL (su τ 0 g) := ⟨h.1, hg, h.2.2.1, h.2.2.2⟩
theorem invL_1 {τ : Nat → Int → Int} {g : Int → Int} (h : invL τ) (hg : ∀ k, 0 ≤ g k ∧ g k ≤ 100) : invL (su τ 1 g) := ⟨h.1, h.2.1, hg, h.2.2.2⟩
theorem invL_2 {τ : Nat → Int → Int} {g : Int → Int} (h : invL τ) (hg : ∀ k, 0 ≤ g k ∧ g k ≤ 7000000) : invL (su τ 2 g) := ⟨h.1, h.2.1, h.2.2.1, hg⟩
theorem invL_3 {τ : Nat → Int → Int} {g : Int → Int} (h : invL τ) (hg : 0 ≤ g 0 ∧ g 0 ≤ 5000) : invL (su τ 3 g) := ⟨hg, h.2.1, h.2.2.1, h.2.2.2⟩
def lFrom (τ : Nat → Int → Int) (d : Int) : Int := if 300 < d then 0 else if d % 10 = 0 then τ 0 (d / 10) else (τ 0 (d / 10) * (10 - d % 10) + τ 0 (d / 10 + 1) * (d % 10)) / 10
def lFirst (pl sp : Int) : Int := if pl - 300 ≤ 0 then 0 else (pl - 300 + sp - 1) / sp * sp
def lsN (F : Int → Int) (sp far : Int) : Nat → Int → Int
  | 0, _ => 0
  | k + 1, q => if q ≤ far then F q + lsN F sp far k (q + sp) else 0
def lSum (F : Int → Int) (sp far q : Int) : Int := lsN F sp far (far - q + 1).toNat q
theorem ls_fuel (F : Int → Int) {sp far : Int} (hs : 1 ≤ sp) : ∀ (k k2 : Nat) (q : Int), far - q + 1 ≤ (k : Int) → far - q + 1 ≤ (k2 : Int) → lsN F sp far k q = lsN F sp far k2 q := by
  intro k
  induction k with
  | zero =>
    intro k2 q h1 h2
    cases k2 with
    | zero => rfl
    | succ k2 => show (0 : Int) = if q ≤ far then _ else 0; rw [if_neg (by omega)]
  | succ k ih =>
    intro k2 q h1 h2
    cases k2 with
    | zero => show (if q ≤ far then _ else 0) = (0 : Int); rw [if_neg (by omega)]
    | succ k2 =>
      show (if q ≤ far then F q + lsN F sp far k (q + sp) else 0) = if q ≤ far then F q + lsN F sp far k2 (q + sp) else 0
      by_cases hq : q ≤ far
      · rw [if_pos hq, if_pos hq, ih k2 (q + sp) (by omega) (by omega)]
      · rw [if_neg hq, if_neg hq]
theorem ls_end (F : Int → Int) {sp far q : Int} (h : far < q) : lSum F sp far q = 0 := by
  unfold lSum
  rw [show (far - q + 1).toNat = 0 from by omega]
  rfl
theorem ls_step (F : Int → Int) {sp far q : Int} (hs : 1 ≤ sp) (h : q ≤ far) : lSum F sp far q = F q + lSum F sp far (q + sp) := by
  unfold lSum
  rw [show (far - q + 1).toNat = (far - q).toNat + 1 from by omega]
  show (if q ≤ far then F q + lsN F sp far (far - q).toNat (q + sp) else 0) = _
  rw [if_pos h, ls_fuel F hs (far - q).toNat (far - (q + sp) + 1).toNat (q + sp) (by omega) (by omega)]
theorem ls_bd (F : Int → Int) {sp far : Int} (hs : 10 ≤ sp) (hF : ∀ q, 0 ≤ F q ∧ F q ≤ 100000) : ∀ (k : Nat) (q : Int), far - q + 1 ≤ (k : Int) → 0 ≤ lSum F sp far q ∧ (q ≤ far + 10 → lSum F sp far q * 10 ≤ 100000 * (far - q + 10)) ∧ (far < q → lSum F sp far q = 0) := by
  intro k
  induction k with
  | zero =>
    intro q h
    rw [ls_end F (by omega)]
    exact ⟨by omega, fun _ => by omega, fun _ => rfl⟩
  | succ k ih =>
    intro q h
    by_cases hq : q ≤ far
    · rw [ls_step F (by omega) hq]
      have h1 := hF q
      obtain ⟨a1, a2, a3⟩ := ih (q + sp) (by omega)
      refine ⟨by omega, fun _ => ?_, fun z => absurd z (by omega)⟩
      by_cases h2 : q + sp ≤ far + 10
      · have := a2 h2
        omega
      · rw [a3 (by omega)]
        omega
    · rw [ls_end F (by omega)]
      exact ⟨by omega, fun _ => by omega, fun _ => rfl⟩
def lAtF (τ : Nat → Int → Int) (pl q : Int) : Int := lFrom τ (abZ (pl - q))
def lAt (τ : Nat → Int → Int) (pl sp : Int) : Int := lSum (lAtF τ pl) sp (mnZ (τ 3 0) (pl + 300)) (lFirst pl sp)
theorem lFrom_bd {τ : Nat → Int → Int} (h0 : ∀ k, 0 ≤ τ 0 k ∧ τ 0 k ≤ 100000) {d : Int} (hd : 0 ≤ d) : 0 ≤ lFrom τ d ∧ lFrom τ d ≤ 100000 := by
  unfold lFrom
  split
  · omega
  · split
    · exact h0 _
    · have a := h0 (d / 10)
      have b := h0 (d / 10 + 1)
      have a1 := Int.mul_le_mul_of_nonneg_right a.2 (show 0 ≤ 10 - d % 10 by omega)
      have b1 := Int.mul_le_mul_of_nonneg_right b.2 (show 0 ≤ d % 10 by omega)
      have a2 := Int.mul_nonneg a.1 (show 0 ≤ 10 - d % 10 by omega)
      have b2 := Int.mul_nonneg b.1 (show 0 ≤ d % 10 by omega)
      omega
theorem lFirst_bd {pl sp : Int} (hp : 0 ≤ pl) (hs : 10 ≤ sp ∧ sp ≤ 600) : 0 ≤ lFirst pl sp ∧ pl - 300 ≤ lFirst pl sp ∧ lFirst pl sp ≤ pl + 299 := by
  unfold lFirst
  split
  · omega
  · have h1 := Int.emod_add_mul_ediv (pl - 300 + sp - 1) sp
    have h2 := Int.emod_nonneg (pl - 300 + sp - 1) (show sp ≠ 0 by omega)
    have h3 := Int.emod_lt_of_pos (pl - 300 + sp - 1) (show 0 < sp by omega)
    rw [Int.mul_comm] at h1
    omega
theorem lAt_bd {τ : Nat → Int → Int} (hI : invL τ) {pl sp : Int} (hp : 0 ≤ pl) (hs : 10 ≤ sp ∧ sp ≤ 600) : 0 ≤ lAt τ pl sp ∧ lAt τ pl sp ≤ 7000000 := by
  have h1 := lFirst_bd hp hs
  have h2 := mnZ_s (τ 3 0) (pl + 300)
  have h3 := ls_bd (lAtF τ pl) (sp := sp) (far := mnZ (τ 3 0) (pl + 300)) hs.1 (fun q => lFrom_bd hI.2.1 (by have := abZ_s (pl - q); omega)) _ (lFirst pl sp) (Int.le_of_lt (lt_tn _))
  unfold lAt
  by_cases h4 : lFirst pl sp ≤ mnZ (τ 3 0) (pl + 300)
  · have := h3.2.1 (by omega)
    omega
  · rw [h3.2.2 (by omega)]
    omega
def lG (τ : Nat → Int → Int) (sp : Int) : Int → Int := fun k => lAt τ (k * 10) sp
def lLstF (τ : Nat → Int → Int) (a k : Int) : Int := mnZ a (τ 2 (1 + k))
def lLst (τ : Nat → Int → Int) : Int := fo (lLstF τ) (τ 2 0) (τ 3 0 / 10)
def lMeanF (τ : Nat → Int → Int) (pc a k : Int) : Int := a + τ 2 k * pc / 100
def lMean (τ : Nat → Int → Int) (pc : Int) : Int := fo (lMeanF τ pc) 0 (τ 3 0 / 10 + 1) / (τ 3 0 / 10 + 1)
def lEven (τ : Nat → Int → Int) : Int := if lMean τ 100 = 0 then 0 else lLst τ * 1000 / lMean τ 100
def rLst (τ : Nat → Int → Int) (sp : Int) : Int := lLst (su τ 2 (lG τ sp))
def rMean (τ : Nat → Int → Int) (sp pc : Int) : Int := lMean (su τ 2 (lG τ sp)) pc
def rEven (τ : Nat → Int → Int) (sp : Int) : Int := lEven (su τ 2 (lG τ sp))
def lWide (τ : Nat → Int → Int) (a b : Int) : Int := ft (fun j => decide (a ≤ rMean τ (600 - 10 * j) 100 ∧ b ≤ rEven τ (600 - 10 * j))) (fun j => 600 - 10 * j) (-1) 0 60
def lDarkF (τ : Nat → Int → Int) (sp a n h : Int) : Int := if rMean τ sp (τ 1 h) < a then n + 1 else n
def lDark (τ : Nat → Int → Int) (sp a : Int) : Int := fo (lDarkF τ sp a) 0 24
def lMv (τ : Nat → Int → Int) (sp cu re : Int) : Int := ((τ 3 0 / sp + 1) * ((τ 3 0 / sp + 1) - 1) / 2 * cu * sp * re) / 1000000
def lWired (τ : Nat → Int → Int) (cu re mo : Int) : Int := ft (fun j => decide (lMv τ (600 - 10 * j) cu re ≤ mo)) (fun j => 600 - 10 * j) (-1) 0 60
def lLitF (τ : Nat → Int → Int) (n k : Int) : Int := if 0 < τ 0 k then n + 1 else n
def lLit (τ : Nat → Int → Int) : Int := fo (lLitF τ) 0 31
theorem lLst_congr {τ : Nat → Int → Int} {u g : Int → Int} (hl : 0 ≤ τ 3 0) (h : ∀ k, 0 ≤ k → k < τ 3 0 / 10 + 1 → u k = g k) : lLst (su τ 2 u) = lLst (su τ 2 g) := by
  show fo (lLstF (su τ 2 u)) (u 0) (τ 3 0 / 10) = fo (lLstF (su τ 2 g)) (g 0) (τ 3 0 / 10)
  rw [h 0 (by omega) (by omega)]
  refine fo_congr _ _ _ (fun i x h0 h1 => ?_)
  show mnZ x (u (1 + i)) = mnZ x (g (1 + i))
  rw [h (1 + i) (by omega) (by omega)]
theorem lMean_congr {τ : Nat → Int → Int} {u g : Int → Int} (h : ∀ k, 0 ≤ k → k < τ 3 0 / 10 + 1 → u k = g k) (pc : Int) : lMean (su τ 2 u) pc = lMean (su τ 2 g) pc := by
  show fo (lMeanF (su τ 2 u) pc) 0 (τ 3 0 / 10 + 1) / (τ 3 0 / 10 + 1) = fo (lMeanF (su τ 2 g) pc) 0 (τ 3 0 / 10 + 1) / (τ 3 0 / 10 + 1)
  rw [fo_congr (lMeanF (su τ 2 u) pc) (lMeanF (su τ 2 g) pc) 0 (fun i x h0 h1 => ?_)]
  show x + u i * pc / 100 = x + g i * pc / 100
  rw [h i h0 h1]
theorem lEven_congr {τ : Nat → Int → Int} {u g : Int → Int} (hl : 0 ≤ τ 3 0) (h : ∀ k, 0 ≤ k → k < τ 3 0 / 10 + 1 → u k = g k) : lEven (su τ 2 u) = lEven (su τ 2 g) := by
  unfold lEven
  rw [lMean_congr h, lLst_congr hl h]
theorem lMean_bd {τ : Nat → Int → Int} (hI : invL τ) {pc : Int} (hp : 0 ≤ pc ∧ pc ≤ 100) : 0 ≤ lMean τ pc ∧ lMean τ pc ≤ 7000000 := by
  obtain ⟨h3, -, -, h2⟩ := hI
  have := fo_inv (fun i x => 0 ≤ x ∧ x ≤ 7000000 * i) (lMeanF τ pc) 0 (n := τ 3 0 / 10 + 1) (by omega) (by omega) (fun i x _ _ hx => by
    show 0 ≤ x + τ 2 i * pc / 100 ∧ x + τ 2 i * pc / 100 ≤ 7000000 * (i + 1)
    have := mul_bd (h2 i) hp
    omega)
  unfold lMean
  exact ⟨Int.ediv_nonneg this.1 (by omega), Int.ediv_le_of_le_mul (by omega) this.2⟩
theorem lLst_bd {τ : Nat → Int → Int} (hI : invL τ) : 0 ≤ lLst τ ∧ lLst τ ≤ 7000000 := by
  obtain ⟨h3, -, -, h2⟩ := hI
  exact fo_inv (fun _ x => 0 ≤ x ∧ x ≤ 7000000) (lLstF τ) (τ 2 0) (n := τ 3 0 / 10) (by omega) (h2 0) (fun i x _ _ hx => by
    show 0 ≤ mnZ x (τ 2 (1 + i)) ∧ mnZ x (τ 2 (1 + i)) ≤ 7000000
    have := h2 (1 + i)
    have := mnZ_s x (τ 2 (1 + i))
    omega)
theorem lLst_le {τ : Nat → Int → Int} (hl : 0 ≤ τ 3 0) : ∀ k, 0 ≤ k → k < τ 3 0 / 10 + 1 → lLst τ ≤ τ 2 k := by
  have := fo_inv (fun i x => ∀ k, 0 ≤ k → k < i + 1 → x ≤ τ 2 k) (lLstF τ) (τ 2 0) (n := τ 3 0 / 10) (by omega) (fun k h0 h1 => by rw [show k = 0 from by omega]; omega) (fun i x h0 h1 hx k h2 h3 => by
    show mnZ x (τ 2 (1 + i)) ≤ τ 2 k
    have q := mnZ_s x (τ 2 (1 + i))
    by_cases hk : k < i + 1
    · have := hx k h2 hk
      omega
    · rw [show k = 1 + i from by omega]
      omega)
  exact this
theorem lLst_mean {τ : Nat → Int → Int} (hI : invL τ) : lLst τ ≤ lMean τ 100 := by
  have hle := lLst_le hI.1.1
  have h0 := lLst_bd hI
  have h3 := hI.1
  have h := fo_inv (fun i x => lLst τ * i ≤ x) (lMeanF τ 100) 0 (n := τ 3 0 / 10 + 1) (by omega) (by omega) (fun i x h0 h1 hx => by
    show lLst τ * (i + 1) ≤ x + τ 2 i * 100 / 100
    have := hle i h0 h1
    rw [Int.mul_add]
    omega)
  exact Int.le_ediv_of_mul_le (by omega) h
theorem lEven_bd {τ : Nat → Int → Int} (hI : invL τ) : 0 ≤ lEven τ ∧ lEven τ ≤ 1000 := by
  have h1 := lLst_bd hI
  have h2 := lMean_bd hI (pc := 100) (by omega)
  have h5 := lLst_mean hI
  unfold lEven
  split
  · omega
  · have h3 : 0 ≤ lLst τ * 1000 / lMean τ 100 := Int.ediv_nonneg (by omega) (by omega)
    exact ⟨h3, Int.ediv_le_of_le_mul (by omega) (by omega)⟩
theorem pol_bd {n sp : Int} (hn : 0 ≤ n ∧ n ≤ 5000) (hs : 10 ≤ sp) : 0 ≤ n / sp ∧ n / sp ≤ 500 ∧ n / sp * sp ≤ n := by
  have h0 := Int.ediv_nonneg hn.1 (show 0 ≤ sp by omega)
  have h1 := Int.ediv_mul_le n (show sp ≠ 0 by omega)
  refine ⟨h0, ?_, h1⟩
  have h2 := Int.mul_le_mul_of_nonneg_left hs h0
  omega
theorem lMv_bd {τ : Nat → Int → Int} (hI : invL τ) {sp cu re : Int} (hs : 10 ≤ sp ∧ sp ≤ 600) (hc : 0 ≤ cu ∧ cu ≤ 20000) (hr : 0 ≤ re ∧ re ≤ 10000) : 0 ≤ lMv τ sp cu re ∧ lMv τ sp cu re ≤ 300000000 := by
  have h0l := hI.1
  have h1 := pol_bd hI.1 hs.1
  unfold lMv
  generalize hP : τ 3 0 / sp = P at h1 ⊢
  have e0 : P + 1 - 1 = P := by omega
  rw [e0]
  have h2 := mul_bd (a := P + 1) (b := P) (A := 501) (B := 500) (by omega) (by omega)
  have h3 := mul_bd (a := P + 1) (b := P * sp) (A := 501) (B := 5000) (by omega) ⟨Int.mul_nonneg h1.1 (by omega), by omega⟩
  have e1 : (P + 1) * (P * sp) = (P + 1) * P * sp := by grind
  rw [e1] at h3
  generalize (P + 1) * P = X at h2 h3 ⊢
  have h4 : 0 ≤ X / 2 * sp := Int.mul_nonneg (by omega) (by omega)
  have h5 : X / 2 * sp ≤ X * sp := Int.mul_le_mul_of_nonneg_right (by omega) (by omega)
  have h5b : X / 2 * sp * 2 ≤ X * sp := by
    have := Int.mul_le_mul_of_nonneg_right (show X / 2 * 2 ≤ X by omega) (show 0 ≤ sp by omega)
    have e : X / 2 * 2 * sp = X / 2 * sp * 2 := by grind
    omega
  have h6 := mul_bd (a := cu) (b := re) hc hr
  have h7 := mul_bd (a := X / 2 * sp) (b := cu * re) (A := 1252500) (B := 200000000) (by omega) (by omega)
  have e2 : X / 2 * cu * sp * re = X / 2 * sp * (cu * re) := by grind
  rw [e2]
  omega
/-! the poles in reach, counted: pole number q stands at q * sp -/
def lFirstK (pl sp : Int) : Int := if pl - 300 ≤ 0 then 0 else (pl - 300 + sp - 1) / sp
theorem lFirst_K (pl sp : Int) : lFirst pl sp = lFirstK pl sp * sp := by
  unfold lFirst lFirstK
  by_cases h : pl - 300 ≤ 0
  · rw [if_pos h, if_pos h, Int.zero_mul]
  · rw [if_neg h, if_neg h]
theorem lFirstK_bd {pl sp : Int} (hp : 0 ≤ pl ∧ pl ≤ 5000) (hs : 10 ≤ sp ∧ sp ≤ 600) : 0 ≤ lFirstK pl sp ∧ lFirstK pl sp ≤ 600 := by
  have h1 := lFirst_bd hp.1 hs
  rw [lFirst_K] at h1
  have h0 : 0 ≤ lFirstK pl sp := by
    unfold lFirstK
    split
    · exact Int.le_refl 0
    · exact Int.ediv_nonneg (by omega) (by omega)
  have h2 := Int.mul_le_mul_of_nonneg_left hs.1 h0
  omega
theorem lq_le {q far sp : Int} (hs : 10 ≤ sp) (h : q ≤ far / sp) : q * sp ≤ far := (Int.le_ediv_iff_mul_le (by omega)).mp h
theorem lq_gt {q far sp : Int} (hs : 10 ≤ sp) (h : far / sp < q) : far < q * sp := Int.not_le.mp (fun h2 => absurd ((Int.le_ediv_iff_mul_le (by omega)).mpr h2) (by omega))
