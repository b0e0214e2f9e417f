/-! BASE: every whole number of the machine is iI z (ints) or jI z (longs); rows over them; arrays are aI f; folds and searches. -/
def iI (z : Int) : Int32 := Int32.ofInt z
def jI (z : Int) : Int64 := Int64.ofInt z
abbrev I32 (z : Int) : Prop := -2147483648 ≤ z ∧ z ≤ 2147483647
abbrev I64 (z : Int) : Prop := -9223372036854775808 ≤ z ∧ z ≤ 9223372036854775807
def aI (f : Int → Int) : Nat → Int32 := fun k => iI (f (k : Int))
def up (f : Int → Int) (i v : Int) : Int → Int := fun k => if k = i then v else f k
def su (σ : Nat → Int → Int) (k : Nat) (g : Int → Int) : Nat → Int → Int := fun j => bif Nat.beq j k then g else σ j
def bI (P : Prop) [Decidable P] : Int := if P then 1 else 0
def mxZ (a b : Int) : Int := if a < b then b else a
def mnZ (a b : Int) : Int := if b < a then b else a
def abZ (a : Int) : Int := if 0 ≤ a then a else -a
def cmpZ (a b : Int) : Int := if b < a then 1 else if a = b then 0 else -1
theorem iI_add (a b : Int) : iI a + iI b = iI (a + b) := (Int32.ofInt_add a b).symm
theorem iI_sub (a b : Int) : iI a - iI b = iI (a - b) := (Int32.ofInt_sub a b).symm
theorem iI_mul (a b : Int) : iI a * iI b = iI (a * b) := (Int32.ofInt_mul a b).symm
theorem iI_neg (a : Int) : -iI a = iI (-a) := (Int32.ofInt_neg a).symm
theorem jI_add (a b : Int) : jI a + jI b = jI (a + b) := (Int64.ofInt_add a b).symm
theorem jI_sub (a b : Int) : jI a - jI b = jI (a - b) := (Int64.ofInt_sub a b).symm
theorem jI_mul (a b : Int) : jI a * jI b = jI (a * b) := (Int64.ofInt_mul a b).symm
theorem iI_toInt {a : Int} (h : I32 a) : (iI a).toInt = a := Int32.toInt_ofInt_of_le (by omega) (by omega)
theorem jI_toInt {a : Int} (h : I64 a) : (jI a).toInt = a := Int64.toInt_ofInt_of_le (by omega) (by omega)
theorem iI_of (x : Int32) : iI x.toInt = x := Int32.ofInt_toInt x
theorem i32_of (x : Int32) : I32 x.toInt := ⟨by have := x.le_toInt; omega, by have := x.toInt_lt; omega⟩
theorem iI_lt {a b : Int} (ha : I32 a) (hb : I32 b) : iI a < iI b ↔ a < b := by rw [Int32.lt_iff_toInt_lt, iI_toInt ha, iI_toInt hb]
theorem iI_le {a b : Int} (ha : I32 a) (hb : I32 b) : iI a ≤ iI b ↔ a ≤ b := by rw [Int32.le_iff_toInt_le, iI_toInt ha, iI_toInt hb]
theorem iI_eq {a b : Int} (ha : I32 a) (hb : I32 b) : iI a = iI b ↔ a = b := by rw [← Int32.toInt_inj, iI_toInt ha, iI_toInt hb]
theorem iI_0 : (0 : Int32) = iI 0 := by decide
theorem i0ok : I32 0 := by decide
theorem jI_lt {a b : Int} (ha : I64 a) (hb : I64 b) : jI a < jI b ↔ a < b := by rw [Int64.lt_iff_toInt_lt, jI_toInt ha, jI_toInt hb]
theorem jI_eq {a b : Int} (ha : I64 a) (hb : I64 b) : jI a = jI b ↔ a = b := by rw [← Int64.toInt_inj, jI_toInt ha, jI_toInt hb]
theorem iI_j {a : Int} (h : I32 a) : (iI a).toInt64 = jI a := by
  apply Int64.toInt_inj.mp
  rw [Int32.toInt_toInt64, iI_toInt h, jI_toInt (by omega)]
theorem jI_i (a : Int) : (jI a).toInt32 = iI a := Int64.toInt32_ofInt
theorem iI_div {a b : Int} (ha : 0 ≤ a ∧ a ≤ 2147483647) (hb : 0 < b ∧ b ≤ 2147483647) : iI a / iI b = iI (a / b) := by
  have h0 : 0 ≤ a / b := Int.ediv_nonneg ha.1 (by omega)
  have h1 : a / b ≤ a := Int.ediv_le_self b ha.1
  apply Int32.toInt_inj.mp
  rw [Int32.toInt_div_of_ne_right _ _ (fun h => by rw [show (-1 : Int32) = iI (-1) from by decide, iI_eq (by omega) (by decide)] at h; omega), iI_toInt (by omega), iI_toInt (by omega), iI_toInt (by omega), Int.tdiv_eq_ediv_of_nonneg ha.1]
theorem iI_rem {a b : Int} (ha : 0 ≤ a ∧ a ≤ 2147483647) (hb : 0 < b ∧ b ≤ 2147483647) : iI a - iI a / iI b * iI b = iI (a % b) := by
  rw [iI_div ha hb, iI_mul, iI_sub, Int.emod_def, Int.mul_comm b]
theorem jI_div {a b : Int} (ha : 0 ≤ a ∧ a ≤ 9223372036854775807) (hb : 0 < b ∧ b ≤ 9223372036854775807) : jI a / jI b = jI (a / b) := by
  have h0 : 0 ≤ a / b := Int.ediv_nonneg ha.1 (by omega)
  have h1 : a / b ≤ a := Int.ediv_le_self b ha.1
  apply Int64.toInt_inj.mp
  rw [Int64.toInt_div_of_ne_right _ _ (fun h => by rw [show (-1 : Int64) = jI (-1) from by decide, jI_eq (by omega) (by decide)] at h; omega), jI_toInt (by omega), jI_toInt (by omega), jI_toInt (by omega), Int.tdiv_eq_ediv_of_nonneg ha.1]
theorem iI_cl {a : Int} (h : 0 ≤ a ∧ a ≤ 2147483647) : (iI a).toNatClampNeg = a.toNat := by
  have h1 := iI_toInt (a := a) (by omega)
  rw [show (iI a).toNatClampNeg = (iI a).toInt.toNat from rfl, h1]
theorem iI_in {i : Int} {n : Nat} (h : 0 ≤ i ∧ i < n) (hn : n ≤ 2147483647) : vp_in (iI i) n := by
  rw [vp_in_iff, iI_toInt (by omega)]
  exact h
theorem aI_at (f : Int → Int) {i : Int} (h : 0 ≤ i ∧ i ≤ 2147483647) : aI f (iI i).toNatClampNeg = iI (f i) := by
  rw [iI_cl h]
  show iI (f _) = _
  rw [Int.toNat_of_nonneg h.1]
theorem aI_up (f : Int → Int) {i v : Int} (h : 0 ≤ i ∧ i ≤ 2147483647) : upd (aI f) (iI i).toNatClampNeg (iI v) = aI (up f i v) := by
  funext k
  rw [iI_cl h]
  show (if k = i.toNat then iI v else iI (f (k : Int))) = iI (if (k : Int) = i then v else f (k : Int))
  by_cases hk : k = i.toNat
  · rw [if_pos hk, if_pos (by omega)]
  · rw [if_neg hk, if_neg (by omega)]
theorem bI_t {P : Prop} [Decidable P] (h : P) : bI P = 1 := if_pos h
theorem bI_f {P : Prop} [Decidable P] (h : ¬ P) : bI P = 0 := if_neg h
theorem bI_01 (P : Prop) [Decidable P] : (bI P = 1 ∧ P) ∨ (bI P = 0 ∧ ¬ P) := by
  by_cases h : P
  · exact Or.inl ⟨bI_t h, h⟩
  · exact Or.inr ⟨bI_f h, h⟩
theorem cmpZ_s (a b : Int) : (cmpZ a b = 1 ∧ b < a) ∨ (cmpZ a b = 0 ∧ a = b) ∨ (cmpZ a b = -1 ∧ a < b) := by
  unfold cmpZ
  by_cases h : b < a
  · rw [if_pos h]; exact Or.inl ⟨rfl, h⟩
  · rw [if_neg h]
    by_cases h2 : a = b
    · rw [if_pos h2]; exact Or.inr (Or.inl ⟨rfl, h2⟩)
    · rw [if_neg h2]; exact Or.inr (Or.inr ⟨rfl, by omega⟩)
theorem mxZ_s (a b : Int) : (mxZ a b = b ∧ a < b) ∨ (mxZ a b = a ∧ b ≤ a) := by
  unfold mxZ
  by_cases h : a < b
  · rw [if_pos h]; exact Or.inl ⟨rfl, h⟩
  · rw [if_neg h]; exact Or.inr ⟨rfl, by omega⟩
theorem mnZ_s (a b : Int) : (mnZ a b = b ∧ b < a) ∨ (mnZ a b = a ∧ a ≤ b) := by
  unfold mnZ
  by_cases h : b < a
  · rw [if_pos h]; exact Or.inl ⟨rfl, h⟩
  · rw [if_neg h]; exact Or.inr ⟨rfl, by omega⟩
theorem abZ_s (a : Int) : (abZ a = a ∧ 0 ≤ a) ∨ (abZ a = -a ∧ a < 0) := by
  unfold abZ
  by_cases h : 0 ≤ a
  · rw [if_pos h]; exact Or.inl ⟨rfl, h⟩
  · rw [if_neg h]; exact Or.inr ⟨rfl, by omega⟩
theorem lg_cmpZ {a b : Int} (ha : I64 a) (hb : I64 b) : lg_cmp (jI a) (jI b) = iI (cmpZ a b) := by
  unfold lg_cmp cmpZ
  by_cases h : b < a
  · rw [if_pos h, if_pos (show jI a > jI b from (jI_lt hb ha).mpr h)]; decide
  · rw [if_neg h, if_neg (fun q => h ((jI_lt hb ha).mp q))]
    by_cases h2 : a = b
    · rw [if_pos h2, if_pos (by rw [h2])]; decide
    · rw [if_neg h2, if_neg (fun q => h2 ((jI_eq ha hb).mp q))]; decide
theorem up_s (f : Int → Int) (i v : Int) : up f i v i = v := if_pos rfl
theorem up_n (f : Int → Int) {i k : Int} (v : Int) (h : k ≠ i) : up f i v k = f k := if_neg h
/-! folds over 0 .. n-1, and searches -/
def foN {α : Type} (f : α → Int → α) (a : α) : Nat → α
  | 0 => a
  | k + 1 => f (foN f a k) (k : Int)
def fo {α : Type} (f : α → Int → α) (a : α) (n : Int) : α := foN f a n.toNat
theorem fo_0 {α : Type} (f : α → Int → α) (a : α) : fo f a 0 = a := rfl
theorem fo_s {α : Type} (f : α → Int → α) (a : α) {i : Int} (h : 0 ≤ i) : fo f a (i + 1) = f (fo f a i) i := by
  unfold fo
  rw [show (i + 1).toNat = i.toNat + 1 from by omega]
  show f (foN f a i.toNat) ((i.toNat : Nat) : Int) = _
  rw [Int.toNat_of_nonneg h]
theorem fo_inv {α : Type} (P : Int → α → Prop) (f : α → Int → α) (a : α) {n : Int} (hn : 0 ≤ n) (h0 : P 0 a) (hs : ∀ i x, 0 ≤ i → i < n → P i x → P (i + 1) (f x i)) : P n (fo f a n) := by
  have key : ∀ k : Nat, (k : Int) ≤ n → P (k : Int) (foN f a k) := by
    intro k
    induction k with
    | zero => intro _; exact h0
    | succ k ih =>
      intro hk
      have := hs (k : Int) (foN f a k) (by omega) (by omega) (ih (by omega))
      rw [show ((k + 1 : Nat) : Int) = (k : Int) + 1 from by omega]
      exact this
  have := key n.toNat (by omega)
  rw [Int.toNat_of_nonneg hn] at this
  exact this
theorem fo_congr {α : Type} (f g : α → Int → α) (a : α) {n : Int} (h : ∀ i x, 0 ≤ i → i < n → f x i = g x i) : fo f a n = fo g a n := by
  have key : ∀ k : Nat, (k : Int) ≤ n → foN f a k = foN g a k := by
    intro k
    induction k with
    | zero => intro _; rfl
    | succ k ih =>
      intro hk
      show f (foN f a k) (k : Int) = g (foN g a k) (k : Int)
      rw [ih (by omega)]
      exact h _ _ (by omega) (by omega)
  by_cases hn : 0 ≤ n
  · exact key n.toNat (by omega)
  · unfold fo
    rw [show n.toNat = 0 from by omega]
    rfl
/-- a fold that agrees with another by a relation at each place -/
theorem fo_rel {α β : Type} (P : Int → α → β → Prop) (f : α → Int → α) (g : β → Int → β) (a : α) (b : β) {n : Int} (hn : 0 ≤ n) (h0 : P 0 a b) (hs : ∀ i x y, 0 ≤ i → i < n → P i x y → P (i + 1) (f x i) (g y i)) : P n (fo f a n) (fo g b n) := by
  have key : ∀ k : Nat, (k : Int) ≤ n → P (k : Int) (foN f a k) (foN g b k) := by
    intro k
    induction k with
    | zero => intro _; exact h0
    | succ k ih =>
      intro hk
      have := hs (k : Int) (foN f a k) (foN g b k) (by omega) (by omega) (ih (by omega))
      rw [show ((k + 1 : Nat) : Int) = (k : Int) + 1 from by omega]
      exact this
  have := key n.toNat (by omega)
  rw [Int.toNat_of_nonneg hn] at this
  exact this
/-- the first of i, i+1, .. n-1 with P: v of it; else d -/
def ftN (P : Int → Bool) (v : Int → Int) (d : Int) : Nat → Int → Int
  | 0, _ => d
  | k + 1, i => bif P i then v i else ftN P v d k (i + 1)
def ft (P : Int → Bool) (v : Int → Int) (d i n : Int) : Int := ftN P v d (n - i).toNat i
theorem ft_end (P : Int → Bool) (v : Int → Int) (d : Int) {i n : Int} (h : n ≤ i) : ft P v d i n = d := by
  unfold ft
  rw [show (n - i).toNat = 0 from by omega]
  rfl
theorem ft_hit (P : Int → Bool) (v : Int → Int) (d : Int) {i n : Int} (h : i < n) (hp : P i = true) : ft P v d i n = v i := by
  unfold ft
  rw [show (n - i).toNat = (n - (i + 1)).toNat + 1 from by omega]
  show (bif P i then v i else _) = _
  rw [hp]; rfl
theorem ft_miss (P : Int → Bool) (v : Int → Int) (d : Int) {i n : Int} (h : i < n) (hp : P i = false) : ft P v d i n = ft P v d (i + 1) n := by
  unfold ft
  rw [show (n - i).toNat = (n - (i + 1)).toNat + 1 from by omega]
  show (bif P i then v i else _) = _
  rw [hp]; rfl
theorem ft_congr (P P' : Int → Bool) (v v' : Int → Int) (d : Int) {i n : Int} (h : ∀ k, i ≤ k → k < n → P k = P' k ∧ (P k = true → v k = v' k)) : ft P v d i n = ft P' v' d i n := by
  have key : ∀ (k : Nat) (i : Int), (n - i).toNat = k → (∀ k, i ≤ k → k < n → P k = P' k ∧ (P k = true → v k = v' k)) → ft P v d i n = ft P' v' d i n := by
    intro k
    induction k with
    | zero =>
      intro i hk _
      rw [ft_end _ _ _ (by omega), ft_end _ _ _ (by omega)]
    | succ k ih =>
      intro i hk h
      have h1 := h i (by omega) (by omega)
      cases hp : P i with
      | true => rw [ft_hit _ _ _ (by omega) hp, ft_hit _ _ _ (by omega) (by rw [← h1.1]; exact hp), h1.2 hp]
      | false =>
        rw [ft_miss P v d (by omega) hp, ft_miss P' v' d (by omega) (by rw [← h1.1]; exact hp)]
        exact ih (i + 1) (by omega) (fun j a b => h j (by omega) b)
  exact key _ i rfl h
theorem ft_none (P : Int → Bool) (v : Int → Int) (d : Int) {i n : Int} (h : ∀ k, i ≤ k → k < n → P k = false) : ft P v d i n = d := by
  have key : ∀ (k : Nat) (i : Int), (n - i).toNat = k → (∀ k, i ≤ k → k < n → P k = false) → ft P v d i n = d := by
    intro k
    induction k with
    | zero => intro i hk _; rw [ft_end _ _ _ (by omega)]
    | succ k ih =>
      intro i hk h
      rw [ft_miss _ _ _ (by omega) (h i (by omega) (by omega))]
      exact ih (i + 1) (by omega) (fun j a b => h j (by omega) b)
  exact key _ i rfl h
theorem lt_tn (z : Int) : z < ((z.toNat + 1 : Nat) : Int) := by omega
/-! bits of small masks -/
def pwZ (w : Int) : Int := ((2 ^ w.toNat : Nat) : Int)
def bitZ (m w : Int) : Int := if m.toNat.testBit w.toNat = true then pwZ w else 0
def orZ (m w : Int) : Int := ((m.toNat ||| 2 ^ w.toNat : Nat) : Int)
theorem pw_all : ∀ w : Fin 8, iI 1 <<< (iI (w.val : Int) &&& 31) = iI (pwZ (w.val : Int)) := by decide +kernel
theorem and_all : ∀ m : Fin 256, ∀ w : Fin 8, iI (m.val : Int) &&& iI (pwZ (w.val : Int)) = iI (bitZ (m.val : Int) (w.val : Int)) := by decide +kernel
theorem or_all : ∀ m : Fin 256, ∀ w : Fin 8, iI (m.val : Int) ||| iI (pwZ (w.val : Int)) = iI (orZ (m.val : Int) (w.val : Int)) := by decide +kernel
theorem bd_all : ∀ m : Fin 256, ∀ w : Fin 8, 0 ≤ orZ (m.val : Int) (w.val : Int) ∧ orZ (m.val : Int) (w.val : Int) < 256 := by decide +kernel
theorem pb_all : ∀ w : Fin 8, 1 ≤ pwZ (w.val : Int) ∧ pwZ (w.val : Int) ≤ 128 := by decide +kernel
theorem fin_of {z : Int} {n : Nat} (h : 0 ≤ z ∧ z < (n : Int)) : ∃ f : Fin n, z = (f.val : Int) := ⟨⟨z.toNat, by omega⟩, by show z = (z.toNat : Int); omega⟩
theorem iI_shl {w : Int} (h : 0 ≤ w ∧ w < 8) : iI 1 <<< (iI w &&& 31) = iI (pwZ w) := by
  obtain ⟨f, rfl⟩ := fin_of (n := 8) h
  exact pw_all f
theorem iI_and {m w : Int} (hm : 0 ≤ m ∧ m < 256) (h : 0 ≤ w ∧ w < 8) : iI m &&& iI (pwZ w) = iI (bitZ m w) := by
  obtain ⟨f, rfl⟩ := fin_of (n := 8) h
  obtain ⟨g, rfl⟩ := fin_of (n := 256) hm
  exact and_all g f
theorem iI_or {m w : Int} (hm : 0 ≤ m ∧ m < 256) (h : 0 ≤ w ∧ w < 8) : iI m ||| iI (pwZ w) = iI (orZ m w) := by
  obtain ⟨f, rfl⟩ := fin_of (n := 8) h
  obtain ⟨g, rfl⟩ := fin_of (n := 256) hm
  exact or_all g f
theorem orZ_bd {m w : Int} (hm : 0 ≤ m ∧ m < 256) (h : 0 ≤ w ∧ w < 8) : 0 ≤ orZ m w ∧ orZ m w < 256 := by
  obtain ⟨f, rfl⟩ := fin_of (n := 8) h
  obtain ⟨g, rfl⟩ := fin_of (n := 256) hm
  exact bd_all g f
theorem bitZ_s (m w : Int) (h : 0 ≤ w ∧ w < 8) : (bitZ m w = 0 ∧ m.toNat.testBit w.toNat = false) ∨ (1 ≤ bitZ m w ∧ bitZ m w ≤ 128 ∧ m.toNat.testBit w.toNat = true) := by
  unfold bitZ
  cases hb : m.toNat.testBit w.toNat with
  | false => exact Or.inl ⟨if_neg (by decide), rfl⟩
  | true =>
    rw [if_pos rfl]
    obtain ⟨f, rfl⟩ := fin_of (n := 8) h
    exact Or.inr ⟨(pb_all f).1, (pb_all f).2, rfl⟩
