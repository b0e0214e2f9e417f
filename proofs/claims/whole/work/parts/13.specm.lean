/-! NOISE: the new cells behind a change -/
theorem su_su (σ : Nat → Int → Int) (k : Nat) (a b : Int → Int) : su (su σ k a) k b = su σ k b := by
  funext j
  unfold su
  cases Nat.beq j k <;> rfl
theorem su_id (σ : Nat → Int → Int) (k : Nat) : su σ k (σ k) = σ := by
  funext j
  unfold su
  cases h : Nat.beq j k with
  | true =>
    have := Nat.eq_of_beq_eq_true h
    subst this
    rfl
  | false => rfl
def nRank (σ : Nat → Int → Int) (k : Int) : Int := ft (fun h => decide (nAhead (nDay σ) (σ 4 0) h = k)) (fun h => h) (-1) 0 (σ 4 0)
theorem nAhead_congr {g g2 : Int → Int} {c h : Int} (hh : 0 ≤ h ∧ h < c) (e : ∀ k, 0 ≤ k → k < c → g k = g2 k) : nAhead g c h = nAhead g2 c h := by
  refine fo_congr _ _ _ (fun i x h0 h1 => ?_)
  show nAheadF g h x i = nAheadF g2 h x i
  unfold nAheadF
  rw [e h hh.1 hh.2, e i h0 h1]
theorem up_same {g f : Int → Int} {w : Int} (h : ∀ k, k ≠ w → g k = f k) (v : Int) : up g w v = up f w v := by
  funext k
  unfold up
  by_cases q : k = w
  · rw [if_pos q, if_pos q]
  · rw [if_neg q, if_neg q, h k q]
theorem up_back {g f : Int → Int} {w : Int} (h : ∀ k, k ≠ w → g k = f k) : up g w (f w) = f := by
  rw [up_same h, up_id]
theorem nNone_13 (σ : Nat → Int → Int) {g : Int → Int} {w : Int} (h : ∀ k, k ≠ w → g k = σ 13 k) (v lim : Int) : nNone (su (su σ 13 g) 13 (up g w v)) lim = nNone (su σ 13 (up (σ 13) w v)) lim := by
  rw [su_su, up_same h]
theorem note_bd {σ : Nat → Int → Int} (hI : invN σ) {w : Int} (hw : 0 ≤ w ∧ w < 8) (p h : Int) : ∀ k, 0 ≤ nNoteF σ w p h k ∧ nNoteF σ w p h k < 256 := by
  obtain ⟨-, -, -, -, -, -, -, -, -, -, -, -, -, -, -, -, -, hB17⟩ := hI
  unfold nNoteF
  split
  · exact up_bl hB17 (orZ_bd (hB17 _) hw)
  · exact hB17
theorem note_step (σ : Nat → Int → Int) (d : Int → Int) (m i p h : Int) : nNoteF (su (su σ 16 d) 17 (up (σ 17) (p * 20 + h) m)) i p h = up (σ 17) (p * 20 + h) (nMskF σ p h m i) := by
  unfold nNoteF nMskF
  by_cases q : nBtw σ i p h
  · rw [if_pos q, if_pos (show nBtw (su (su σ 16 d) 17 (up (σ 17) (p * 20 + h) m)) i p h from q)]
    show up (up (σ 17) (p * 20 + h) m) (p * 20 + h) (orZ (up (σ 17) (p * 20 + h) m (p * 20 + h)) i) = _
    rw [up_up, up_s]
  · rw [if_neg q, if_neg (show ¬ nBtw (su (su σ 16 d) 17 (up (σ 17) (p * 20 + h) m)) i p h from q)]
    rfl
def nPutP (σ : Nat → Int → Int) (x y a b t : Int) : Nat → Int → Int := su (su (su (su σ 0 (fun _ => σ 0 0 + 1)) 1 (up (σ 1) (σ 0 0) x)) 2 (up (σ 2) (σ 0 0) y)) 3 (up (up (up (σ 3) (σ 0 0 * 3) a) (σ 0 0 * 3 + 1) b) (σ 0 0 * 3 + 2) t)
def nMeaD (σ : Nat → Int → Int) (p h : Int) (d : Int → Int) : Int → Int := up d (p * 20 + h) (nDbl (d2Z σ p h))
def nMeaB (σ : Nat → Int → Int) (p h : Int) (m : Int → Int) : Int → Int := up m (p * 20 + h) (nMsk σ p h (m (p * 20 + h)))
def nAddP (σ : Nat → Int → Int) (x y a b t : Int) : Nat → Int → Int := if 12 ≤ σ 0 0 then σ else su (su (nPutP σ x y a b t) 16 (fo (fun d h => nMeaD (nPutP σ x y a b t) (σ 0 0) h d) (σ 16) (σ 4 0))) 17 (fo (fun m h => nMeaB (nPutP σ x y a b t) (σ 0 0) h m) (σ 17) (σ 4 0))
def nPutH (σ : Nat → Int → Int) (x y n : Int) : Nat → Int → Int := su (su (su (su σ 4 (fun _ => σ 4 0 + 1)) 5 (up (σ 5) (σ 4 0) x)) 6 (up (σ 6) (σ 4 0) y)) 7 (up (σ 7) (σ 4 0) n)
def nAddH (σ : Nat → Int → Int) (x y n : Int) : Nat → Int → Int := if 20 ≤ σ 4 0 then σ else su (su (nPutH σ x y n) 16 (fo (fun d p => nMeaD (nPutH σ x y n) p (σ 4 0) d) (σ 16) (σ 0 0))) 17 (fo (fun m p => nMeaB (nPutH σ x y n) p (σ 4 0) m) (σ 17) (σ 0 0))
def nPutW (σ : Nat → Int → Int) (x y z w v : Int) : Nat → Int → Int := su (su (su (su (su (su σ 8 (fun _ => σ 8 0 + 1)) 9 (up (σ 9) (σ 8 0) x)) 10 (up (σ 10) (σ 8 0) y)) 11 (up (σ 11) (σ 8 0) z)) 12 (up (σ 12) (σ 8 0) w)) 13 (up (σ 13) (σ 8 0) v)
def nNoteS (σ : Nat → Int → Int) (w p h : Int) (m : Int → Int) : Int → Int := if nBtw σ w p h then up m (p * 20 + h) (orZ (m (p * 20 + h)) w) else m
def nRowS (σ : Nat → Int → Int) (w p c : Int) (m : Int → Int) : Int → Int := fo (fun m h => nNoteS σ w p h m) m c
def nAddW (σ : Nat → Int → Int) (x y z w v : Int) : Nat → Int → Int := if 8 ≤ σ 8 0 then σ else su (nPutW σ x y z w v) 17 (fo (fun m p => nRowS (nPutW σ x y z w v) (σ 8 0) p (σ 4 0) m) (σ 17) (σ 0 0))
theorem nAhead_bd (g : Int → Int) (c h : Int) (hc : 0 ≤ c) : 0 ≤ nAhead g c h ∧ nAhead g c h ≤ c := by
  refine fo_inv (fun i x => 0 ≤ x ∧ x ≤ i) _ _ hc (by omega) (fun i x h0 h1 hx => ?_)
  show 0 ≤ nAheadF g h x i ∧ nAheadF g h x i ≤ i + 1
  unfold nAheadF
  split <;> omega
theorem ex_step {g F : Int → Int} {i v : Int} (h : ∀ k, 0 ≤ k → k < i → g k = F k) (hv : v = F i) : ∀ k, 0 ≤ k → k < i + 1 → up g i v k = F k := by
  intro k h0 h1
  by_cases q : k = i
  · rw [q, up_s, hv]
  · rw [up_n _ _ q]; exact h k h0 (by omega)
theorem least_a {σ : Nat → Int → Int} {g : Int → Int} {w b i f : Int} (hN : nNone (su (su σ 13 g) 13 (up g w i)) b = nNone (su σ 13 (up (σ 13) w i)) b) (hi : 0 ≤ i ∧ i ≤ 305 ∧ i % 5 = 0) (h3 : i ≤ 300) (hf : (f = -1 ∧ nLeast σ w b = ft (fun j => decide (nNone (su σ 13 (up (σ 13) w (5 * j))) b ≠ 0)) (fun j => 5 * j) (-1) (i / 5) 61) ∨ (0 ≤ f ∧ f ≤ 300 ∧ nLeast σ w b = f)) (h1 : f = -1) (h0 : nNone (su (su σ 13 g) 13 (up g w i)) b = 0) : (f = -1 ∧ nLeast σ w b = ft (fun j => decide (nNone (su σ 13 (up (σ 13) w (5 * j))) b ≠ 0)) (fun j => 5 * j) (-1) ((i + 5) / 5) 61) ∨ (0 ≤ f ∧ f ≤ 300 ∧ nLeast σ w b = f) := by
  rcases hf with q | q
  · refine Or.inl ⟨h1, ?_⟩
    rw [q.2, ft_miss _ _ _ (by omega) (decide_eq_false (by rw [show 5 * (i / 5) = i from by omega, ← hN]; exact fun z => z h0)), show (i + 5) / 5 = i / 5 + 1 from by omega]
  · omega
theorem least_b {σ : Nat → Int → Int} {g : Int → Int} {w b i f : Int} (hN : nNone (su (su σ 13 g) 13 (up g w i)) b = nNone (su σ 13 (up (σ 13) w i)) b) (hi : 0 ≤ i ∧ i ≤ 305 ∧ i % 5 = 0) (h3 : i ≤ 300) (hf : (f = -1 ∧ nLeast σ w b = ft (fun j => decide (nNone (su σ 13 (up (σ 13) w (5 * j))) b ≠ 0)) (fun j => 5 * j) (-1) (i / 5) 61) ∨ (0 ≤ f ∧ f ≤ 300 ∧ nLeast σ w b = f)) (h1 : f = -1) (h0 : nNone (su (su σ 13 g) 13 (up g w i)) b ≠ 0) : (i = -1 ∧ nLeast σ w b = ft (fun j => decide (nNone (su σ 13 (up (σ 13) w (5 * j))) b ≠ 0)) (fun j => 5 * j) (-1) ((i + 5) / 5) 61) ∨ (0 ≤ i ∧ i ≤ 300 ∧ nLeast σ w b = i) := by
  rcases hf with q | q
  · refine Or.inr ⟨hi.1, h3, ?_⟩
    rw [q.2, ft_hit _ _ _ (by omega) (decide_eq_true (by rw [show 5 * (i / 5) = i from by omega, ← hN]; exact h0))]
    omega
  · omega
