/-! CLASS AND REFERENCE SIDE BY SIDE -/
def Rel (σ τ μ : Nat → Int → Int) : Prop := invN σ ∧ invL τ ∧ invM μ ∧ (∀ k, I32 (σ 18 k)) ∧ (σ 0 = μ 0 ∧ σ 1 = μ 1 ∧ σ 2 = μ 2 ∧ σ 3 = μ 3 ∧ σ 4 = μ 4 ∧ σ 5 = μ 5 ∧ σ 6 = μ 6 ∧ σ 7 = μ 7 ∧ σ 8 = μ 8) ∧ ((∀ k, σ 9 k = μ 9 (4 * k)) ∧ (∀ k, σ 10 k = μ 9 (4 * k + 1)) ∧ (∀ k, σ 11 k = μ 9 (4 * k + 2)) ∧ (∀ k, σ 12 k = μ 9 (4 * k + 3)) ∧ σ 13 = μ 10 ∧ σ 14 = μ 11 ∧ σ 15 = μ 12) ∧ (τ 0 = μ 13 ∧ τ 1 = μ 15 ∧ τ 3 = μ 14) ∧ (∀ w, 0 ≤ w → w < σ 8 0 → (σ 9 w ≠ σ 11 w ∨ σ 10 w ≠ σ 12 w)) ∧ (∀ p h, 0 ≤ p → p < σ 0 0 → 0 ≤ h → h < σ 4 0 → σ 16 (p * 20 + h) = nDbl (d2Z σ p h) ∧ σ 17 (p * 20 + h) = nMsk σ p h 0) ∧ (∀ p h, 0 ≤ p → p < 12 → 0 ≤ h → h < 20 → (σ 0 0 ≤ p ∨ σ 4 0 ≤ h) → σ 17 (p * 20 + h) = 0)
theorem Rel.iN {σ τ μ : Nat → Int → Int} (h : Rel σ τ μ) : invN σ := h.1
theorem Rel.iL {σ τ μ : Nat → Int → Int} (h : Rel σ τ μ) : invL τ := h.2.1
theorem Rel.iM {σ τ μ : Nat → Int → Int} (h : Rel σ τ μ) : invM μ := h.2.2.1
theorem Rel.id {σ τ μ : Nat → Int → Int} (h : Rel σ τ μ) : ∀ k, I32 (σ 18 k) := h.2.2.2.1
def xz (xs : Nat → Int32) (i : Int) : Int := (xs i.toNat).toInt
theorem xz_ok (xs : Nat → Int32) (i : Int) : I32 (xz xs i) := i32_of _
theorem an31 (x : Int32) : ∃ z : Int, 0 ≤ z ∧ z < 32 ∧ x &&& iI 31 = iI z := by
  obtain ⟨j, hj, e⟩ := pk_andE x (m := iI 31) 5 (by decide +kernel)
  exact ⟨(j : Int), by omega, by omega, by rw [e]; exact (Int32.ofInt_eq_ofNat (n := j)).symm⟩
section RL
variable {p : Program} {l : Launch} {e : Env} {R : Room} {s : State} {m : MethodId} {args : Array Value} {below : List Frame} {meth : Method} {c : Code} {H : Heap} {locs : List Loc} {cells slots : Nat} {Q : State → Prop} {cc : ByteArray} {pc : Nat} {ls : Array Slot} {rest : List Value}
variable {ar : Array Value} {st0 : List Value} {D : va_G} {A0 : Nat → Prop} {H0 : Heap}
theorem r_sld (hx : p.tables.exec = Jvm.exec) (hb : c.code = cc) {b L : Nat} {xs : Nat → Int32} (hX : va_X b L xs s H0) (hbl : b < H0.size) (hbA : ¬ A0 b) (hS : va_S A0 H0 H locs) {i : Int} (hin : 0 ≤ i ∧ i < (L : Int)) (hL : L ≤ 3072) (hdg : decode cc pc = .ok (.iaload, 1)) (k : W p l e R s m args below meth c H locs cells slots Q (F0 m (pc + 1) ls (.int (iI (xz xs i)) :: rest))) : W p l e R s m args below meth c H locs cells slots Q (F0 m pc ls (.int (iI i) :: .ref b :: rest)) :=
  va_sld hx hb hX hbl hbA hS (iI_in hin (by omega)) hdg (by rw [iI_cl (by omega)]; have e : iI (xz xs i) = xs i.toNat := iI_of _; rw [← e]; exact k)
theorem r_callMl {S : Type} {v : S → Int} {post : S → Prop} {wd : S → va_W} {wc w2 : va_W} (hr : va_Run p l e R s m args below meth c H locs cells slots 0 0 (F0 m pc ls st0) rest (va_Qi (fun r u => r = iI (v u) ∧ post u) (fun u t => va_P D vwCl (wd u) t.heap) (va_A wc H.size) ar) (va_A wc H.size)) (hP : va_P D vwCl (wc ++ w2) H) (hD : va_D A0 (wc ++ w2)) (hS : va_S A0 H0 H locs) (hA : ∀ q, H0.size ≤ q → A0 q) (hf : ∀ u, (wd u).map Prod.fst = wc.map Prod.fst)
    (kk : ∀ (u : S) (H1 : Heap) (locs1 : List Loc), post u → va_P D vwCl (wd u ++ w2) H1 → va_D A0 (wd u ++ w2) → va_S A0 H0 H1 locs1 → W p l e R s m args below meth c H1 locs1 cells slots Q (F0 m (pc + 3) ls (.int (iI (v u)) :: rest))) : W p l e R s m args below meth c H locs cells slots Q (F0 m pc ls st0) :=
  r_callM (w1 := []) hr hP hD hS hA hf kk
theorem r_callMr {S : Type} {v : S → Int} {post : S → Prop} {wd : S → va_W} {w1 wc : va_W} (hr : va_Run p l e R s m args below meth c H locs cells slots 0 0 (F0 m pc ls st0) rest (va_Qi (fun r u => r = iI (v u) ∧ post u) (fun u t => va_P D vwCl (wd u) t.heap) (va_A wc H.size) ar) (va_A wc H.size)) (hP : va_P D vwCl (w1 ++ wc) H) (hD : va_D A0 (w1 ++ wc)) (hS : va_S A0 H0 H locs) (hA : ∀ q, H0.size ≤ q → A0 q) (hf : ∀ u, (wd u).map Prod.fst = wc.map Prod.fst)
    (kk : ∀ (u : S) (H1 : Heap) (locs1 : List Loc), post u → va_P D vwCl (w1 ++ wd u) H1 → va_D A0 (w1 ++ wd u) → va_S A0 H0 H1 locs1 → W p l e R s m args below meth c H1 locs1 cells slots Q (F0 m (pc + 3) ls (.int (iI (v u)) :: rest))) : W p l e R s m args below meth c H locs cells slots Q (F0 m pc ls st0) := by
  refine r_callM (w1 := w1) (w2 := []) hr (by rw [List.append_nil]; exact hP) (by rw [List.append_nil]; exact hD) hS hA hf (fun u H1 locs1 h1 h2 h3 h4 => ?_)
  rw [List.append_nil] at h2 h3
  exact kk u H1 locs1 h1 h2 h3 h4
end RL
/-- what the law's body knows everywhere -/
def lwC (p : Program) (s : State) (m : MethodId) (c : Code) (b L : Nat) (xs : Nat → Int32) (D : va_G) (cy : ClassId) : Prop := p.tables.exec = Jvm.exec ∧ c.code = code ∧ c.maxLocals = 4 ∧ s.vm.findClass RL = some m.cls ∧ (∀ w ∈ wsL_law, w.before #[Value.ref b] s = true) ∧ va_K D vwCl [(cy, .int)] s ∧ va_X b L xs s s.heap ∧ b < s.heap.size ∧ L ≤ 3072
def lwZ (below : List Frame) (a : Array Value) (s : State) : State → Prop := fun t => ∃ o, t.status = .running ∧ Ended t below o ∧ (o = .returned (some (.int 1)) ∧ Framed s o t [] 34 1499)
