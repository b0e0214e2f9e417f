/-! WORLDS: the cells of a Lamps (wL), a Noise (wN), the class (wP), the reference (wM); an array is aI of a function on whole numbers; B 100, A 100, M 100 are the objects, B k, A k, M k the arrays of field k -/
abbrev vwCl : List vw_C := [(RX0, TX0, 4), (RX1, TX1, 19), (RX2, TX2, 2), (RX3, TX3, 17)]
def wL (cy : ClassId) (B : Nat → Nat) (τ : Nat → Int → Int) : va_W := [(B 100, .inr (0, [.ref (B 0), .ref (B 1), .ref (B 2), .int (iI (τ 3 0))])), (B 0, .inl (cy, 31, .inl (aI (τ 0)))), (B 1, .inl (cy, 24, .inl (aI (τ 1)))), (B 2, .inl (cy, 501, .inl (aI (τ 2))))]
def wN (cy : ClassId) (A : Nat → Nat) (σ : Nat → Int → Int) : va_W := [(A 100, .inr (1, [.int (iI (σ 0 0)), .ref (A 1), .ref (A 2), .ref (A 3), .int (iI (σ 4 0)), .ref (A 5), .ref (A 6), .ref (A 7), .int (iI (σ 8 0)), .ref (A 9), .ref (A 10), .ref (A 11), .ref (A 12), .ref (A 13), .int (iI (σ 14 0)), .ref (A 15), .ref (A 16), .ref (A 17), .ref (A 18)])), (A 1, .inl (cy, 12, .inl (aI (σ 1)))), (A 2, .inl (cy, 12, .inl (aI (σ 2)))), (A 3, .inl (cy, 36, .inl (aI (σ 3)))), (A 5, .inl (cy, 20, .inl (aI (σ 5)))), (A 6, .inl (cy, 20, .inl (aI (σ 6)))), (A 7, .inl (cy, 20, .inl (aI (σ 7)))), (A 9, .inl (cy, 8, .inl (aI (σ 9)))), (A 10, .inl (cy, 8, .inl (aI (σ 10)))), (A 11, .inl (cy, 8, .inl (aI (σ 11)))), (A 12, .inl (cy, 8, .inl (aI (σ 12)))), (A 13, .inl (cy, 8, .inl (aI (σ 13)))), (A 15, .inl (cy, 3, .inl (aI (σ 15)))), (A 16, .inl (cy, 240, .inl (aI (σ 16)))), (A 17, .inl (cy, 240, .inl (aI (σ 17)))), (A 18, .inl (cy, 20, .inl (aI (σ 18))))]
def wM (cy : ClassId) (M : Nat → Nat) (μ : Nat → Int → Int) : va_W := [(M 100, .inr (3, [.int (iI (μ 0 0)), .ref (M 1), .ref (M 2), .ref (M 3), .int (iI (μ 4 0)), .ref (M 5), .ref (M 6), .ref (M 7), .int (iI (μ 8 0)), .ref (M 9), .ref (M 10), .int (iI (μ 11 0)), .ref (M 12), .ref (M 13), .int (iI (μ 14 0)), .ref (M 15), .ref (M 16)])), (M 1, .inl (cy, 12, .inl (aI (μ 1)))), (M 2, .inl (cy, 12, .inl (aI (μ 2)))), (M 3, .inl (cy, 36, .inl (aI (μ 3)))), (M 5, .inl (cy, 20, .inl (aI (μ 5)))), (M 6, .inl (cy, 20, .inl (aI (μ 6)))), (M 7, .inl (cy, 20, .inl (aI (μ 7)))), (M 9, .inl (cy, 32, .inl (aI (μ 9)))), (M 10, .inl (cy, 8, .inl (aI (μ 10)))), (M 12, .inl (cy, 3, .inl (aI (μ 12)))), (M 13, .inl (cy, 31, .inl (aI (μ 13)))), (M 15, .inl (cy, 24, .inl (aI (μ 15)))), (M 16, .inl (cy, 20, .inl (aI (μ 16))))]
def wX (x : Nat) (A B : Nat → Nat) : va_W := [(x, .inr (2, [.ref (A 100), .ref (B 100)]))]
def wP (cy : ClassId) (x : Nat) (A B : Nat → Nat) (σ τ : Nat → Int → Int) : va_W := wX x A B ++ (wN cy A σ ++ wL cy B τ)
abbrev roB (D : va_G) (cy : ClassId) (ws : va_W) : State → Prop := fun U => va_P D vwCl ws U.heap ∧ va_K D vwCl [(cy, .int)] U
abbrev rwB (D : va_G) (cy : ClassId) (ws : va_W) (sz : Nat) : State → Prop := fun U => U.heap.size = sz ∧ va_P D vwCl ws U.heap ∧ va_K D vwCl [(cy, .int)] U ∧ va_D (fun _ => True) ws
/-- a contract that changes nothing and answers v -/
abbrev MetS (l : Launch) (y : MethodName) (ws : List Cond) (rm : Room) (av : List Value) (v : Int) : Prop := Met l y ws rm (va_Pc av (fun _ => True)) (vp_Si (fun r => r = iI v)) 0 0 (fun _ => False)
abbrev MetR (l : Launch) (y : MethodName) (ws : List Cond) (rm : Room) (D : va_G) (cy : ClassId) (w : va_W) (av : List Value) (v : Int) : Prop := Met l y ws rm (va_Pc av (roB D cy w)) (vp_Si (fun r => r = iI v)) 0 0 (fun _ => False)
abbrev MetRl (l : Launch) (y : MethodName) (ws : List Cond) (rm : Room) (D : va_G) (cy : ClassId) (w : va_W) (av : List Value) (v : Int) : Prop := Met l y ws rm (va_Pc av (roB D cy w)) (vp_Sl (fun r => r = jI v)) 0 0 (fun _ => False)
/-- a contract that answers v, and brings the world to some w2 u with post u -/
abbrev MetM (l : Launch) (y : MethodName) (ws : List Cond) (rm : Room) (D : va_G) (cy : ClassId) (w : va_W) (av : List Value) (sz : Nat) {S : Type} (v : S → Int) (post : S → Prop) (w2 : S → va_W) : Prop := Met l y ws rm (va_Pc av (rwB D cy w sz)) (va_Qi (fun r u => r = iI (v u) ∧ post u) (fun u t => va_P D vwCl (w2 u) t.heap) (va_A w sz)) 0 0 (va_A w sz)
abbrev MetV (l : Launch) (y : MethodName) (ws : List Cond) (rm : Room) (D : va_G) (cy : ClassId) (w : va_W) (av : List Value) (sz : Nat) {S : Type} (post : S → Prop) (w2 : S → va_W) : Prop := Met l y ws rm (va_Pc av (rwB D cy w sz)) (va_Qv post (fun u t => va_P D vwCl (w2 u) t.heap) (va_A w sz)) 0 0 (va_A w sz)
theorem fb_T {av : List Value} : FrameBlind (va_Pc av (fun _ => True)) := fun _ _ _ _ q => q
theorem fb_ro {av : List Value} {D : va_G} {cy : ClassId} {ws : va_W} : FrameBlind (va_Pc av (roB D cy ws)) := fun a U g mk q => ⟨q.1, q.2.1, va_K.moved (u := U) (U := U.calling g mk a) (Vm.Alike.refl U.vm) q.2.2⟩
theorem fb_rw {av : List Value} {D : va_G} {cy : ClassId} {ws : va_W} {sz : Nat} : FrameBlind (va_Pc av (rwB D cy ws sz)) := fun a U g mk q => ⟨q.1, q.2.1, q.2.2.1, va_K.moved (u := U) (U := U.calling g mk a) (Vm.Alike.refl U.vm) q.2.2.2.1, q.2.2.2.2⟩
theorem ps_T {s : State} {H : Heap} {av : List Value} : PreS s H (va_Pc av (fun _ => True)) av := ⟨fb_T, fun _ _ _ => ⟨rfl, trivial⟩⟩
theorem pv_ro {s : State} {H : Heap} {D : va_G} {cy : ClassId} {ws : va_W} {As : List Value} {C : String} {T : u_T} {N ci q0 b : Nat} {fs : List Value} (hP : va_P D vwCl ws H) (hK : va_K D vwCl [(cy, .int)] s) (hc : vwCl[ci]? = some (C, T, N)) (he : ws[q0]? = some (b, .inr (ci, fs))) : PreV s H C b (va_Pc (.ref b :: As) (roB D cy ws)) As :=
  ⟨fb_ro, va_recv hK hP hc he, fun U hU hW => ⟨rfl, by rw [hU]; exact hP, va_K.moved hW.alike hK⟩⟩
theorem pv_rw {s : State} {H : Heap} {D : va_G} {cy : ClassId} {ws : va_W} {A : Nat → Prop} {As : List Value} {C : String} {T : u_T} {N ci q0 b : Nat} {fs : List Value} (hP : va_P D vwCl ws H) (hK : va_K D vwCl [(cy, .int)] s) (hD : va_D A ws) (hc : vwCl[ci]? = some (C, T, N)) (he : ws[q0]? = some (b, .inr (ci, fs))) : PreV s H C b (va_Pc (.ref b :: As) (rwB D cy ws H.size)) As :=
  ⟨fb_rw, va_recv hK hP hc he, fun U hU hW => ⟨rfl, by rw [hU], by rw [hU]; exact hP, va_K.moved hW.alike hK, hD.weaken (fun _ _ _ _ => trivial)⟩⟩
theorem vpL {D : va_G} {cl : List vw_C} {a b : va_W} {H : Heap} (h : va_P D cl (a ++ b) H) : va_P D cl a H := fun k q hk => h k q (by rw [List.getElem?_append_left (List.getElem?_eq_some_iff.mp hk).1]; exact hk)
theorem vpR {D : va_G} {cl : List vw_C} {a b : va_W} {H : Heap} (h : va_P D cl (a ++ b) H) : va_P D cl b H := fun k q hk => h (a.length + k) q (by rw [List.getElem?_append_right (by omega), Nat.add_sub_cancel_left]; exact hk)
theorem vdL {A : Nat → Prop} {a b : va_W} (h : va_D A (a ++ b)) : va_D A a := by
  have key : ∀ (k : Nat) (q : Nat × va_E), a[k]? = some q → (a ++ b)[k]? = some q := fun k q hk => by rw [List.getElem?_append_left (List.getElem?_eq_some_iff.mp hk).1]; exact hk
  exact ⟨fun i j p q hi hj e => h.1 i j p q (key i p hi) (key j q hj) e, fun k q hk => h.2 k q (key k q hk)⟩
theorem vdR {A : Nat → Prop} {a b : va_W} (h : va_D A (a ++ b)) : va_D A b := by
  have key : ∀ (k : Nat) (q : Nat × va_E), b[k]? = some q → (a ++ b)[a.length + k]? = some q := fun k q hk => by rw [List.getElem?_append_right (by omega), Nat.add_sub_cancel_left]; exact hk
  exact ⟨fun i j p q hi hj e => by have := h.1 _ _ p q (key i p hi) (key j q hj) e; omega, fun k q hk => h.2 _ q (key k q hk)⟩
/-- only the addresses count -/
theorem vdA {A : Nat → Prop} {a b : va_W} (h : va_D A a) (hf : b.map Prod.fst = a.map Prod.fst) : va_D A b := by
  have key : ∀ (k : Nat) (q : Nat × va_E), b[k]? = some q → ∃ q0, a[k]? = some q0 ∧ q0.1 = q.1 := by
    intro k q hk
    have h1 : (b.map Prod.fst)[k]? = some q.1 := by rw [List.getElem?_map, hk]; rfl
    rw [hf, List.getElem?_map] at h1
    cases ha : a[k]? with
    | none => rw [ha] at h1; cases h1
    | some q0 => rw [ha] at h1; exact ⟨q0, rfl, Option.some.inj h1⟩
  refine ⟨fun i j p q hi hj e => ?_, fun k q hk => ?_⟩
  · obtain ⟨p0, h1, h2⟩ := key i p hi
    obtain ⟨q0, h3, h4⟩ := key j q hj
    exact h.1 i j p0 q0 h1 h3 (h2.trans (e.trans h4.symm))
  · obtain ⟨q0, h1, h2⟩ := key k q hk
    rw [← h2]
    exact h.2 k q0 h1
theorem va_out {A0 : Nat → Prop} {ws wc : va_W} {H0 H : Heap} {locs : List Loc} (hD : va_D A0 wc) (hS : va_S A0 H0 H locs) (hA : ∀ q, H0.size ≤ q → A0 q) : ∀ q, va_A wc H.size q → A0 q := by
  intro q h
  rcases h with ⟨k, e, h⟩ | h
  · exact hD.2 k (q, e) h
  · exact hA q (Nat.le_trans hS.1 h)
/-- the cells beside the callee's stay -/
theorem fr_mid {D : va_G} {cl : List vw_C} {A0 : Nat → Prop} {w1 wc w2 wd : va_W} {H H1 : Heap} (hP : va_P D cl (w1 ++ (wc ++ w2)) H) (hD : va_D A0 (w1 ++ (wc ++ w2))) (hk : ∀ q : Nat, q < H.size → ¬ va_A wc H.size q → H1[q]? = H[q]?) (hP1 : va_P D cl wd H1) : va_P D cl (w1 ++ (wd ++ w2)) H1 := by
  have hat : ∀ (j : Nat) (q : Nat × va_E), wc[j]? = some q → (w1 ++ (wc ++ w2))[w1.length + j]? = some q := fun j q h => by
    rw [List.getElem?_append_right (by omega), Nat.add_sub_cancel_left, List.getElem?_append_left (List.getElem?_eq_some_iff.mp h).1]; exact h
  refine va_P.app (fun k q hq => ?_) (va_P.app hP1 (fun k q hq => ?_))
  · have hq2 : (w1 ++ (wc ++ w2))[k]? = some q := by rw [List.getElem?_append_left (List.getElem?_eq_some_iff.mp hq).1]; exact hq
    have hlt := (hP k q hq2).lt
    refine (hP k q hq2).kept (hk q.1 hlt (fun h => ?_))
    rcases h with ⟨j, e, h⟩ | h
    · have := hD.1 k _ q (q.1, e) hq2 (hat j _ h) rfl
      have := (List.getElem?_eq_some_iff.mp hq).1
      omega
    · omega
  · have hq2 : (w1 ++ (wc ++ w2))[w1.length + (wc.length + k)]? = some q := by
      rw [List.getElem?_append_right (by omega), Nat.add_sub_cancel_left, List.getElem?_append_right (by omega), Nat.add_sub_cancel_left]; exact hq
    have hlt := (hP _ q hq2).lt
    refine (hP _ q hq2).kept (hk q.1 hlt (fun h => ?_))
    rcases h with ⟨j, e, h⟩ | h
    · have := hD.1 _ _ q (q.1, e) hq2 (hat j _ h) rfl
      have := (List.getElem?_eq_some_iff.mp h).1
      omega
    · omega
section MW
variable {l : Launch} {y : MethodName} {ws ws0 : List Cond} {rm : Room} {cc : ByteArray} {maxL : Nat} {ret : Option FieldType} {av : List Value} {D : va_G} {cy : ClassId} {w : va_W} {sz : Nat}
theorem met_T {Qc : Array Value → State → Outcome → State → Prop} {free : Addr → Prop} (hy : plainName y.cls = true) (hw : ws = Cond.code y cc maxL ret :: ws0) (hn : (lg_sl av).length ≤ maxL)
    (body : ∀ (p : Program) (e : Env) (s : State) (m : MethodId) (below : List Frame) (meth : Method) (c : Code), p.tables.exec = Jvm.exec → c.code = cc → meth.sig.returnType = ret → c.maxLocals = maxL → (∀ w ∈ ws, w.before av.toArray s = true) → s.vm.findClass y.cls = some m.cls → meth.locks = false → ∀ ls : Array Slot, lv_has ls maxL (lv_args 0 av) →
      W p l e rm s m av.toArray below meth c s.heap [] 0 0 (MQ below Qc av.toArray s 0 0 free) (F0 m 0 ls [])) : Met l y ws rm (va_Pc av (fun _ => True)) Qc 0 0 free := by
  refine Met.ofW hy hw ?_
  intro p e s m args below meth c s₁ Bd hml hv
  obtain ⟨rfl, -⟩ := hv
  rw [lg_entry_eq]
  exact body p e s m below meth c Bd.exec Bd.bytes Bd.returns hml (atoms_spec (ws := ws) Bd.pre) (findClass_of_methodNamed Bd.named) Bd.notSynchronized _ (lv_entry av hn)
theorem met_R {Qc : Array Value → State → Outcome → State → Prop} {free : Addr → Prop} (hy : plainName y.cls = true) (hw : ws = Cond.code y cc maxL ret :: ws0) (hn : (lg_sl av).length ≤ maxL)
    (body : ∀ (p : Program) (e : Env) (s : State) (m : MethodId) (below : List Frame) (meth : Method) (c : Code), p.tables.exec = Jvm.exec → c.code = cc → meth.sig.returnType = ret → c.maxLocals = maxL → (∀ w ∈ ws, w.before av.toArray s = true) → s.vm.findClass y.cls = some m.cls → meth.locks = false → va_P D vwCl w s.heap → va_K D vwCl [(cy, .int)] s → ∀ ls : Array Slot, lv_has ls maxL (lv_args 0 av) →
      W p l e rm s m av.toArray below meth c s.heap [] 0 0 (MQ below Qc av.toArray s 0 0 free) (F0 m 0 ls [])) : Met l y ws rm (va_Pc av (roB D cy w)) Qc 0 0 free := by
  refine Met.ofW hy hw ?_
  intro p e s m args below meth c s₁ Bd hml hv
  obtain ⟨rfl, hP, hK⟩ := hv
  rw [lg_entry_eq]
  exact body p e s m below meth c Bd.exec Bd.bytes Bd.returns hml (atoms_spec (ws := ws) Bd.pre) (findClass_of_methodNamed Bd.named) Bd.notSynchronized hP hK _ (lv_entry av hn)
theorem met_M {S : Type} {post : Int32 → S → Prop} {B : S → State → Prop} {mc ms : Nat} (hy : plainName y.cls = true) (hw : ws = Cond.code y cc maxL ret :: ws0) (hn : (lg_sl av).length ≤ maxL)
    (body : ∀ (p : Program) (e : Env) (s : State) (m : MethodId) (below : List Frame) (meth : Method) (c : Code) (A : Nat → Prop), A = va_A w s.heap.size → p.tables.exec = Jvm.exec → c.code = cc → meth.sig.returnType = ret → c.maxLocals = maxL → (∀ w ∈ ws, w.before av.toArray s = true) → s.vm.findClass y.cls = some m.cls → meth.locks = false → va_P D vwCl w s.heap → va_K D vwCl [(cy, .int)] s → va_D A w → (∀ q, s.heap.size ≤ q → A q) → ∀ ls : Array Slot, lv_has ls maxL (lv_args 0 av) →
      W p l e rm s m av.toArray below meth c s.heap [] 0 0 (MQ below (va_Qi post B A) av.toArray s mc ms A) (F0 m 0 ls [])) : Met l y ws rm (va_Pc av (rwB D cy w sz)) (va_Qi post B (va_A w sz)) mc ms (va_A w sz) := by
  refine Met.ofW hy hw ?_
  intro p e s m args below meth c s₁ Bd hml hv
  obtain ⟨rfl, rfl, hP, hK, hD⟩ := hv
  rw [lg_entry_eq]
  exact body p e s m below meth c _ rfl Bd.exec Bd.bytes Bd.returns hml (atoms_spec (ws := ws) Bd.pre) (findClass_of_methodNamed Bd.named) Bd.notSynchronized hP hK hD.self (fun q h => Or.inr h) _ (lv_entry av hn)
theorem met_V {S : Type} {post : S → Prop} {B : S → State → Prop} {mc ms : Nat} (hy : plainName y.cls = true) (hw : ws = Cond.code y cc maxL ret :: ws0) (hn : (lg_sl av).length ≤ maxL)
    (body : ∀ (p : Program) (e : Env) (s : State) (m : MethodId) (below : List Frame) (meth : Method) (c : Code) (A : Nat → Prop), A = va_A w s.heap.size → p.tables.exec = Jvm.exec → c.code = cc → meth.sig.returnType = ret → c.maxLocals = maxL → (∀ w ∈ ws, w.before av.toArray s = true) → s.vm.findClass y.cls = some m.cls → meth.name = y.name → meth.locks = false → va_P D vwCl w s.heap → va_K D vwCl [(cy, .int)] s → va_D A w → (∀ q, s.heap.size ≤ q → A q) → ∀ ls : Array Slot, lv_has ls maxL (lv_args 0 av) →
      W p l e rm s m av.toArray below meth c s.heap [] 0 0 (MQ below (va_Qv post B A) av.toArray s mc ms A) (F0 m 0 ls [])) : Met l y ws rm (va_Pc av (rwB D cy w sz)) (va_Qv post B (va_A w sz)) mc ms (va_A w sz) := by
  refine Met.ofW hy hw ?_
  intro p e s m args below meth c s₁ Bd hml hv
  obtain ⟨rfl, rfl, hP, hK, hD⟩ := hv
  rw [lg_entry_eq]
  exact body p e s m below meth c _ rfl Bd.exec Bd.bytes Bd.returns hml (atoms_spec (ws := ws) Bd.pre) (findClass_of_methodNamed Bd.named) (name_of_methodNamed Bd.named Bd.method).1 Bd.notSynchronized hP hK hD.self (fun q h => Or.inr h) _ (lv_entry av hn)
end MW
section MR
variable {p : Program} {l : Launch} {e : Env} {R : Room} {s : State} {m : MethodId} {args : Array Value} {below : List Frame} {meth : Method} {c : Code} {H : Heap} {locs : List Loc} {cells slots : Nat} {Q : State → Prop} {cc : ByteArray} {pc : Nat} {ls : Array Slot} {rest : List Value}
/-- returns -/
theorem r_ret {v ev : Int} (hx : p.tables.exec = Jvm.exec) (hb : c.code = cc) (hr : meth.sig.returnType = some .int) (hlocks : meth.locks = false) (hdg : decode cc pc = .ok (.ireturn, 1)) (he : ev = v) : W p l e R s m args below meth c s.heap [] cells slots (MQ below (vp_Si (fun r => r = iI v)) args s cells slots (fun _ => False)) (F0 m pc ls [.int (iI ev)]) :=
  W.iret hx hb hr (fun t ht _ => ⟨iI ev, rfl, by rw [he], ht⟩) (fun q hq => absurd hq List.not_mem_nil) hdg hlocks
theorem r_retZ {v ev : Int} (hx : p.tables.exec = Jvm.exec) (hb : c.code = cc) (hr : meth.sig.returnType = some .boolean) (hlocks : meth.locks = false) (hdg : decode cc pc = .ok (.ireturn, 1)) (hz : narrow .boolean (.int (iI ev)) = .int (iI ev)) (he : ev = v) : W p l e R s m args below meth c s.heap [] cells slots (MQ below (vp_Si (fun r => r = iI v)) args s cells slots (fun _ => False)) (F0 m pc ls [.int (iI ev)]) :=
  W.zret hx hb hr hz (fun t ht _ => ⟨iI ev, rfl, by rw [he], ht⟩) (fun q hq => absurd hq List.not_mem_nil) hdg hlocks
theorem r_retL {v ev : Int} (hx : p.tables.exec = Jvm.exec) (hb : c.code = cc) (hr : meth.sig.returnType = some .long) (hlocks : meth.locks = false) (hdg : decode cc pc = .ok (.lreturn, 1)) (he : ev = v) : W p l e R s m args below meth c s.heap [] cells slots (MQ below (vp_Sl (fun r => r = jI v)) args s cells slots (fun _ => False)) (F0 m pc ls [.long (jI ev)]) :=
  W.lret hx hb hr (fun t ht _ => ⟨jI ev, rfl, by rw [he], ht⟩) (fun q hq => absurd hq List.not_mem_nil) hdg hlocks
theorem r_retM {S : Type} {v : S → Int} {post : S → Prop} {w2 : S → va_W} {D : va_G} {A : Nat → Prop} {ev : Int} (u : S) (hx : p.tables.exec = Jvm.exec) (hb : c.code = cc) (hr : meth.sig.returnType = some .int) (hlocks : meth.locks = false) (hS : va_S A s.heap H locs) (hdg : decode cc pc = .ok (.ireturn, 1)) (he : ev = v u) (hp : post u) (hP : va_P D vwCl (w2 u) H) : W p l e R s m args below meth c H locs cells slots (MQ below (va_Qi (fun r u => r = iI (v u) ∧ post u) (fun u t => va_P D vwCl (w2 u) t.heap) A) args s cells slots A) (F0 m pc ls [.int (iI ev)]) :=
  W.iret hx hb hr (fun t ht _ => ⟨⟨iI ev, u, rfl, ⟨by rw [he], hp⟩, by show va_P D vwCl (w2 u) t.heap; rw [ht]; exact hP⟩, hS.F ht⟩) hS.2.2 hdg hlocks
theorem r_retV {S : Type} {post : S → Prop} {w2 : S → va_W} {D : va_G} {A : Nat → Prop} (u : S) (hx : p.tables.exec = Jvm.exec) (hb : c.code = cc) (hr : meth.sig.returnType = none) (hlocks : meth.locks = false) (hS : va_S A s.heap H locs) (hdg : decode cc pc = .ok (.return_, 1)) (hp : post u) (hP : va_P D vwCl (w2 u) H) : W p l e R s m args below meth c H locs cells slots (MQ below (va_Qv post (fun u t => va_P D vwCl (w2 u) t.heap) A) args s cells slots A) (F0 m pc ls []) :=
  W.vret hx hb hr (fun t ht _ => ⟨⟨u, rfl, hp, by show va_P D vwCl (w2 u) t.heap; rw [ht]; exact hP⟩, hS.F ht⟩) hS.2.2 hdg hlocks
variable {ar : Array Value} {st0 : List Value} {D : va_G} {A0 : Nat → Prop} {H0 : Heap}
/-- calls that change a world: the callee's cells wc among w1 ++ (wc ++ w2) -/
theorem r_callM {S : Type} {v : S → Int} {post : S → Prop} {wd : S → va_W} {w1 wc w2 : va_W} (hr : va_Run p l e R s m args below meth c H locs cells slots 0 0 (F0 m pc ls st0) rest (va_Qi (fun r u => r = iI (v u) ∧ post u) (fun u t => va_P D vwCl (wd u) t.heap) (va_A wc H.size) ar) (va_A wc H.size)) (hP : va_P D vwCl (w1 ++ (wc ++ w2)) H) (hD : va_D A0 (w1 ++ (wc ++ w2))) (hS : va_S A0 H0 H locs) (hA : ∀ q, H0.size ≤ q → A0 q) (hf : ∀ u, (wd u).map Prod.fst = wc.map Prod.fst)
    (kk : ∀ (u : S) (H1 : Heap) (locs1 : List Loc), post u → va_P D vwCl (w1 ++ (wd u ++ w2)) H1 → va_D A0 (w1 ++ (wd u ++ w2)) → va_S A0 H0 H1 locs1 → W p l e R s m args below meth c H1 locs1 cells slots Q (F0 m (pc + 3) ls (.int (iI (v u)) :: rest))) : W p l e R s m args below meth c H locs cells slots Q (F0 m pc ls st0) := by
  have hF := va_out (ws := wc) (vdL (vdR hD)) hS hA
  refine va_calli hr hS (fun q _ h => hF q h) hF (fun r u t H1 locs1 ht hvm hw hB hz hk hS1 => ?_)
  obtain ⟨rfl, hp⟩ := hw
  rw [ht] at hB
  refine kk u H1 locs1 hp (fr_mid hP hD hk hB) (vdA hD ?_) hS1
  rw [List.map_append, List.map_append, List.map_append, List.map_append, hf u]
theorem r_callV {S : Type} {post : S → Prop} {wd : S → va_W} {w1 wc w2 : va_W} (hr : va_Run p l e R s m args below meth c H locs cells slots 0 0 (F0 m pc ls st0) rest (va_Qv post (fun u t => va_P D vwCl (wd u) t.heap) (va_A wc H.size) ar) (va_A wc H.size)) (hP : va_P D vwCl (w1 ++ (wc ++ w2)) H) (hD : va_D A0 (w1 ++ (wc ++ w2))) (hS : va_S A0 H0 H locs) (hA : ∀ q, H0.size ≤ q → A0 q) (hf : ∀ u, (wd u).map Prod.fst = wc.map Prod.fst)
    (kk : ∀ (u : S) (H1 : Heap) (locs1 : List Loc), post u → va_P D vwCl (w1 ++ (wd u ++ w2)) H1 → va_D A0 (w1 ++ (wd u ++ w2)) → va_S A0 H0 H1 locs1 → W p l e R s m args below meth c H1 locs1 cells slots Q (F0 m (pc + 3) ls rest)) : W p l e R s m args below meth c H locs cells slots Q (F0 m pc ls st0) := by
  have hF := va_out (ws := wc) (vdL (vdR hD)) hS hA
  refine va_callv hr hS (fun q _ h => hF q h) hF (fun u t H1 locs1 ht hvm hp hB hz hk hS1 => ?_)
  rw [ht] at hB
  refine kk u H1 locs1 hp (fr_mid hP hD hk hB) (vdA hD ?_) hS1
  rw [List.map_append, List.map_append, List.map_append, List.map_append, hf u]
end MR
theorem mul_bd {a b A B : Int} (ha : 0 ≤ a ∧ a ≤ A) (hb : 0 ≤ b ∧ b ≤ B) : 0 ≤ a * b ∧ a * b ≤ A * B := ⟨Int.mul_nonneg ha.1 hb.1, Int.mul_le_mul ha.2 hb.2 hb.1 (by omega)⟩
theorem zn_of {z : Int} (h : z = 0 ∨ z = 1) : narrow .boolean (.int (iI z)) = .int (iI z) := by
  rcases h with rfl | rfl
  · exact zn_0
  · exact zn_1
