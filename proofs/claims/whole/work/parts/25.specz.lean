/-! BEGINNINGS -/
abbrev rw0 (D : va_G) (ws : va_W) (sz : Nat) : State → Prop := fun U => U.heap.size = sz ∧ va_P D vwCl ws U.heap ∧ va_K D vwCl [] U ∧ va_D (fun _ => True) ws
theorem fb_r0 {av : List Value} {D : va_G} {ws : va_W} {sz : Nat} : FrameBlind (va_Pc av (rw0 D ws sz)) := fun a U g mk q => ⟨q.1, q.2.1, q.2.2.1, va_K.moved (u := U) (U := U.calling g mk a) (Vm.Alike.refl U.vm) q.2.2.2.1, q.2.2.2.2⟩
theorem ps_r0 {s : State} {H : Heap} {D : va_G} {ws : va_W} {A : Nat → Prop} {av : List Value} {tys : List (ClassId × FieldType)} (hP : va_P D vwCl ws H) (hK : va_K D vwCl tys s) (hD : va_D A ws) : PreS s H (va_Pc av (rw0 D ws H.size)) av :=
  ⟨fb_r0, fun U hU hW => ⟨rfl, by rw [hU], by rw [hU]; exact hP, va_K.moved hW.alike (hK.sub [] rfl), hD.weaken (fun _ _ _ _ => trivial)⟩⟩
theorem met_0 {l : Launch} {y : MethodName} {ws ws0 : List Cond} {rm : Room} {cc : ByteArray} {maxL : Nat} {ret : Option FieldType} {av : List Value} {D : va_G} {w : va_W} {sz : Nat} {S : Type} {post : S → Prop} {B : (Nat → Prop) → S → State → Prop} {mc ms : Nat} (hy : plainName y.cls = true) (hw : ws = Cond.code y cc maxL ret :: ws0) (hn : (lg_sl av).length ≤ maxL)
    (body : ∀ (p : Program) (e : Env) (s : State) (m : MethodId) (below : List Frame) (meth : Method) (c : Code) (A : Nat → Prop), A = va_A w s.heap.size → p.tables.exec = Jvm.exec → c.code = cc → meth.sig.returnType = ret → c.maxLocals = maxL → (∀ w ∈ ws, w.before av.toArray s = true) → s.vm.findClass y.cls = some m.cls → meth.name = y.name → meth.locks = false → va_P D vwCl w s.heap → va_K D vwCl [] s → va_D A w → (∀ q, s.heap.size ≤ q → A q) → ∀ ls : Array Slot, lv_has ls maxL (lv_args 0 av) →
      W p l e rm s m av.toArray below meth c s.heap [] 0 0 (MQ below (va_Qv post (B A) A) av.toArray s mc ms A) (F0 m 0 ls [])) : Met l y ws rm (va_Pc av (rw0 D w sz)) (va_Qv post (B (va_A w sz)) (va_A w sz)) mc ms (va_A w sz) := by
  refine Met.ofW hy hw ?_
  intro p e s m args below meth c s₁ Bd hml hv
  obtain ⟨rfl, rfl, hP, hK, hD⟩ := hv
  rw [lg_entry_eq]
  exact body p e s m below meth c _ rfl Bd.exec Bd.bytes Bd.returns hml (atoms_spec (ws := ws) Bd.pre) (findClass_of_methodNamed Bd.named) (name_of_methodNamed Bd.named Bd.method).1 Bd.notSynchronized hP hK hD.self (fun q h => Or.inr h) _ (lv_entry av hn)
theorem nw0 (n : Nat) : ∀ cA : ClassId, vp_cell cA (n, .inl (aI (fun _ => 0))) = arrV cA n (fun _ => defaultValue .int) := fun _ => rfl
theorem cy_eq {D : va_G} {cl : List vw_C} {tys : List (ClassId × FieldType)} {U : State} (h : va_K D cl tys U) {i j : Nat} {a b : ClassId} (hi : tys[i]? = some (a, .int)) (hj : tys[j]? = some (b, .int)) : a = b := by
  have h1 : U.vm.findClass ("[" ++ FieldType.int.toString) = some a := (h.2 i _ hi).2
  have h2 : U.vm.findClass ("[" ++ FieldType.int.toString) = some b := (h.2 j _ hj).2
  exact Option.some.inj (h1.symm.trans h2)
def adr : List (Nat × Nat) → Nat → Nat
  | [], _ => 0
  | (i, q) :: t, k => bif Nat.beq k i then q else adr t k
def f24 : Int → Int := fo (fun f k => up f k 100) (fun _ => 0) 24
def nz0 : Nat → Int → Int := fun k => bif Nat.beq k 14 then fun _ => 30 else bif Nat.beq k 15 then up (up (up (fun _ => 0) 0 0) 1 50) 2 100 else fun _ => 0
def lz00 : Nat → Int → Int := fun _ => fun _ => 0
def lz0 : Nat → Int → Int := su lz00 1 f24
def mz00 : Nat → Int → Int := fun k => bif Nat.beq k 11 then fun _ => 30 else bif Nat.beq k 12 then up (up (fun _ => 0) 1 50) 2 100 else fun _ => 0
def mz0 : Nat → Int → Int := su mz00 15 f24
