/-! THE CLAIM OUT OF ONE WALK OF THE LAW'S BODY. Your part is whole_start (and what it stands on); all else here is the same for every law, but numbers. -/
def R_law : String := "NoiseLampsLaw"
def lw_P (b : Addr) (xs : List Int32) (args : Array Value) (s : State) : Prop := args = #[.ref b] ∧ s.IntsAt b xs ∧ xs.length ≤ 3072 ∧ (Jvm.Cond.and given_1 narrow_1).before args s = true
def lw_Q (_ : Array Value) (s : State) (o : Outcome) (t : State) : Prop := o = .returned (some (.int 1)) ∧ Framed s o t [] 34 1499
def lw_Z (below : List Frame) (a : Array Value) (s : State) : State → Prop := fun t => ∃ o, t.status = .running ∧ Ended t below o ∧ lw_Q a s o t
/-- the law's own end, with 1 on the stack, nothing written that was there before, its room as the claim has it -/
theorem lw_ret {p : Program} {l : Launch} {e : Env} {s : State} {m : MethodId} {below : List Frame} {meth : Method} {c : Code} {b : Nat} (hx : p.tables.exec = Jvm.exec) (hb : c.code = code) (hr : meth.sig.returnType = ret) (hlocks : meth.locks = false) {pc : Nat} {H : Heap} {ls : Array Slot} (hdg : decode code pc = .ok (.ireturn, 1)) : W p l e room_1 s m #[Value.ref b] below meth c H [] 34 1499 (lw_Z below #[Value.ref b] s) (F0 m pc ls [.int 1]) := by
  intro T hT X
  obtain ⟨fs, hret, hrun, hended, hW, hframe⟩ := X.leave (v := some (.int 1)) (hlocks := hlocks) (fun h => by rw [hr] at h; cases h)
  have hmeth' : T.vm.method? m = some meth := X.method'
  refine ⟨T.setFrames fs, ?_, .returned (some (.int 1)), hrun, hended, rfl, ⟨_, rfl⟩, hW, hframe⟩
  jvm_step X.here [X.here.top, hx, hb, hdg, hmeth', hr, ret, narrow_b1]
  (try refine ⟨rfl, ?_⟩); (try refine ⟨rfl, ?_⟩)
  first | (intro acts; rw [hret _ acts rfl rfl rfl]) | rw [hret _ _ rfl rfl rfl]
  exact Steps.refl _
/-- what holds at the law's entry: the machine, the code, the tables' words (any of lw_tbl by 'hts w (by decide +kernel)'), the script of L ints xs at the cell b, what the Statement gives of the start (any of its parts by flat_of_before) -/
def lw_At (p : Program) (s : State) (m : MethodId) (meth : Method) (c : Code) (b L : Nat) (xs : Nat → Int32) : Prop :=
  p.tables.exec = Jvm.exec ∧ c.code = code ∧ meth.sig.returnType = ret ∧ c.maxLocals = 4 ∧ s.vm.findClass R_law = some m.cls ∧ (∀ w ∈ lw_tbl, w.before #[Value.ref b] s = true) ∧ va_X b L xs s s.heap ∧ b < s.heap.size ∧ meth.locks = false ∧ (Jvm.Cond.and given_1 narrow_1).before #[Value.ref b] s = true
/-- the script's length -/
theorem r_slen {p : Program} {l : Launch} {e : Env} {R : Room} {s : State} {m : MethodId} {args : Array Value} {below : List Frame} {meth : Method} {c : Code} {H : Heap} {locs : List Loc} {cells slots : Nat} {Q : State → Prop} {cc : ByteArray} {pc : Nat} {ls : Array Slot} {rest : List Value} {A0 : Nat → Prop} {H0 : Heap} (hx : p.tables.exec = Jvm.exec) (hb : c.code = cc) {b L : Nat} {xs : Nat → Int32} (hX : va_X b L xs s H0) (hbl : b < H0.size) (hbA : ¬ A0 b) (hS : va_S A0 H0 H locs) (hdg : decode cc pc = .ok (.arraylength, 1)) (k : W p l e R s m args below meth c H locs cells slots Q (F0 m (pc + 1) ls (.int (iI (L : Int)) :: rest))) : W p l e R s m args below meth c H locs cells slots Q (F0 m pc ls (.ref b :: rest)) :=
  va_slen hx hb hX hbl hbA hS hdg (by rw [show Int32.ofNat L = iI (L : Int) from (Int32.ofInt_eq_ofNat (n := L)).symm]; exact k)
set_option maxHeartbeats 4000000 in
set_option maxRecDepth 100000 in
theorem law_loop {p : Program} {l : Launch} {e : Env} {s : State} {m : MethodId} {below : List Frame} {meth : Method} {c : Code} {b L : Nat} {xs : Nat → Int32} {D : va_G} {cy : ClassId} {x : Nat} {A B M : Nat → Nat} (C0 : lwC p s m c b L xs D cy) (hr : meth.sig.returnType = ret) (hlocks : meth.locks = false) : ∀ (n : Nat) (i : Int) (σ τ μ : Nat → Int → Int) (H : Heap) (locs : List Loc) (ls : Array Slot), Rel σ τ μ → (0 ≤ i ∧ i ≤ (L : Int)) → va_P D vwCl (wP cy x A B σ τ ++ wM cy M μ) H → va_D (fun q : Nat => s.heap.size ≤ q) (wP cy x A B σ τ ++ wM cy M μ) → va_S (fun q : Nat => s.heap.size ≤ q) s.heap H locs → ((L : Int) - i < (n : Int)) → lv_has ls 4 [(3, .int (iI i)), (1, .ref x), (2, .ref (M 100)), (0, .ref b)] → W p l e room_1 s m #[Value.ref b] below meth c H locs 34 1499 (lwZ below #[Value.ref b] s) (F0 m 18 ls []) := by
  obtain ⟨hx, hb, hml, hown, hts, hK, hX, hbl, hL⟩ := id C0
  have hbA : ¬ (fun q : Nat => s.heap.size ≤ q) b := Nat.not_le.mpr hbl
  intro n
  induction n with
  | zero => intro i σ τ μ H locs ls hR hi hP hD hS hn hl; exact absurd hn (by omega)
  | succ n ih =>
    intro i σ τ μ H locs ls hR hi hP hD hS hn hl
    refine lv_iload_n hx hb dL_law_18 rfl (lv_at hl 0 rfl) ?_
    refine lv_aload_n hx hb dL_law_19 rfl (lv_at hl 3 rfl) ?_
    refine r_slen hx hb hX hbl hbA hS dL_law_20 ?_
    refine lv_bipush (v := iI 6) hx hb dL_law_21 (by decide +kernel) ?_
    refine r_isub hx hb dL_law_23 ?_
    refine r_icmp_gt (tgt := 955) hx hb dL_law_24 (by decide) (by omega) (by omega) (fun h1 => ?_) (fun h1 => ?_)
    · refine lv_iconst (v := 1) hx hb dL_law_955 (by decide) ?_
      refine va_forget (fun q hq => hS.2.2 q hq) ?_
      exact lw_ret hx hb hr hlocks dL_law_956
    · have cont : ∀ (σ τ μ : Nat → Int → Int) (H : Heap) (locs : List Loc), Rel σ τ μ → va_P D vwCl (wP cy x A B σ τ ++ wM cy M μ) H → va_D (fun q : Nat => s.heap.size ≤ q) (wP cy x A B σ τ ++ wM cy M μ) → va_S (fun q : Nat => s.heap.size ≤ q) s.heap H locs → W p l e room_1 s m #[Value.ref b] below meth c H locs 34 1499 (lwZ below #[Value.ref b] s) (F0 m 949 ls []) := by
        intro σ τ μ H locs hR hP hD hS
        refine r_iinc (a := i) (b := (i + 6)) (lv2 := [(3, .int (iI (i + 6))), (1, .ref x), (2, .ref (M 100)), (0, .ref b)]) hx hb dL_law_949 hl (k := 0) rfl (by omega) (by decide) rfl (fun ls hl => ?_)
        refine lv_goto (tgt := 18) hx hb dL_law_952 (by decide) ?_
        exact ih (i + 6) σ τ μ H locs ls hR (by omega) hP hD hS (by omega) hl
      refine lv_aload_n hx hb dL_law_27 rfl (lv_at hl 3 rfl) ?_
      refine lv_iload_n hx hb dL_law_28 rfl (lv_at hl 0 rfl) ?_
      refine r_sld hx hb hX hbl hbA hS (i := i) (by omega) hL dL_law_29 ?_
      refine lv_bipush (v := iI 31) hx hb dL_law_30 (by decide +kernel) ?_
      refine lv_iand hx hb dL_law_32 ?_
      obtain ⟨z, z0, z1, ez⟩ := an31 (iI (xz xs i))
      rw [ez]
      by_cases k0 : z = 0
      · refine lv_tableIn (tgt := 140) hx hb dL_law_33 (by rw [iI_toInt (by omega)]; omega) (by rw [iI_toInt (by omega)]; omega) (by rw [iI_toInt (by omega), k0]; rfl) (by decide) ?_
        exact law_piece C0 hR ⟨hi.1, by omega⟩ hP hD hS hl cont
      by_cases k1 : z = 1
      · refine lv_tableIn (tgt := 203) hx hb dL_law_33 (by rw [iI_toInt (by omega)]; omega) (by rw [iI_toInt (by omega)]; omega) (by rw [iI_toInt (by omega), k1]; rfl) (by decide) ?_
        exact law_house C0 hR ⟨hi.1, by omega⟩ hP hD hS hl cont
      by_cases k2 : z = 2
      · refine lv_tableIn (tgt := 246) hx hb dL_law_33 (by rw [iI_toInt (by omega)]; omega) (by rw [iI_toInt (by omega)]; omega) (by rw [iI_toInt (by omega), k2]; rfl) (by decide) ?_
        exact law_wall C0 hR ⟨hi.1, by omega⟩ hP hD hS hl cont
      by_cases k3 : z = 3
      · refine lv_tableIn (tgt := 309) hx hb dL_law_33 (by rw [iI_toInt (by omega)]; omega) (by rw [iI_toInt (by omega)]; omega) (by rw [iI_toInt (by omega), k3]; rfl) (by decide) ?_
        exact law_fall C0 hR ⟨hi.1, by omega⟩ hP hD hS hl cont
      by_cases k4 : z = 4
      · refine lv_tableIn (tgt := 332) hx hb dL_law_33 (by rw [iI_toInt (by omega)]; omega) (by rw [iI_toInt (by omega)]; omega) (by rw [iI_toInt (by omega), k4]; rfl) (by decide) ?_
        exact law_malus C0 hR ⟨hi.1, by omega⟩ hP hD hS hl cont
      by_cases k5 : z = 5
      · refine lv_tableIn (tgt := 365) hx hb dL_law_33 (by rw [iI_toInt (by omega)]; omega) (by rw [iI_toInt (by omega)]; omega) (by rw [iI_toInt (by omega), k5]; rfl) (by decide) ?_
        exact law_gives C0 hR ⟨hi.1, by omega⟩ hP hD hS hl cont
      by_cases k6 : z = 6
      · refine lv_tableIn (tgt := 408) hx hb dL_law_33 (by rw [iI_toInt (by omega)]; omega) (by rw [iI_toInt (by omega)]; omega) (by rw [iI_toInt (by omega), k6]; rfl) (by decide) ?_
        exact law_level C0 hR ⟨hi.1, by omega⟩ hP hD hS hl cont
      by_cases k7 : z = 7
      · refine lv_tableIn (tgt := 441) hx hb dL_law_33 (by rw [iI_toInt (by omega)]; omega) (by rw [iI_toInt (by omega)]; omega) (by rw [iI_toInt (by omega), k7]; rfl) (by decide) ?_
        exact law_people C0 hR ⟨hi.1, by omega⟩ hP hD hS hl cont
      by_cases k8 : z = 8
      · refine lv_tableIn (tgt := 464) hx hb dL_law_33 (by rw [iI_toInt (by omega)]; omega) (by rw [iI_toInt (by omega)]; omega) (by rw [iI_toInt (by omega), k8]; rfl) (by decide) ?_
        exact law_loudest C0 hR ⟨hi.1, by omega⟩ hP hD hS hl cont
      by_cases k9 : z = 9
      · refine lv_tableIn (tgt := 497) hx hb dL_law_33 (by rw [iI_toInt (by omega)]; omega) (by rw [iI_toInt (by omega)]; omega) (by rw [iI_toInt (by omega), k9]; rfl) (by decide) ?_
        exact law_ranked C0 hR ⟨hi.1, by omega⟩ hP hD hS hl cont
      by_cases k10 : z = 10
      · refine lv_tableIn (tgt := 520) hx hb dL_law_33 (by rw [iI_toInt (by omega)]; omega) (by rw [iI_toInt (by omega)]; omega) (by rw [iI_toInt (by omega), k10]; rfl) (by decide) ?_
        exact law_needed C0 hR ⟨hi.1, by omega⟩ hP hD hS hl cont
      by_cases k11 : z = 11
      · refine lv_tableIn (tgt := 553) hx hb dL_law_33 (by rw [iI_toInt (by omega)]; omega) (by rw [iI_toInt (by omega)]; omega) (by rw [iI_toInt (by omega), k11]; rfl) (by decide) ?_
        exact law_recut C0 hR ⟨hi.1, by omega⟩ hP hD hS hl cont
      by_cases k12 : z = 12
      · refine lv_tableIn (tgt := 586) hx hb dL_law_33 (by rw [iI_toInt (by omega)]; omega) (by rw [iI_toInt (by omega)]; omega) (by rw [iI_toInt (by omega), k12]; rfl) (by decide) ?_
        exact law_lamp C0 hR ⟨hi.1, by omega⟩ hP hD hS hl cont
      by_cases k13 : z = 13
      · refine lv_tableIn (tgt := 619) hx hb dL_law_33 (by rw [iI_toInt (by omega)]; omega) (by rw [iI_toInt (by omega)]; omega) (by rw [iI_toInt (by omega), k13]; rfl) (by decide) ?_
        exact law_shines C0 hR ⟨hi.1, by omega⟩ hP hD hS hl cont
      by_cases k14 : z = 14
      · refine lv_tableIn (tgt := 642) hx hb dL_law_33 (by rw [iI_toInt (by omega)]; omega) (by rw [iI_toInt (by omega)]; omega) (by rw [iI_toInt (by omega), k14]; rfl) (by decide) ?_
        exact law_road C0 hR ⟨hi.1, by omega⟩ hP hD hS hl cont
      by_cases k15 : z = 15
      · refine lv_tableIn (tgt := 665) hx hb dL_law_33 (by rw [iI_toInt (by omega)]; omega) (by rw [iI_toInt (by omega)]; omega) (by rw [iI_toInt (by omega), k15]; rfl) (by decide) ?_
        exact law_dim C0 hR ⟨hi.1, by omega⟩ hP hD hS hl cont
      by_cases k16 : z = 16
      · refine lv_tableIn (tgt := 698) hx hb dL_law_33 (by rw [iI_toInt (by omega)]; omega) (by rw [iI_toInt (by omega)]; omega) (by rw [iI_toInt (by omega), k16]; rfl) (by decide) ?_
        exact law_at C0 hR ⟨hi.1, by omega⟩ hP hD hS hl cont
      by_cases k17 : z = 17
      · refine lv_tableIn (tgt := 741) hx hb dL_law_33 (by rw [iI_toInt (by omega)]; omega) (by rw [iI_toInt (by omega)]; omega) (by rw [iI_toInt (by omega), k17]; rfl) (by decide) ?_
        exact law_row C0 hR ⟨hi.1, by omega⟩ hP hD hS hl cont
      by_cases k18 : z = 18
      · refine lv_tableIn (tgt := 774) hx hb dL_law_33 (by rw [iI_toInt (by omega)]; omega) (by rw [iI_toInt (by omega)]; omega) (by rw [iI_toInt (by omega), k18]; rfl) (by decide) ?_
        exact law_spacing C0 hR ⟨hi.1, by omega⟩ hP hD hS hl cont
      by_cases k19 : z = 19
      · refine lv_tableIn (tgt := 807) hx hb dL_law_33 (by rw [iI_toInt (by omega)]; omega) (by rw [iI_toInt (by omega)]; omega) (by rw [iI_toInt (by omega), k19]; rfl) (by decide) ?_
        exact law_dark C0 hR ⟨hi.1, by omega⟩ hP hD hS hl cont
      by_cases k20 : z = 20
      · refine lv_tableIn (tgt := 840) hx hb dL_law_33 (by rw [iI_toInt (by omega)]; omega) (by rw [iI_toInt (by omega)]; omega) (by rw [iI_toInt (by omega), k20]; rfl) (by decide) ?_
        exact law_drop C0 hR ⟨hi.1, by omega⟩ hP hD hS hl cont
      by_cases k21 : z = 21
      · refine lv_tableIn (tgt := 883) hx hb dL_law_33 (by rw [iI_toInt (by omega)]; omega) (by rw [iI_toInt (by omega)]; omega) (by rw [iI_toInt (by omega), k21]; rfl) (by decide) ?_
        exact law_wired C0 hR ⟨hi.1, by omega⟩ hP hD hS hl cont
      by_cases k22 : z = 22
      · refine lv_tableIn (tgt := 926) hx hb dL_law_33 (by rw [iI_toInt (by omega)]; omega) (by rw [iI_toInt (by omega)]; omega) (by rw [iI_toInt (by omega), k22]; rfl) (by decide) ?_
        exact law_count C0 hR ⟨hi.1, by omega⟩ hP hD hS hl cont
      refine lv_tableOut (tgt := 949) hx hb dL_law_33 (by rw [iI_toInt (by omega)]; omega) (by decide) ?_
      exact cont σ τ μ H locs hR hP hD hS
set_option maxHeartbeats 4000000 in
set_option maxRecDepth 100000 in
theorem whole_start {p : Program} {e : Env} {s : State} {m : MethodId} {below : List Frame} {meth : Method} {c : Code} (l : Launch) (hflags : l.flags = flags0) {b L : Nat} {xs : Nat → Int32} (hL : L ≤ 3072) (C0 : lw_At p s m meth c b L xs) : W p l e room_1 s m #[Value.ref b] below meth c s.heap [] 0 0 (lw_Z below #[Value.ref b] s) (entryFrame m ([Value.ref b] : List Value).toArray 4) := by
  obtain ⟨hx, hb, hr, hml, hown, hts, hX, hbl, hlocks, hgv⟩ := id C0
  have htl : ∀ w ∈ wsL_law, w.before #[Value.ref b] s = true := fun w h => hts w (wsL_law_in w h)
  have hown : s.vm.findClass RL = some m.cls := hown
  have hA : ∀ q : Nat, s.heap.size ≤ q → (fun q : Nat => s.heap.size ≤ q) q := fun _ h => h
  have hbA : ¬ (fun q : Nat => s.heap.size ≤ q) b := Nat.not_le.mpr hbl
  obtain ⟨c0, iS0, hKn0⟩ := u_known (C := RX0) (T := TX0) (N := 4) (n := 4) hts inX0 (hts _ (tb1 (i := 80) rfl : Cond.instantiable RX0 4 ∈ lw_tbl))
  obtain ⟨c1, iS1, hKn1⟩ := u_known (C := RX1) (T := TX1) (N := 19) (n := 19) hts inX1 (hts _ (tb1 (i := 15) rfl : Cond.instantiable RX1 19 ∈ lw_tbl))
  obtain ⟨c2, iS2, hKn2⟩ := u_known (C := RX2) (T := TX2) (N := 2) (n := 2) hts inX2 (hts _ (tb1 (i := 7) rfl : Cond.instantiable RX2 2 ∈ lw_tbl))
  obtain ⟨c3, iS3, hKn3⟩ := u_known (C := RX3) (T := TX3) (N := 17) (n := 17) hts inX3 (hts _ (tb2 (i := 218) rfl : Cond.instantiable RX3 17 ∈ lw_tbl))
  obtain ⟨dC, dI, hKc⟩ : ∃ (dC : Nat → ClassId) (dI : Nat → Nat → Nat), ∀ (k : Nat) (q : vw_C), vwCl[k]? = some q → u_Kn s q.1 q.2.1 q.2.2 (dC k) (dI k) := by
    refine ⟨fun k => if k = 0 then c0 else if k = 1 then c1 else if k = 2 then c2 else c3, fun k => if k = 0 then iS0 else if k = 1 then iS1 else if k = 2 then iS2 else iS3, ?_⟩
    intro k q hq
    match k, hq with
    | 0, hq => cases hq; exact hKn0
    | 1, hq => cases hq; exact hKn1
    | 2, hq => cases hq; exact hKn2
    | 3, hq => cases hq; exact hKn3
    | k + 4, hq => simp [vwCl] at hq
  have hS : va_S (fun q : Nat => s.heap.size ≤ q) s.heap s.heap [] := va_S.rf
  have hK : va_K (dC, dI) vwCl [] s := ⟨hKc, fun k q h => by simp at h⟩
  have hP : va_P (dC, dI) vwCl [] s.heap := fun k q h => by simp at h
  have hD : va_D (fun q : Nat => s.heap.size ≤ q) [] := ⟨fun i j p q h => by simp at h, fun k q h => by simp at h⟩
  have hl := lv_entry ([.ref b]) (n := 4) (Nat.le_of_ble_eq_true rfl)
  rw [lg_entry_eq]
  generalize (lg_sl ([.ref b]) ++ List.replicate (4 - (lg_sl ([.ref b])).length) Slot.unset).toArray = ls at hl ⊢
  have hl : lv_has ls 4 [(0, .ref b)] := hl
  refine va_new (ci := 2) (fs := [.null, .null]) (C := RX2) (T := TX2) (N := 2) hx hb htl inlX2 tyX2 tyX2_ok hown (hts _ (tb1 (i := 6) rfl : Cond.classLink RL 7 RX2 ∈ lw_tbl)) (hts _ (tb1 (i := 7) rfl : Cond.instantiable RX2 2 ∈ lw_tbl)) (hts _ (tb1 (i := 1) rfl : Cond.initialized RX2 ∈ lw_tbl)) hK hP hD hS hA rfl (fun j hj => by rcases (show j = 0 ∨ j = 1 by omega) with rfl | rfl <;> rfl) (Nat.le_of_ble_eq_true rfl) (Nat.le_of_ble_eq_true rfl) dL_law_0 (fun x H hP hD hS => ?_)
  have hP : va_P (dC, dI) vwCl ([(x, .inr (2, [.null, .null]))]) H := hP
  have hD : va_D (fun q : Nat => s.heap.size ≤ q) ([(x, .inr (2, [.null, .null]))]) := hD
  refine W.widen (k := 1) (n := 2) (by omega) (by omega) ?_
  refine lv_dup hx hb dL_law_3 rfl ?_
  have hFc := va_free (wc := [(x, .inr (2, [.null, .null]))]) hD hS hA [0] rfl
  refine va_callv (va_runI (As := []) (rest := [.ref x]) ⟨hx, hb, hml, hown, htl⟩ (c_X2_init l (dC, dI) x H.size) (cwI 0 htl ggL_law_X2_init rfl rfl rfl (hts _ (tb1 (i := 1) rfl : Cond.initialized RX2 ∈ lw_tbl)) (hts _ (tb1 (i := 8) rfl : Cond.methodLink RL 9 yX2_init ∈ lw_tbl)) (hts _ (tb1 (i := 9) rfl : Cond.instanceMethod yX2_init ∈ lw_tbl)) rfl (by decide +kernel) ⟨Nat.le_of_ble_eq_true rfl, Nat.le_of_ble_eq_true rfl⟩) (ps_r0 hP hK hD) rfl rfl hl.1 rfl (lv_room (Nat.le_of_ble_eq_true rfl)) dL_law_4 ⟨Nat.le_of_ble_eq_true rfl, Nat.le_of_ble_eq_true rfl⟩) hS (fun q _ h => hFc q h) hFc (fun u t H1 locs ht hvm hw hB hz1 hk1 hS => ?_)
  obtain ⟨cy, A, B⟩ := u
  obtain ⟨hP1, hK1, hD1⟩ := hB
  rw [ht] at hP1
  have hKn : va_K (dC, dI) vwCl [(cy, .int)] s := va_K.moved hvm.symm hK1
  obtain ⟨hP, hD⟩ := va_join (wr := []) (w1 := wP cy x A B nz0 lz0) hP hD [0] [] rfl rfl (by decide) (by decide) hk1 hFc hP1 hD1
  have hK := hKn
  generalize H1 = H at hP hS ⊢
  have hP : va_P (dC, dI) vwCl (wP cy x A B nz0 lz0) H := hP
  have hD : va_D (fun q : Nat => s.heap.size ≤ q) (wP cy x A B nz0 lz0) := hD
  refine W.widen (k := 21) (n := 1244) (by omega) (by omega) ?_
  refine lv_astore_n (lv' := [(1, .ref x), (0, .ref b)]) hx hb dL_law_7 rfl hl (by decide) rfl (fun ls hl => ?_)
  refine va_new (ci := 3) (fs := [.int (iI 0), .null, .null, .null, .int (iI 0), .null, .null, .null, .int (iI 0), .null, .null, .int (iI 0), .null, .null, .int (iI 0), .null, .null]) (C := RX3) (T := TX3) (N := 17) hx hb htl inlX3 tyX3 tyX3_ok hown (hts _ (tb2 (i := 217) rfl : Cond.classLink RL 10 RX3 ∈ lw_tbl)) (hts _ (tb2 (i := 218) rfl : Cond.instantiable RX3 17 ∈ lw_tbl)) (hts _ (tb1 (i := 4) rfl : Cond.initialized RX3 ∈ lw_tbl)) hK hP hD hS hA rfl (fun j hj => by rcases (show j = 0 ∨ j = 1 ∨ j = 2 ∨ j = 3 ∨ j = 4 ∨ j = 5 ∨ j = 6 ∨ j = 7 ∨ j = 8 ∨ j = 9 ∨ j = 10 ∨ j = 11 ∨ j = 12 ∨ j = 13 ∨ j = 14 ∨ j = 15 ∨ j = 16 by omega) with rfl | rfl | rfl | rfl | rfl | rfl | rfl | rfl | rfl | rfl | rfl | rfl | rfl | rfl | rfl | rfl | rfl <;> rfl) (Nat.le_of_ble_eq_true rfl) (Nat.le_of_ble_eq_true rfl) dL_law_8 (fun mo H hP hD hS => ?_)
  have hP : va_P (dC, dI) vwCl (wP cy x A B nz0 lz0 ++ [(mo, .inr (3, [.int (iI 0), .null, .null, .null, .int (iI 0), .null, .null, .null, .int (iI 0), .null, .null, .int (iI 0), .null, .null, .int (iI 0), .null, .null]))]) H := hP
  have hD : va_D (fun q : Nat => s.heap.size ≤ q) (wP cy x A B nz0 lz0 ++ [(mo, .inr (3, [.int (iI 0), .null, .null, .null, .int (iI 0), .null, .null, .null, .int (iI 0), .null, .null, .int (iI 0), .null, .null, .int (iI 0), .null, .null]))]) := hD
  refine W.widen (k := 22) (n := 1261) (by omega) (by omega) ?_
  refine lv_dup hx hb dL_law_11 rfl ?_
  have hPc := hP.sub (ws' := [(mo, .inr (3, [.int (iI 0), .null, .null, .null, .int (iI 0), .null, .null, .null, .int (iI 0), .null, .null, .int (iI 0), .null, .null, .int (iI 0), .null, .null]))]) [21] rfl
  have hDc := hD.sub (ws' := [(mo, .inr (3, [.int (iI 0), .null, .null, .null, .int (iI 0), .null, .null, .null, .int (iI 0), .null, .null, .int (iI 0), .null, .null, .int (iI 0), .null, .null]))]) [21] (by decide) rfl
  have hFc := va_free (wc := [(mo, .inr (3, [.int (iI 0), .null, .null, .null, .int (iI 0), .null, .null, .null, .int (iI 0), .null, .null, .int (iI 0), .null, .null, .int (iI 0), .null, .null]))]) hD hS hA [21] rfl
  refine va_callv (va_runI (As := []) (rest := [.ref mo]) ⟨hx, hb, hml, hown, htl⟩ (c_X3_init l (dC, dI) mo H.size) (cwI 0 htl ggL_law_X3_init rfl rfl rfl (hts _ (tb1 (i := 4) rfl : Cond.initialized RX3 ∈ lw_tbl)) (hts _ (tb2 (i := 219) rfl : Cond.methodLink RL 12 yX3_init ∈ lw_tbl)) (hts _ (tb2 (i := 220) rfl : Cond.instanceMethod yX3_init ∈ lw_tbl)) rfl (by decide +kernel) ⟨Nat.le_of_ble_eq_true rfl, Nat.le_of_ble_eq_true rfl⟩) (ps_r0 hPc hK hDc) rfl rfl hl.1 rfl (lv_room (Nat.le_of_ble_eq_true rfl)) dL_law_12 ⟨Nat.le_of_ble_eq_true rfl, Nat.le_of_ble_eq_true rfl⟩) hS (fun q _ h => hFc q h) hFc (fun u t H1 locs ht hvm hw hB hz1 hk1 hS => ?_)
  obtain ⟨cy2, M⟩ := u
  obtain ⟨hM0, hP1, hK1, hD1⟩ := hB
  have hM0 : M 100 = mo := hM0
  rw [ht] at hP1
  have hKn : va_K (dC, dI) vwCl [(cy2, .int)] s := va_K.moved hvm.symm hK1
  have hcy : cy2 = cy := cy_eq (hK.app hKn) (i := 1) (j := 0) rfl rfl
  rw [hcy] at hP1 hD1
  obtain ⟨hP, hD⟩ := va_join (wr := wP cy x A B nz0 lz0) (w1 := wM cy M mz0) hP hD [21] [0, 1, 2, 3, 4, 5, 6, 7, 8, 9, 10, 11, 12, 13, 14, 15, 16, 17, 18, 19, 20] rfl rfl (by decide) (by decide) hk1 hFc hP1 hD1
  generalize H1 = H at hP hS ⊢
  refine W.widen (k := 34) (n := 1499) (by omega) (by omega) ?_
  refine lv_astore_n (lv' := [(2, .ref mo), (1, .ref x), (0, .ref b)]) hx hb dL_law_15 rfl hl (by decide) rfl (fun ls hl => ?_)
  refine lv_iconst (v := iI 0) hx hb dL_law_16 rfl ?_
  refine lv_istore_n (lv' := [(3, .int (iI 0)), (2, .ref mo), (1, .ref x), (0, .ref b)]) hx hb dL_law_17 rfl hl (by decide) rfl (fun ls hl => ?_)
  have hl : lv_has ls 4 [(3, .int (iI 0)), (2, .ref (M 100)), (1, .ref x), (0, .ref b)] := by rw [hM0]; exact hl
  exact law_loop ⟨hx, hb, hml, hown, htl, hK, hX, hbl, hL⟩ hr hlocks _ 0 nz0 lz0 mz0 _ _ ls rel_0 (by omega) hP hD hS (lt_tn _) (lv_sub hl [0, 2, 1, 3] rfl)
set_option maxHeartbeats 4000000 in
theorem lw_walk (l : Launch) (hflags : l.flags = flags0) (b : Addr) (xs : List Int32) : MetFree l x (headSpec (Jvm.Cond.code x code maxLocals ret :: tables_1) room_1) (lw_P b xs) (fun _ _ _ _ _ => True) lw_Q := by
  refine MetFree.of_bodyS (code := code) (maxLocals := maxLocals) (ret := ret) (by decide) ?_ ?_
  · intro args s m h hn
    obtain ⟨meth, c, h1, h2, h3, h4, h5, h6, -, -⟩ := Cond.code_spec hn (atoms_spec (ws := Jvm.Cond.code x code maxLocals ret :: tables_1) h _ List.mem_cons_self)
    exact ⟨meth, c, h1, h2, h3, h4, h5, h6⟩
  · intro p e s m args below meth c s₁ B hml0 hP _
    obtain ⟨rfl, hx, hbd, hgv⟩ := hP
    obtain ⟨scr, harrAt, hlist, hof, hsmall⟩ := hx
    obtain ⟨hcb, hkn, -, -⟩ := State.arrayAt?_spec harrAt
    have hown : s.vm.findClass R_law = some m.cls := findClass_of_methodNamed B.named
    have hts0 : ∀ c ∈ (Jvm.Cond.code x code maxLocals ret :: tables_1), c.before #[Value.ref b] s = true := atoms_spec (ws := Jvm.Cond.code x code maxLocals ret :: tables_1) B.pre
    have hts : ∀ w ∈ lw_tbl, w.before #[Value.ref b] s = true := k2_hts_sels lw_privs (fun w hw => hts0 w (List.mem_cons_of_mem _ hw)) lw_privs_ok
    have hml : c.maxLocals = 4 := B.maxLocals_eq (hts0 _ List.mem_cons_self)
    have X₀ : Stand p l e room_1 s m #[Value.ref b] below meth c s₁ [] 0 0 := Stand.of_body B
    have hh0 : s₁.heap = s.heap := by rw [B.state]; rfl
    have hsz : scr.slots.size = xs.length := by rw [← Array.length_toList, hlist, List.length_map]
    have hval : ∀ j : Nat, j < xs.length → scr.slots[j]? = some (.int (xs.getD j 0)) := fun j hj => by
      rw [← Array.getElem?_toList, hlist]
      simp [hj]
    have hbl : b < s.heap.size := (Array.getElem?_eq_some_iff.mp hcb).1
    have hX : va_X b xs.length (fun j => xs.getD j 0) s s.heap := ⟨scr, hcb, hof, hkn, hsz, hval⟩
    have K : W p l e room_1 s m #[Value.ref b] below meth c s₁.heap [] 0 0 (lw_Z below #[Value.ref b] s) (entryFrame m ([Value.ref b] : List Value).toArray 4) := by
      rw [hh0]
      exact whole_start l hflags hbd ⟨B.exec, B.bytes, B.returns, hml, hown, hts, hX, hbl, B.notSynchronized, hgv⟩
    obtain ⟨t, a1, o, b1, b2, b3⟩ := K s₁ rfl X₀
    exact ⟨t, o, a1, b1, b2, b3⟩
theorem lw_pre_spec {args : Array Value} {s : State} (h : (Jvm.Cond.and given_1 narrow_1).before args s = true) (hr : rest_1_c.before args s = true) : ∃ (b : Addr) (xs : List Int32), lw_P b xs args s := by
  have hs := flat_of_before _ h
  have hq := flat_of_before _ hr
  have hc : (Cond.count 1).before args s = true := hs _ (by decide +kernel)
  have harr : (Cond.arrayOf (.arg 0) .int).before args s = true := hs _ (by decide +kernel)
  have hle : (Cond.le (.length (.arg 0)) (.int 3072)).before args s = true := hs _ (by decide +kernel)
  have hlen : (Cond.isInt (.length (.arg 0))).before args s = true := hq _ (by decide +kernel)
  have hall : (Cond.all (.arg 0) (.isInt (.elem (.arg 0) (.index 0)))).before args s = true := hq _ (by decide +kernel)
  obtain ⟨b, xs, hb, hx⟩ := State.ints_of_pre rfl harr hlen hall
  have hsm : xs.length < 2 ^ 31 := hx.choose_spec.2.2.2
  have hev : (Term.length (.arg 0)).eval args s none [] s = some (.int xs.length.toInt32) := hx.length_eval hb
  have hv := Cond.le_ints hev (show (Term.int 3072).eval args s none [] s = some (.int 3072) from rfl)
  have hd : xs.length.toInt32 ≤ 3072 := by
    simpa [Cond.before, Cond.holds, hv] using hle
  have hN : xs.length ≤ 3072 := (Int32.ofNat_le_ofNat hsm (by decide)).mp (show Int32.ofNat xs.length ≤ Int32.ofNat 3072 from hd)
  exact ⟨b, xs, Cond.one_arg hc (show args[0]? = some (.ref b) from hb), hx, hN, h⟩
theorem lw_comes (l : Launch) (hflags : l.flags = flags0) : Comes l x (Jvm.Cond.code x code maxLocals ret :: tables_1) room_1 (fun tb e args s => Calls_1 tb e args s ∧ rest_1 tb e args s ∧ Pre_1 tb e args s)
    (fun _ _ args s o t => lw_Q args s o t) := by
  intro p e ha hc hk s m args below hf hfit hheap happ hpre
  obtain ⟨b, xs, hP⟩ := lw_pre_spec hpre.2.2 hpre.2.1
  obtain ⟨k, o, h1, h2, h3, hQ⟩ := lw_walk l hflags b xs p e ha hc hk s m args below hf ((Spec.applies_iff_loose hf).mp happ).1 hP trivial
  exact ⟨k, o, h1, h2, h3, hQ⟩
theorem lw_frame {s t : State} {o : Outcome} {args : Array Value} (h : Framed s o t [] 34 1499) :
    Framed s o t (fieldLocs frame_1_writes args s ++ arrayLocs frame_1_arrays args s ++ staticLocs frame_1_statics s) 34 1499 := h
theorem lw_limb (L : Cond) (hL : ∀ (args : Array Value) (s t : State), L.after args s (.returned (some (.int 1))) t = true) :
    ArmFor flags0 classFile x code maxLocals ret World_1 tables_1 room_1 Calls_1 rest_1 Pre_1
      (fun tb e a s o t => postC L tb e a s o t ∧ Framed s o t (fieldLocs frame_1_writes a s ++ arrayLocs frame_1_arrays a s ++ staticLocs frame_1_statics s) 34 1499) := by
  intro l hflags _ _ p e ha hc hk s m args below hf hfit hheap happ hpre
  obtain ⟨k, o, h1, h2, h3, rfl, hF⟩ := lw_comes l hflags p e ha hc hk s m args below hf hfit hheap happ hpre
  exact ⟨k, _, h1, h2, h3, hL args s _, lw_frame hF⟩
theorem i_vc : Claimed_1_1 ∧ Claimed_1_2 := ⟨lw_limb limb_1_1 (fun args s t => by simp [limb_1_1, Cond.after, Cond.holds, Cond.value]), lw_limb limb_1_2 (fun args s t => Cond.after_iff.mpr (by
  first | (rw [show limb_1_2 = Cond.eq .result (.int 1) from rfl, Cond.eq_ints (x := 1) (y := 1) rfl rfl]; simp; done) | (simp [limb_1_2, Cond.value, Term.eval]; done)))⟩

