section
-- ===== PART A: goes FIRST, ahead of the names: the tables' words, and 'selects' of the private methods out of them =====
/-- a private method of a class that the tables say can be made, by its rows of tables_1 -/
def lw_okq (q : MethodName × Nat) : Prop := (q.1.cls ≠ "java/lang/invoke/MethodHandle" ∧ q.1.cls ≠ "java/lang/invoke/VarHandle") ∧ Cond.instantiable q.1.cls q.2 ∈ tables_1 ∧ Cond.privateMethod q.1 ∈ tables_1 ∧ Cond.instanceMethod q.1 ∈ tables_1
theorem lw_p0 : lw_okq (⟨"NoiseLamps$Noise", "measurePair", "(II)V"⟩, 19) := ⟨⟨by decide +kernel, by decide +kernel⟩, List.mem_of_getElem? (i := 15) (by decide +kernel), List.mem_of_getElem? (i := 123) (by decide +kernel), List.mem_of_getElem? (i := 124) (by decide +kernel)⟩
theorem lw_p1 : lw_okq (⟨"NoiseLamps$Noise", "noteIfBetween", "(III)V"⟩, 19) := ⟨⟨by decide +kernel, by decide +kernel⟩, List.mem_of_getElem? (i := 15) (by decide +kernel), List.mem_of_getElem? (i := 133) (by decide +kernel), List.mem_of_getElem? (i := 134) (by decide +kernel)⟩
theorem lw_p2 : lw_okq (⟨"NoiseLamps$Noise", "isBetween", "(III)Z"⟩, 19) := ⟨⟨by decide +kernel, by decide +kernel⟩, List.mem_of_getElem? (i := 15) (by decide +kernel), List.mem_of_getElem? (i := 137) (by decide +kernel), List.mem_of_getElem? (i := 138) (by decide +kernel)⟩
theorem lw_p3 : lw_okq (⟨"NoiseLamps$Noise", "greatestCut", "(I)I"⟩, 19) := ⟨⟨by decide +kernel, by decide +kernel⟩, List.mem_of_getElem? (i := 15) (by decide +kernel), List.mem_of_getElem? (i := 210) (by decide +kernel), List.mem_of_getElem? (i := 211) (by decide +kernel)⟩
theorem lw_p4 : lw_okq (⟨"NoiseLamps$Noise", "housesAhead", "(I)I"⟩, 19) := ⟨⟨by decide +kernel, by decide +kernel⟩, List.mem_of_getElem? (i := 15) (by decide +kernel), List.mem_of_getElem? (i := 262) (by decide +kernel), List.mem_of_getElem? (i := 263) (by decide +kernel)⟩
theorem lw_p5 : lw_okq (⟨"NoiseLamps$Noise", "noneAbove", "(I)Z"⟩, 19) := ⟨⟨by decide +kernel, by decide +kernel⟩, List.mem_of_getElem? (i := 15) (by decide +kernel), List.mem_of_getElem? (i := 278) (by decide +kernel), List.mem_of_getElem? (i := 279) (by decide +kernel)⟩
theorem lw_p6 : lw_okq (⟨"NoiseLamps$Lamps", "lightAt", "(II)I"⟩, 4) := ⟨⟨by decide +kernel, by decide +kernel⟩, List.mem_of_getElem? (i := 80) (by decide +kernel), List.mem_of_getElem? (i := 341) (by decide +kernel), List.mem_of_getElem? (i := 342) (by decide +kernel)⟩
theorem lw_p7 : lw_okq (⟨"NoiseLamps$Lamps", "lightPlaces", "(I)V"⟩, 4) := ⟨⟨by decide +kernel, by decide +kernel⟩, List.mem_of_getElem? (i := 80) (by decide +kernel), List.mem_of_getElem? (i := 362) (by decide +kernel), List.mem_of_getElem? (i := 363) (by decide +kernel)⟩
theorem lw_p8 : lw_okq (⟨"NoiseLamps$Lamps", "places", "()I"⟩, 4) := ⟨⟨by decide +kernel, by decide +kernel⟩, List.mem_of_getElem? (i := 80) (by decide +kernel), List.mem_of_getElem? (i := 366) (by decide +kernel), List.mem_of_getElem? (i := 367) (by decide +kernel)⟩
theorem lw_p9 : lw_okq (⟨"NoiseLamps$Lamps", "leastOfPlaces", "()I"⟩, 4) := ⟨⟨by decide +kernel, by decide +kernel⟩, List.mem_of_getElem? (i := 80) (by decide +kernel), List.mem_of_getElem? (i := 370) (by decide +kernel), List.mem_of_getElem? (i := 371) (by decide +kernel)⟩
theorem lw_p10 : lw_okq (⟨"NoiseLamps$Lamps", "meanOfPlaces", "(I)I"⟩, 4) := ⟨⟨by decide +kernel, by decide +kernel⟩, List.mem_of_getElem? (i := 80) (by decide +kernel), List.mem_of_getElem? (i := 378) (by decide +kernel), List.mem_of_getElem? (i := 379) (by decide +kernel)⟩
theorem lw_p11 : lw_okq (⟨"NoiseLamps$Lamps", "evennessOfPlaces", "()I"⟩, 4) := ⟨⟨by decide +kernel, by decide +kernel⟩, List.mem_of_getElem? (i := 80) (by decide +kernel), List.mem_of_getElem? (i := 386) (by decide +kernel), List.mem_of_getElem? (i := 387) (by decide +kernel)⟩
theorem lw_p12 : lw_okq (⟨"NoiseLampsModel", "isHouse", "(I)Z"⟩, 17) := ⟨⟨by decide +kernel, by decide +kernel⟩, List.mem_of_getElem? (i := 458) (by decide +kernel), List.mem_of_getElem? (i := 546) (by decide +kernel), List.mem_of_getElem? (i := 547) (by decide +kernel)⟩
theorem lw_p13 : lw_okq (⟨"NoiseLampsModel", "givesIn", "(III)I"⟩, 17) := ⟨⟨by decide +kernel, by decide +kernel⟩, List.mem_of_getElem? (i := 458) (by decide +kernel), List.mem_of_getElem? (i := 550) (by decide +kernel), List.mem_of_getElem? (i := 551) (by decide +kernel)⟩
theorem lw_p14 : lw_okq (⟨"NoiseLampsModel", "crosses", "(IIIII)Z"⟩, 17) := ⟨⟨by decide +kernel, by decide +kernel⟩, List.mem_of_getElem? (i := 458) (by decide +kernel), List.mem_of_getElem? (i := 556) (by decide +kernel), List.mem_of_getElem? (i := 557) (by decide +kernel)⟩
theorem lw_p15 : lw_okq (⟨"NoiseLampsModel", "allDay", "(I)I"⟩, 17) := ⟨⟨by decide +kernel, by decide +kernel⟩, List.mem_of_getElem? (i := 458) (by decide +kernel), List.mem_of_getElem? (i := 570) (by decide +kernel), List.mem_of_getElem? (i := 571) (by decide +kernel)⟩
def lw_privs_1 : List (MethodName × Nat) := [(⟨"NoiseLamps$Noise", "measurePair", "(II)V"⟩, 19), (⟨"NoiseLamps$Noise", "noteIfBetween", "(III)V"⟩, 19), (⟨"NoiseLamps$Noise", "isBetween", "(III)Z"⟩, 19), (⟨"NoiseLamps$Noise", "greatestCut", "(I)I"⟩, 19), (⟨"NoiseLamps$Noise", "housesAhead", "(I)I"⟩, 19), (⟨"NoiseLamps$Noise", "noneAbove", "(I)Z"⟩, 19), (⟨"NoiseLamps$Lamps", "lightAt", "(II)I"⟩, 4), (⟨"NoiseLamps$Lamps", "lightPlaces", "(I)V"⟩, 4), (⟨"NoiseLamps$Lamps", "places", "()I"⟩, 4), (⟨"NoiseLamps$Lamps", "leastOfPlaces", "()I"⟩, 4), (⟨"NoiseLamps$Lamps", "meanOfPlaces", "(I)I"⟩, 4), (⟨"NoiseLamps$Lamps", "evennessOfPlaces", "()I"⟩, 4), (⟨"NoiseLampsModel", "isHouse", "(I)Z"⟩, 17), (⟨"NoiseLampsModel", "givesIn", "(III)I"⟩, 17), (⟨"NoiseLampsModel", "crosses", "(IIIII)Z"⟩, 17), (⟨"NoiseLampsModel", "allDay", "(I)I"⟩, 17)]
theorem lw_r1 : ∀ q ∈ lw_privs_1, lw_okq q := List.forall_mem_cons.mpr ⟨lw_p0, List.forall_mem_cons.mpr ⟨lw_p1, List.forall_mem_cons.mpr ⟨lw_p2, List.forall_mem_cons.mpr ⟨lw_p3, List.forall_mem_cons.mpr ⟨lw_p4, List.forall_mem_cons.mpr ⟨lw_p5, List.forall_mem_cons.mpr ⟨lw_p6, List.forall_mem_cons.mpr ⟨lw_p7, List.forall_mem_cons.mpr ⟨lw_p8, List.forall_mem_cons.mpr ⟨lw_p9, List.forall_mem_cons.mpr ⟨lw_p10, List.forall_mem_cons.mpr ⟨lw_p11, List.forall_mem_cons.mpr ⟨lw_p12, List.forall_mem_cons.mpr ⟨lw_p13, List.forall_mem_cons.mpr ⟨lw_p14, List.forall_mem_cons.mpr ⟨lw_p15, fun _ h => absurd h List.not_mem_nil⟩⟩⟩⟩⟩⟩⟩⟩⟩⟩⟩⟩⟩⟩⟩⟩
theorem lw_p16 : lw_okq (⟨"NoiseLampsModel", "levelIn", "(II)I"⟩, 17) := ⟨⟨by decide +kernel, by decide +kernel⟩, List.mem_of_getElem? (i := 458) (by decide +kernel), List.mem_of_getElem? (i := 574) (by decide +kernel), List.mem_of_getElem? (i := 575) (by decide +kernel)⟩
theorem lw_p17 : lw_okq (⟨"NoiseLampsModel", "isWall", "(I)Z"⟩, 17) := ⟨⟨by decide +kernel, by decide +kernel⟩, List.mem_of_getElem? (i := 458) (by decide +kernel), List.mem_of_getElem? (i := 597) (by decide +kernel), List.mem_of_getElem? (i := 598) (by decide +kernel)⟩
theorem lw_p18 : lw_okq (⟨"NoiseLampsModel", "isQuiet", "(I)Z"⟩, 17) := ⟨⟨by decide +kernel, by decide +kernel⟩, List.mem_of_getElem? (i := 458) (by decide +kernel), List.mem_of_getElem? (i := 601) (by decide +kernel), List.mem_of_getElem? (i := 602) (by decide +kernel)⟩
theorem lw_p19 : lw_okq (⟨"NoiseLampsModel", "lightAt", "(I)I"⟩, 17) := ⟨⟨by decide +kernel, by decide +kernel⟩, List.mem_of_getElem? (i := 458) (by decide +kernel), List.mem_of_getElem? (i := 618) (by decide +kernel), List.mem_of_getElem? (i := 619) (by decide +kernel)⟩
theorem lw_p20 : lw_okq (⟨"NoiseLampsModel", "sumAt", "(II)I"⟩, 17) := ⟨⟨by decide +kernel, by decide +kernel⟩, List.mem_of_getElem? (i := 458) (by decide +kernel), List.mem_of_getElem? (i := 637) (by decide +kernel), List.mem_of_getElem? (i := 638) (by decide +kernel)⟩
theorem lw_p21 : lw_okq (⟨"NoiseLampsModel", "leastOf", "(I)I"⟩, 17) := ⟨⟨by decide +kernel, by decide +kernel⟩, List.mem_of_getElem? (i := 458) (by decide +kernel), List.mem_of_getElem? (i := 646) (by decide +kernel), List.mem_of_getElem? (i := 647) (by decide +kernel)⟩
theorem lw_p22 : lw_okq (⟨"NoiseLampsModel", "meanOf", "(II)I"⟩, 17) := ⟨⟨by decide +kernel, by decide +kernel⟩, List.mem_of_getElem? (i := 458) (by decide +kernel), List.mem_of_getElem? (i := 650) (by decide +kernel), List.mem_of_getElem? (i := 651) (by decide +kernel)⟩
theorem lw_p23 : lw_okq (⟨"NoiseLampsModel", "evenness", "(I)I"⟩, 17) := ⟨⟨by decide +kernel, by decide +kernel⟩, List.mem_of_getElem? (i := 458) (by decide +kernel), List.mem_of_getElem? (i := 654) (by decide +kernel), List.mem_of_getElem? (i := 655) (by decide +kernel)⟩
theorem lw_p24 : lw_okq (⟨"NoiseLampsModel", "poles", "(I)I"⟩, 17) := ⟨⟨by decide +kernel, by decide +kernel⟩, List.mem_of_getElem? (i := 458) (by decide +kernel), List.mem_of_getElem? (i := 659) (by decide +kernel), List.mem_of_getElem? (i := 660) (by decide +kernel)⟩
theorem lw_p25 : lw_okq (⟨"NoiseLampsModel", "dropOf", "(III)J"⟩, 17) := ⟨⟨by decide +kernel, by decide +kernel⟩, List.mem_of_getElem? (i := 458) (by decide +kernel), List.mem_of_getElem? (i := 678) (by decide +kernel), List.mem_of_getElem? (i := 679) (by decide +kernel)⟩
def lw_privs_2 : List (MethodName × Nat) := [(⟨"NoiseLampsModel", "levelIn", "(II)I"⟩, 17), (⟨"NoiseLampsModel", "isWall", "(I)Z"⟩, 17), (⟨"NoiseLampsModel", "isQuiet", "(I)Z"⟩, 17), (⟨"NoiseLampsModel", "lightAt", "(I)I"⟩, 17), (⟨"NoiseLampsModel", "sumAt", "(II)I"⟩, 17), (⟨"NoiseLampsModel", "leastOf", "(I)I"⟩, 17), (⟨"NoiseLampsModel", "meanOf", "(II)I"⟩, 17), (⟨"NoiseLampsModel", "evenness", "(I)I"⟩, 17), (⟨"NoiseLampsModel", "poles", "(I)I"⟩, 17), (⟨"NoiseLampsModel", "dropOf", "(III)J"⟩, 17)]
theorem lw_r2 : ∀ q ∈ lw_privs_2, lw_okq q := List.forall_mem_cons.mpr ⟨lw_p16, List.forall_mem_cons.mpr ⟨lw_p17, List.forall_mem_cons.mpr ⟨lw_p18, List.forall_mem_cons.mpr ⟨lw_p19, List.forall_mem_cons.mpr ⟨lw_p20, List.forall_mem_cons.mpr ⟨lw_p21, List.forall_mem_cons.mpr ⟨lw_p22, List.forall_mem_cons.mpr ⟨lw_p23, List.forall_mem_cons.mpr ⟨lw_p24, List.forall_mem_cons.mpr ⟨lw_p25, fun _ h => absurd h List.not_mem_nil⟩⟩⟩⟩⟩⟩⟩⟩⟩⟩
def lw_privs : List (MethodName × Nat) := lw_privs_1 ++ (lw_privs_2)
def lw_tbl : List Cond := k2_sels lw_privs ++ tables_1
theorem lw_privs_ok : ∀ q ∈ lw_privs, lw_okq q := by
  show ∀ q ∈ lw_privs_1 ++ (lw_privs_2), lw_okq q
  exact List.forall_mem_append.mpr ⟨lw_r1, lw_r2⟩
-- ===== end of PART A; then your names; then what follows =====
/-! ===== BEGIN words of one list among another's, by their places ===== -/
theorem goodIn_r {big : List Cond} (ws : List Cond) (ps : List Nat) (hp : ws = ps.filterMap (fun i => big[i]?)) (h : ws.all goodWord = true) : GoodIn big ws := by
  intro w hw
  have h1 := List.all_eq_true.mp h w hw
  rw [hp] at hw
  obtain ⟨i, -, hi⟩ := List.mem_filterMap.mp hw
  have hm : w ∈ big := by first | exact List.mem_of_getElem? hi | exact List.getElem?_mem hi
  exact ⟨hm, good_of_word h1⟩
theorem goodIn_app {big a b : List Cond} (ha : GoodIn big a) (hb : GoodIn big b) : GoodIn big (a ++ b) := fun w h => (List.mem_append.mp h).elim (ha w) (hb w)
theorem goodIn_ca {big a b : List Cond} {c : Cond} (ha : GoodIn big (c :: a)) (hb : GoodIn big b) : GoodIn big (c :: (a ++ b)) := fun w h => (List.mem_cons.mp h).elim (fun e => ha w (List.mem_cons.mpr (Or.inl e))) (fun h => (List.mem_append.mp h).elim (fun h => ha w (List.mem_cons.mpr (Or.inr h))) (hb w))
theorem goodIn_sub {big ws : List Cond} (hm : ∀ w ∈ ws, w ∈ big) (h : ws.all goodWord = true) : GoodIn big ws := fun w hw => ⟨hm w hw, good_of_word (List.all_eq_true.mp h w hw)⟩
/-! ===== END ===== -/


/-! ===== BEGIN printed: names, fields, word lists, decode rows ===== -/
def RX0 : String := "NoiseLamps$Lamps"
def TX0 : u_T := fun k => match k with
  | 0 => ("NoiseLamps$Lamps", "light", "[I", true)
  | 1 => ("NoiseLamps$Lamps", "percents", "[I", true)
  | 2 => ("NoiseLamps$Lamps", "placeLight", "[I", true)
  | _ => ("NoiseLamps$Lamps", "length", "I", false)
def tyX0 : Nat → FieldType := fun k => match k with
  | 0 => .array .int
  | 1 => .array .int
  | 2 => .array .int
  | _ => .int
abbrev wsX00 : List Cond := u_ws RX0 TX0 4
theorem nmX0 : ∀ a, a < 4 → ∀ b, b < 4 → a ≠ b → (TX0 a).2.1 ≠ (TX0 b).2.1 := by decide +kernel
theorem tyX0_ok : ∀ k, k < 4 → parseFieldDescriptor (TX0 k).2.2.1 = some (tyX0 k) := by decide +kernel
abbrev cX0_init : ByteArray := prog_2_method_1_code
def yX0_init : MethodName := ⟨RX0, "<init>", "()V"⟩
abbrev cX0_roadLength : ByteArray := prog_2_method_2_code
def yX0_roadLength : MethodName := ⟨RX0, "roadLength", "()I"⟩
abbrev cX0_changeLength : ByteArray := prog_2_method_3_code
def yX0_changeLength : MethodName := ⟨RX0, "changeLength", "(I)I"⟩
abbrev cX0_changeLight : ByteArray := prog_2_method_4_code
def yX0_changeLight : MethodName := ⟨RX0, "changeLight", "(II)I"⟩
abbrev cX0_changePercent : ByteArray := prog_2_method_5_code
def yX0_changePercent : MethodName := ⟨RX0, "changePercent", "(II)I"⟩
abbrev cX0_litDistances : ByteArray := prog_2_method_6_code
def yX0_litDistances : MethodName := ⟨RX0, "litDistances", "()I"⟩
abbrev cX0_lightFrom : ByteArray := prog_2_method_7_code
def yX0_lightFrom : MethodName := ⟨RX0, "lightFrom", "(I)I"⟩
abbrev cX0_dimmedLight : ByteArray := prog_2_method_8_code
def yX0_dimmedLight : MethodName := ⟨RX0, "dimmedLight", "(III)I"⟩
abbrev cX0_poles : ByteArray := prog_2_method_9_code
def yX0_poles : MethodName := ⟨RX0, "poles", "(I)I"⟩
abbrev cX0_leastLight : ByteArray := prog_2_method_10_code
def yX0_leastLight : MethodName := ⟨RX0, "leastLight", "(I)I"⟩
abbrev cX0_meanLight : ByteArray := prog_2_method_11_code
def yX0_meanLight : MethodName := ⟨RX0, "meanLight", "(I)I"⟩
abbrev cX0_evenness : ByteArray := prog_2_method_12_code
def yX0_evenness : MethodName := ⟨RX0, "evenness", "(I)I"⟩
abbrev cX0_widestGoodSpacing : ByteArray := prog_2_method_13_code
def yX0_widestGoodSpacing : MethodName := ⟨RX0, "widestGoodSpacing", "(II)I"⟩
abbrev cX0_hoursBelow : ByteArray := prog_2_method_14_code
def yX0_hoursBelow : MethodName := ⟨RX0, "hoursBelow", "(II)I"⟩
abbrev cX0_millivolts : ByteArray := prog_2_method_15_code
def yX0_millivolts : MethodName := ⟨RX0, "millivolts", "(III)I"⟩
abbrev cX0_widestWiredSpacing : ByteArray := prog_2_method_16_code
def yX0_widestWiredSpacing : MethodName := ⟨RX0, "widestWiredSpacing", "(III)I"⟩
abbrev cX0_lightAt : ByteArray := prog_2_method_17_code
def yX0_lightAt : MethodName := ⟨RX0, "lightAt", "(II)I"⟩
abbrev cX0_places : ByteArray := prog_2_method_18_code
def yX0_places : MethodName := ⟨RX0, "places", "()I"⟩
abbrev cX0_lightPlaces : ByteArray := prog_2_method_19_code
def yX0_lightPlaces : MethodName := ⟨RX0, "lightPlaces", "(I)V"⟩
abbrev cX0_leastOfPlaces : ByteArray := prog_2_method_20_code
def yX0_leastOfPlaces : MethodName := ⟨RX0, "leastOfPlaces", "()I"⟩
abbrev cX0_meanOfPlaces : ByteArray := prog_2_method_21_code
def yX0_meanOfPlaces : MethodName := ⟨RX0, "meanOfPlaces", "(I)I"⟩
abbrev cX0_evennessOfPlaces : ByteArray := prog_2_method_22_code
def yX0_evennessOfPlaces : MethodName := ⟨RX0, "evennessOfPlaces", "()I"⟩
abbrev cX0_dimmed : ByteArray := prog_2_method_23_code
def yX0_dimmed : MethodName := ⟨RX0, "dimmed", "(II)I"⟩
abbrev cX0_firstPoleInReach : ByteArray := prog_2_method_24_code
def yX0_firstPoleInReach : MethodName := ⟨RX0, "firstPoleInReach", "(II)I"⟩
def RX1 : String := "NoiseLamps$Noise"
def TX1 : u_T := fun k => match k with
  | 0 => ("NoiseLamps$Noise", "pieces", "I", false)
  | 1 => ("NoiseLamps$Noise", "pieceX", "[I", true)
  | 2 => ("NoiseLamps$Noise", "pieceY", "[I", true)
  | 3 => ("NoiseLamps$Noise", "pieceLevel", "[I", true)
  | 4 => ("NoiseLamps$Noise", "houses", "I", false)
  | 5 => ("NoiseLamps$Noise", "houseX", "[I", true)
  | 6 => ("NoiseLamps$Noise", "houseY", "[I", true)
  | 7 => ("NoiseLamps$Noise", "housePeople", "[I", true)
  | 8 => ("NoiseLamps$Noise", "walls", "I", false)
  | 9 => ("NoiseLamps$Noise", "wallX0", "[I", true)
  | 10 => ("NoiseLamps$Noise", "wallY0", "[I", true)
  | 11 => ("NoiseLamps$Noise", "wallX1", "[I", true)
  | 12 => ("NoiseLamps$Noise", "wallY1", "[I", true)
  | 13 => ("NoiseLamps$Noise", "wallCut", "[I", true)
  | 14 => ("NoiseLamps$Noise", "fall", "I", false)
  | 15 => ("NoiseLamps$Noise", "malus", "[I", true)
  | 16 => ("NoiseLamps$Noise", "doublings", "[I", true)
  | 17 => ("NoiseLamps$Noise", "wallsBetween", "[I", true)
  | _ => ("NoiseLamps$Noise", "allDayLevels", "[I", true)
def tyX1 : Nat → FieldType := fun k => match k with
  | 0 => .int
  | 1 => .array .int
  | 2 => .array .int
  | 3 => .array .int
  | 4 => .int
  | 5 => .array .int
  | 6 => .array .int
  | 7 => .array .int
  | 8 => .int
  | 9 => .array .int
  | 10 => .array .int
  | 11 => .array .int
  | 12 => .array .int
  | 13 => .array .int
  | 14 => .int
  | 15 => .array .int
  | 16 => .array .int
  | 17 => .array .int
  | _ => .array .int
abbrev wsX10 : List Cond := u_ws RX1 TX1 19
theorem nmX1 : ∀ a, a < 19 → ∀ b, b < 19 → a ≠ b → (TX1 a).2.1 ≠ (TX1 b).2.1 := by decide +kernel
theorem tyX1_ok : ∀ k, k < 19 → parseFieldDescriptor (TX1 k).2.2.1 = some (tyX1 k) := by decide +kernel
abbrev cX1_init : ByteArray := prog_3_method_1_code
def yX1_init : MethodName := ⟨RX1, "<init>", "()V"⟩
abbrev cX1_pieceCount : ByteArray := prog_3_method_2_code
def yX1_pieceCount : MethodName := ⟨RX1, "pieceCount", "()I"⟩
abbrev cX1_houseCount : ByteArray := prog_3_method_3_code
def yX1_houseCount : MethodName := ⟨RX1, "houseCount", "()I"⟩
abbrev cX1_wallCount : ByteArray := prog_3_method_4_code
def yX1_wallCount : MethodName := ⟨RX1, "wallCount", "()I"⟩
abbrev cX1_hasPiece : ByteArray := prog_3_method_5_code
def yX1_hasPiece : MethodName := ⟨RX1, "hasPiece", "(I)Z"⟩
abbrev cX1_hasHouse : ByteArray := prog_3_method_6_code
def yX1_hasHouse : MethodName := ⟨RX1, "hasHouse", "(I)Z"⟩
abbrev cX1_hasWall : ByteArray := prog_3_method_7_code
def yX1_hasWall : MethodName := ⟨RX1, "hasWall", "(I)Z"⟩
abbrev cX1_addPiece : ByteArray := prog_3_method_8_code
def yX1_addPiece : MethodName := ⟨RX1, "addPiece", "(IIIII)I"⟩
abbrev cX1_addHouse : ByteArray := prog_3_method_9_code
def yX1_addHouse : MethodName := ⟨RX1, "addHouse", "(III)I"⟩
abbrev cX1_addWall : ByteArray := prog_3_method_10_code
def yX1_addWall : MethodName := ⟨RX1, "addWall", "(IIIII)I"⟩
abbrev cX1_changeFall : ByteArray := prog_3_method_11_code
def yX1_changeFall : MethodName := ⟨RX1, "changeFall", "(I)I"⟩
abbrev cX1_changeMalus : ByteArray := prog_3_method_12_code
def yX1_changeMalus : MethodName := ⟨RX1, "changeMalus", "(II)I"⟩
abbrev cX1_changeCut : ByteArray := prog_3_method_13_code
def yX1_changeCut : MethodName := ⟨RX1, "changeCut", "(II)I"⟩
abbrev cX1_allPeople : ByteArray := prog_3_method_14_code
def yX1_allPeople : MethodName := ⟨RX1, "allPeople", "()I"⟩
abbrev cX1_peopleAbove : ByteArray := prog_3_method_15_code
def yX1_peopleAbove : MethodName := ⟨RX1, "peopleAbove", "(I)I"⟩
abbrev cX1_given : ByteArray := prog_3_method_16_code
def yX1_given : MethodName := ⟨RX1, "given", "(III)I"⟩
abbrev cX1_partLevel : ByteArray := prog_3_method_17_code
def yX1_partLevel : MethodName := ⟨RX1, "partLevel", "(II)I"⟩
abbrev cX1_allDayLevel : ByteArray := prog_3_method_18_code
def yX1_allDayLevel : MethodName := ⟨RX1, "allDayLevel", "(I)I"⟩
abbrev cX1_loudestPiece : ByteArray := prog_3_method_19_code
def yX1_loudestPiece : MethodName := ⟨RX1, "loudestPiece", "(II)I"⟩
abbrev cX1_houseOfRank : ByteArray := prog_3_method_20_code
def yX1_houseOfRank : MethodName := ⟨RX1, "houseOfRank", "(I)I"⟩
abbrev cX1_leastCut : ByteArray := prog_3_method_21_code
def yX1_leastCut : MethodName := ⟨RX1, "leastCut", "(II)I"⟩
abbrev cX1_noneAbove : ByteArray := prog_3_method_22_code
def yX1_noneAbove : MethodName := ⟨RX1, "noneAbove", "(I)Z"⟩
abbrev cX1_housesAhead : ByteArray := prog_3_method_23_code
def yX1_housesAhead : MethodName := ⟨RX1, "housesAhead", "(I)I"⟩
abbrev cX1_greatestCut : ByteArray := prog_3_method_24_code
def yX1_greatestCut : MethodName := ⟨RX1, "greatestCut", "(I)I"⟩
abbrev cX1_measurePair : ByteArray := prog_3_method_25_code
def yX1_measurePair : MethodName := ⟨RX1, "measurePair", "(II)V"⟩
abbrev cX1_noteIfBetween : ByteArray := prog_3_method_26_code
def yX1_noteIfBetween : MethodName := ⟨RX1, "noteIfBetween", "(III)V"⟩
abbrev cX1_isBetween : ByteArray := prog_3_method_27_code
def yX1_isBetween : MethodName := ⟨RX1, "isBetween", "(III)Z"⟩
abbrev cX1_pairOf : ByteArray := prog_3_method_28_code
def yX1_pairOf : MethodName := ⟨RX1, "pairOf", "(II)I"⟩
abbrev cX1_join : ByteArray := prog_3_method_29_code
def yX1_join : MethodName := ⟨RX1, "join", "(II)I"⟩
abbrev cX1_moreByJoining : ByteArray := prog_3_method_30_code
def yX1_moreByJoining : MethodName := ⟨RX1, "moreByJoining", "(I)I"⟩
abbrev cX1_doublingsOf : ByteArray := prog_3_method_31_code
def yX1_doublingsOf : MethodName := ⟨RX1, "doublingsOf", "(I)I"⟩
abbrev cX1_spansMeet : ByteArray := prog_3_method_32_code
def yX1_spansMeet : MethodName := ⟨RX1, "spansMeet", "(IIII)Z"⟩
abbrev cX1_onOneSide : ByteArray := prog_3_method_33_code
def yX1_onOneSide : MethodName := ⟨RX1, "onOneSide", "(II)Z"⟩
abbrev cX1_turn : ByteArray := prog_3_method_34_code
def yX1_turn : MethodName := ⟨RX1, "turn", "(IIIIII)I"⟩
def RX2 : String := "NoiseLamps"
def TX2 : u_T := fun k => match k with
  | 0 => ("NoiseLamps", "noise", "LNoiseLamps$Noise;", true)
  | _ => ("NoiseLamps", "lamps", "LNoiseLamps$Lamps;", true)
def tyX2 : Nat → FieldType := fun k => match k with
  | 0 => .object "NoiseLamps$Noise"
  | _ => .object "NoiseLamps$Lamps"
abbrev wsX20 : List Cond := u_ws RX2 TX2 2
theorem nmX2 : ∀ a, a < 2 → ∀ b, b < 2 → a ≠ b → (TX2 a).2.1 ≠ (TX2 b).2.1 := by decide +kernel
theorem tyX2_ok : ∀ k, k < 2 → parseFieldDescriptor (TX2 k).2.2.1 = some (tyX2 k) := by decide +kernel
abbrev cX2_init : ByteArray := prog_1_method_1_code
def yX2_init : MethodName := ⟨RX2, "<init>", "()V"⟩
abbrev cX2_piece : ByteArray := prog_1_method_2_code
def yX2_piece : MethodName := ⟨RX2, "piece", "(IIIII)I"⟩
abbrev cX2_house : ByteArray := prog_1_method_3_code
def yX2_house : MethodName := ⟨RX2, "house", "(III)I"⟩
abbrev cX2_wall : ByteArray := prog_1_method_4_code
def yX2_wall : MethodName := ⟨RX2, "wall", "(IIIII)I"⟩
abbrev cX2_fall : ByteArray := prog_1_method_5_code
def yX2_fall : MethodName := ⟨RX2, "fall", "(I)I"⟩
abbrev cX2_malus : ByteArray := prog_1_method_6_code
def yX2_malus : MethodName := ⟨RX2, "malus", "(II)I"⟩
abbrev cX2_gives : ByteArray := prog_1_method_7_code
def yX2_gives : MethodName := ⟨RX2, "gives", "(III)I"⟩
abbrev cX2_level : ByteArray := prog_1_method_8_code
def yX2_level : MethodName := ⟨RX2, "level", "(II)I"⟩
abbrev cX2_people : ByteArray := prog_1_method_9_code
def yX2_people : MethodName := ⟨RX2, "people", "(I)I"⟩
abbrev cX2_loudest : ByteArray := prog_1_method_10_code
def yX2_loudest : MethodName := ⟨RX2, "loudest", "(II)I"⟩
abbrev cX2_ranked : ByteArray := prog_1_method_11_code
def yX2_ranked : MethodName := ⟨RX2, "ranked", "(I)I"⟩
abbrev cX2_needed : ByteArray := prog_1_method_12_code
def yX2_needed : MethodName := ⟨RX2, "needed", "(II)I"⟩
abbrev cX2_recut : ByteArray := prog_1_method_13_code
def yX2_recut : MethodName := ⟨RX2, "recut", "(II)I"⟩
abbrev cX2_lamp : ByteArray := prog_1_method_14_code
def yX2_lamp : MethodName := ⟨RX2, "lamp", "(II)I"⟩
abbrev cX2_shines : ByteArray := prog_1_method_15_code
def yX2_shines : MethodName := ⟨RX2, "shines", "(I)I"⟩
abbrev cX2_road : ByteArray := prog_1_method_16_code
def yX2_road : MethodName := ⟨RX2, "road", "(I)I"⟩
abbrev cX2_dim : ByteArray := prog_1_method_17_code
def yX2_dim : MethodName := ⟨RX2, "dim", "(II)I"⟩
abbrev cX2_at : ByteArray := prog_1_method_18_code
def yX2_at : MethodName := ⟨RX2, "at", "(III)I"⟩
abbrev cX2_row : ByteArray := prog_1_method_19_code
def yX2_row : MethodName := ⟨RX2, "row", "(II)I"⟩
abbrev cX2_spacing : ByteArray := prog_1_method_20_code
def yX2_spacing : MethodName := ⟨RX2, "spacing", "(II)I"⟩
abbrev cX2_dark : ByteArray := prog_1_method_21_code
def yX2_dark : MethodName := ⟨RX2, "dark", "(II)I"⟩
abbrev cX2_drop : ByteArray := prog_1_method_22_code
def yX2_drop : MethodName := ⟨RX2, "drop", "(III)I"⟩
abbrev cX2_wired : ByteArray := prog_1_method_23_code
def yX2_wired : MethodName := ⟨RX2, "wired", "(III)I"⟩
abbrev cX2_count : ByteArray := prog_1_method_24_code
def yX2_count : MethodName := ⟨RX2, "count", "(I)I"⟩
abbrev cX2_isWithin : ByteArray := prog_1_method_25_code
def yX2_isWithin : MethodName := ⟨RX2, "isWithin", "(III)Z"⟩
abbrev cX2_isPoint : ByteArray := prog_1_method_26_code
def yX2_isPoint : MethodName := ⟨RX2, "isPoint", "(II)Z"⟩
abbrev cX2_isLevel : ByteArray := prog_1_method_27_code
def yX2_isLevel : MethodName := ⟨RX2, "isLevel", "(I)Z"⟩
abbrev cX2_isCut : ByteArray := prog_1_method_28_code
def yX2_isCut : MethodName := ⟨RX2, "isCut", "(I)Z"⟩
abbrev cX2_isPart : ByteArray := prog_1_method_29_code
def yX2_isPart : MethodName := ⟨RX2, "isPart", "(I)Z"⟩
abbrev cX2_isHour : ByteArray := prog_1_method_30_code
def yX2_isHour : MethodName := ⟨RX2, "isHour", "(I)Z"⟩
abbrev cX2_isSpacing : ByteArray := prog_1_method_31_code
def yX2_isSpacing : MethodName := ⟨RX2, "isSpacing", "(I)Z"⟩
abbrev cX2_isWire : ByteArray := prog_1_method_32_code
def yX2_isWire : MethodName := ⟨RX2, "isWire", "(II)Z"⟩
def RX3 : String := "NoiseLampsModel"
def TX3 : u_T := fun k => match k with
  | 0 => ("NoiseLampsModel", "pieces", "I", false)
  | 1 => ("NoiseLampsModel", "pieceX", "[I", true)
  | 2 => ("NoiseLampsModel", "pieceY", "[I", true)
  | 3 => ("NoiseLampsModel", "levels", "[I", true)
  | 4 => ("NoiseLampsModel", "houses", "I", false)
  | 5 => ("NoiseLampsModel", "houseX", "[I", true)
  | 6 => ("NoiseLampsModel", "houseY", "[I", true)
  | 7 => ("NoiseLampsModel", "people", "[I", true)
  | 8 => ("NoiseLampsModel", "walls", "I", false)
  | 9 => ("NoiseLampsModel", "ends", "[I", true)
  | 10 => ("NoiseLampsModel", "cuts", "[I", true)
  | 11 => ("NoiseLampsModel", "fall", "I", false)
  | 12 => ("NoiseLampsModel", "malus", "[I", true)
  | 13 => ("NoiseLampsModel", "lights", "[I", true)
  | 14 => ("NoiseLampsModel", "length", "I", false)
  | 15 => ("NoiseLampsModel", "dims", "[I", true)
  | _ => ("NoiseLampsModel", "days", "[I", true)
def tyX3 : Nat → FieldType := fun k => match k with
  | 0 => .int
  | 1 => .array .int
  | 2 => .array .int
  | 3 => .array .int
  | 4 => .int
  | 5 => .array .int
  | 6 => .array .int
  | 7 => .array .int
  | 8 => .int
  | 9 => .array .int
  | 10 => .array .int
  | 11 => .int
  | 12 => .array .int
  | 13 => .array .int
  | 14 => .int
  | 15 => .array .int
  | _ => .array .int
abbrev wsX30 : List Cond := u_ws RX3 TX3 17
theorem nmX3 : ∀ a, a < 17 → ∀ b, b < 17 → a ≠ b → (TX3 a).2.1 ≠ (TX3 b).2.1 := by decide +kernel
theorem tyX3_ok : ∀ k, k < 17 → parseFieldDescriptor (TX3 k).2.2.1 = some (tyX3 k) := by decide +kernel
abbrev cX3_init : ByteArray := prog_5_method_1_code
def yX3_init : MethodName := ⟨RX3, "<init>", "()V"⟩
abbrev cX3_within : ByteArray := prog_5_method_2_code
def yX3_within : MethodName := ⟨RX3, "within", "(III)Z"⟩
abbrev cX3_isPoint : ByteArray := prog_5_method_3_code
def yX3_isPoint : MethodName := ⟨RX3, "isPoint", "(II)Z"⟩
abbrev cX3_piece : ByteArray := prog_5_method_4_code
def yX3_piece : MethodName := ⟨RX3, "piece", "(IIIII)I"⟩
abbrev cX3_house : ByteArray := prog_5_method_5_code
def yX3_house : MethodName := ⟨RX3, "house", "(III)I"⟩
abbrev cX3_wall : ByteArray := prog_5_method_6_code
def yX3_wall : MethodName := ⟨RX3, "wall", "(IIIII)I"⟩
abbrev cX3_fall : ByteArray := prog_5_method_7_code
def yX3_fall : MethodName := ⟨RX3, "fall", "(I)I"⟩
abbrev cX3_malus : ByteArray := prog_5_method_8_code
def yX3_malus : MethodName := ⟨RX3, "malus", "(II)I"⟩
abbrev cX3_side : ByteArray := prog_5_method_9_code
def yX3_side : MethodName := ⟨RX3, "side", "(JJJJJJ)I"⟩
abbrev cX3_isBetween : ByteArray := prog_5_method_10_code
def yX3_isBetween : MethodName := ⟨RX3, "isBetween", "(IIIIII)Z"⟩
abbrev cX3_crosses : ByteArray := prog_5_method_11_code
def yX3_crosses : MethodName := ⟨RX3, "crosses", "(IIIII)Z"⟩
abbrev cX3_givesIn : ByteArray := prog_5_method_12_code
def yX3_givesIn : MethodName := ⟨RX3, "givesIn", "(III)I"⟩
abbrev cX3_join : ByteArray := prog_5_method_13_code
def yX3_join : MethodName := ⟨RX3, "join", "(II)I"⟩
abbrev cX3_levelIn : ByteArray := prog_5_method_14_code
def yX3_levelIn : MethodName := ⟨RX3, "levelIn", "(II)I"⟩
abbrev cX3_allDay : ByteArray := prog_5_method_15_code
def yX3_allDay : MethodName := ⟨RX3, "allDay", "(I)I"⟩
abbrev cX3_isHouse : ByteArray := prog_5_method_16_code
def yX3_isHouse : MethodName := ⟨RX3, "isHouse", "(I)Z"⟩
abbrev cX3_gives : ByteArray := prog_5_method_17_code
def yX3_gives : MethodName := ⟨RX3, "gives", "(III)I"⟩
abbrev cX3_level : ByteArray := prog_5_method_18_code
def yX3_level : MethodName := ⟨RX3, "level", "(II)I"⟩
abbrev cX3_people : ByteArray := prog_5_method_19_code
def yX3_people : MethodName := ⟨RX3, "people", "(I)I"⟩
abbrev cX3_loudest : ByteArray := prog_5_method_20_code
def yX3_loudest : MethodName := ⟨RX3, "loudest", "(II)I"⟩
abbrev cX3_ranked : ByteArray := prog_5_method_21_code
def yX3_ranked : MethodName := ⟨RX3, "ranked", "(I)I"⟩
abbrev cX3_isQuiet : ByteArray := prog_5_method_22_code
def yX3_isQuiet : MethodName := ⟨RX3, "isQuiet", "(I)Z"⟩
abbrev cX3_isWall : ByteArray := prog_5_method_23_code
def yX3_isWall : MethodName := ⟨RX3, "isWall", "(I)Z"⟩
abbrev cX3_needed : ByteArray := prog_5_method_24_code
def yX3_needed : MethodName := ⟨RX3, "needed", "(II)I"⟩
abbrev cX3_recut : ByteArray := prog_5_method_25_code
def yX3_recut : MethodName := ⟨RX3, "recut", "(II)I"⟩
abbrev cX3_lamp : ByteArray := prog_5_method_26_code
def yX3_lamp : MethodName := ⟨RX3, "lamp", "(II)I"⟩
abbrev cX3_lightAt : ByteArray := prog_5_method_27_code
def yX3_lightAt : MethodName := ⟨RX3, "lightAt", "(I)I"⟩
abbrev cX3_shines : ByteArray := prog_5_method_28_code
def yX3_shines : MethodName := ⟨RX3, "shines", "(I)I"⟩
abbrev cX3_road : ByteArray := prog_5_method_29_code
def yX3_road : MethodName := ⟨RX3, "road", "(I)I"⟩
abbrev cX3_dim : ByteArray := prog_5_method_30_code
def yX3_dim : MethodName := ⟨RX3, "dim", "(II)I"⟩
abbrev cX3_sumAt : ByteArray := prog_5_method_31_code
def yX3_sumAt : MethodName := ⟨RX3, "sumAt", "(II)I"⟩
abbrev cX3_isSpacing : ByteArray := prog_5_method_32_code
def yX3_isSpacing : MethodName := ⟨RX3, "isSpacing", "(I)Z"⟩
abbrev cX3_at : ByteArray := prog_5_method_33_code
def yX3_at : MethodName := ⟨RX3, "at", "(III)I"⟩
abbrev cX3_meanOf : ByteArray := prog_5_method_34_code
def yX3_meanOf : MethodName := ⟨RX3, "meanOf", "(II)I"⟩
abbrev cX3_leastOf : ByteArray := prog_5_method_35_code
def yX3_leastOf : MethodName := ⟨RX3, "leastOf", "(I)I"⟩
abbrev cX3_evenness : ByteArray := prog_5_method_36_code
def yX3_evenness : MethodName := ⟨RX3, "evenness", "(I)I"⟩
abbrev cX3_poles : ByteArray := prog_5_method_37_code
def yX3_poles : MethodName := ⟨RX3, "poles", "(I)I"⟩
abbrev cX3_row : ByteArray := prog_5_method_38_code
def yX3_row : MethodName := ⟨RX3, "row", "(II)I"⟩
abbrev cX3_spacing : ByteArray := prog_5_method_39_code
def yX3_spacing : MethodName := ⟨RX3, "spacing", "(II)I"⟩
abbrev cX3_dark : ByteArray := prog_5_method_40_code
def yX3_dark : MethodName := ⟨RX3, "dark", "(II)I"⟩
abbrev cX3_dropOf : ByteArray := prog_5_method_41_code
def yX3_dropOf : MethodName := ⟨RX3, "dropOf", "(III)J"⟩
abbrev cX3_isWire : ByteArray := prog_5_method_42_code
def yX3_isWire : MethodName := ⟨RX3, "isWire", "(II)Z"⟩
abbrev cX3_drop : ByteArray := prog_5_method_43_code
def yX3_drop : MethodName := ⟨RX3, "drop", "(III)I"⟩
abbrev cX3_wired : ByteArray := prog_5_method_44_code
def yX3_wired : MethodName := ⟨RX3, "wired", "(III)I"⟩
abbrev cX3_count : ByteArray := prog_5_method_45_code
def yX3_count : MethodName := ⟨RX3, "count", "(I)I"⟩
def RJ9 : String := "java/lang/Math"
def TJ9 : u_T := fun k => match k with
  | _ => ("", "", "", false)
def tyJ9 : Nat → FieldType := fun k => match k with
  | _ => .int
abbrev wsJ90 : List Cond := u_ws RJ9 TJ9 0
theorem nmJ9 : ∀ a, a < 0 → ∀ b, b < 0 → a ≠ b → (TJ9 a).2.1 ≠ (TJ9 b).2.1 := by decide +kernel
theorem tyJ9_ok : ∀ k, k < 0 → parseFieldDescriptor (TJ9 k).2.2.1 = some (tyJ9 k) := by decide +kernel
abbrev cJ9_abs_0f7a4 : ByteArray := prog_6_method_59_code
def yJ9_abs_0f7a4 : MethodName := ⟨RJ9, "abs", "(I)I"⟩
abbrev cJ9_max_7cf53 : ByteArray := prog_6_method_65_code
def yJ9_max_7cf53 : MethodName := ⟨RJ9, "max", "(II)I"⟩
abbrev cJ9_min_7cf53 : ByteArray := prog_6_method_69_code
def yJ9_min_7cf53 : MethodName := ⟨RJ9, "min", "(II)I"⟩
def RL : String := "NoiseLampsLaw"
abbrev cL_law : ByteArray := code
def yL_law : MethodName := ⟨RL, "law", "([I)Z"⟩
def wsX0_init : List Cond := .code yX0_init cX0_init 2 none :: ([.methodLink RX0 3 objectInit, .instanceMethod objectInit, .code objectInit ⟨#[0xb1]⟩ 1 none, .arrayClass .int, .fieldLink RX0 9 "NoiseLamps$Lamps" "light" "[I", .fieldLink RX0 15 "NoiseLamps$Lamps" "percents" "[I", .fieldLink RX0 18 "NoiseLamps$Lamps" "placeLight" "[I"] ++ wsX00)
def wsX0_roadLength : List Cond := .code yX0_roadLength cX0_roadLength 1 (some .int) :: ([.fieldLink RX0 21 "NoiseLamps$Lamps" "length" "I"] ++ wsX00)
def wsX0_changeLength : List Cond := .code yX0_changeLength cX0_changeLength 3 (some .int) :: ([.fieldLink RX0 21 "NoiseLamps$Lamps" "length" "I"] ++ wsX00)
def wsX0_changeLight : List Cond := .code yX0_changeLight cX0_changeLight 4 (some .int) :: ([.fieldLink RX0 9 "NoiseLamps$Lamps" "light" "[I"] ++ wsX00)
def wsX0_changePercent : List Cond := .code yX0_changePercent cX0_changePercent 4 (some .int) :: ([.fieldLink RX0 15 "NoiseLamps$Lamps" "percents" "[I"] ++ wsX00)
def wsX0_litDistances : List Cond := .code yX0_litDistances cX0_litDistances 3 (some .int) :: ([.fieldLink RX0 9 "NoiseLamps$Lamps" "light" "[I"] ++ wsX00)
def wsX0_lightFrom : List Cond := .code yX0_lightFrom cX0_lightFrom 4 (some .int) :: ([.fieldLink RX0 9 "NoiseLamps$Lamps" "light" "[I"] ++ wsX00)
def wsX0_firstPoleInReach : List Cond := .code yX0_firstPoleInReach cX0_firstPoleInReach 3 (some .int) :: ([])
def wsX0_lightAt : List Cond := .code yX0_lightAt cX0_lightAt 6 (some .int) :: ([.fieldLink RX0 21 "NoiseLamps$Lamps" "length" "I", .methodLink RX0 58 Lib.Math.min.name, .static Lib.Math.min.name, .initialized "java/lang/Math", .code Lib.Math.min.name Lib.Math.min.code 2 (some .int), .methodLink RX0 66 Lib.Math.abs.name, .static Lib.Math.abs.name, .code Lib.Math.abs.name Lib.Math.abs.code 1 (some .int), .methodLink RX0 63 yX0_firstPoleInReach, .static yX0_firstPoleInReach, .initialized RX0, .code yX0_firstPoleInReach cX0_firstPoleInReach 3 (some .int), .methodLink RX0 69 yX0_lightFrom, .instanceMethod yX0_lightFrom, .selects RX0 yX0_lightFrom yX0_lightFrom, .code yX0_lightFrom cX0_lightFrom 4 (some .int), .fieldLink RX0 9 "NoiseLamps$Lamps" "light" "[I"] ++ wsX00)
def wsX0_dimmed : List Cond := .code yX0_dimmed cX0_dimmed 2 (some .int) :: ([])
def wsX0_dimmedLight_r1 : List Cond := [Cond.fieldLink RX0 15 "NoiseLamps$Lamps" "percents" "[I", Cond.methodLink RX0 25 yX0_lightAt, Cond.instanceMethod yX0_lightAt, Cond.selects RX0 yX0_lightAt yX0_lightAt, Cond.initialized RX0, Cond.code yX0_lightAt cX0_lightAt 6 (some .int), Cond.fieldLink RX0 21 "NoiseLamps$Lamps" "length" "I", Cond.methodLink RX0 58 Lib.Math.min.name, Cond.static Lib.Math.min.name, Cond.initialized "java/lang/Math", Cond.code Lib.Math.min.name Lib.Math.min.code 2 (some .int), Cond.methodLink RX0 66 Lib.Math.abs.name, Cond.static Lib.Math.abs.name, Cond.code Lib.Math.abs.name Lib.Math.abs.code 1 (some .int), Cond.methodLink RX0 63 yX0_firstPoleInReach, Cond.static yX0_firstPoleInReach, Cond.code yX0_firstPoleInReach cX0_firstPoleInReach 3 (some .int), Cond.methodLink RX0 69 yX0_lightFrom, Cond.instanceMethod yX0_lightFrom, Cond.selects RX0 yX0_lightFrom yX0_lightFrom, Cond.code yX0_lightFrom cX0_lightFrom 4 (some .int), Cond.fieldLink RX0 9 "NoiseLamps$Lamps" "light" "[I", Cond.methodLink RX0 29 yX0_dimmed, Cond.static yX0_dimmed]
def wsX0_dimmedLight_r2 : List Cond := [Cond.code yX0_dimmed cX0_dimmed 2 (some .int)]
def wsX0_dimmedLight : List Cond := .code yX0_dimmedLight cX0_dimmedLight 4 (some .int) :: ((wsX0_dimmedLight_r1 ++ wsX0_dimmedLight_r2) ++ wsX00)
def wsX0_poles : List Cond := .code yX0_poles cX0_poles 2 (some .int) :: ([.fieldLink RX0 21 "NoiseLamps$Lamps" "length" "I"] ++ wsX00)
def wsX0_places : List Cond := .code yX0_places cX0_places 1 (some .int) :: ([.fieldLink RX0 21 "NoiseLamps$Lamps" "length" "I"] ++ wsX00)
def wsX0_lightPlaces_r1 : List Cond := [Cond.fieldLink RX0 18 "NoiseLamps$Lamps" "placeLight" "[I", Cond.methodLink RX0 72 yX0_places, Cond.instanceMethod yX0_places, Cond.selects RX0 yX0_places yX0_places, Cond.initialized RX0, Cond.code yX0_places cX0_places 1 (some .int), Cond.fieldLink RX0 21 "NoiseLamps$Lamps" "length" "I", Cond.methodLink RX0 25 yX0_lightAt, Cond.instanceMethod yX0_lightAt, Cond.selects RX0 yX0_lightAt yX0_lightAt, Cond.code yX0_lightAt cX0_lightAt 6 (some .int), Cond.methodLink RX0 58 Lib.Math.min.name, Cond.static Lib.Math.min.name, Cond.initialized "java/lang/Math", Cond.code Lib.Math.min.name Lib.Math.min.code 2 (some .int), Cond.methodLink RX0 66 Lib.Math.abs.name, Cond.static Lib.Math.abs.name, Cond.code Lib.Math.abs.name Lib.Math.abs.code 1 (some .int), Cond.methodLink RX0 63 yX0_firstPoleInReach, Cond.static yX0_firstPoleInReach, Cond.code yX0_firstPoleInReach cX0_firstPoleInReach 3 (some .int), Cond.methodLink RX0 69 yX0_lightFrom, Cond.instanceMethod yX0_lightFrom, Cond.selects RX0 yX0_lightFrom yX0_lightFrom]
def wsX0_lightPlaces_r2 : List Cond := [Cond.code yX0_lightFrom cX0_lightFrom 4 (some .int), Cond.fieldLink RX0 9 "NoiseLamps$Lamps" "light" "[I"]
def wsX0_lightPlaces : List Cond := .code yX0_lightPlaces cX0_lightPlaces 3 none :: ((wsX0_lightPlaces_r1 ++ wsX0_lightPlaces_r2) ++ wsX00)
def wsX0_leastOfPlaces : List Cond := .code yX0_leastOfPlaces cX0_leastOfPlaces 3 (some .int) :: ([.fieldLink RX0 18 "NoiseLamps$Lamps" "placeLight" "[I", .methodLink RX0 58 Lib.Math.min.name, .static Lib.Math.min.name, .initialized "java/lang/Math", .code Lib.Math.min.name Lib.Math.min.code 2 (some .int), .methodLink RX0 72 yX0_places, .instanceMethod yX0_places, .selects RX0 yX0_places yX0_places, .initialized RX0, .code yX0_places cX0_places 1 (some .int), .fieldLink RX0 21 "NoiseLamps$Lamps" "length" "I"] ++ wsX00)
def wsX0_leastLight_r1 : List Cond := [Cond.methodLink RX0 32 yX0_lightPlaces, Cond.instanceMethod yX0_lightPlaces, Cond.selects RX0 yX0_lightPlaces yX0_lightPlaces, Cond.initialized RX0, Cond.code yX0_lightPlaces cX0_lightPlaces 3 none, Cond.fieldLink RX0 18 "NoiseLamps$Lamps" "placeLight" "[I", Cond.methodLink RX0 72 yX0_places, Cond.instanceMethod yX0_places, Cond.selects RX0 yX0_places yX0_places, Cond.code yX0_places cX0_places 1 (some .int), Cond.fieldLink RX0 21 "NoiseLamps$Lamps" "length" "I", Cond.methodLink RX0 25 yX0_lightAt, Cond.instanceMethod yX0_lightAt, Cond.selects RX0 yX0_lightAt yX0_lightAt, Cond.code yX0_lightAt cX0_lightAt 6 (some .int), Cond.methodLink RX0 58 Lib.Math.min.name, Cond.static Lib.Math.min.name, Cond.initialized "java/lang/Math", Cond.code Lib.Math.min.name Lib.Math.min.code 2 (some .int), Cond.methodLink RX0 66 Lib.Math.abs.name, Cond.static Lib.Math.abs.name, Cond.code Lib.Math.abs.name Lib.Math.abs.code 1 (some .int), Cond.methodLink RX0 63 yX0_firstPoleInReach, Cond.static yX0_firstPoleInReach]
def wsX0_leastLight_r2 : List Cond := [Cond.code yX0_firstPoleInReach cX0_firstPoleInReach 3 (some .int), Cond.methodLink RX0 69 yX0_lightFrom, Cond.instanceMethod yX0_lightFrom, Cond.selects RX0 yX0_lightFrom yX0_lightFrom, Cond.code yX0_lightFrom cX0_lightFrom 4 (some .int), Cond.fieldLink RX0 9 "NoiseLamps$Lamps" "light" "[I", Cond.methodLink RX0 36 yX0_leastOfPlaces, Cond.instanceMethod yX0_leastOfPlaces, Cond.selects RX0 yX0_leastOfPlaces yX0_leastOfPlaces, Cond.code yX0_leastOfPlaces cX0_leastOfPlaces 3 (some .int)]
def wsX0_leastLight : List Cond := .code yX0_leastLight cX0_leastLight 2 (some .int) :: ((wsX0_leastLight_r1 ++ wsX0_leastLight_r2) ++ wsX00)
def wsX0_meanOfPlaces : List Cond := .code yX0_meanOfPlaces cX0_meanOfPlaces 5 (some .int) :: ([.fieldLink RX0 18 "NoiseLamps$Lamps" "placeLight" "[I", .methodLink RX0 72 yX0_places, .instanceMethod yX0_places, .selects RX0 yX0_places yX0_places, .initialized RX0, .code yX0_places cX0_places 1 (some .int), .fieldLink RX0 21 "NoiseLamps$Lamps" "length" "I", .methodLink RX0 29 yX0_dimmed, .static yX0_dimmed, .code yX0_dimmed cX0_dimmed 2 (some .int)] ++ wsX00)
def wsX0_meanLight_r1 : List Cond := [Cond.methodLink RX0 32 yX0_lightPlaces, Cond.instanceMethod yX0_lightPlaces, Cond.selects RX0 yX0_lightPlaces yX0_lightPlaces, Cond.initialized RX0, Cond.code yX0_lightPlaces cX0_lightPlaces 3 none, Cond.fieldLink RX0 18 "NoiseLamps$Lamps" "placeLight" "[I", Cond.methodLink RX0 72 yX0_places, Cond.instanceMethod yX0_places, Cond.selects RX0 yX0_places yX0_places, Cond.code yX0_places cX0_places 1 (some .int), Cond.fieldLink RX0 21 "NoiseLamps$Lamps" "length" "I", Cond.methodLink RX0 25 yX0_lightAt, Cond.instanceMethod yX0_lightAt, Cond.selects RX0 yX0_lightAt yX0_lightAt, Cond.code yX0_lightAt cX0_lightAt 6 (some .int), Cond.methodLink RX0 58 Lib.Math.min.name, Cond.static Lib.Math.min.name, Cond.initialized "java/lang/Math", Cond.code Lib.Math.min.name Lib.Math.min.code 2 (some .int), Cond.methodLink RX0 66 Lib.Math.abs.name, Cond.static Lib.Math.abs.name, Cond.code Lib.Math.abs.name Lib.Math.abs.code 1 (some .int), Cond.methodLink RX0 63 yX0_firstPoleInReach, Cond.static yX0_firstPoleInReach]
def wsX0_meanLight_r2 : List Cond := [Cond.code yX0_firstPoleInReach cX0_firstPoleInReach 3 (some .int), Cond.methodLink RX0 69 yX0_lightFrom, Cond.instanceMethod yX0_lightFrom, Cond.selects RX0 yX0_lightFrom yX0_lightFrom, Cond.code yX0_lightFrom cX0_lightFrom 4 (some .int), Cond.fieldLink RX0 9 "NoiseLamps$Lamps" "light" "[I", Cond.methodLink RX0 40 yX0_meanOfPlaces, Cond.instanceMethod yX0_meanOfPlaces, Cond.selects RX0 yX0_meanOfPlaces yX0_meanOfPlaces, Cond.code yX0_meanOfPlaces cX0_meanOfPlaces 5 (some .int), Cond.methodLink RX0 29 yX0_dimmed, Cond.static yX0_dimmed, Cond.code yX0_dimmed cX0_dimmed 2 (some .int)]
def wsX0_meanLight : List Cond := .code yX0_meanLight cX0_meanLight 2 (some .int) :: ((wsX0_meanLight_r1 ++ wsX0_meanLight_r2) ++ wsX00)
def wsX0_evennessOfPlaces : List Cond := .code yX0_evennessOfPlaces cX0_evennessOfPlaces 2 (some .int) :: ([.constantLong RX0 75 (1000), .methodLink RX0 40 yX0_meanOfPlaces, .instanceMethod yX0_meanOfPlaces, .selects RX0 yX0_meanOfPlaces yX0_meanOfPlaces, .initialized RX0, .code yX0_meanOfPlaces cX0_meanOfPlaces 5 (some .int), .fieldLink RX0 18 "NoiseLamps$Lamps" "placeLight" "[I", .methodLink RX0 72 yX0_places, .instanceMethod yX0_places, .selects RX0 yX0_places yX0_places, .code yX0_places cX0_places 1 (some .int), .fieldLink RX0 21 "NoiseLamps$Lamps" "length" "I", .methodLink RX0 29 yX0_dimmed, .static yX0_dimmed, .code yX0_dimmed cX0_dimmed 2 (some .int), .methodLink RX0 36 yX0_leastOfPlaces, .instanceMethod yX0_leastOfPlaces, .selects RX0 yX0_leastOfPlaces yX0_leastOfPlaces, .code yX0_leastOfPlaces cX0_leastOfPlaces 3 (some .int), .methodLink RX0 58 Lib.Math.min.name, .static Lib.Math.min.name, .initialized "java/lang/Math", .code Lib.Math.min.name Lib.Math.min.code 2 (some .int)] ++ wsX00)
def wsX0_evenness_r1 : List Cond := [Cond.methodLink RX0 32 yX0_lightPlaces, Cond.instanceMethod yX0_lightPlaces, Cond.selects RX0 yX0_lightPlaces yX0_lightPlaces, Cond.initialized RX0, Cond.code yX0_lightPlaces cX0_lightPlaces 3 none, Cond.fieldLink RX0 18 "NoiseLamps$Lamps" "placeLight" "[I", Cond.methodLink RX0 72 yX0_places, Cond.instanceMethod yX0_places, Cond.selects RX0 yX0_places yX0_places, Cond.code yX0_places cX0_places 1 (some .int), Cond.fieldLink RX0 21 "NoiseLamps$Lamps" "length" "I", Cond.methodLink RX0 25 yX0_lightAt, Cond.instanceMethod yX0_lightAt, Cond.selects RX0 yX0_lightAt yX0_lightAt, Cond.code yX0_lightAt cX0_lightAt 6 (some .int), Cond.methodLink RX0 58 Lib.Math.min.name, Cond.static Lib.Math.min.name, Cond.initialized "java/lang/Math", Cond.code Lib.Math.min.name Lib.Math.min.code 2 (some .int), Cond.methodLink RX0 66 Lib.Math.abs.name, Cond.static Lib.Math.abs.name, Cond.code Lib.Math.abs.name Lib.Math.abs.code 1 (some .int), Cond.methodLink RX0 63 yX0_firstPoleInReach, Cond.static yX0_firstPoleInReach]
def wsX0_evenness_r2 : List Cond := [Cond.code yX0_firstPoleInReach cX0_firstPoleInReach 3 (some .int), Cond.methodLink RX0 69 yX0_lightFrom, Cond.instanceMethod yX0_lightFrom, Cond.selects RX0 yX0_lightFrom yX0_lightFrom, Cond.code yX0_lightFrom cX0_lightFrom 4 (some .int), Cond.fieldLink RX0 9 "NoiseLamps$Lamps" "light" "[I", Cond.methodLink RX0 44 yX0_evennessOfPlaces, Cond.instanceMethod yX0_evennessOfPlaces, Cond.selects RX0 yX0_evennessOfPlaces yX0_evennessOfPlaces, Cond.code yX0_evennessOfPlaces cX0_evennessOfPlaces 2 (some .int), Cond.constantLong RX0 75 (1000), Cond.methodLink RX0 40 yX0_meanOfPlaces, Cond.instanceMethod yX0_meanOfPlaces, Cond.selects RX0 yX0_meanOfPlaces yX0_meanOfPlaces, Cond.code yX0_meanOfPlaces cX0_meanOfPlaces 5 (some .int), Cond.methodLink RX0 29 yX0_dimmed, Cond.static yX0_dimmed, Cond.code yX0_dimmed cX0_dimmed 2 (some .int), Cond.methodLink RX0 36 yX0_leastOfPlaces, Cond.instanceMethod yX0_leastOfPlaces, Cond.selects RX0 yX0_leastOfPlaces yX0_leastOfPlaces, Cond.code yX0_leastOfPlaces cX0_leastOfPlaces 3 (some .int)]
def wsX0_evenness : List Cond := .code yX0_evenness cX0_evenness 2 (some .int) :: ((wsX0_evenness_r1 ++ wsX0_evenness_r2) ++ wsX00)
def wsX0_widestGoodSpacing_r1 : List Cond := [Cond.methodLink RX0 32 yX0_lightPlaces, Cond.instanceMethod yX0_lightPlaces, Cond.selects RX0 yX0_lightPlaces yX0_lightPlaces, Cond.initialized RX0, Cond.code yX0_lightPlaces cX0_lightPlaces 3 none, Cond.fieldLink RX0 18 "NoiseLamps$Lamps" "placeLight" "[I", Cond.methodLink RX0 72 yX0_places, Cond.instanceMethod yX0_places, Cond.selects RX0 yX0_places yX0_places, Cond.code yX0_places cX0_places 1 (some .int), Cond.fieldLink RX0 21 "NoiseLamps$Lamps" "length" "I", Cond.methodLink RX0 25 yX0_lightAt, Cond.instanceMethod yX0_lightAt, Cond.selects RX0 yX0_lightAt yX0_lightAt, Cond.code yX0_lightAt cX0_lightAt 6 (some .int), Cond.methodLink RX0 58 Lib.Math.min.name, Cond.static Lib.Math.min.name, Cond.initialized "java/lang/Math", Cond.code Lib.Math.min.name Lib.Math.min.code 2 (some .int), Cond.methodLink RX0 66 Lib.Math.abs.name, Cond.static Lib.Math.abs.name, Cond.code Lib.Math.abs.name Lib.Math.abs.code 1 (some .int), Cond.methodLink RX0 63 yX0_firstPoleInReach, Cond.static yX0_firstPoleInReach]
def wsX0_widestGoodSpacing_r2 : List Cond := [Cond.code yX0_firstPoleInReach cX0_firstPoleInReach 3 (some .int), Cond.methodLink RX0 69 yX0_lightFrom, Cond.instanceMethod yX0_lightFrom, Cond.selects RX0 yX0_lightFrom yX0_lightFrom, Cond.code yX0_lightFrom cX0_lightFrom 4 (some .int), Cond.fieldLink RX0 9 "NoiseLamps$Lamps" "light" "[I", Cond.methodLink RX0 40 yX0_meanOfPlaces, Cond.instanceMethod yX0_meanOfPlaces, Cond.selects RX0 yX0_meanOfPlaces yX0_meanOfPlaces, Cond.code yX0_meanOfPlaces cX0_meanOfPlaces 5 (some .int), Cond.methodLink RX0 29 yX0_dimmed, Cond.static yX0_dimmed, Cond.code yX0_dimmed cX0_dimmed 2 (some .int), Cond.methodLink RX0 44 yX0_evennessOfPlaces, Cond.instanceMethod yX0_evennessOfPlaces, Cond.selects RX0 yX0_evennessOfPlaces yX0_evennessOfPlaces, Cond.code yX0_evennessOfPlaces cX0_evennessOfPlaces 2 (some .int), Cond.constantLong RX0 75 (1000), Cond.methodLink RX0 36 yX0_leastOfPlaces, Cond.instanceMethod yX0_leastOfPlaces, Cond.selects RX0 yX0_leastOfPlaces yX0_leastOfPlaces, Cond.code yX0_leastOfPlaces cX0_leastOfPlaces 3 (some .int)]
def wsX0_widestGoodSpacing : List Cond := .code yX0_widestGoodSpacing cX0_widestGoodSpacing 4 (some .int) :: ((wsX0_widestGoodSpacing_r1 ++ wsX0_widestGoodSpacing_r2) ++ wsX00)
def wsX0_hoursBelow_r1 : List Cond := [Cond.fieldLink RX0 15 "NoiseLamps$Lamps" "percents" "[I", Cond.methodLink RX0 32 yX0_lightPlaces, Cond.instanceMethod yX0_lightPlaces, Cond.selects RX0 yX0_lightPlaces yX0_lightPlaces, Cond.initialized RX0, Cond.code yX0_lightPlaces cX0_lightPlaces 3 none, Cond.fieldLink RX0 18 "NoiseLamps$Lamps" "placeLight" "[I", Cond.methodLink RX0 72 yX0_places, Cond.instanceMethod yX0_places, Cond.selects RX0 yX0_places yX0_places, Cond.code yX0_places cX0_places 1 (some .int), Cond.fieldLink RX0 21 "NoiseLamps$Lamps" "length" "I", Cond.methodLink RX0 25 yX0_lightAt, Cond.instanceMethod yX0_lightAt, Cond.selects RX0 yX0_lightAt yX0_lightAt, Cond.code yX0_lightAt cX0_lightAt 6 (some .int), Cond.methodLink RX0 58 Lib.Math.min.name, Cond.static Lib.Math.min.name, Cond.initialized "java/lang/Math", Cond.code Lib.Math.min.name Lib.Math.min.code 2 (some .int), Cond.methodLink RX0 66 Lib.Math.abs.name, Cond.static Lib.Math.abs.name, Cond.code Lib.Math.abs.name Lib.Math.abs.code 1 (some .int), Cond.methodLink RX0 63 yX0_firstPoleInReach]
def wsX0_hoursBelow_r2 : List Cond := [Cond.static yX0_firstPoleInReach, Cond.code yX0_firstPoleInReach cX0_firstPoleInReach 3 (some .int), Cond.methodLink RX0 69 yX0_lightFrom, Cond.instanceMethod yX0_lightFrom, Cond.selects RX0 yX0_lightFrom yX0_lightFrom, Cond.code yX0_lightFrom cX0_lightFrom 4 (some .int), Cond.fieldLink RX0 9 "NoiseLamps$Lamps" "light" "[I", Cond.methodLink RX0 40 yX0_meanOfPlaces, Cond.instanceMethod yX0_meanOfPlaces, Cond.selects RX0 yX0_meanOfPlaces yX0_meanOfPlaces, Cond.code yX0_meanOfPlaces cX0_meanOfPlaces 5 (some .int), Cond.methodLink RX0 29 yX0_dimmed, Cond.static yX0_dimmed, Cond.code yX0_dimmed cX0_dimmed 2 (some .int)]
def wsX0_hoursBelow : List Cond := .code yX0_hoursBelow cX0_hoursBelow 5 (some .int) :: ((wsX0_hoursBelow_r1 ++ wsX0_hoursBelow_r2) ++ wsX00)
def wsX0_millivolts : List Cond := .code yX0_millivolts cX0_millivolts 8 (some .int) :: ([.constantLong RX0 50 (2), .constantLong RX0 52 (1000000), .methodLink RX0 47 yX0_poles, .instanceMethod yX0_poles, .selects RX0 yX0_poles yX0_poles, .initialized RX0, .code yX0_poles cX0_poles 2 (some .int), .fieldLink RX0 21 "NoiseLamps$Lamps" "length" "I"] ++ wsX00)
def wsX0_widestWiredSpacing : List Cond := .code yX0_widestWiredSpacing cX0_widestWiredSpacing 5 (some .int) :: ([.methodLink RX0 54 yX0_millivolts, .instanceMethod yX0_millivolts, .selects RX0 yX0_millivolts yX0_millivolts, .initialized RX0, .code yX0_millivolts cX0_millivolts 8 (some .int), .constantLong RX0 50 (2), .constantLong RX0 52 (1000000), .methodLink RX0 47 yX0_poles, .instanceMethod yX0_poles, .selects RX0 yX0_poles yX0_poles, .code yX0_poles cX0_poles 2 (some .int), .fieldLink RX0 21 "NoiseLamps$Lamps" "length" "I"] ++ wsX00)
def wsX1_init : List Cond := .code yX1_init cX1_init 1 none :: ([.methodLink RX1 3 objectInit, .instanceMethod objectInit, .code objectInit ⟨#[0xb1]⟩ 1 none, .arrayClass .int, .fieldLink RX1 11 "NoiseLamps$Noise" "pieceX" "[I", .fieldLink RX1 15 "NoiseLamps$Noise" "pieceY" "[I", .fieldLink RX1 18 "NoiseLamps$Noise" "pieceLevel" "[I", .fieldLink RX1 21 "NoiseLamps$Noise" "houseX" "[I", .fieldLink RX1 24 "NoiseLamps$Noise" "houseY" "[I", .fieldLink RX1 27 "NoiseLamps$Noise" "housePeople" "[I", .fieldLink RX1 30 "NoiseLamps$Noise" "wallX0" "[I", .fieldLink RX1 33 "NoiseLamps$Noise" "wallY0" "[I", .fieldLink RX1 36 "NoiseLamps$Noise" "wallX1" "[I", .fieldLink RX1 39 "NoiseLamps$Noise" "wallY1" "[I", .fieldLink RX1 42 "NoiseLamps$Noise" "wallCut" "[I", .fieldLink RX1 45 "NoiseLamps$Noise" "malus" "[I", .fieldLink RX1 48 "NoiseLamps$Noise" "doublings" "[I", .fieldLink RX1 51 "NoiseLamps$Noise" "wallsBetween" "[I", .fieldLink RX1 54 "NoiseLamps$Noise" "allDayLevels" "[I", .fieldLink RX1 57 "NoiseLamps$Noise" "fall" "I"] ++ wsX10)
def wsX1_pieceCount : List Cond := .code yX1_pieceCount cX1_pieceCount 1 (some .int) :: ([.fieldLink RX1 61 "NoiseLamps$Noise" "pieces" "I"] ++ wsX10)
def wsX1_houseCount : List Cond := .code yX1_houseCount cX1_houseCount 1 (some .int) :: ([.fieldLink RX1 64 "NoiseLamps$Noise" "houses" "I"] ++ wsX10)
def wsX1_wallCount : List Cond := .code yX1_wallCount cX1_wallCount 1 (some .int) :: ([.fieldLink RX1 67 "NoiseLamps$Noise" "walls" "I"] ++ wsX10)
def wsX1_hasPiece : List Cond := .code yX1_hasPiece cX1_hasPiece 2 (some .boolean) :: ([.fieldLink RX1 61 "NoiseLamps$Noise" "pieces" "I"] ++ wsX10)
def wsX1_hasHouse : List Cond := .code yX1_hasHouse cX1_hasHouse 2 (some .boolean) :: ([.fieldLink RX1 64 "NoiseLamps$Noise" "houses" "I"] ++ wsX10)
def wsX1_hasWall : List Cond := .code yX1_hasWall cX1_hasWall 2 (some .boolean) :: ([.fieldLink RX1 67 "NoiseLamps$Noise" "walls" "I"] ++ wsX10)
def wsX1_pairOf : List Cond := .code yX1_pairOf cX1_pairOf 2 (some .int) :: ([])
def wsX1_doublingsOf : List Cond := .code yX1_doublingsOf cX1_doublingsOf 3 (some .int) :: ([])
def wsX1_spansMeet : List Cond := .code yX1_spansMeet cX1_spansMeet 4 (some .boolean) :: ([.methodLink RX1 89 Lib.Math.max.name, .static Lib.Math.max.name, .initialized "java/lang/Math", .code Lib.Math.max.name Lib.Math.max.code 2 (some .int), .methodLink RX1 136 Lib.Math.min.name, .static Lib.Math.min.name, .code Lib.Math.min.name Lib.Math.min.code 2 (some .int)])
def wsX1_turn : List Cond := .code yX1_turn cX1_turn 6 (some .int) :: ([])
def wsX1_onOneSide : List Cond := .code yX1_onOneSide cX1_onOneSide 2 (some .boolean) :: ([])
def wsX1_isBetween_r1 : List Cond := [Cond.fieldLink RX1 11 "NoiseLamps$Noise" "pieceX" "[I", Cond.fieldLink RX1 15 "NoiseLamps$Noise" "pieceY" "[I", Cond.fieldLink RX1 21 "NoiseLamps$Noise" "houseX" "[I", Cond.fieldLink RX1 24 "NoiseLamps$Noise" "houseY" "[I", Cond.fieldLink RX1 30 "NoiseLamps$Noise" "wallX0" "[I", Cond.fieldLink RX1 33 "NoiseLamps$Noise" "wallY0" "[I", Cond.fieldLink RX1 36 "NoiseLamps$Noise" "wallX1" "[I", Cond.fieldLink RX1 39 "NoiseLamps$Noise" "wallY1" "[I", Cond.methodLink RX1 118 yX1_spansMeet, Cond.static yX1_spansMeet, Cond.initialized RX1, Cond.code yX1_spansMeet cX1_spansMeet 4 (some .boolean), Cond.methodLink RX1 89 Lib.Math.max.name, Cond.static Lib.Math.max.name, Cond.initialized "java/lang/Math", Cond.code Lib.Math.max.name Lib.Math.max.code 2 (some .int), Cond.methodLink RX1 136 Lib.Math.min.name, Cond.static Lib.Math.min.name, Cond.code Lib.Math.min.name Lib.Math.min.code 2 (some .int), Cond.methodLink RX1 122 yX1_turn, Cond.static yX1_turn, Cond.code yX1_turn cX1_turn 6 (some .int), Cond.methodLink RX1 126 yX1_onOneSide, Cond.static yX1_onOneSide]
def wsX1_isBetween_r2 : List Cond := [Cond.code yX1_onOneSide cX1_onOneSide 2 (some .boolean)]
def wsX1_isBetween : List Cond := .code yX1_isBetween cX1_isBetween 12 (some .boolean) :: ((wsX1_isBetween_r1 ++ wsX1_isBetween_r2) ++ wsX10)
def wsX1_noteIfBetween_r1 : List Cond := [Cond.fieldLink RX1 51 "NoiseLamps$Noise" "wallsBetween" "[I", Cond.methodLink RX1 114 yX1_isBetween, Cond.instanceMethod yX1_isBetween, Cond.selects RX1 yX1_isBetween yX1_isBetween, Cond.initialized RX1, Cond.code yX1_isBetween cX1_isBetween 12 (some .boolean), Cond.fieldLink RX1 11 "NoiseLamps$Noise" "pieceX" "[I", Cond.fieldLink RX1 15 "NoiseLamps$Noise" "pieceY" "[I", Cond.fieldLink RX1 21 "NoiseLamps$Noise" "houseX" "[I", Cond.fieldLink RX1 24 "NoiseLamps$Noise" "houseY" "[I", Cond.fieldLink RX1 30 "NoiseLamps$Noise" "wallX0" "[I", Cond.fieldLink RX1 33 "NoiseLamps$Noise" "wallY0" "[I", Cond.fieldLink RX1 36 "NoiseLamps$Noise" "wallX1" "[I", Cond.fieldLink RX1 39 "NoiseLamps$Noise" "wallY1" "[I", Cond.methodLink RX1 118 yX1_spansMeet, Cond.static yX1_spansMeet, Cond.code yX1_spansMeet cX1_spansMeet 4 (some .boolean), Cond.methodLink RX1 89 Lib.Math.max.name, Cond.static Lib.Math.max.name, Cond.initialized "java/lang/Math", Cond.code Lib.Math.max.name Lib.Math.max.code 2 (some .int), Cond.methodLink RX1 136 Lib.Math.min.name, Cond.static Lib.Math.min.name, Cond.code Lib.Math.min.name Lib.Math.min.code 2 (some .int)]
def wsX1_noteIfBetween_r2 : List Cond := [Cond.methodLink RX1 122 yX1_turn, Cond.static yX1_turn, Cond.code yX1_turn cX1_turn 6 (some .int), Cond.methodLink RX1 126 yX1_onOneSide, Cond.static yX1_onOneSide, Cond.code yX1_onOneSide cX1_onOneSide 2 (some .boolean), Cond.methodLink RX1 82 yX1_pairOf, Cond.static yX1_pairOf, Cond.code yX1_pairOf cX1_pairOf 2 (some .int)]
def wsX1_noteIfBetween : List Cond := .code yX1_noteIfBetween cX1_noteIfBetween 4 none :: ((wsX1_noteIfBetween_r1 ++ wsX1_noteIfBetween_r2) ++ wsX10)
def wsX1_measurePair_r1 : List Cond := [Cond.fieldLink RX1 11 "NoiseLamps$Noise" "pieceX" "[I", Cond.fieldLink RX1 21 "NoiseLamps$Noise" "houseX" "[I", Cond.fieldLink RX1 15 "NoiseLamps$Noise" "pieceY" "[I", Cond.fieldLink RX1 24 "NoiseLamps$Noise" "houseY" "[I", Cond.fieldLink RX1 48 "NoiseLamps$Noise" "doublings" "[I", Cond.fieldLink RX1 67 "NoiseLamps$Noise" "walls" "I", Cond.methodLink RX1 82 yX1_pairOf, Cond.static yX1_pairOf, Cond.initialized RX1, Cond.code yX1_pairOf cX1_pairOf 2 (some .int), Cond.methodLink RX1 111 yX1_doublingsOf, Cond.static yX1_doublingsOf, Cond.code yX1_doublingsOf cX1_doublingsOf 3 (some .int), Cond.methodLink RX1 74 yX1_noteIfBetween, Cond.instanceMethod yX1_noteIfBetween, Cond.selects RX1 yX1_noteIfBetween yX1_noteIfBetween, Cond.code yX1_noteIfBetween cX1_noteIfBetween 4 none, Cond.fieldLink RX1 51 "NoiseLamps$Noise" "wallsBetween" "[I", Cond.methodLink RX1 114 yX1_isBetween, Cond.instanceMethod yX1_isBetween, Cond.selects RX1 yX1_isBetween yX1_isBetween, Cond.code yX1_isBetween cX1_isBetween 12 (some .boolean), Cond.fieldLink RX1 30 "NoiseLamps$Noise" "wallX0" "[I", Cond.fieldLink RX1 33 "NoiseLamps$Noise" "wallY0" "[I"]
def wsX1_measurePair_r2 : List Cond := [Cond.fieldLink RX1 36 "NoiseLamps$Noise" "wallX1" "[I", Cond.fieldLink RX1 39 "NoiseLamps$Noise" "wallY1" "[I", Cond.methodLink RX1 118 yX1_spansMeet, Cond.static yX1_spansMeet, Cond.code yX1_spansMeet cX1_spansMeet 4 (some .boolean), Cond.methodLink RX1 89 Lib.Math.max.name, Cond.static Lib.Math.max.name, Cond.initialized "java/lang/Math", Cond.code Lib.Math.max.name Lib.Math.max.code 2 (some .int), Cond.methodLink RX1 136 Lib.Math.min.name, Cond.static Lib.Math.min.name, Cond.code Lib.Math.min.name Lib.Math.min.code 2 (some .int), Cond.methodLink RX1 122 yX1_turn, Cond.static yX1_turn, Cond.code yX1_turn cX1_turn 6 (some .int), Cond.methodLink RX1 126 yX1_onOneSide, Cond.static yX1_onOneSide, Cond.code yX1_onOneSide cX1_onOneSide 2 (some .boolean)]
def wsX1_measurePair : List Cond := .code yX1_measurePair cX1_measurePair 6 none :: ((wsX1_measurePair_r1 ++ wsX1_measurePair_r2) ++ wsX10)
def wsX1_addPiece_r1 : List Cond := [Cond.fieldLink RX1 61 "NoiseLamps$Noise" "pieces" "I", Cond.fieldLink RX1 11 "NoiseLamps$Noise" "pieceX" "[I", Cond.fieldLink RX1 15 "NoiseLamps$Noise" "pieceY" "[I", Cond.fieldLink RX1 18 "NoiseLamps$Noise" "pieceLevel" "[I", Cond.fieldLink RX1 64 "NoiseLamps$Noise" "houses" "I", Cond.methodLink RX1 70 yX1_measurePair, Cond.instanceMethod yX1_measurePair, Cond.selects RX1 yX1_measurePair yX1_measurePair, Cond.initialized RX1, Cond.code yX1_measurePair cX1_measurePair 6 none, Cond.fieldLink RX1 21 "NoiseLamps$Noise" "houseX" "[I", Cond.fieldLink RX1 24 "NoiseLamps$Noise" "houseY" "[I", Cond.fieldLink RX1 48 "NoiseLamps$Noise" "doublings" "[I", Cond.fieldLink RX1 67 "NoiseLamps$Noise" "walls" "I", Cond.methodLink RX1 82 yX1_pairOf, Cond.static yX1_pairOf, Cond.code yX1_pairOf cX1_pairOf 2 (some .int), Cond.methodLink RX1 111 yX1_doublingsOf, Cond.static yX1_doublingsOf, Cond.code yX1_doublingsOf cX1_doublingsOf 3 (some .int), Cond.methodLink RX1 74 yX1_noteIfBetween, Cond.instanceMethod yX1_noteIfBetween, Cond.selects RX1 yX1_noteIfBetween yX1_noteIfBetween, Cond.code yX1_noteIfBetween cX1_noteIfBetween 4 none]
def wsX1_addPiece_r2 : List Cond := [Cond.fieldLink RX1 51 "NoiseLamps$Noise" "wallsBetween" "[I", Cond.methodLink RX1 114 yX1_isBetween, Cond.instanceMethod yX1_isBetween, Cond.selects RX1 yX1_isBetween yX1_isBetween, Cond.code yX1_isBetween cX1_isBetween 12 (some .boolean), Cond.fieldLink RX1 30 "NoiseLamps$Noise" "wallX0" "[I", Cond.fieldLink RX1 33 "NoiseLamps$Noise" "wallY0" "[I", Cond.fieldLink RX1 36 "NoiseLamps$Noise" "wallX1" "[I", Cond.fieldLink RX1 39 "NoiseLamps$Noise" "wallY1" "[I", Cond.methodLink RX1 118 yX1_spansMeet, Cond.static yX1_spansMeet, Cond.code yX1_spansMeet cX1_spansMeet 4 (some .boolean), Cond.methodLink RX1 89 Lib.Math.max.name, Cond.static Lib.Math.max.name, Cond.initialized "java/lang/Math", Cond.code Lib.Math.max.name Lib.Math.max.code 2 (some .int), Cond.methodLink RX1 136 Lib.Math.min.name, Cond.static Lib.Math.min.name, Cond.code Lib.Math.min.name Lib.Math.min.code 2 (some .int), Cond.methodLink RX1 122 yX1_turn, Cond.static yX1_turn, Cond.code yX1_turn cX1_turn 6 (some .int), Cond.methodLink RX1 126 yX1_onOneSide, Cond.static yX1_onOneSide]
def wsX1_addPiece_r3 : List Cond := [Cond.code yX1_onOneSide cX1_onOneSide 2 (some .boolean)]
def wsX1_addPiece : List Cond := .code yX1_addPiece cX1_addPiece 8 (some .int) :: ((wsX1_addPiece_r1 ++ (wsX1_addPiece_r2 ++ wsX1_addPiece_r3)) ++ wsX10)
def wsX1_addHouse_r1 : List Cond := [Cond.fieldLink RX1 64 "NoiseLamps$Noise" "houses" "I", Cond.fieldLink RX1 21 "NoiseLamps$Noise" "houseX" "[I", Cond.fieldLink RX1 24 "NoiseLamps$Noise" "houseY" "[I", Cond.fieldLink RX1 27 "NoiseLamps$Noise" "housePeople" "[I", Cond.fieldLink RX1 61 "NoiseLamps$Noise" "pieces" "I", Cond.methodLink RX1 70 yX1_measurePair, Cond.instanceMethod yX1_measurePair, Cond.selects RX1 yX1_measurePair yX1_measurePair, Cond.initialized RX1, Cond.code yX1_measurePair cX1_measurePair 6 none, Cond.fieldLink RX1 11 "NoiseLamps$Noise" "pieceX" "[I", Cond.fieldLink RX1 15 "NoiseLamps$Noise" "pieceY" "[I", Cond.fieldLink RX1 48 "NoiseLamps$Noise" "doublings" "[I", Cond.fieldLink RX1 67 "NoiseLamps$Noise" "walls" "I", Cond.methodLink RX1 82 yX1_pairOf, Cond.static yX1_pairOf, Cond.code yX1_pairOf cX1_pairOf 2 (some .int), Cond.methodLink RX1 111 yX1_doublingsOf, Cond.static yX1_doublingsOf, Cond.code yX1_doublingsOf cX1_doublingsOf 3 (some .int), Cond.methodLink RX1 74 yX1_noteIfBetween, Cond.instanceMethod yX1_noteIfBetween, Cond.selects RX1 yX1_noteIfBetween yX1_noteIfBetween, Cond.code yX1_noteIfBetween cX1_noteIfBetween 4 none]
def wsX1_addHouse_r2 : List Cond := [Cond.fieldLink RX1 51 "NoiseLamps$Noise" "wallsBetween" "[I", Cond.methodLink RX1 114 yX1_isBetween, Cond.instanceMethod yX1_isBetween, Cond.selects RX1 yX1_isBetween yX1_isBetween, Cond.code yX1_isBetween cX1_isBetween 12 (some .boolean), Cond.fieldLink RX1 30 "NoiseLamps$Noise" "wallX0" "[I", Cond.fieldLink RX1 33 "NoiseLamps$Noise" "wallY0" "[I", Cond.fieldLink RX1 36 "NoiseLamps$Noise" "wallX1" "[I", Cond.fieldLink RX1 39 "NoiseLamps$Noise" "wallY1" "[I", Cond.methodLink RX1 118 yX1_spansMeet, Cond.static yX1_spansMeet, Cond.code yX1_spansMeet cX1_spansMeet 4 (some .boolean), Cond.methodLink RX1 89 Lib.Math.max.name, Cond.static Lib.Math.max.name, Cond.initialized "java/lang/Math", Cond.code Lib.Math.max.name Lib.Math.max.code 2 (some .int), Cond.methodLink RX1 136 Lib.Math.min.name, Cond.static Lib.Math.min.name, Cond.code Lib.Math.min.name Lib.Math.min.code 2 (some .int), Cond.methodLink RX1 122 yX1_turn, Cond.static yX1_turn, Cond.code yX1_turn cX1_turn 6 (some .int), Cond.methodLink RX1 126 yX1_onOneSide, Cond.static yX1_onOneSide]
def wsX1_addHouse_r3 : List Cond := [Cond.code yX1_onOneSide cX1_onOneSide 2 (some .boolean)]
def wsX1_addHouse : List Cond := .code yX1_addHouse cX1_addHouse 6 (some .int) :: ((wsX1_addHouse_r1 ++ (wsX1_addHouse_r2 ++ wsX1_addHouse_r3)) ++ wsX10)
def wsX1_addWall_r1 : List Cond := [Cond.fieldLink RX1 67 "NoiseLamps$Noise" "walls" "I", Cond.fieldLink RX1 30 "NoiseLamps$Noise" "wallX0" "[I", Cond.fieldLink RX1 33 "NoiseLamps$Noise" "wallY0" "[I", Cond.fieldLink RX1 36 "NoiseLamps$Noise" "wallX1" "[I", Cond.fieldLink RX1 39 "NoiseLamps$Noise" "wallY1" "[I", Cond.fieldLink RX1 42 "NoiseLamps$Noise" "wallCut" "[I", Cond.fieldLink RX1 61 "NoiseLamps$Noise" "pieces" "I", Cond.fieldLink RX1 64 "NoiseLamps$Noise" "houses" "I", Cond.methodLink RX1 74 yX1_noteIfBetween, Cond.instanceMethod yX1_noteIfBetween, Cond.selects RX1 yX1_noteIfBetween yX1_noteIfBetween, Cond.initialized RX1, Cond.code yX1_noteIfBetween cX1_noteIfBetween 4 none, Cond.fieldLink RX1 51 "NoiseLamps$Noise" "wallsBetween" "[I", Cond.methodLink RX1 114 yX1_isBetween, Cond.instanceMethod yX1_isBetween, Cond.selects RX1 yX1_isBetween yX1_isBetween, Cond.code yX1_isBetween cX1_isBetween 12 (some .boolean), Cond.fieldLink RX1 11 "NoiseLamps$Noise" "pieceX" "[I", Cond.fieldLink RX1 15 "NoiseLamps$Noise" "pieceY" "[I", Cond.fieldLink RX1 21 "NoiseLamps$Noise" "houseX" "[I", Cond.fieldLink RX1 24 "NoiseLamps$Noise" "houseY" "[I", Cond.methodLink RX1 118 yX1_spansMeet, Cond.static yX1_spansMeet]
def wsX1_addWall_r2 : List Cond := [Cond.code yX1_spansMeet cX1_spansMeet 4 (some .boolean), Cond.methodLink RX1 89 Lib.Math.max.name, Cond.static Lib.Math.max.name, Cond.initialized "java/lang/Math", Cond.code Lib.Math.max.name Lib.Math.max.code 2 (some .int), Cond.methodLink RX1 136 Lib.Math.min.name, Cond.static Lib.Math.min.name, Cond.code Lib.Math.min.name Lib.Math.min.code 2 (some .int), Cond.methodLink RX1 122 yX1_turn, Cond.static yX1_turn, Cond.code yX1_turn cX1_turn 6 (some .int), Cond.methodLink RX1 126 yX1_onOneSide, Cond.static yX1_onOneSide, Cond.code yX1_onOneSide cX1_onOneSide 2 (some .boolean), Cond.methodLink RX1 82 yX1_pairOf, Cond.static yX1_pairOf, Cond.code yX1_pairOf cX1_pairOf 2 (some .int)]
def wsX1_addWall : List Cond := .code yX1_addWall cX1_addWall 9 (some .int) :: ((wsX1_addWall_r1 ++ wsX1_addWall_r2) ++ wsX10)
def wsX1_changeFall : List Cond := .code yX1_changeFall cX1_changeFall 3 (some .int) :: ([.fieldLink RX1 57 "NoiseLamps$Noise" "fall" "I"] ++ wsX10)
def wsX1_changeMalus : List Cond := .code yX1_changeMalus cX1_changeMalus 4 (some .int) :: ([.fieldLink RX1 45 "NoiseLamps$Noise" "malus" "[I"] ++ wsX10)
def wsX1_changeCut : List Cond := .code yX1_changeCut cX1_changeCut 4 (some .int) :: ([.fieldLink RX1 42 "NoiseLamps$Noise" "wallCut" "[I"] ++ wsX10)
def wsX1_allPeople : List Cond := .code yX1_allPeople cX1_allPeople 3 (some .int) :: ([.fieldLink RX1 64 "NoiseLamps$Noise" "houses" "I", .fieldLink RX1 27 "NoiseLamps$Noise" "housePeople" "[I"] ++ wsX10)
def wsX1_greatestCut : List Cond := .code yX1_greatestCut cX1_greatestCut 5 (some .int) :: ([.fieldLink RX1 67 "NoiseLamps$Noise" "walls" "I", .fieldLink RX1 51 "NoiseLamps$Noise" "wallsBetween" "[I", .fieldLink RX1 42 "NoiseLamps$Noise" "wallCut" "[I"] ++ wsX10)
def wsX1_given : List Cond := .code yX1_given cX1_given 6 (some .int) :: ([.fieldLink RX1 18 "NoiseLamps$Noise" "pieceLevel" "[I", .fieldLink RX1 57 "NoiseLamps$Noise" "fall" "I", .fieldLink RX1 48 "NoiseLamps$Noise" "doublings" "[I", .methodLink RX1 89 Lib.Math.max.name, .static Lib.Math.max.name, .initialized "java/lang/Math", .code Lib.Math.max.name Lib.Math.max.code 2 (some .int), .methodLink RX1 82 yX1_pairOf, .static yX1_pairOf, .initialized RX1, .code yX1_pairOf cX1_pairOf 2 (some .int), .methodLink RX1 86 yX1_greatestCut, .instanceMethod yX1_greatestCut, .selects RX1 yX1_greatestCut yX1_greatestCut, .code yX1_greatestCut cX1_greatestCut 5 (some .int), .fieldLink RX1 67 "NoiseLamps$Noise" "walls" "I", .fieldLink RX1 51 "NoiseLamps$Noise" "wallsBetween" "[I", .fieldLink RX1 42 "NoiseLamps$Noise" "wallCut" "[I"] ++ wsX10)
def wsX1_moreByJoining : List Cond := .code yX1_moreByJoining cX1_moreByJoining 1 (some .int) :: ([])
def wsX1_join : List Cond := .code yX1_join cX1_join 2 (some .int) :: ([.methodLink RX1 89 Lib.Math.max.name, .static Lib.Math.max.name, .initialized "java/lang/Math", .code Lib.Math.max.name Lib.Math.max.code 2 (some .int), .methodLink RX1 130 Lib.Math.abs.name, .static Lib.Math.abs.name, .code Lib.Math.abs.name Lib.Math.abs.code 1 (some .int), .methodLink RX1 133 yX1_moreByJoining, .static yX1_moreByJoining, .initialized RX1, .code yX1_moreByJoining cX1_moreByJoining 1 (some .int)])
def wsX1_partLevel_r1 : List Cond := [Cond.fieldLink RX1 61 "NoiseLamps$Noise" "pieces" "I", Cond.methodLink RX1 94 yX1_given, Cond.instanceMethod yX1_given, Cond.selects RX1 yX1_given yX1_given, Cond.initialized RX1, Cond.code yX1_given cX1_given 6 (some .int), Cond.fieldLink RX1 18 "NoiseLamps$Noise" "pieceLevel" "[I", Cond.fieldLink RX1 57 "NoiseLamps$Noise" "fall" "I", Cond.fieldLink RX1 48 "NoiseLamps$Noise" "doublings" "[I", Cond.methodLink RX1 89 Lib.Math.max.name, Cond.static Lib.Math.max.name, Cond.initialized "java/lang/Math", Cond.code Lib.Math.max.name Lib.Math.max.code 2 (some .int), Cond.methodLink RX1 82 yX1_pairOf, Cond.static yX1_pairOf, Cond.code yX1_pairOf cX1_pairOf 2 (some .int), Cond.methodLink RX1 86 yX1_greatestCut, Cond.instanceMethod yX1_greatestCut, Cond.selects RX1 yX1_greatestCut yX1_greatestCut, Cond.code yX1_greatestCut cX1_greatestCut 5 (some .int), Cond.fieldLink RX1 67 "NoiseLamps$Noise" "walls" "I", Cond.fieldLink RX1 51 "NoiseLamps$Noise" "wallsBetween" "[I", Cond.fieldLink RX1 42 "NoiseLamps$Noise" "wallCut" "[I", Cond.methodLink RX1 98 yX1_join]
def wsX1_partLevel_r2 : List Cond := [Cond.static yX1_join, Cond.code yX1_join cX1_join 2 (some .int), Cond.methodLink RX1 130 Lib.Math.abs.name, Cond.static Lib.Math.abs.name, Cond.code Lib.Math.abs.name Lib.Math.abs.code 1 (some .int), Cond.methodLink RX1 133 yX1_moreByJoining, Cond.static yX1_moreByJoining, Cond.code yX1_moreByJoining cX1_moreByJoining 1 (some .int)]
def wsX1_partLevel : List Cond := .code yX1_partLevel cX1_partLevel 5 (some .int) :: ((wsX1_partLevel_r1 ++ wsX1_partLevel_r2) ++ wsX10)
def wsX1_allDayLevel_r1 : List Cond := [Cond.fieldLink RX1 45 "NoiseLamps$Noise" "malus" "[I", Cond.methodLink RX1 89 Lib.Math.max.name, Cond.static Lib.Math.max.name, Cond.initialized "java/lang/Math", Cond.code Lib.Math.max.name Lib.Math.max.code 2 (some .int), Cond.methodLink RX1 101 yX1_partLevel, Cond.instanceMethod yX1_partLevel, Cond.selects RX1 yX1_partLevel yX1_partLevel, Cond.initialized RX1, Cond.code yX1_partLevel cX1_partLevel 5 (some .int), Cond.fieldLink RX1 61 "NoiseLamps$Noise" "pieces" "I", Cond.methodLink RX1 94 yX1_given, Cond.instanceMethod yX1_given, Cond.selects RX1 yX1_given yX1_given, Cond.code yX1_given cX1_given 6 (some .int), Cond.fieldLink RX1 18 "NoiseLamps$Noise" "pieceLevel" "[I", Cond.fieldLink RX1 57 "NoiseLamps$Noise" "fall" "I", Cond.fieldLink RX1 48 "NoiseLamps$Noise" "doublings" "[I", Cond.methodLink RX1 82 yX1_pairOf, Cond.static yX1_pairOf, Cond.code yX1_pairOf cX1_pairOf 2 (some .int), Cond.methodLink RX1 86 yX1_greatestCut, Cond.instanceMethod yX1_greatestCut, Cond.selects RX1 yX1_greatestCut yX1_greatestCut]
def wsX1_allDayLevel_r2 : List Cond := [Cond.code yX1_greatestCut cX1_greatestCut 5 (some .int), Cond.fieldLink RX1 67 "NoiseLamps$Noise" "walls" "I", Cond.fieldLink RX1 51 "NoiseLamps$Noise" "wallsBetween" "[I", Cond.fieldLink RX1 42 "NoiseLamps$Noise" "wallCut" "[I", Cond.methodLink RX1 98 yX1_join, Cond.static yX1_join, Cond.code yX1_join cX1_join 2 (some .int), Cond.methodLink RX1 130 Lib.Math.abs.name, Cond.static Lib.Math.abs.name, Cond.code Lib.Math.abs.name Lib.Math.abs.code 1 (some .int), Cond.methodLink RX1 133 yX1_moreByJoining, Cond.static yX1_moreByJoining, Cond.code yX1_moreByJoining cX1_moreByJoining 1 (some .int)]
def wsX1_allDayLevel : List Cond := .code yX1_allDayLevel cX1_allDayLevel 5 (some .int) :: ((wsX1_allDayLevel_r1 ++ wsX1_allDayLevel_r2) ++ wsX10)
def wsX1_peopleAbove_r1 : List Cond := [Cond.fieldLink RX1 64 "NoiseLamps$Noise" "houses" "I", Cond.fieldLink RX1 27 "NoiseLamps$Noise" "housePeople" "[I", Cond.methodLink RX1 78 yX1_allDayLevel, Cond.instanceMethod yX1_allDayLevel, Cond.selects RX1 yX1_allDayLevel yX1_allDayLevel, Cond.initialized RX1, Cond.code yX1_allDayLevel cX1_allDayLevel 5 (some .int), Cond.fieldLink RX1 45 "NoiseLamps$Noise" "malus" "[I", Cond.methodLink RX1 89 Lib.Math.max.name, Cond.static Lib.Math.max.name, Cond.initialized "java/lang/Math", Cond.code Lib.Math.max.name Lib.Math.max.code 2 (some .int), Cond.methodLink RX1 101 yX1_partLevel, Cond.instanceMethod yX1_partLevel, Cond.selects RX1 yX1_partLevel yX1_partLevel, Cond.code yX1_partLevel cX1_partLevel 5 (some .int), Cond.fieldLink RX1 61 "NoiseLamps$Noise" "pieces" "I", Cond.methodLink RX1 94 yX1_given, Cond.instanceMethod yX1_given, Cond.selects RX1 yX1_given yX1_given, Cond.code yX1_given cX1_given 6 (some .int), Cond.fieldLink RX1 18 "NoiseLamps$Noise" "pieceLevel" "[I", Cond.fieldLink RX1 57 "NoiseLamps$Noise" "fall" "I", Cond.fieldLink RX1 48 "NoiseLamps$Noise" "doublings" "[I"]
def wsX1_peopleAbove_r2 : List Cond := [Cond.methodLink RX1 82 yX1_pairOf, Cond.static yX1_pairOf, Cond.code yX1_pairOf cX1_pairOf 2 (some .int), Cond.methodLink RX1 86 yX1_greatestCut, Cond.instanceMethod yX1_greatestCut, Cond.selects RX1 yX1_greatestCut yX1_greatestCut, Cond.code yX1_greatestCut cX1_greatestCut 5 (some .int), Cond.fieldLink RX1 67 "NoiseLamps$Noise" "walls" "I", Cond.fieldLink RX1 51 "NoiseLamps$Noise" "wallsBetween" "[I", Cond.fieldLink RX1 42 "NoiseLamps$Noise" "wallCut" "[I", Cond.methodLink RX1 98 yX1_join, Cond.static yX1_join, Cond.code yX1_join cX1_join 2 (some .int), Cond.methodLink RX1 130 Lib.Math.abs.name, Cond.static Lib.Math.abs.name, Cond.code Lib.Math.abs.name Lib.Math.abs.code 1 (some .int), Cond.methodLink RX1 133 yX1_moreByJoining, Cond.static yX1_moreByJoining, Cond.code yX1_moreByJoining cX1_moreByJoining 1 (some .int)]
def wsX1_peopleAbove : List Cond := .code yX1_peopleAbove cX1_peopleAbove 4 (some .int) :: ((wsX1_peopleAbove_r1 ++ wsX1_peopleAbove_r2) ++ wsX10)
def wsX1_loudestPiece : List Cond := .code yX1_loudestPiece cX1_loudestPiece 7 (some .int) :: ([.fieldLink RX1 61 "NoiseLamps$Noise" "pieces" "I", .methodLink RX1 94 yX1_given, .instanceMethod yX1_given, .selects RX1 yX1_given yX1_given, .initialized RX1, .code yX1_given cX1_given 6 (some .int), .fieldLink RX1 18 "NoiseLamps$Noise" "pieceLevel" "[I", .fieldLink RX1 57 "NoiseLamps$Noise" "fall" "I", .fieldLink RX1 48 "NoiseLamps$Noise" "doublings" "[I", .methodLink RX1 89 Lib.Math.max.name, .static Lib.Math.max.name, .initialized "java/lang/Math", .code Lib.Math.max.name Lib.Math.max.code 2 (some .int), .methodLink RX1 82 yX1_pairOf, .static yX1_pairOf, .code yX1_pairOf cX1_pairOf 2 (some .int), .methodLink RX1 86 yX1_greatestCut, .instanceMethod yX1_greatestCut, .selects RX1 yX1_greatestCut yX1_greatestCut, .code yX1_greatestCut cX1_greatestCut 5 (some .int), .fieldLink RX1 67 "NoiseLamps$Noise" "walls" "I", .fieldLink RX1 51 "NoiseLamps$Noise" "wallsBetween" "[I", .fieldLink RX1 42 "NoiseLamps$Noise" "wallCut" "[I"] ++ wsX10)
def wsX1_housesAhead : List Cond := .code yX1_housesAhead cX1_housesAhead 5 (some .int) :: ([.fieldLink RX1 64 "NoiseLamps$Noise" "houses" "I", .fieldLink RX1 54 "NoiseLamps$Noise" "allDayLevels" "[I"] ++ wsX10)
def wsX1_houseOfRank_r1 : List Cond := [Cond.fieldLink RX1 64 "NoiseLamps$Noise" "houses" "I", Cond.fieldLink RX1 54 "NoiseLamps$Noise" "allDayLevels" "[I", Cond.methodLink RX1 78 yX1_allDayLevel, Cond.instanceMethod yX1_allDayLevel, Cond.selects RX1 yX1_allDayLevel yX1_allDayLevel, Cond.initialized RX1, Cond.code yX1_allDayLevel cX1_allDayLevel 5 (some .int), Cond.fieldLink RX1 45 "NoiseLamps$Noise" "malus" "[I", Cond.methodLink RX1 89 Lib.Math.max.name, Cond.static Lib.Math.max.name, Cond.initialized "java/lang/Math", Cond.code Lib.Math.max.name Lib.Math.max.code 2 (some .int), Cond.methodLink RX1 101 yX1_partLevel, Cond.instanceMethod yX1_partLevel, Cond.selects RX1 yX1_partLevel yX1_partLevel, Cond.code yX1_partLevel cX1_partLevel 5 (some .int), Cond.fieldLink RX1 61 "NoiseLamps$Noise" "pieces" "I", Cond.methodLink RX1 94 yX1_given, Cond.instanceMethod yX1_given, Cond.selects RX1 yX1_given yX1_given, Cond.code yX1_given cX1_given 6 (some .int), Cond.fieldLink RX1 18 "NoiseLamps$Noise" "pieceLevel" "[I", Cond.fieldLink RX1 57 "NoiseLamps$Noise" "fall" "I", Cond.fieldLink RX1 48 "NoiseLamps$Noise" "doublings" "[I"]
def wsX1_houseOfRank_r2 : List Cond := [Cond.methodLink RX1 82 yX1_pairOf, Cond.static yX1_pairOf, Cond.code yX1_pairOf cX1_pairOf 2 (some .int), Cond.methodLink RX1 86 yX1_greatestCut, Cond.instanceMethod yX1_greatestCut, Cond.selects RX1 yX1_greatestCut yX1_greatestCut, Cond.code yX1_greatestCut cX1_greatestCut 5 (some .int), Cond.fieldLink RX1 67 "NoiseLamps$Noise" "walls" "I", Cond.fieldLink RX1 51 "NoiseLamps$Noise" "wallsBetween" "[I", Cond.fieldLink RX1 42 "NoiseLamps$Noise" "wallCut" "[I", Cond.methodLink RX1 98 yX1_join, Cond.static yX1_join, Cond.code yX1_join cX1_join 2 (some .int), Cond.methodLink RX1 130 Lib.Math.abs.name, Cond.static Lib.Math.abs.name, Cond.code Lib.Math.abs.name Lib.Math.abs.code 1 (some .int), Cond.methodLink RX1 133 yX1_moreByJoining, Cond.static yX1_moreByJoining, Cond.code yX1_moreByJoining cX1_moreByJoining 1 (some .int), Cond.methodLink RX1 104 yX1_housesAhead, Cond.instanceMethod yX1_housesAhead, Cond.selects RX1 yX1_housesAhead yX1_housesAhead, Cond.code yX1_housesAhead cX1_housesAhead 5 (some .int)]
def wsX1_houseOfRank : List Cond := .code yX1_houseOfRank cX1_houseOfRank 3 (some .int) :: ((wsX1_houseOfRank_r1 ++ wsX1_houseOfRank_r2) ++ wsX10)
def wsX1_noneAbove_r1 : List Cond := [Cond.fieldLink RX1 64 "NoiseLamps$Noise" "houses" "I", Cond.methodLink RX1 78 yX1_allDayLevel, Cond.instanceMethod yX1_allDayLevel, Cond.selects RX1 yX1_allDayLevel yX1_allDayLevel, Cond.initialized RX1, Cond.code yX1_allDayLevel cX1_allDayLevel 5 (some .int), Cond.fieldLink RX1 45 "NoiseLamps$Noise" "malus" "[I", Cond.methodLink RX1 89 Lib.Math.max.name, Cond.static Lib.Math.max.name, Cond.initialized "java/lang/Math", Cond.code Lib.Math.max.name Lib.Math.max.code 2 (some .int), Cond.methodLink RX1 101 yX1_partLevel, Cond.instanceMethod yX1_partLevel, Cond.selects RX1 yX1_partLevel yX1_partLevel, Cond.code yX1_partLevel cX1_partLevel 5 (some .int), Cond.fieldLink RX1 61 "NoiseLamps$Noise" "pieces" "I", Cond.methodLink RX1 94 yX1_given, Cond.instanceMethod yX1_given, Cond.selects RX1 yX1_given yX1_given, Cond.code yX1_given cX1_given 6 (some .int), Cond.fieldLink RX1 18 "NoiseLamps$Noise" "pieceLevel" "[I", Cond.fieldLink RX1 57 "NoiseLamps$Noise" "fall" "I", Cond.fieldLink RX1 48 "NoiseLamps$Noise" "doublings" "[I", Cond.methodLink RX1 82 yX1_pairOf]
def wsX1_noneAbove_r2 : List Cond := [Cond.static yX1_pairOf, Cond.code yX1_pairOf cX1_pairOf 2 (some .int), Cond.methodLink RX1 86 yX1_greatestCut, Cond.instanceMethod yX1_greatestCut, Cond.selects RX1 yX1_greatestCut yX1_greatestCut, Cond.code yX1_greatestCut cX1_greatestCut 5 (some .int), Cond.fieldLink RX1 67 "NoiseLamps$Noise" "walls" "I", Cond.fieldLink RX1 51 "NoiseLamps$Noise" "wallsBetween" "[I", Cond.fieldLink RX1 42 "NoiseLamps$Noise" "wallCut" "[I", Cond.methodLink RX1 98 yX1_join, Cond.static yX1_join, Cond.code yX1_join cX1_join 2 (some .int), Cond.methodLink RX1 130 Lib.Math.abs.name, Cond.static Lib.Math.abs.name, Cond.code Lib.Math.abs.name Lib.Math.abs.code 1 (some .int), Cond.methodLink RX1 133 yX1_moreByJoining, Cond.static yX1_moreByJoining, Cond.code yX1_moreByJoining cX1_moreByJoining 1 (some .int)]
def wsX1_noneAbove : List Cond := .code yX1_noneAbove cX1_noneAbove 3 (some .boolean) :: ((wsX1_noneAbove_r1 ++ wsX1_noneAbove_r2) ++ wsX10)
def wsX1_leastCut_r1 : List Cond := [Cond.fieldLink RX1 42 "NoiseLamps$Noise" "wallCut" "[I", Cond.methodLink RX1 107 yX1_noneAbove, Cond.instanceMethod yX1_noneAbove, Cond.selects RX1 yX1_noneAbove yX1_noneAbove, Cond.initialized RX1, Cond.code yX1_noneAbove cX1_noneAbove 3 (some .boolean), Cond.fieldLink RX1 64 "NoiseLamps$Noise" "houses" "I", Cond.methodLink RX1 78 yX1_allDayLevel, Cond.instanceMethod yX1_allDayLevel, Cond.selects RX1 yX1_allDayLevel yX1_allDayLevel, Cond.code yX1_allDayLevel cX1_allDayLevel 5 (some .int), Cond.fieldLink RX1 45 "NoiseLamps$Noise" "malus" "[I", Cond.methodLink RX1 89 Lib.Math.max.name, Cond.static Lib.Math.max.name, Cond.initialized "java/lang/Math", Cond.code Lib.Math.max.name Lib.Math.max.code 2 (some .int), Cond.methodLink RX1 101 yX1_partLevel, Cond.instanceMethod yX1_partLevel, Cond.selects RX1 yX1_partLevel yX1_partLevel, Cond.code yX1_partLevel cX1_partLevel 5 (some .int), Cond.fieldLink RX1 61 "NoiseLamps$Noise" "pieces" "I", Cond.methodLink RX1 94 yX1_given, Cond.instanceMethod yX1_given, Cond.selects RX1 yX1_given yX1_given]
def wsX1_leastCut_r2 : List Cond := [Cond.code yX1_given cX1_given 6 (some .int), Cond.fieldLink RX1 18 "NoiseLamps$Noise" "pieceLevel" "[I", Cond.fieldLink RX1 57 "NoiseLamps$Noise" "fall" "I", Cond.fieldLink RX1 48 "NoiseLamps$Noise" "doublings" "[I", Cond.methodLink RX1 82 yX1_pairOf, Cond.static yX1_pairOf, Cond.code yX1_pairOf cX1_pairOf 2 (some .int), Cond.methodLink RX1 86 yX1_greatestCut, Cond.instanceMethod yX1_greatestCut, Cond.selects RX1 yX1_greatestCut yX1_greatestCut, Cond.code yX1_greatestCut cX1_greatestCut 5 (some .int), Cond.fieldLink RX1 67 "NoiseLamps$Noise" "walls" "I", Cond.fieldLink RX1 51 "NoiseLamps$Noise" "wallsBetween" "[I", Cond.methodLink RX1 98 yX1_join, Cond.static yX1_join, Cond.code yX1_join cX1_join 2 (some .int), Cond.methodLink RX1 130 Lib.Math.abs.name, Cond.static Lib.Math.abs.name, Cond.code Lib.Math.abs.name Lib.Math.abs.code 1 (some .int), Cond.methodLink RX1 133 yX1_moreByJoining, Cond.static yX1_moreByJoining, Cond.code yX1_moreByJoining cX1_moreByJoining 1 (some .int)]
def wsX1_leastCut : List Cond := .code yX1_leastCut cX1_leastCut 6 (some .int) :: ((wsX1_leastCut_r1 ++ wsX1_leastCut_r2) ++ wsX10)
def wsX2_init_r1 : List Cond := [Cond.methodLink RX2 1 objectInit, Cond.instanceMethod objectInit, Cond.code objectInit ⟨#[0xb1]⟩ 1 none, Cond.classLink RX2 7 RX1, Cond.instantiable RX1 19, Cond.initialized RX1, Cond.fieldLink RX2 10 "NoiseLamps" "noise" "LNoiseLamps$Noise;", Cond.classLink RX2 16 RX0, Cond.instantiable RX0 4, Cond.initialized RX0, Cond.fieldLink RX2 19 "NoiseLamps" "lamps" "LNoiseLamps$Lamps;", Cond.methodLink RX2 9 yX1_init, Cond.instanceMethod yX1_init, Cond.code yX1_init cX1_init 1 none, Cond.methodLink RX1 3 objectInit, Cond.arrayClass .int, Cond.fieldLink RX1 11 "NoiseLamps$Noise" "pieceX" "[I", Cond.fieldLink RX1 15 "NoiseLamps$Noise" "pieceY" "[I", Cond.fieldLink RX1 18 "NoiseLamps$Noise" "pieceLevel" "[I", Cond.fieldLink RX1 21 "NoiseLamps$Noise" "houseX" "[I", Cond.fieldLink RX1 24 "NoiseLamps$Noise" "houseY" "[I", Cond.fieldLink RX1 27 "NoiseLamps$Noise" "housePeople" "[I", Cond.fieldLink RX1 30 "NoiseLamps$Noise" "wallX0" "[I", Cond.fieldLink RX1 33 "NoiseLamps$Noise" "wallY0" "[I"]
def wsX2_init_r2 : List Cond := [Cond.fieldLink RX1 36 "NoiseLamps$Noise" "wallX1" "[I", Cond.fieldLink RX1 39 "NoiseLamps$Noise" "wallY1" "[I", Cond.fieldLink RX1 42 "NoiseLamps$Noise" "wallCut" "[I", Cond.fieldLink RX1 45 "NoiseLamps$Noise" "malus" "[I", Cond.fieldLink RX1 48 "NoiseLamps$Noise" "doublings" "[I", Cond.fieldLink RX1 51 "NoiseLamps$Noise" "wallsBetween" "[I", Cond.fieldLink RX1 54 "NoiseLamps$Noise" "allDayLevels" "[I", Cond.fieldLink RX1 57 "NoiseLamps$Noise" "fall" "I", Cond.methodLink RX2 18 yX0_init, Cond.instanceMethod yX0_init, Cond.code yX0_init cX0_init 2 none, Cond.methodLink RX0 3 objectInit, Cond.fieldLink RX0 9 "NoiseLamps$Lamps" "light" "[I", Cond.fieldLink RX0 15 "NoiseLamps$Lamps" "percents" "[I", Cond.fieldLink RX0 18 "NoiseLamps$Lamps" "placeLight" "[I"]
def wsX2_init : List Cond := .code yX2_init cX2_init 1 none :: ((wsX2_init_r1 ++ wsX2_init_r2) ++ wsX10 ++ wsX20 ++ wsX00)
def wsX2_isWithin : List Cond := .code yX2_isWithin cX2_isWithin 3 (some .boolean) :: ([])
def wsX2_isPoint : List Cond := .code yX2_isPoint cX2_isPoint 2 (some .boolean) :: ([.methodLink RX2 35 yX2_isWithin, .static yX2_isWithin, .initialized RX2, .code yX2_isWithin cX2_isWithin 3 (some .boolean)])
def wsX2_isLevel : List Cond := .code yX2_isLevel cX2_isLevel 1 (some .boolean) :: ([.methodLink RX2 35 yX2_isWithin, .static yX2_isWithin, .initialized RX2, .code yX2_isWithin cX2_isWithin 3 (some .boolean)])
def wsX2_piece_r1 : List Cond := [Cond.fieldLink RX2 10 "NoiseLamps" "noise" "LNoiseLamps$Noise;", Cond.methodLink RX2 23 yX2_isPoint, Cond.static yX2_isPoint, Cond.initialized RX2, Cond.code yX2_isPoint cX2_isPoint 2 (some .boolean), Cond.methodLink RX2 35 yX2_isWithin, Cond.static yX2_isWithin, Cond.code yX2_isWithin cX2_isWithin 3 (some .boolean), Cond.methodLink RX2 27 yX2_isLevel, Cond.static yX2_isLevel, Cond.code yX2_isLevel cX2_isLevel 1 (some .boolean), Cond.methodLink RX2 31 yX1_addPiece, Cond.instanceMethod yX1_addPiece, Cond.selects RX1 yX1_addPiece yX1_addPiece, Cond.initialized RX1, Cond.code yX1_addPiece cX1_addPiece 8 (some .int), Cond.fieldLink RX1 61 "NoiseLamps$Noise" "pieces" "I", Cond.fieldLink RX1 11 "NoiseLamps$Noise" "pieceX" "[I", Cond.fieldLink RX1 15 "NoiseLamps$Noise" "pieceY" "[I", Cond.fieldLink RX1 18 "NoiseLamps$Noise" "pieceLevel" "[I", Cond.fieldLink RX1 64 "NoiseLamps$Noise" "houses" "I", Cond.methodLink RX1 70 yX1_measurePair, Cond.instanceMethod yX1_measurePair, Cond.selects RX1 yX1_measurePair yX1_measurePair]
def wsX2_piece_r2 : List Cond := [Cond.code yX1_measurePair cX1_measurePair 6 none, Cond.fieldLink RX1 21 "NoiseLamps$Noise" "houseX" "[I", Cond.fieldLink RX1 24 "NoiseLamps$Noise" "houseY" "[I", Cond.fieldLink RX1 48 "NoiseLamps$Noise" "doublings" "[I", Cond.fieldLink RX1 67 "NoiseLamps$Noise" "walls" "I", Cond.methodLink RX1 82 yX1_pairOf, Cond.static yX1_pairOf, Cond.code yX1_pairOf cX1_pairOf 2 (some .int), Cond.methodLink RX1 111 yX1_doublingsOf, Cond.static yX1_doublingsOf, Cond.code yX1_doublingsOf cX1_doublingsOf 3 (some .int), Cond.methodLink RX1 74 yX1_noteIfBetween, Cond.instanceMethod yX1_noteIfBetween, Cond.selects RX1 yX1_noteIfBetween yX1_noteIfBetween, Cond.code yX1_noteIfBetween cX1_noteIfBetween 4 none, Cond.fieldLink RX1 51 "NoiseLamps$Noise" "wallsBetween" "[I", Cond.methodLink RX1 114 yX1_isBetween, Cond.instanceMethod yX1_isBetween, Cond.selects RX1 yX1_isBetween yX1_isBetween, Cond.code yX1_isBetween cX1_isBetween 12 (some .boolean), Cond.fieldLink RX1 30 "NoiseLamps$Noise" "wallX0" "[I", Cond.fieldLink RX1 33 "NoiseLamps$Noise" "wallY0" "[I", Cond.fieldLink RX1 36 "NoiseLamps$Noise" "wallX1" "[I", Cond.fieldLink RX1 39 "NoiseLamps$Noise" "wallY1" "[I"]
def wsX2_piece_r3 : List Cond := [Cond.methodLink RX1 118 yX1_spansMeet, Cond.static yX1_spansMeet, Cond.code yX1_spansMeet cX1_spansMeet 4 (some .boolean), Cond.methodLink RX1 89 Lib.Math.max.name, Cond.static Lib.Math.max.name, Cond.initialized "java/lang/Math", Cond.code Lib.Math.max.name Lib.Math.max.code 2 (some .int), Cond.methodLink RX1 136 Lib.Math.min.name, Cond.static Lib.Math.min.name, Cond.code Lib.Math.min.name Lib.Math.min.code 2 (some .int), Cond.methodLink RX1 122 yX1_turn, Cond.static yX1_turn, Cond.code yX1_turn cX1_turn 6 (some .int), Cond.methodLink RX1 126 yX1_onOneSide, Cond.static yX1_onOneSide, Cond.code yX1_onOneSide cX1_onOneSide 2 (some .boolean)]
def wsX2_piece : List Cond := .code yX2_piece cX2_piece 6 (some .int) :: ((wsX2_piece_r1 ++ (wsX2_piece_r2 ++ wsX2_piece_r3)) ++ wsX20 ++ wsX10)
def wsX2_house_r1 : List Cond := [Cond.fieldLink RX2 10 "NoiseLamps" "noise" "LNoiseLamps$Noise;", Cond.methodLink RX2 23 yX2_isPoint, Cond.static yX2_isPoint, Cond.initialized RX2, Cond.code yX2_isPoint cX2_isPoint 2 (some .boolean), Cond.methodLink RX2 35 yX2_isWithin, Cond.static yX2_isWithin, Cond.code yX2_isWithin cX2_isWithin 3 (some .boolean), Cond.methodLink RX2 39 yX1_addHouse, Cond.instanceMethod yX1_addHouse, Cond.selects RX1 yX1_addHouse yX1_addHouse, Cond.initialized RX1, Cond.code yX1_addHouse cX1_addHouse 6 (some .int), Cond.fieldLink RX1 64 "NoiseLamps$Noise" "houses" "I", Cond.fieldLink RX1 21 "NoiseLamps$Noise" "houseX" "[I", Cond.fieldLink RX1 24 "NoiseLamps$Noise" "houseY" "[I", Cond.fieldLink RX1 27 "NoiseLamps$Noise" "housePeople" "[I", Cond.fieldLink RX1 61 "NoiseLamps$Noise" "pieces" "I", Cond.methodLink RX1 70 yX1_measurePair, Cond.instanceMethod yX1_measurePair, Cond.selects RX1 yX1_measurePair yX1_measurePair, Cond.code yX1_measurePair cX1_measurePair 6 none, Cond.fieldLink RX1 11 "NoiseLamps$Noise" "pieceX" "[I", Cond.fieldLink RX1 15 "NoiseLamps$Noise" "pieceY" "[I"]
def wsX2_house_r2 : List Cond := [Cond.fieldLink RX1 48 "NoiseLamps$Noise" "doublings" "[I", Cond.fieldLink RX1 67 "NoiseLamps$Noise" "walls" "I", Cond.methodLink RX1 82 yX1_pairOf, Cond.static yX1_pairOf, Cond.code yX1_pairOf cX1_pairOf 2 (some .int), Cond.methodLink RX1 111 yX1_doublingsOf, Cond.static yX1_doublingsOf, Cond.code yX1_doublingsOf cX1_doublingsOf 3 (some .int), Cond.methodLink RX1 74 yX1_noteIfBetween, Cond.instanceMethod yX1_noteIfBetween, Cond.selects RX1 yX1_noteIfBetween yX1_noteIfBetween, Cond.code yX1_noteIfBetween cX1_noteIfBetween 4 none, Cond.fieldLink RX1 51 "NoiseLamps$Noise" "wallsBetween" "[I", Cond.methodLink RX1 114 yX1_isBetween, Cond.instanceMethod yX1_isBetween, Cond.selects RX1 yX1_isBetween yX1_isBetween, Cond.code yX1_isBetween cX1_isBetween 12 (some .boolean), Cond.fieldLink RX1 30 "NoiseLamps$Noise" "wallX0" "[I", Cond.fieldLink RX1 33 "NoiseLamps$Noise" "wallY0" "[I", Cond.fieldLink RX1 36 "NoiseLamps$Noise" "wallX1" "[I", Cond.fieldLink RX1 39 "NoiseLamps$Noise" "wallY1" "[I", Cond.methodLink RX1 118 yX1_spansMeet, Cond.static yX1_spansMeet, Cond.code yX1_spansMeet cX1_spansMeet 4 (some .boolean)]
def wsX2_house_r3 : List Cond := [Cond.methodLink RX1 89 Lib.Math.max.name, Cond.static Lib.Math.max.name, Cond.initialized "java/lang/Math", Cond.code Lib.Math.max.name Lib.Math.max.code 2 (some .int), Cond.methodLink RX1 136 Lib.Math.min.name, Cond.static Lib.Math.min.name, Cond.code Lib.Math.min.name Lib.Math.min.code 2 (some .int), Cond.methodLink RX1 122 yX1_turn, Cond.static yX1_turn, Cond.code yX1_turn cX1_turn 6 (some .int), Cond.methodLink RX1 126 yX1_onOneSide, Cond.static yX1_onOneSide, Cond.code yX1_onOneSide cX1_onOneSide 2 (some .boolean)]
def wsX2_house : List Cond := .code yX2_house cX2_house 4 (some .int) :: ((wsX2_house_r1 ++ (wsX2_house_r2 ++ wsX2_house_r3)) ++ wsX20 ++ wsX10)
def wsX2_isCut : List Cond := .code yX2_isCut cX2_isCut 1 (some .boolean) :: ([.methodLink RX2 35 yX2_isWithin, .static yX2_isWithin, .initialized RX2, .code yX2_isWithin cX2_isWithin 3 (some .boolean)])
def wsX2_wall_r1 : List Cond := [Cond.fieldLink RX2 10 "NoiseLamps" "noise" "LNoiseLamps$Noise;", Cond.methodLink RX2 23 yX2_isPoint, Cond.static yX2_isPoint, Cond.initialized RX2, Cond.code yX2_isPoint cX2_isPoint 2 (some .boolean), Cond.methodLink RX2 35 yX2_isWithin, Cond.static yX2_isWithin, Cond.code yX2_isWithin cX2_isWithin 3 (some .boolean), Cond.methodLink RX2 43 yX2_isCut, Cond.static yX2_isCut, Cond.code yX2_isCut cX2_isCut 1 (some .boolean), Cond.methodLink RX2 46 yX1_addWall, Cond.instanceMethod yX1_addWall, Cond.selects RX1 yX1_addWall yX1_addWall, Cond.initialized RX1, Cond.code yX1_addWall cX1_addWall 9 (some .int), Cond.fieldLink RX1 67 "NoiseLamps$Noise" "walls" "I", Cond.fieldLink RX1 30 "NoiseLamps$Noise" "wallX0" "[I", Cond.fieldLink RX1 33 "NoiseLamps$Noise" "wallY0" "[I", Cond.fieldLink RX1 36 "NoiseLamps$Noise" "wallX1" "[I", Cond.fieldLink RX1 39 "NoiseLamps$Noise" "wallY1" "[I", Cond.fieldLink RX1 42 "NoiseLamps$Noise" "wallCut" "[I", Cond.fieldLink RX1 61 "NoiseLamps$Noise" "pieces" "I", Cond.fieldLink RX1 64 "NoiseLamps$Noise" "houses" "I"]
def wsX2_wall_r2 : List Cond := [Cond.methodLink RX1 74 yX1_noteIfBetween, Cond.instanceMethod yX1_noteIfBetween, Cond.selects RX1 yX1_noteIfBetween yX1_noteIfBetween, Cond.code yX1_noteIfBetween cX1_noteIfBetween 4 none, Cond.fieldLink RX1 51 "NoiseLamps$Noise" "wallsBetween" "[I", Cond.methodLink RX1 114 yX1_isBetween, Cond.instanceMethod yX1_isBetween, Cond.selects RX1 yX1_isBetween yX1_isBetween, Cond.code yX1_isBetween cX1_isBetween 12 (some .boolean), Cond.fieldLink RX1 11 "NoiseLamps$Noise" "pieceX" "[I", Cond.fieldLink RX1 15 "NoiseLamps$Noise" "pieceY" "[I", Cond.fieldLink RX1 21 "NoiseLamps$Noise" "houseX" "[I", Cond.fieldLink RX1 24 "NoiseLamps$Noise" "houseY" "[I", Cond.methodLink RX1 118 yX1_spansMeet, Cond.static yX1_spansMeet, Cond.code yX1_spansMeet cX1_spansMeet 4 (some .boolean), Cond.methodLink RX1 89 Lib.Math.max.name, Cond.static Lib.Math.max.name, Cond.initialized "java/lang/Math", Cond.code Lib.Math.max.name Lib.Math.max.code 2 (some .int), Cond.methodLink RX1 136 Lib.Math.min.name, Cond.static Lib.Math.min.name, Cond.code Lib.Math.min.name Lib.Math.min.code 2 (some .int), Cond.methodLink RX1 122 yX1_turn]
def wsX2_wall_r3 : List Cond := [Cond.static yX1_turn, Cond.code yX1_turn cX1_turn 6 (some .int), Cond.methodLink RX1 126 yX1_onOneSide, Cond.static yX1_onOneSide, Cond.code yX1_onOneSide cX1_onOneSide 2 (some .boolean), Cond.methodLink RX1 82 yX1_pairOf, Cond.static yX1_pairOf, Cond.code yX1_pairOf cX1_pairOf 2 (some .int)]
def wsX2_wall : List Cond := .code yX2_wall cX2_wall 7 (some .int) :: ((wsX2_wall_r1 ++ (wsX2_wall_r2 ++ wsX2_wall_r3)) ++ wsX20 ++ wsX10)
def wsX2_fall : List Cond := .code yX2_fall cX2_fall 2 (some .int) :: ([.fieldLink RX2 10 "NoiseLamps" "noise" "LNoiseLamps$Noise;", .methodLink RX2 35 yX2_isWithin, .static yX2_isWithin, .initialized RX2, .code yX2_isWithin cX2_isWithin 3 (some .boolean), .methodLink RX2 49 yX1_changeFall, .instanceMethod yX1_changeFall, .selects RX1 yX1_changeFall yX1_changeFall, .initialized RX1, .code yX1_changeFall cX1_changeFall 3 (some .int), .fieldLink RX1 57 "NoiseLamps$Noise" "fall" "I"] ++ wsX20 ++ wsX10)
def wsX2_isPart : List Cond := .code yX2_isPart cX2_isPart 1 (some .boolean) :: ([.methodLink RX2 35 yX2_isWithin, .static yX2_isWithin, .initialized RX2, .code yX2_isWithin cX2_isWithin 3 (some .boolean)])
def wsX2_malus : List Cond := .code yX2_malus cX2_malus 3 (some .int) :: ([.fieldLink RX2 10 "NoiseLamps" "noise" "LNoiseLamps$Noise;", .methodLink RX2 53 yX2_isPart, .static yX2_isPart, .initialized RX2, .code yX2_isPart cX2_isPart 1 (some .boolean), .methodLink RX2 35 yX2_isWithin, .static yX2_isWithin, .code yX2_isWithin cX2_isWithin 3 (some .boolean), .methodLink RX2 56 yX1_changeMalus, .instanceMethod yX1_changeMalus, .selects RX1 yX1_changeMalus yX1_changeMalus, .initialized RX1, .code yX1_changeMalus cX1_changeMalus 4 (some .int), .fieldLink RX1 45 "NoiseLamps$Noise" "malus" "[I"] ++ wsX20 ++ wsX10)
def wsX2_gives_r1 : List Cond := [Cond.fieldLink RX2 10 "NoiseLamps" "noise" "LNoiseLamps$Noise;", Cond.methodLink RX2 60 yX1_hasPiece, Cond.instanceMethod yX1_hasPiece, Cond.selects RX1 yX1_hasPiece yX1_hasPiece, Cond.initialized RX1, Cond.code yX1_hasPiece cX1_hasPiece 2 (some .boolean), Cond.fieldLink RX1 61 "NoiseLamps$Noise" "pieces" "I", Cond.methodLink RX2 63 yX1_hasHouse, Cond.instanceMethod yX1_hasHouse, Cond.selects RX1 yX1_hasHouse yX1_hasHouse, Cond.code yX1_hasHouse cX1_hasHouse 2 (some .boolean), Cond.fieldLink RX1 64 "NoiseLamps$Noise" "houses" "I", Cond.methodLink RX2 53 yX2_isPart, Cond.static yX2_isPart, Cond.initialized RX2, Cond.code yX2_isPart cX2_isPart 1 (some .boolean), Cond.methodLink RX2 35 yX2_isWithin, Cond.static yX2_isWithin, Cond.code yX2_isWithin cX2_isWithin 3 (some .boolean), Cond.methodLink RX2 66 yX1_given, Cond.instanceMethod yX1_given, Cond.selects RX1 yX1_given yX1_given, Cond.code yX1_given cX1_given 6 (some .int), Cond.fieldLink RX1 18 "NoiseLamps$Noise" "pieceLevel" "[I"]
def wsX2_gives_r2 : List Cond := [Cond.fieldLink RX1 57 "NoiseLamps$Noise" "fall" "I", Cond.fieldLink RX1 48 "NoiseLamps$Noise" "doublings" "[I", Cond.methodLink RX1 89 Lib.Math.max.name, Cond.static Lib.Math.max.name, Cond.initialized "java/lang/Math", Cond.code Lib.Math.max.name Lib.Math.max.code 2 (some .int), Cond.methodLink RX1 82 yX1_pairOf, Cond.static yX1_pairOf, Cond.code yX1_pairOf cX1_pairOf 2 (some .int), Cond.methodLink RX1 86 yX1_greatestCut, Cond.instanceMethod yX1_greatestCut, Cond.selects RX1 yX1_greatestCut yX1_greatestCut, Cond.code yX1_greatestCut cX1_greatestCut 5 (some .int), Cond.fieldLink RX1 67 "NoiseLamps$Noise" "walls" "I", Cond.fieldLink RX1 51 "NoiseLamps$Noise" "wallsBetween" "[I", Cond.fieldLink RX1 42 "NoiseLamps$Noise" "wallCut" "[I"]
def wsX2_gives : List Cond := .code yX2_gives cX2_gives 4 (some .int) :: ((wsX2_gives_r1 ++ wsX2_gives_r2) ++ wsX20 ++ wsX10)
def wsX2_level_r1 : List Cond := [Cond.fieldLink RX2 10 "NoiseLamps" "noise" "LNoiseLamps$Noise;", Cond.methodLink RX2 63 yX1_hasHouse, Cond.instanceMethod yX1_hasHouse, Cond.selects RX1 yX1_hasHouse yX1_hasHouse, Cond.initialized RX1, Cond.code yX1_hasHouse cX1_hasHouse 2 (some .boolean), Cond.fieldLink RX1 64 "NoiseLamps$Noise" "houses" "I", Cond.methodLink RX2 69 yX1_allDayLevel, Cond.instanceMethod yX1_allDayLevel, Cond.selects RX1 yX1_allDayLevel yX1_allDayLevel, Cond.code yX1_allDayLevel cX1_allDayLevel 5 (some .int), Cond.fieldLink RX1 45 "NoiseLamps$Noise" "malus" "[I", Cond.methodLink RX1 89 Lib.Math.max.name, Cond.static Lib.Math.max.name, Cond.initialized "java/lang/Math", Cond.code Lib.Math.max.name Lib.Math.max.code 2 (some .int), Cond.methodLink RX1 101 yX1_partLevel, Cond.instanceMethod yX1_partLevel, Cond.selects RX1 yX1_partLevel yX1_partLevel, Cond.code yX1_partLevel cX1_partLevel 5 (some .int), Cond.fieldLink RX1 61 "NoiseLamps$Noise" "pieces" "I", Cond.methodLink RX1 94 yX1_given, Cond.instanceMethod yX1_given, Cond.selects RX1 yX1_given yX1_given]
def wsX2_level_r2 : List Cond := [Cond.code yX1_given cX1_given 6 (some .int), Cond.fieldLink RX1 18 "NoiseLamps$Noise" "pieceLevel" "[I", Cond.fieldLink RX1 57 "NoiseLamps$Noise" "fall" "I", Cond.fieldLink RX1 48 "NoiseLamps$Noise" "doublings" "[I", Cond.methodLink RX1 82 yX1_pairOf, Cond.static yX1_pairOf, Cond.code yX1_pairOf cX1_pairOf 2 (some .int), Cond.methodLink RX1 86 yX1_greatestCut, Cond.instanceMethod yX1_greatestCut, Cond.selects RX1 yX1_greatestCut yX1_greatestCut, Cond.code yX1_greatestCut cX1_greatestCut 5 (some .int), Cond.fieldLink RX1 67 "NoiseLamps$Noise" "walls" "I", Cond.fieldLink RX1 51 "NoiseLamps$Noise" "wallsBetween" "[I", Cond.fieldLink RX1 42 "NoiseLamps$Noise" "wallCut" "[I", Cond.methodLink RX1 98 yX1_join, Cond.static yX1_join, Cond.code yX1_join cX1_join 2 (some .int), Cond.methodLink RX1 130 Lib.Math.abs.name, Cond.static Lib.Math.abs.name, Cond.code Lib.Math.abs.name Lib.Math.abs.code 1 (some .int), Cond.methodLink RX1 133 yX1_moreByJoining, Cond.static yX1_moreByJoining, Cond.code yX1_moreByJoining cX1_moreByJoining 1 (some .int), Cond.methodLink RX2 53 yX2_isPart]
def wsX2_level_r3 : List Cond := [Cond.static yX2_isPart, Cond.initialized RX2, Cond.code yX2_isPart cX2_isPart 1 (some .boolean), Cond.methodLink RX2 35 yX2_isWithin, Cond.static yX2_isWithin, Cond.code yX2_isWithin cX2_isWithin 3 (some .boolean), Cond.methodLink RX2 72 yX1_partLevel]
def wsX2_level : List Cond := .code yX2_level cX2_level 3 (some .int) :: ((wsX2_level_r1 ++ (wsX2_level_r2 ++ wsX2_level_r3)) ++ wsX20 ++ wsX10)
def wsX2_people_r1 : List Cond := [Cond.fieldLink RX2 10 "NoiseLamps" "noise" "LNoiseLamps$Noise;", Cond.methodLink RX2 75 yX1_peopleAbove, Cond.instanceMethod yX1_peopleAbove, Cond.selects RX1 yX1_peopleAbove yX1_peopleAbove, Cond.initialized RX1, Cond.code yX1_peopleAbove cX1_peopleAbove 4 (some .int), Cond.fieldLink RX1 64 "NoiseLamps$Noise" "houses" "I", Cond.fieldLink RX1 27 "NoiseLamps$Noise" "housePeople" "[I", Cond.methodLink RX1 78 yX1_allDayLevel, Cond.instanceMethod yX1_allDayLevel, Cond.selects RX1 yX1_allDayLevel yX1_allDayLevel, Cond.code yX1_allDayLevel cX1_allDayLevel 5 (some .int), Cond.fieldLink RX1 45 "NoiseLamps$Noise" "malus" "[I", Cond.methodLink RX1 89 Lib.Math.max.name, Cond.static Lib.Math.max.name, Cond.initialized "java/lang/Math", Cond.code Lib.Math.max.name Lib.Math.max.code 2 (some .int), Cond.methodLink RX1 101 yX1_partLevel, Cond.instanceMethod yX1_partLevel, Cond.selects RX1 yX1_partLevel yX1_partLevel, Cond.code yX1_partLevel cX1_partLevel 5 (some .int), Cond.fieldLink RX1 61 "NoiseLamps$Noise" "pieces" "I", Cond.methodLink RX1 94 yX1_given, Cond.instanceMethod yX1_given]
def wsX2_people_r2 : List Cond := [Cond.selects RX1 yX1_given yX1_given, Cond.code yX1_given cX1_given 6 (some .int), Cond.fieldLink RX1 18 "NoiseLamps$Noise" "pieceLevel" "[I", Cond.fieldLink RX1 57 "NoiseLamps$Noise" "fall" "I", Cond.fieldLink RX1 48 "NoiseLamps$Noise" "doublings" "[I", Cond.methodLink RX1 82 yX1_pairOf, Cond.static yX1_pairOf, Cond.code yX1_pairOf cX1_pairOf 2 (some .int), Cond.methodLink RX1 86 yX1_greatestCut, Cond.instanceMethod yX1_greatestCut, Cond.selects RX1 yX1_greatestCut yX1_greatestCut, Cond.code yX1_greatestCut cX1_greatestCut 5 (some .int), Cond.fieldLink RX1 67 "NoiseLamps$Noise" "walls" "I", Cond.fieldLink RX1 51 "NoiseLamps$Noise" "wallsBetween" "[I", Cond.fieldLink RX1 42 "NoiseLamps$Noise" "wallCut" "[I", Cond.methodLink RX1 98 yX1_join, Cond.static yX1_join, Cond.code yX1_join cX1_join 2 (some .int), Cond.methodLink RX1 130 Lib.Math.abs.name, Cond.static Lib.Math.abs.name, Cond.code Lib.Math.abs.name Lib.Math.abs.code 1 (some .int), Cond.methodLink RX1 133 yX1_moreByJoining, Cond.static yX1_moreByJoining, Cond.code yX1_moreByJoining cX1_moreByJoining 1 (some .int)]
def wsX2_people : List Cond := .code yX2_people cX2_people 2 (some .int) :: ((wsX2_people_r1 ++ wsX2_people_r2) ++ wsX20 ++ wsX10)
def wsX2_loudest_r1 : List Cond := [Cond.fieldLink RX2 10 "NoiseLamps" "noise" "LNoiseLamps$Noise;", Cond.methodLink RX2 63 yX1_hasHouse, Cond.instanceMethod yX1_hasHouse, Cond.selects RX1 yX1_hasHouse yX1_hasHouse, Cond.initialized RX1, Cond.code yX1_hasHouse cX1_hasHouse 2 (some .boolean), Cond.fieldLink RX1 64 "NoiseLamps$Noise" "houses" "I", Cond.methodLink RX2 53 yX2_isPart, Cond.static yX2_isPart, Cond.initialized RX2, Cond.code yX2_isPart cX2_isPart 1 (some .boolean), Cond.methodLink RX2 35 yX2_isWithin, Cond.static yX2_isWithin, Cond.code yX2_isWithin cX2_isWithin 3 (some .boolean), Cond.methodLink RX2 78 yX1_loudestPiece, Cond.instanceMethod yX1_loudestPiece, Cond.selects RX1 yX1_loudestPiece yX1_loudestPiece, Cond.code yX1_loudestPiece cX1_loudestPiece 7 (some .int), Cond.fieldLink RX1 61 "NoiseLamps$Noise" "pieces" "I", Cond.methodLink RX1 94 yX1_given, Cond.instanceMethod yX1_given, Cond.selects RX1 yX1_given yX1_given, Cond.code yX1_given cX1_given 6 (some .int), Cond.fieldLink RX1 18 "NoiseLamps$Noise" "pieceLevel" "[I"]
def wsX2_loudest_r2 : List Cond := [Cond.fieldLink RX1 57 "NoiseLamps$Noise" "fall" "I", Cond.fieldLink RX1 48 "NoiseLamps$Noise" "doublings" "[I", Cond.methodLink RX1 89 Lib.Math.max.name, Cond.static Lib.Math.max.name, Cond.initialized "java/lang/Math", Cond.code Lib.Math.max.name Lib.Math.max.code 2 (some .int), Cond.methodLink RX1 82 yX1_pairOf, Cond.static yX1_pairOf, Cond.code yX1_pairOf cX1_pairOf 2 (some .int), Cond.methodLink RX1 86 yX1_greatestCut, Cond.instanceMethod yX1_greatestCut, Cond.selects RX1 yX1_greatestCut yX1_greatestCut, Cond.code yX1_greatestCut cX1_greatestCut 5 (some .int), Cond.fieldLink RX1 67 "NoiseLamps$Noise" "walls" "I", Cond.fieldLink RX1 51 "NoiseLamps$Noise" "wallsBetween" "[I", Cond.fieldLink RX1 42 "NoiseLamps$Noise" "wallCut" "[I"]
def wsX2_loudest : List Cond := .code yX2_loudest cX2_loudest 3 (some .int) :: ((wsX2_loudest_r1 ++ wsX2_loudest_r2) ++ wsX20 ++ wsX10)
def wsX2_ranked_r1 : List Cond := [Cond.fieldLink RX2 10 "NoiseLamps" "noise" "LNoiseLamps$Noise;", Cond.methodLink RX2 63 yX1_hasHouse, Cond.instanceMethod yX1_hasHouse, Cond.selects RX1 yX1_hasHouse yX1_hasHouse, Cond.initialized RX1, Cond.code yX1_hasHouse cX1_hasHouse 2 (some .boolean), Cond.fieldLink RX1 64 "NoiseLamps$Noise" "houses" "I", Cond.methodLink RX2 81 yX1_houseOfRank, Cond.instanceMethod yX1_houseOfRank, Cond.selects RX1 yX1_houseOfRank yX1_houseOfRank, Cond.code yX1_houseOfRank cX1_houseOfRank 3 (some .int), Cond.fieldLink RX1 54 "NoiseLamps$Noise" "allDayLevels" "[I", Cond.methodLink RX1 78 yX1_allDayLevel, Cond.instanceMethod yX1_allDayLevel, Cond.selects RX1 yX1_allDayLevel yX1_allDayLevel, Cond.code yX1_allDayLevel cX1_allDayLevel 5 (some .int), Cond.fieldLink RX1 45 "NoiseLamps$Noise" "malus" "[I", Cond.methodLink RX1 89 Lib.Math.max.name, Cond.static Lib.Math.max.name, Cond.initialized "java/lang/Math", Cond.code Lib.Math.max.name Lib.Math.max.code 2 (some .int), Cond.methodLink RX1 101 yX1_partLevel, Cond.instanceMethod yX1_partLevel, Cond.selects RX1 yX1_partLevel yX1_partLevel]
def wsX2_ranked_r2 : List Cond := [Cond.code yX1_partLevel cX1_partLevel 5 (some .int), Cond.fieldLink RX1 61 "NoiseLamps$Noise" "pieces" "I", Cond.methodLink RX1 94 yX1_given, Cond.instanceMethod yX1_given, Cond.selects RX1 yX1_given yX1_given, Cond.code yX1_given cX1_given 6 (some .int), Cond.fieldLink RX1 18 "NoiseLamps$Noise" "pieceLevel" "[I", Cond.fieldLink RX1 57 "NoiseLamps$Noise" "fall" "I", Cond.fieldLink RX1 48 "NoiseLamps$Noise" "doublings" "[I", Cond.methodLink RX1 82 yX1_pairOf, Cond.static yX1_pairOf, Cond.code yX1_pairOf cX1_pairOf 2 (some .int), Cond.methodLink RX1 86 yX1_greatestCut, Cond.instanceMethod yX1_greatestCut, Cond.selects RX1 yX1_greatestCut yX1_greatestCut, Cond.code yX1_greatestCut cX1_greatestCut 5 (some .int), Cond.fieldLink RX1 67 "NoiseLamps$Noise" "walls" "I", Cond.fieldLink RX1 51 "NoiseLamps$Noise" "wallsBetween" "[I", Cond.fieldLink RX1 42 "NoiseLamps$Noise" "wallCut" "[I", Cond.methodLink RX1 98 yX1_join, Cond.static yX1_join, Cond.code yX1_join cX1_join 2 (some .int), Cond.methodLink RX1 130 Lib.Math.abs.name, Cond.static Lib.Math.abs.name]
def wsX2_ranked_r3 : List Cond := [Cond.code Lib.Math.abs.name Lib.Math.abs.code 1 (some .int), Cond.methodLink RX1 133 yX1_moreByJoining, Cond.static yX1_moreByJoining, Cond.code yX1_moreByJoining cX1_moreByJoining 1 (some .int), Cond.methodLink RX1 104 yX1_housesAhead, Cond.instanceMethod yX1_housesAhead, Cond.selects RX1 yX1_housesAhead yX1_housesAhead, Cond.code yX1_housesAhead cX1_housesAhead 5 (some .int)]
def wsX2_ranked : List Cond := .code yX2_ranked cX2_ranked 2 (some .int) :: ((wsX2_ranked_r1 ++ (wsX2_ranked_r2 ++ wsX2_ranked_r3)) ++ wsX20 ++ wsX10)
def wsX2_needed_r1 : List Cond := [Cond.fieldLink RX2 10 "NoiseLamps" "noise" "LNoiseLamps$Noise;", Cond.methodLink RX2 84 yX1_hasWall, Cond.instanceMethod yX1_hasWall, Cond.selects RX1 yX1_hasWall yX1_hasWall, Cond.initialized RX1, Cond.code yX1_hasWall cX1_hasWall 2 (some .boolean), Cond.fieldLink RX1 67 "NoiseLamps$Noise" "walls" "I", Cond.methodLink RX2 87 yX1_leastCut, Cond.instanceMethod yX1_leastCut, Cond.selects RX1 yX1_leastCut yX1_leastCut, Cond.code yX1_leastCut cX1_leastCut 6 (some .int), Cond.fieldLink RX1 42 "NoiseLamps$Noise" "wallCut" "[I", Cond.methodLink RX1 107 yX1_noneAbove, Cond.instanceMethod yX1_noneAbove, Cond.selects RX1 yX1_noneAbove yX1_noneAbove, Cond.code yX1_noneAbove cX1_noneAbove 3 (some .boolean), Cond.fieldLink RX1 64 "NoiseLamps$Noise" "houses" "I", Cond.methodLink RX1 78 yX1_allDayLevel, Cond.instanceMethod yX1_allDayLevel, Cond.selects RX1 yX1_allDayLevel yX1_allDayLevel, Cond.code yX1_allDayLevel cX1_allDayLevel 5 (some .int), Cond.fieldLink RX1 45 "NoiseLamps$Noise" "malus" "[I", Cond.methodLink RX1 89 Lib.Math.max.name, Cond.static Lib.Math.max.name]
def wsX2_needed_r2 : List Cond := [Cond.initialized "java/lang/Math", Cond.code Lib.Math.max.name Lib.Math.max.code 2 (some .int), Cond.methodLink RX1 101 yX1_partLevel, Cond.instanceMethod yX1_partLevel, Cond.selects RX1 yX1_partLevel yX1_partLevel, Cond.code yX1_partLevel cX1_partLevel 5 (some .int), Cond.fieldLink RX1 61 "NoiseLamps$Noise" "pieces" "I", Cond.methodLink RX1 94 yX1_given, Cond.instanceMethod yX1_given, Cond.selects RX1 yX1_given yX1_given, Cond.code yX1_given cX1_given 6 (some .int), Cond.fieldLink RX1 18 "NoiseLamps$Noise" "pieceLevel" "[I", Cond.fieldLink RX1 57 "NoiseLamps$Noise" "fall" "I", Cond.fieldLink RX1 48 "NoiseLamps$Noise" "doublings" "[I", Cond.methodLink RX1 82 yX1_pairOf, Cond.static yX1_pairOf, Cond.code yX1_pairOf cX1_pairOf 2 (some .int), Cond.methodLink RX1 86 yX1_greatestCut, Cond.instanceMethod yX1_greatestCut, Cond.selects RX1 yX1_greatestCut yX1_greatestCut, Cond.code yX1_greatestCut cX1_greatestCut 5 (some .int), Cond.fieldLink RX1 51 "NoiseLamps$Noise" "wallsBetween" "[I", Cond.methodLink RX1 98 yX1_join, Cond.static yX1_join]
def wsX2_needed_r3 : List Cond := [Cond.code yX1_join cX1_join 2 (some .int), Cond.methodLink RX1 130 Lib.Math.abs.name, Cond.static Lib.Math.abs.name, Cond.code Lib.Math.abs.name Lib.Math.abs.code 1 (some .int), Cond.methodLink RX1 133 yX1_moreByJoining, Cond.static yX1_moreByJoining, Cond.code yX1_moreByJoining cX1_moreByJoining 1 (some .int)]
def wsX2_needed : List Cond := .code yX2_needed cX2_needed 3 (some .int) :: ((wsX2_needed_r1 ++ (wsX2_needed_r2 ++ wsX2_needed_r3)) ++ wsX20 ++ wsX10)
def wsX2_recut : List Cond := .code yX2_recut cX2_recut 3 (some .int) :: ([.fieldLink RX2 10 "NoiseLamps" "noise" "LNoiseLamps$Noise;", .methodLink RX2 84 yX1_hasWall, .instanceMethod yX1_hasWall, .selects RX1 yX1_hasWall yX1_hasWall, .initialized RX1, .code yX1_hasWall cX1_hasWall 2 (some .boolean), .fieldLink RX1 67 "NoiseLamps$Noise" "walls" "I", .methodLink RX2 43 yX2_isCut, .static yX2_isCut, .initialized RX2, .code yX2_isCut cX2_isCut 1 (some .boolean), .methodLink RX2 35 yX2_isWithin, .static yX2_isWithin, .code yX2_isWithin cX2_isWithin 3 (some .boolean), .methodLink RX2 90 yX1_changeCut, .instanceMethod yX1_changeCut, .selects RX1 yX1_changeCut yX1_changeCut, .code yX1_changeCut cX1_changeCut 4 (some .int), .fieldLink RX1 42 "NoiseLamps$Noise" "wallCut" "[I"] ++ wsX20 ++ wsX10)
def wsX2_lamp : List Cond := .code yX2_lamp cX2_lamp 4 (some .int) :: ([.constant RX2 93 (100000), .fieldLink RX2 19 "NoiseLamps" "lamps" "LNoiseLamps$Lamps;", .methodLink RX2 35 yX2_isWithin, .static yX2_isWithin, .initialized RX2, .code yX2_isWithin cX2_isWithin 3 (some .boolean), .methodLink RX2 94 yX0_changeLight, .instanceMethod yX0_changeLight, .selects RX0 yX0_changeLight yX0_changeLight, .initialized RX0, .code yX0_changeLight cX0_changeLight 4 (some .int), .fieldLink RX0 9 "NoiseLamps$Lamps" "light" "[I"] ++ wsX20 ++ wsX00)
def wsX2_shines : List Cond := .code yX2_shines cX2_shines 2 (some .int) :: ([.fieldLink RX2 19 "NoiseLamps" "lamps" "LNoiseLamps$Lamps;", .methodLink RX2 97 yX0_lightFrom, .instanceMethod yX0_lightFrom, .selects RX0 yX0_lightFrom yX0_lightFrom, .initialized RX0, .code yX0_lightFrom cX0_lightFrom 4 (some .int), .fieldLink RX0 9 "NoiseLamps$Lamps" "light" "[I"] ++ wsX20 ++ wsX00)
def wsX2_road : List Cond := .code yX2_road cX2_road 2 (some .int) :: ([.fieldLink RX2 19 "NoiseLamps" "lamps" "LNoiseLamps$Lamps;", .methodLink RX2 35 yX2_isWithin, .static yX2_isWithin, .initialized RX2, .code yX2_isWithin cX2_isWithin 3 (some .boolean), .methodLink RX2 100 yX0_changeLength, .instanceMethod yX0_changeLength, .selects RX0 yX0_changeLength yX0_changeLength, .initialized RX0, .code yX0_changeLength cX0_changeLength 3 (some .int), .fieldLink RX0 21 "NoiseLamps$Lamps" "length" "I"] ++ wsX20 ++ wsX00)
def wsX2_isHour : List Cond := .code yX2_isHour cX2_isHour 1 (some .boolean) :: ([.methodLink RX2 35 yX2_isWithin, .static yX2_isWithin, .initialized RX2, .code yX2_isWithin cX2_isWithin 3 (some .boolean)])
def wsX2_dim : List Cond := .code yX2_dim cX2_dim 3 (some .int) :: ([.fieldLink RX2 19 "NoiseLamps" "lamps" "LNoiseLamps$Lamps;", .methodLink RX2 103 yX2_isHour, .static yX2_isHour, .initialized RX2, .code yX2_isHour cX2_isHour 1 (some .boolean), .methodLink RX2 35 yX2_isWithin, .static yX2_isWithin, .code yX2_isWithin cX2_isWithin 3 (some .boolean), .methodLink RX2 106 yX0_changePercent, .instanceMethod yX0_changePercent, .selects RX0 yX0_changePercent yX0_changePercent, .initialized RX0, .code yX0_changePercent cX0_changePercent 4 (some .int), .fieldLink RX0 15 "NoiseLamps$Lamps" "percents" "[I"] ++ wsX20 ++ wsX00)
def wsX2_isSpacing : List Cond := .code yX2_isSpacing cX2_isSpacing 1 (some .boolean) :: ([.methodLink RX2 35 yX2_isWithin, .static yX2_isWithin, .initialized RX2, .code yX2_isWithin cX2_isWithin 3 (some .boolean)])
def wsX2_at_r1 : List Cond := [Cond.fieldLink RX2 19 "NoiseLamps" "lamps" "LNoiseLamps$Lamps;", Cond.methodLink RX2 109 yX0_roadLength, Cond.instanceMethod yX0_roadLength, Cond.selects RX0 yX0_roadLength yX0_roadLength, Cond.initialized RX0, Cond.code yX0_roadLength cX0_roadLength 1 (some .int), Cond.fieldLink RX0 21 "NoiseLamps$Lamps" "length" "I", Cond.methodLink RX2 35 yX2_isWithin, Cond.static yX2_isWithin, Cond.initialized RX2, Cond.code yX2_isWithin cX2_isWithin 3 (some .boolean), Cond.methodLink RX2 113 yX2_isSpacing, Cond.static yX2_isSpacing, Cond.code yX2_isSpacing cX2_isSpacing 1 (some .boolean), Cond.methodLink RX2 103 yX2_isHour, Cond.static yX2_isHour, Cond.code yX2_isHour cX2_isHour 1 (some .boolean), Cond.methodLink RX2 116 yX0_dimmedLight, Cond.instanceMethod yX0_dimmedLight, Cond.selects RX0 yX0_dimmedLight yX0_dimmedLight, Cond.code yX0_dimmedLight cX0_dimmedLight 4 (some .int), Cond.fieldLink RX0 15 "NoiseLamps$Lamps" "percents" "[I", Cond.methodLink RX0 25 yX0_lightAt, Cond.instanceMethod yX0_lightAt]
def wsX2_at_r2 : List Cond := [Cond.selects RX0 yX0_lightAt yX0_lightAt, Cond.code yX0_lightAt cX0_lightAt 6 (some .int), Cond.methodLink RX0 58 Lib.Math.min.name, Cond.static Lib.Math.min.name, Cond.initialized "java/lang/Math", Cond.code Lib.Math.min.name Lib.Math.min.code 2 (some .int), Cond.methodLink RX0 66 Lib.Math.abs.name, Cond.static Lib.Math.abs.name, Cond.code Lib.Math.abs.name Lib.Math.abs.code 1 (some .int), Cond.methodLink RX0 63 yX0_firstPoleInReach, Cond.static yX0_firstPoleInReach, Cond.code yX0_firstPoleInReach cX0_firstPoleInReach 3 (some .int), Cond.methodLink RX0 69 yX0_lightFrom, Cond.instanceMethod yX0_lightFrom, Cond.selects RX0 yX0_lightFrom yX0_lightFrom, Cond.code yX0_lightFrom cX0_lightFrom 4 (some .int), Cond.fieldLink RX0 9 "NoiseLamps$Lamps" "light" "[I", Cond.methodLink RX0 29 yX0_dimmed, Cond.static yX0_dimmed, Cond.code yX0_dimmed cX0_dimmed 2 (some .int)]
def wsX2_at : List Cond := .code yX2_at cX2_at 4 (some .int) :: ((wsX2_at_r1 ++ wsX2_at_r2) ++ wsX20 ++ wsX00)
def wsX2_row_r1 : List Cond := [Cond.fieldLink RX2 19 "NoiseLamps" "lamps" "LNoiseLamps$Lamps;", Cond.methodLink RX2 113 yX2_isSpacing, Cond.static yX2_isSpacing, Cond.initialized RX2, Cond.code yX2_isSpacing cX2_isSpacing 1 (some .boolean), Cond.methodLink RX2 35 yX2_isWithin, Cond.static yX2_isWithin, Cond.code yX2_isWithin cX2_isWithin 3 (some .boolean), Cond.methodLink RX2 119 yX0_leastLight, Cond.instanceMethod yX0_leastLight, Cond.selects RX0 yX0_leastLight yX0_leastLight, Cond.initialized RX0, Cond.code yX0_leastLight cX0_leastLight 2 (some .int), Cond.methodLink RX0 32 yX0_lightPlaces, Cond.instanceMethod yX0_lightPlaces, Cond.selects RX0 yX0_lightPlaces yX0_lightPlaces, Cond.code yX0_lightPlaces cX0_lightPlaces 3 none, Cond.fieldLink RX0 18 "NoiseLamps$Lamps" "placeLight" "[I", Cond.methodLink RX0 72 yX0_places, Cond.instanceMethod yX0_places, Cond.selects RX0 yX0_places yX0_places, Cond.code yX0_places cX0_places 1 (some .int), Cond.fieldLink RX0 21 "NoiseLamps$Lamps" "length" "I", Cond.methodLink RX0 25 yX0_lightAt]
def wsX2_row_r2 : List Cond := [Cond.instanceMethod yX0_lightAt, Cond.selects RX0 yX0_lightAt yX0_lightAt, Cond.code yX0_lightAt cX0_lightAt 6 (some .int), Cond.methodLink RX0 58 Lib.Math.min.name, Cond.static Lib.Math.min.name, Cond.initialized "java/lang/Math", Cond.code Lib.Math.min.name Lib.Math.min.code 2 (some .int), Cond.methodLink RX0 66 Lib.Math.abs.name, Cond.static Lib.Math.abs.name, Cond.code Lib.Math.abs.name Lib.Math.abs.code 1 (some .int), Cond.methodLink RX0 63 yX0_firstPoleInReach, Cond.static yX0_firstPoleInReach, Cond.code yX0_firstPoleInReach cX0_firstPoleInReach 3 (some .int), Cond.methodLink RX0 69 yX0_lightFrom, Cond.instanceMethod yX0_lightFrom, Cond.selects RX0 yX0_lightFrom yX0_lightFrom, Cond.code yX0_lightFrom cX0_lightFrom 4 (some .int), Cond.fieldLink RX0 9 "NoiseLamps$Lamps" "light" "[I", Cond.methodLink RX0 36 yX0_leastOfPlaces, Cond.instanceMethod yX0_leastOfPlaces, Cond.selects RX0 yX0_leastOfPlaces yX0_leastOfPlaces, Cond.code yX0_leastOfPlaces cX0_leastOfPlaces 3 (some .int), Cond.methodLink RX2 122 yX0_meanLight, Cond.instanceMethod yX0_meanLight]
def wsX2_row_r3 : List Cond := [Cond.selects RX0 yX0_meanLight yX0_meanLight, Cond.code yX0_meanLight cX0_meanLight 2 (some .int), Cond.methodLink RX0 40 yX0_meanOfPlaces, Cond.instanceMethod yX0_meanOfPlaces, Cond.selects RX0 yX0_meanOfPlaces yX0_meanOfPlaces, Cond.code yX0_meanOfPlaces cX0_meanOfPlaces 5 (some .int), Cond.methodLink RX0 29 yX0_dimmed, Cond.static yX0_dimmed, Cond.code yX0_dimmed cX0_dimmed 2 (some .int), Cond.methodLink RX2 125 yX0_evenness, Cond.instanceMethod yX0_evenness, Cond.selects RX0 yX0_evenness yX0_evenness, Cond.code yX0_evenness cX0_evenness 2 (some .int), Cond.methodLink RX0 44 yX0_evennessOfPlaces, Cond.instanceMethod yX0_evennessOfPlaces, Cond.selects RX0 yX0_evennessOfPlaces yX0_evennessOfPlaces, Cond.code yX0_evennessOfPlaces cX0_evennessOfPlaces 2 (some .int), Cond.constantLong RX0 75 (1000), Cond.methodLink RX2 128 yX0_poles, Cond.instanceMethod yX0_poles, Cond.selects RX0 yX0_poles yX0_poles, Cond.code yX0_poles cX0_poles 2 (some .int)]
def wsX2_row : List Cond := .code yX2_row cX2_row 3 (some .int) :: ((wsX2_row_r1 ++ (wsX2_row_r2 ++ wsX2_row_r3)) ++ wsX20 ++ wsX00)
def wsX2_spacing_r1 : List Cond := [Cond.fieldLink RX2 19 "NoiseLamps" "lamps" "LNoiseLamps$Lamps;", Cond.methodLink RX2 131 yX0_widestGoodSpacing, Cond.instanceMethod yX0_widestGoodSpacing, Cond.selects RX0 yX0_widestGoodSpacing yX0_widestGoodSpacing, Cond.initialized RX0, Cond.code yX0_widestGoodSpacing cX0_widestGoodSpacing 4 (some .int), Cond.methodLink RX0 32 yX0_lightPlaces, Cond.instanceMethod yX0_lightPlaces, Cond.selects RX0 yX0_lightPlaces yX0_lightPlaces, Cond.code yX0_lightPlaces cX0_lightPlaces 3 none, Cond.fieldLink RX0 18 "NoiseLamps$Lamps" "placeLight" "[I", Cond.methodLink RX0 72 yX0_places, Cond.instanceMethod yX0_places, Cond.selects RX0 yX0_places yX0_places, Cond.code yX0_places cX0_places 1 (some .int), Cond.fieldLink RX0 21 "NoiseLamps$Lamps" "length" "I", Cond.methodLink RX0 25 yX0_lightAt, Cond.instanceMethod yX0_lightAt, Cond.selects RX0 yX0_lightAt yX0_lightAt, Cond.code yX0_lightAt cX0_lightAt 6 (some .int), Cond.methodLink RX0 58 Lib.Math.min.name, Cond.static Lib.Math.min.name, Cond.initialized "java/lang/Math", Cond.code Lib.Math.min.name Lib.Math.min.code 2 (some .int)]
def wsX2_spacing_r2 : List Cond := [Cond.methodLink RX0 66 Lib.Math.abs.name, Cond.static Lib.Math.abs.name, Cond.code Lib.Math.abs.name Lib.Math.abs.code 1 (some .int), Cond.methodLink RX0 63 yX0_firstPoleInReach, Cond.static yX0_firstPoleInReach, Cond.code yX0_firstPoleInReach cX0_firstPoleInReach 3 (some .int), Cond.methodLink RX0 69 yX0_lightFrom, Cond.instanceMethod yX0_lightFrom, Cond.selects RX0 yX0_lightFrom yX0_lightFrom, Cond.code yX0_lightFrom cX0_lightFrom 4 (some .int), Cond.fieldLink RX0 9 "NoiseLamps$Lamps" "light" "[I", Cond.methodLink RX0 40 yX0_meanOfPlaces, Cond.instanceMethod yX0_meanOfPlaces, Cond.selects RX0 yX0_meanOfPlaces yX0_meanOfPlaces, Cond.code yX0_meanOfPlaces cX0_meanOfPlaces 5 (some .int), Cond.methodLink RX0 29 yX0_dimmed, Cond.static yX0_dimmed, Cond.code yX0_dimmed cX0_dimmed 2 (some .int), Cond.methodLink RX0 44 yX0_evennessOfPlaces, Cond.instanceMethod yX0_evennessOfPlaces, Cond.selects RX0 yX0_evennessOfPlaces yX0_evennessOfPlaces, Cond.code yX0_evennessOfPlaces cX0_evennessOfPlaces 2 (some .int), Cond.constantLong RX0 75 (1000), Cond.methodLink RX0 36 yX0_leastOfPlaces]
def wsX2_spacing_r3 : List Cond := [Cond.instanceMethod yX0_leastOfPlaces, Cond.selects RX0 yX0_leastOfPlaces yX0_leastOfPlaces, Cond.code yX0_leastOfPlaces cX0_leastOfPlaces 3 (some .int)]
def wsX2_spacing : List Cond := .code yX2_spacing cX2_spacing 3 (some .int) :: ((wsX2_spacing_r1 ++ (wsX2_spacing_r2 ++ wsX2_spacing_r3)) ++ wsX20 ++ wsX00)
def wsX2_dark_r1 : List Cond := [Cond.fieldLink RX2 19 "NoiseLamps" "lamps" "LNoiseLamps$Lamps;", Cond.methodLink RX2 113 yX2_isSpacing, Cond.static yX2_isSpacing, Cond.initialized RX2, Cond.code yX2_isSpacing cX2_isSpacing 1 (some .boolean), Cond.methodLink RX2 35 yX2_isWithin, Cond.static yX2_isWithin, Cond.code yX2_isWithin cX2_isWithin 3 (some .boolean), Cond.methodLink RX2 134 yX0_hoursBelow, Cond.instanceMethod yX0_hoursBelow, Cond.selects RX0 yX0_hoursBelow yX0_hoursBelow, Cond.initialized RX0, Cond.code yX0_hoursBelow cX0_hoursBelow 5 (some .int), Cond.fieldLink RX0 15 "NoiseLamps$Lamps" "percents" "[I", Cond.methodLink RX0 32 yX0_lightPlaces, Cond.instanceMethod yX0_lightPlaces, Cond.selects RX0 yX0_lightPlaces yX0_lightPlaces, Cond.code yX0_lightPlaces cX0_lightPlaces 3 none, Cond.fieldLink RX0 18 "NoiseLamps$Lamps" "placeLight" "[I", Cond.methodLink RX0 72 yX0_places, Cond.instanceMethod yX0_places, Cond.selects RX0 yX0_places yX0_places, Cond.code yX0_places cX0_places 1 (some .int), Cond.fieldLink RX0 21 "NoiseLamps$Lamps" "length" "I"]
def wsX2_dark_r2 : List Cond := [Cond.methodLink RX0 25 yX0_lightAt, Cond.instanceMethod yX0_lightAt, Cond.selects RX0 yX0_lightAt yX0_lightAt, Cond.code yX0_lightAt cX0_lightAt 6 (some .int), Cond.methodLink RX0 58 Lib.Math.min.name, Cond.static Lib.Math.min.name, Cond.initialized "java/lang/Math", Cond.code Lib.Math.min.name Lib.Math.min.code 2 (some .int), Cond.methodLink RX0 66 Lib.Math.abs.name, Cond.static Lib.Math.abs.name, Cond.code Lib.Math.abs.name Lib.Math.abs.code 1 (some .int), Cond.methodLink RX0 63 yX0_firstPoleInReach, Cond.static yX0_firstPoleInReach, Cond.code yX0_firstPoleInReach cX0_firstPoleInReach 3 (some .int), Cond.methodLink RX0 69 yX0_lightFrom, Cond.instanceMethod yX0_lightFrom, Cond.selects RX0 yX0_lightFrom yX0_lightFrom, Cond.code yX0_lightFrom cX0_lightFrom 4 (some .int), Cond.fieldLink RX0 9 "NoiseLamps$Lamps" "light" "[I", Cond.methodLink RX0 40 yX0_meanOfPlaces, Cond.instanceMethod yX0_meanOfPlaces, Cond.selects RX0 yX0_meanOfPlaces yX0_meanOfPlaces, Cond.code yX0_meanOfPlaces cX0_meanOfPlaces 5 (some .int), Cond.methodLink RX0 29 yX0_dimmed]
def wsX2_dark_r3 : List Cond := [Cond.static yX0_dimmed, Cond.code yX0_dimmed cX0_dimmed 2 (some .int)]
def wsX2_dark : List Cond := .code yX2_dark cX2_dark 3 (some .int) :: ((wsX2_dark_r1 ++ (wsX2_dark_r2 ++ wsX2_dark_r3)) ++ wsX20 ++ wsX00)
def wsX2_isWire : List Cond := .code yX2_isWire cX2_isWire 2 (some .boolean) :: ([.methodLink RX2 35 yX2_isWithin, .static yX2_isWithin, .initialized RX2, .code yX2_isWithin cX2_isWithin 3 (some .boolean)])
def wsX2_drop : List Cond := .code yX2_drop cX2_drop 4 (some .int) :: ([.fieldLink RX2 19 "NoiseLamps" "lamps" "LNoiseLamps$Lamps;", .methodLink RX2 113 yX2_isSpacing, .static yX2_isSpacing, .initialized RX2, .code yX2_isSpacing cX2_isSpacing 1 (some .boolean), .methodLink RX2 35 yX2_isWithin, .static yX2_isWithin, .code yX2_isWithin cX2_isWithin 3 (some .boolean), .methodLink RX2 137 yX2_isWire, .static yX2_isWire, .code yX2_isWire cX2_isWire 2 (some .boolean), .methodLink RX2 140 yX0_millivolts, .instanceMethod yX0_millivolts, .selects RX0 yX0_millivolts yX0_millivolts, .initialized RX0, .code yX0_millivolts cX0_millivolts 8 (some .int), .constantLong RX0 50 (2), .constantLong RX0 52 (1000000), .methodLink RX0 47 yX0_poles, .instanceMethod yX0_poles, .selects RX0 yX0_poles yX0_poles, .code yX0_poles cX0_poles 2 (some .int), .fieldLink RX0 21 "NoiseLamps$Lamps" "length" "I"] ++ wsX20 ++ wsX00)
def wsX2_wired : List Cond := .code yX2_wired cX2_wired 4 (some .int) :: ([.fieldLink RX2 19 "NoiseLamps" "lamps" "LNoiseLamps$Lamps;", .methodLink RX2 137 yX2_isWire, .static yX2_isWire, .initialized RX2, .code yX2_isWire cX2_isWire 2 (some .boolean), .methodLink RX2 35 yX2_isWithin, .static yX2_isWithin, .code yX2_isWithin cX2_isWithin 3 (some .boolean), .methodLink RX2 143 yX0_widestWiredSpacing, .instanceMethod yX0_widestWiredSpacing, .selects RX0 yX0_widestWiredSpacing yX0_widestWiredSpacing, .initialized RX0, .code yX0_widestWiredSpacing cX0_widestWiredSpacing 5 (some .int), .methodLink RX0 54 yX0_millivolts, .instanceMethod yX0_millivolts, .selects RX0 yX0_millivolts yX0_millivolts, .code yX0_millivolts cX0_millivolts 8 (some .int), .constantLong RX0 50 (2), .constantLong RX0 52 (1000000), .methodLink RX0 47 yX0_poles, .instanceMethod yX0_poles, .selects RX0 yX0_poles yX0_poles, .code yX0_poles cX0_poles 2 (some .int), .fieldLink RX0 21 "NoiseLamps$Lamps" "length" "I"] ++ wsX20 ++ wsX00)
def wsX2_count_r1 : List Cond := [Cond.fieldLink RX2 10 "NoiseLamps" "noise" "LNoiseLamps$Noise;", Cond.fieldLink RX2 19 "NoiseLamps" "lamps" "LNoiseLamps$Lamps;", Cond.methodLink RX2 146 yX1_pieceCount, Cond.instanceMethod yX1_pieceCount, Cond.selects RX1 yX1_pieceCount yX1_pieceCount, Cond.initialized RX1, Cond.code yX1_pieceCount cX1_pieceCount 1 (some .int), Cond.fieldLink RX1 61 "NoiseLamps$Noise" "pieces" "I", Cond.methodLink RX2 149 yX1_houseCount, Cond.instanceMethod yX1_houseCount, Cond.selects RX1 yX1_houseCount yX1_houseCount, Cond.code yX1_houseCount cX1_houseCount 1 (some .int), Cond.fieldLink RX1 64 "NoiseLamps$Noise" "houses" "I", Cond.methodLink RX2 152 yX1_wallCount, Cond.instanceMethod yX1_wallCount, Cond.selects RX1 yX1_wallCount yX1_wallCount, Cond.code yX1_wallCount cX1_wallCount 1 (some .int), Cond.fieldLink RX1 67 "NoiseLamps$Noise" "walls" "I", Cond.methodLink RX2 155 yX1_allPeople, Cond.instanceMethod yX1_allPeople, Cond.selects RX1 yX1_allPeople yX1_allPeople, Cond.code yX1_allPeople cX1_allPeople 3 (some .int), Cond.fieldLink RX1 27 "NoiseLamps$Noise" "housePeople" "[I", Cond.methodLink RX2 158 yX0_litDistances]
def wsX2_count_r2 : List Cond := [Cond.instanceMethod yX0_litDistances, Cond.selects RX0 yX0_litDistances yX0_litDistances, Cond.initialized RX0, Cond.code yX0_litDistances cX0_litDistances 3 (some .int), Cond.fieldLink RX0 9 "NoiseLamps$Lamps" "light" "[I", Cond.methodLink RX2 109 yX0_roadLength, Cond.instanceMethod yX0_roadLength, Cond.selects RX0 yX0_roadLength yX0_roadLength, Cond.code yX0_roadLength cX0_roadLength 1 (some .int), Cond.fieldLink RX0 21 "NoiseLamps$Lamps" "length" "I"]
def wsX2_count : List Cond := .code yX2_count cX2_count 2 (some .int) :: ((wsX2_count_r1 ++ wsX2_count_r2) ++ wsX20 ++ wsX10 ++ wsX00)
def wsX3_init : List Cond := .code yX3_init cX3_init 2 none :: ([.methodLink RX3 1 objectInit, .instanceMethod objectInit, .code objectInit ⟨#[0xb1]⟩ 1 none, .arrayClass .int, .fieldLink RX3 7 "NoiseLampsModel" "pieceX" "[I", .fieldLink RX3 13 "NoiseLampsModel" "pieceY" "[I", .fieldLink RX3 16 "NoiseLampsModel" "levels" "[I", .fieldLink RX3 19 "NoiseLampsModel" "houseX" "[I", .fieldLink RX3 22 "NoiseLampsModel" "houseY" "[I", .fieldLink RX3 25 "NoiseLampsModel" "people" "[I", .fieldLink RX3 28 "NoiseLampsModel" "ends" "[I", .fieldLink RX3 31 "NoiseLampsModel" "cuts" "[I", .fieldLink RX3 34 "NoiseLampsModel" "fall" "I", .fieldLink RX3 38 "NoiseLampsModel" "malus" "[I", .fieldLink RX3 41 "NoiseLampsModel" "lights" "[I", .fieldLink RX3 44 "NoiseLampsModel" "dims" "[I", .fieldLink RX3 47 "NoiseLampsModel" "days" "[I"] ++ wsX30)
def wsX3_within : List Cond := .code yX3_within cX3_within 3 (some .boolean) :: ([])
def wsX3_isPoint : List Cond := .code yX3_isPoint cX3_isPoint 2 (some .boolean) :: ([.methodLink RX3 50 yX3_within, .static yX3_within, .initialized RX3, .code yX3_within cX3_within 3 (some .boolean)])
def wsX3_piece : List Cond := .code yX3_piece cX3_piece 7 (some .int) :: ([.fieldLink RX3 58 "NoiseLampsModel" "pieces" "I", .fieldLink RX3 7 "NoiseLampsModel" "pieceX" "[I", .fieldLink RX3 13 "NoiseLampsModel" "pieceY" "[I", .fieldLink RX3 16 "NoiseLampsModel" "levels" "[I", .methodLink RX3 54 yX3_isPoint, .static yX3_isPoint, .initialized RX3, .code yX3_isPoint cX3_isPoint 2 (some .boolean), .methodLink RX3 50 yX3_within, .static yX3_within, .code yX3_within cX3_within 3 (some .boolean)] ++ wsX30)
def wsX3_house : List Cond := .code yX3_house cX3_house 4 (some .int) :: ([.fieldLink RX3 61 "NoiseLampsModel" "houses" "I", .fieldLink RX3 19 "NoiseLampsModel" "houseX" "[I", .fieldLink RX3 22 "NoiseLampsModel" "houseY" "[I", .fieldLink RX3 25 "NoiseLampsModel" "people" "[I", .methodLink RX3 54 yX3_isPoint, .static yX3_isPoint, .initialized RX3, .code yX3_isPoint cX3_isPoint 2 (some .boolean), .methodLink RX3 50 yX3_within, .static yX3_within, .code yX3_within cX3_within 3 (some .boolean)] ++ wsX30)
def wsX3_wall : List Cond := .code yX3_wall cX3_wall 7 (some .int) :: ([.fieldLink RX3 64 "NoiseLampsModel" "walls" "I", .fieldLink RX3 28 "NoiseLampsModel" "ends" "[I", .fieldLink RX3 31 "NoiseLampsModel" "cuts" "[I", .methodLink RX3 54 yX3_isPoint, .static yX3_isPoint, .initialized RX3, .code yX3_isPoint cX3_isPoint 2 (some .boolean), .methodLink RX3 50 yX3_within, .static yX3_within, .code yX3_within cX3_within 3 (some .boolean)] ++ wsX30)
def wsX3_fall : List Cond := .code yX3_fall cX3_fall 3 (some .int) :: ([.fieldLink RX3 34 "NoiseLampsModel" "fall" "I", .methodLink RX3 50 yX3_within, .static yX3_within, .initialized RX3, .code yX3_within cX3_within 3 (some .boolean)] ++ wsX30)
def wsX3_malus : List Cond := .code yX3_malus cX3_malus 4 (some .int) :: ([.fieldLink RX3 38 "NoiseLampsModel" "malus" "[I", .methodLink RX3 50 yX3_within, .static yX3_within, .initialized RX3, .code yX3_within cX3_within 3 (some .boolean)] ++ wsX30)
def wsX3_side : List Cond := .code yX3_side cX3_side 14 (some .int) :: ([])
def wsX3_isBetween : List Cond := .code yX3_isBetween cX3_isBetween 8 (some .boolean) :: ([])
def wsX3_crosses : List Cond := .code yX3_crosses cX3_crosses 16 (some .boolean) :: ([.fieldLink RX3 28 "NoiseLampsModel" "ends" "[I", .methodLink RX3 67 yX3_side, .static yX3_side, .initialized RX3, .code yX3_side cX3_side 14 (some .int), .methodLink RX3 71 yX3_isBetween, .static yX3_isBetween, .code yX3_isBetween cX3_isBetween 8 (some .boolean)] ++ wsX30)
def wsX3_givesIn : List Cond := .code yX3_givesIn cX3_givesIn 14 (some .int) :: ([.fieldLink RX3 16 "NoiseLampsModel" "levels" "[I", .fieldLink RX3 7 "NoiseLampsModel" "pieceX" "[I", .fieldLink RX3 19 "NoiseLampsModel" "houseX" "[I", .fieldLink RX3 13 "NoiseLampsModel" "pieceY" "[I", .fieldLink RX3 22 "NoiseLampsModel" "houseY" "[I", .constantLong RX3 75 (400), .fieldLink RX3 34 "NoiseLampsModel" "fall" "I", .constantLong RX3 77 (4), .fieldLink RX3 64 "NoiseLampsModel" "walls" "I", .fieldLink RX3 31 "NoiseLampsModel" "cuts" "[I", .methodLink RX3 79 yX3_crosses, .instanceMethod yX3_crosses, .selects RX3 yX3_crosses yX3_crosses, .initialized RX3, .code yX3_crosses cX3_crosses 16 (some .boolean), .fieldLink RX3 28 "NoiseLampsModel" "ends" "[I", .methodLink RX3 67 yX3_side, .static yX3_side, .code yX3_side cX3_side 14 (some .int), .methodLink RX3 71 yX3_isBetween, .static yX3_isBetween, .code yX3_isBetween cX3_isBetween 8 (some .boolean)] ++ wsX30)
def wsX3_join : List Cond := .code yX3_join cX3_join 4 (some .int) :: ([])
def wsX3_levelIn_r1 : List Cond := [Cond.fieldLink RX3 58 "NoiseLampsModel" "pieces" "I", Cond.methodLink RX3 83 yX3_givesIn, Cond.instanceMethod yX3_givesIn, Cond.selects RX3 yX3_givesIn yX3_givesIn, Cond.initialized RX3, Cond.code yX3_givesIn cX3_givesIn 14 (some .int), Cond.fieldLink RX3 16 "NoiseLampsModel" "levels" "[I", Cond.fieldLink RX3 7 "NoiseLampsModel" "pieceX" "[I", Cond.fieldLink RX3 19 "NoiseLampsModel" "houseX" "[I", Cond.fieldLink RX3 13 "NoiseLampsModel" "pieceY" "[I", Cond.fieldLink RX3 22 "NoiseLampsModel" "houseY" "[I", Cond.constantLong RX3 75 (400), Cond.fieldLink RX3 34 "NoiseLampsModel" "fall" "I", Cond.constantLong RX3 77 (4), Cond.fieldLink RX3 64 "NoiseLampsModel" "walls" "I", Cond.fieldLink RX3 31 "NoiseLampsModel" "cuts" "[I", Cond.methodLink RX3 79 yX3_crosses, Cond.instanceMethod yX3_crosses, Cond.selects RX3 yX3_crosses yX3_crosses, Cond.code yX3_crosses cX3_crosses 16 (some .boolean), Cond.fieldLink RX3 28 "NoiseLampsModel" "ends" "[I", Cond.methodLink RX3 67 yX3_side, Cond.static yX3_side, Cond.code yX3_side cX3_side 14 (some .int)]
def wsX3_levelIn_r2 : List Cond := [Cond.methodLink RX3 71 yX3_isBetween, Cond.static yX3_isBetween, Cond.code yX3_isBetween cX3_isBetween 8 (some .boolean), Cond.methodLink RX3 87 yX3_join, Cond.static yX3_join, Cond.code yX3_join cX3_join 4 (some .int)]
def wsX3_levelIn : List Cond := .code yX3_levelIn cX3_levelIn 6 (some .int) :: ((wsX3_levelIn_r1 ++ wsX3_levelIn_r2) ++ wsX30)
def wsX3_allDay_r1 : List Cond := [Cond.fieldLink RX3 38 "NoiseLampsModel" "malus" "[I", Cond.methodLink RX3 91 yX3_levelIn, Cond.instanceMethod yX3_levelIn, Cond.selects RX3 yX3_levelIn yX3_levelIn, Cond.initialized RX3, Cond.code yX3_levelIn cX3_levelIn 6 (some .int), Cond.fieldLink RX3 58 "NoiseLampsModel" "pieces" "I", Cond.methodLink RX3 83 yX3_givesIn, Cond.instanceMethod yX3_givesIn, Cond.selects RX3 yX3_givesIn yX3_givesIn, Cond.code yX3_givesIn cX3_givesIn 14 (some .int), Cond.fieldLink RX3 16 "NoiseLampsModel" "levels" "[I", Cond.fieldLink RX3 7 "NoiseLampsModel" "pieceX" "[I", Cond.fieldLink RX3 19 "NoiseLampsModel" "houseX" "[I", Cond.fieldLink RX3 13 "NoiseLampsModel" "pieceY" "[I", Cond.fieldLink RX3 22 "NoiseLampsModel" "houseY" "[I", Cond.constantLong RX3 75 (400), Cond.fieldLink RX3 34 "NoiseLampsModel" "fall" "I", Cond.constantLong RX3 77 (4), Cond.fieldLink RX3 64 "NoiseLampsModel" "walls" "I", Cond.fieldLink RX3 31 "NoiseLampsModel" "cuts" "[I", Cond.methodLink RX3 79 yX3_crosses, Cond.instanceMethod yX3_crosses, Cond.selects RX3 yX3_crosses yX3_crosses]
def wsX3_allDay_r2 : List Cond := [Cond.code yX3_crosses cX3_crosses 16 (some .boolean), Cond.fieldLink RX3 28 "NoiseLampsModel" "ends" "[I", Cond.methodLink RX3 67 yX3_side, Cond.static yX3_side, Cond.code yX3_side cX3_side 14 (some .int), Cond.methodLink RX3 71 yX3_isBetween, Cond.static yX3_isBetween, Cond.code yX3_isBetween cX3_isBetween 8 (some .boolean), Cond.methodLink RX3 87 yX3_join, Cond.static yX3_join, Cond.code yX3_join cX3_join 4 (some .int)]
def wsX3_allDay : List Cond := .code yX3_allDay cX3_allDay 5 (some .int) :: ((wsX3_allDay_r1 ++ wsX3_allDay_r2) ++ wsX30)
def wsX3_isHouse : List Cond := .code yX3_isHouse cX3_isHouse 2 (some .boolean) :: ([.fieldLink RX3 61 "NoiseLampsModel" "houses" "I"] ++ wsX30)
def wsX3_gives_r1 : List Cond := [Cond.fieldLink RX3 58 "NoiseLampsModel" "pieces" "I", Cond.methodLink RX3 50 yX3_within, Cond.static yX3_within, Cond.initialized RX3, Cond.code yX3_within cX3_within 3 (some .boolean), Cond.methodLink RX3 94 yX3_isHouse, Cond.instanceMethod yX3_isHouse, Cond.selects RX3 yX3_isHouse yX3_isHouse, Cond.code yX3_isHouse cX3_isHouse 2 (some .boolean), Cond.fieldLink RX3 61 "NoiseLampsModel" "houses" "I", Cond.methodLink RX3 83 yX3_givesIn, Cond.instanceMethod yX3_givesIn, Cond.selects RX3 yX3_givesIn yX3_givesIn, Cond.code yX3_givesIn cX3_givesIn 14 (some .int), Cond.fieldLink RX3 16 "NoiseLampsModel" "levels" "[I", Cond.fieldLink RX3 7 "NoiseLampsModel" "pieceX" "[I", Cond.fieldLink RX3 19 "NoiseLampsModel" "houseX" "[I", Cond.fieldLink RX3 13 "NoiseLampsModel" "pieceY" "[I", Cond.fieldLink RX3 22 "NoiseLampsModel" "houseY" "[I", Cond.constantLong RX3 75 (400), Cond.fieldLink RX3 34 "NoiseLampsModel" "fall" "I", Cond.constantLong RX3 77 (4), Cond.fieldLink RX3 64 "NoiseLampsModel" "walls" "I", Cond.fieldLink RX3 31 "NoiseLampsModel" "cuts" "[I"]
def wsX3_gives_r2 : List Cond := [Cond.methodLink RX3 79 yX3_crosses, Cond.instanceMethod yX3_crosses, Cond.selects RX3 yX3_crosses yX3_crosses, Cond.code yX3_crosses cX3_crosses 16 (some .boolean), Cond.fieldLink RX3 28 "NoiseLampsModel" "ends" "[I", Cond.methodLink RX3 67 yX3_side, Cond.static yX3_side, Cond.code yX3_side cX3_side 14 (some .int), Cond.methodLink RX3 71 yX3_isBetween, Cond.static yX3_isBetween, Cond.code yX3_isBetween cX3_isBetween 8 (some .boolean)]
def wsX3_gives : List Cond := .code yX3_gives cX3_gives 4 (some .int) :: ((wsX3_gives_r1 ++ wsX3_gives_r2) ++ wsX30)
def wsX3_level_r1 : List Cond := [Cond.methodLink RX3 94 yX3_isHouse, Cond.instanceMethod yX3_isHouse, Cond.selects RX3 yX3_isHouse yX3_isHouse, Cond.initialized RX3, Cond.code yX3_isHouse cX3_isHouse 2 (some .boolean), Cond.fieldLink RX3 61 "NoiseLampsModel" "houses" "I", Cond.methodLink RX3 50 yX3_within, Cond.static yX3_within, Cond.code yX3_within cX3_within 3 (some .boolean), Cond.methodLink RX3 98 yX3_allDay, Cond.instanceMethod yX3_allDay, Cond.selects RX3 yX3_allDay yX3_allDay, Cond.code yX3_allDay cX3_allDay 5 (some .int), Cond.fieldLink RX3 38 "NoiseLampsModel" "malus" "[I", Cond.methodLink RX3 91 yX3_levelIn, Cond.instanceMethod yX3_levelIn, Cond.selects RX3 yX3_levelIn yX3_levelIn, Cond.code yX3_levelIn cX3_levelIn 6 (some .int), Cond.fieldLink RX3 58 "NoiseLampsModel" "pieces" "I", Cond.methodLink RX3 83 yX3_givesIn, Cond.instanceMethod yX3_givesIn, Cond.selects RX3 yX3_givesIn yX3_givesIn, Cond.code yX3_givesIn cX3_givesIn 14 (some .int), Cond.fieldLink RX3 16 "NoiseLampsModel" "levels" "[I"]
def wsX3_level_r2 : List Cond := [Cond.fieldLink RX3 7 "NoiseLampsModel" "pieceX" "[I", Cond.fieldLink RX3 19 "NoiseLampsModel" "houseX" "[I", Cond.fieldLink RX3 13 "NoiseLampsModel" "pieceY" "[I", Cond.fieldLink RX3 22 "NoiseLampsModel" "houseY" "[I", Cond.constantLong RX3 75 (400), Cond.fieldLink RX3 34 "NoiseLampsModel" "fall" "I", Cond.constantLong RX3 77 (4), Cond.fieldLink RX3 64 "NoiseLampsModel" "walls" "I", Cond.fieldLink RX3 31 "NoiseLampsModel" "cuts" "[I", Cond.methodLink RX3 79 yX3_crosses, Cond.instanceMethod yX3_crosses, Cond.selects RX3 yX3_crosses yX3_crosses, Cond.code yX3_crosses cX3_crosses 16 (some .boolean), Cond.fieldLink RX3 28 "NoiseLampsModel" "ends" "[I", Cond.methodLink RX3 67 yX3_side, Cond.static yX3_side, Cond.code yX3_side cX3_side 14 (some .int), Cond.methodLink RX3 71 yX3_isBetween, Cond.static yX3_isBetween, Cond.code yX3_isBetween cX3_isBetween 8 (some .boolean), Cond.methodLink RX3 87 yX3_join, Cond.static yX3_join, Cond.code yX3_join cX3_join 4 (some .int)]
def wsX3_level : List Cond := .code yX3_level cX3_level 3 (some .int) :: ((wsX3_level_r1 ++ wsX3_level_r2) ++ wsX30)
def wsX3_people_r1 : List Cond := [Cond.fieldLink RX3 61 "NoiseLampsModel" "houses" "I", Cond.fieldLink RX3 25 "NoiseLampsModel" "people" "[I", Cond.methodLink RX3 98 yX3_allDay, Cond.instanceMethod yX3_allDay, Cond.selects RX3 yX3_allDay yX3_allDay, Cond.initialized RX3, Cond.code yX3_allDay cX3_allDay 5 (some .int), Cond.fieldLink RX3 38 "NoiseLampsModel" "malus" "[I", Cond.methodLink RX3 91 yX3_levelIn, Cond.instanceMethod yX3_levelIn, Cond.selects RX3 yX3_levelIn yX3_levelIn, Cond.code yX3_levelIn cX3_levelIn 6 (some .int), Cond.fieldLink RX3 58 "NoiseLampsModel" "pieces" "I", Cond.methodLink RX3 83 yX3_givesIn, Cond.instanceMethod yX3_givesIn, Cond.selects RX3 yX3_givesIn yX3_givesIn, Cond.code yX3_givesIn cX3_givesIn 14 (some .int), Cond.fieldLink RX3 16 "NoiseLampsModel" "levels" "[I", Cond.fieldLink RX3 7 "NoiseLampsModel" "pieceX" "[I", Cond.fieldLink RX3 19 "NoiseLampsModel" "houseX" "[I", Cond.fieldLink RX3 13 "NoiseLampsModel" "pieceY" "[I", Cond.fieldLink RX3 22 "NoiseLampsModel" "houseY" "[I", Cond.constantLong RX3 75 (400), Cond.fieldLink RX3 34 "NoiseLampsModel" "fall" "I"]
def wsX3_people_r2 : List Cond := [Cond.constantLong RX3 77 (4), Cond.fieldLink RX3 64 "NoiseLampsModel" "walls" "I", Cond.fieldLink RX3 31 "NoiseLampsModel" "cuts" "[I", Cond.methodLink RX3 79 yX3_crosses, Cond.instanceMethod yX3_crosses, Cond.selects RX3 yX3_crosses yX3_crosses, Cond.code yX3_crosses cX3_crosses 16 (some .boolean), Cond.fieldLink RX3 28 "NoiseLampsModel" "ends" "[I", Cond.methodLink RX3 67 yX3_side, Cond.static yX3_side, Cond.code yX3_side cX3_side 14 (some .int), Cond.methodLink RX3 71 yX3_isBetween, Cond.static yX3_isBetween, Cond.code yX3_isBetween cX3_isBetween 8 (some .boolean), Cond.methodLink RX3 87 yX3_join, Cond.static yX3_join, Cond.code yX3_join cX3_join 4 (some .int)]
def wsX3_people : List Cond := .code yX3_people cX3_people 4 (some .int) :: ((wsX3_people_r1 ++ wsX3_people_r2) ++ wsX30)
def wsX3_loudest_r1 : List Cond := [Cond.fieldLink RX3 58 "NoiseLampsModel" "pieces" "I", Cond.methodLink RX3 94 yX3_isHouse, Cond.instanceMethod yX3_isHouse, Cond.selects RX3 yX3_isHouse yX3_isHouse, Cond.initialized RX3, Cond.code yX3_isHouse cX3_isHouse 2 (some .boolean), Cond.fieldLink RX3 61 "NoiseLampsModel" "houses" "I", Cond.methodLink RX3 50 yX3_within, Cond.static yX3_within, Cond.code yX3_within cX3_within 3 (some .boolean), Cond.methodLink RX3 83 yX3_givesIn, Cond.instanceMethod yX3_givesIn, Cond.selects RX3 yX3_givesIn yX3_givesIn, Cond.code yX3_givesIn cX3_givesIn 14 (some .int), Cond.fieldLink RX3 16 "NoiseLampsModel" "levels" "[I", Cond.fieldLink RX3 7 "NoiseLampsModel" "pieceX" "[I", Cond.fieldLink RX3 19 "NoiseLampsModel" "houseX" "[I", Cond.fieldLink RX3 13 "NoiseLampsModel" "pieceY" "[I", Cond.fieldLink RX3 22 "NoiseLampsModel" "houseY" "[I", Cond.constantLong RX3 75 (400), Cond.fieldLink RX3 34 "NoiseLampsModel" "fall" "I", Cond.constantLong RX3 77 (4), Cond.fieldLink RX3 64 "NoiseLampsModel" "walls" "I", Cond.fieldLink RX3 31 "NoiseLampsModel" "cuts" "[I"]
def wsX3_loudest_r2 : List Cond := [Cond.methodLink RX3 79 yX3_crosses, Cond.instanceMethod yX3_crosses, Cond.selects RX3 yX3_crosses yX3_crosses, Cond.code yX3_crosses cX3_crosses 16 (some .boolean), Cond.fieldLink RX3 28 "NoiseLampsModel" "ends" "[I", Cond.methodLink RX3 67 yX3_side, Cond.static yX3_side, Cond.code yX3_side cX3_side 14 (some .int), Cond.methodLink RX3 71 yX3_isBetween, Cond.static yX3_isBetween, Cond.code yX3_isBetween cX3_isBetween 8 (some .boolean)]
def wsX3_loudest : List Cond := .code yX3_loudest cX3_loudest 7 (some .int) :: ((wsX3_loudest_r1 ++ wsX3_loudest_r2) ++ wsX30)
def wsX3_ranked_r1 : List Cond := [Cond.fieldLink RX3 61 "NoiseLampsModel" "houses" "I", Cond.fieldLink RX3 47 "NoiseLampsModel" "days" "[I", Cond.methodLink RX3 98 yX3_allDay, Cond.instanceMethod yX3_allDay, Cond.selects RX3 yX3_allDay yX3_allDay, Cond.initialized RX3, Cond.code yX3_allDay cX3_allDay 5 (some .int), Cond.fieldLink RX3 38 "NoiseLampsModel" "malus" "[I", Cond.methodLink RX3 91 yX3_levelIn, Cond.instanceMethod yX3_levelIn, Cond.selects RX3 yX3_levelIn yX3_levelIn, Cond.code yX3_levelIn cX3_levelIn 6 (some .int), Cond.fieldLink RX3 58 "NoiseLampsModel" "pieces" "I", Cond.methodLink RX3 83 yX3_givesIn, Cond.instanceMethod yX3_givesIn, Cond.selects RX3 yX3_givesIn yX3_givesIn, Cond.code yX3_givesIn cX3_givesIn 14 (some .int), Cond.fieldLink RX3 16 "NoiseLampsModel" "levels" "[I", Cond.fieldLink RX3 7 "NoiseLampsModel" "pieceX" "[I", Cond.fieldLink RX3 19 "NoiseLampsModel" "houseX" "[I", Cond.fieldLink RX3 13 "NoiseLampsModel" "pieceY" "[I", Cond.fieldLink RX3 22 "NoiseLampsModel" "houseY" "[I", Cond.constantLong RX3 75 (400), Cond.fieldLink RX3 34 "NoiseLampsModel" "fall" "I"]
def wsX3_ranked_r2 : List Cond := [Cond.constantLong RX3 77 (4), Cond.fieldLink RX3 64 "NoiseLampsModel" "walls" "I", Cond.fieldLink RX3 31 "NoiseLampsModel" "cuts" "[I", Cond.methodLink RX3 79 yX3_crosses, Cond.instanceMethod yX3_crosses, Cond.selects RX3 yX3_crosses yX3_crosses, Cond.code yX3_crosses cX3_crosses 16 (some .boolean), Cond.fieldLink RX3 28 "NoiseLampsModel" "ends" "[I", Cond.methodLink RX3 67 yX3_side, Cond.static yX3_side, Cond.code yX3_side cX3_side 14 (some .int), Cond.methodLink RX3 71 yX3_isBetween, Cond.static yX3_isBetween, Cond.code yX3_isBetween cX3_isBetween 8 (some .boolean), Cond.methodLink RX3 87 yX3_join, Cond.static yX3_join, Cond.code yX3_join cX3_join 4 (some .int)]
def wsX3_ranked : List Cond := .code yX3_ranked cX3_ranked 5 (some .int) :: ((wsX3_ranked_r1 ++ wsX3_ranked_r2) ++ wsX30)
def wsX3_isQuiet_r1 : List Cond := [Cond.fieldLink RX3 61 "NoiseLampsModel" "houses" "I", Cond.methodLink RX3 98 yX3_allDay, Cond.instanceMethod yX3_allDay, Cond.selects RX3 yX3_allDay yX3_allDay, Cond.initialized RX3, Cond.code yX3_allDay cX3_allDay 5 (some .int), Cond.fieldLink RX3 38 "NoiseLampsModel" "malus" "[I", Cond.methodLink RX3 91 yX3_levelIn, Cond.instanceMethod yX3_levelIn, Cond.selects RX3 yX3_levelIn yX3_levelIn, Cond.code yX3_levelIn cX3_levelIn 6 (some .int), Cond.fieldLink RX3 58 "NoiseLampsModel" "pieces" "I", Cond.methodLink RX3 83 yX3_givesIn, Cond.instanceMethod yX3_givesIn, Cond.selects RX3 yX3_givesIn yX3_givesIn, Cond.code yX3_givesIn cX3_givesIn 14 (some .int), Cond.fieldLink RX3 16 "NoiseLampsModel" "levels" "[I", Cond.fieldLink RX3 7 "NoiseLampsModel" "pieceX" "[I", Cond.fieldLink RX3 19 "NoiseLampsModel" "houseX" "[I", Cond.fieldLink RX3 13 "NoiseLampsModel" "pieceY" "[I", Cond.fieldLink RX3 22 "NoiseLampsModel" "houseY" "[I", Cond.constantLong RX3 75 (400), Cond.fieldLink RX3 34 "NoiseLampsModel" "fall" "I", Cond.constantLong RX3 77 (4)]
def wsX3_isQuiet_r2 : List Cond := [Cond.fieldLink RX3 64 "NoiseLampsModel" "walls" "I", Cond.fieldLink RX3 31 "NoiseLampsModel" "cuts" "[I", Cond.methodLink RX3 79 yX3_crosses, Cond.instanceMethod yX3_crosses, Cond.selects RX3 yX3_crosses yX3_crosses, Cond.code yX3_crosses cX3_crosses 16 (some .boolean), Cond.fieldLink RX3 28 "NoiseLampsModel" "ends" "[I", Cond.methodLink RX3 67 yX3_side, Cond.static yX3_side, Cond.code yX3_side cX3_side 14 (some .int), Cond.methodLink RX3 71 yX3_isBetween, Cond.static yX3_isBetween, Cond.code yX3_isBetween cX3_isBetween 8 (some .boolean), Cond.methodLink RX3 87 yX3_join, Cond.static yX3_join, Cond.code yX3_join cX3_join 4 (some .int)]
def wsX3_isQuiet : List Cond := .code yX3_isQuiet cX3_isQuiet 4 (some .boolean) :: ((wsX3_isQuiet_r1 ++ wsX3_isQuiet_r2) ++ wsX30)
def wsX3_isWall : List Cond := .code yX3_isWall cX3_isWall 2 (some .boolean) :: ([.fieldLink RX3 64 "NoiseLampsModel" "walls" "I"] ++ wsX30)
def wsX3_needed_r1 : List Cond := [Cond.fieldLink RX3 31 "NoiseLampsModel" "cuts" "[I", Cond.methodLink RX3 102 yX3_isWall, Cond.instanceMethod yX3_isWall, Cond.selects RX3 yX3_isWall yX3_isWall, Cond.initialized RX3, Cond.code yX3_isWall cX3_isWall 2 (some .boolean), Cond.fieldLink RX3 64 "NoiseLampsModel" "walls" "I", Cond.methodLink RX3 105 yX3_isQuiet, Cond.instanceMethod yX3_isQuiet, Cond.selects RX3 yX3_isQuiet yX3_isQuiet, Cond.code yX3_isQuiet cX3_isQuiet 4 (some .boolean), Cond.fieldLink RX3 61 "NoiseLampsModel" "houses" "I", Cond.methodLink RX3 98 yX3_allDay, Cond.instanceMethod yX3_allDay, Cond.selects RX3 yX3_allDay yX3_allDay, Cond.code yX3_allDay cX3_allDay 5 (some .int), Cond.fieldLink RX3 38 "NoiseLampsModel" "malus" "[I", Cond.methodLink RX3 91 yX3_levelIn, Cond.instanceMethod yX3_levelIn, Cond.selects RX3 yX3_levelIn yX3_levelIn, Cond.code yX3_levelIn cX3_levelIn 6 (some .int), Cond.fieldLink RX3 58 "NoiseLampsModel" "pieces" "I", Cond.methodLink RX3 83 yX3_givesIn, Cond.instanceMethod yX3_givesIn]
def wsX3_needed_r2 : List Cond := [Cond.selects RX3 yX3_givesIn yX3_givesIn, Cond.code yX3_givesIn cX3_givesIn 14 (some .int), Cond.fieldLink RX3 16 "NoiseLampsModel" "levels" "[I", Cond.fieldLink RX3 7 "NoiseLampsModel" "pieceX" "[I", Cond.fieldLink RX3 19 "NoiseLampsModel" "houseX" "[I", Cond.fieldLink RX3 13 "NoiseLampsModel" "pieceY" "[I", Cond.fieldLink RX3 22 "NoiseLampsModel" "houseY" "[I", Cond.constantLong RX3 75 (400), Cond.fieldLink RX3 34 "NoiseLampsModel" "fall" "I", Cond.constantLong RX3 77 (4), Cond.methodLink RX3 79 yX3_crosses, Cond.instanceMethod yX3_crosses, Cond.selects RX3 yX3_crosses yX3_crosses, Cond.code yX3_crosses cX3_crosses 16 (some .boolean), Cond.fieldLink RX3 28 "NoiseLampsModel" "ends" "[I", Cond.methodLink RX3 67 yX3_side, Cond.static yX3_side, Cond.code yX3_side cX3_side 14 (some .int), Cond.methodLink RX3 71 yX3_isBetween, Cond.static yX3_isBetween, Cond.code yX3_isBetween cX3_isBetween 8 (some .boolean), Cond.methodLink RX3 87 yX3_join, Cond.static yX3_join, Cond.code yX3_join cX3_join 4 (some .int)]
def wsX3_needed : List Cond := .code yX3_needed cX3_needed 6 (some .int) :: ((wsX3_needed_r1 ++ wsX3_needed_r2) ++ wsX30)
def wsX3_recut : List Cond := .code yX3_recut cX3_recut 4 (some .int) :: ([.fieldLink RX3 31 "NoiseLampsModel" "cuts" "[I", .methodLink RX3 102 yX3_isWall, .instanceMethod yX3_isWall, .selects RX3 yX3_isWall yX3_isWall, .initialized RX3, .code yX3_isWall cX3_isWall 2 (some .boolean), .fieldLink RX3 64 "NoiseLampsModel" "walls" "I", .methodLink RX3 50 yX3_within, .static yX3_within, .code yX3_within cX3_within 3 (some .boolean)] ++ wsX30)
def wsX3_lamp : List Cond := .code yX3_lamp cX3_lamp 4 (some .int) :: ([.constant RX3 108 (100000), .fieldLink RX3 41 "NoiseLampsModel" "lights" "[I", .methodLink RX3 50 yX3_within, .static yX3_within, .initialized RX3, .code yX3_within cX3_within 3 (some .boolean)] ++ wsX30)
def wsX3_lightAt : List Cond := .code yX3_lightAt cX3_lightAt 4 (some .int) :: ([.fieldLink RX3 41 "NoiseLampsModel" "lights" "[I"] ++ wsX30)
def wsX3_shines : List Cond := .code yX3_shines cX3_shines 2 (some .int) :: ([.methodLink RX3 109 yX3_lightAt, .instanceMethod yX3_lightAt, .selects RX3 yX3_lightAt yX3_lightAt, .initialized RX3, .code yX3_lightAt cX3_lightAt 4 (some .int), .fieldLink RX3 41 "NoiseLampsModel" "lights" "[I"] ++ wsX30)
def wsX3_road : List Cond := .code yX3_road cX3_road 3 (some .int) :: ([.fieldLink RX3 112 "NoiseLampsModel" "length" "I", .methodLink RX3 50 yX3_within, .static yX3_within, .initialized RX3, .code yX3_within cX3_within 3 (some .boolean)] ++ wsX30)
def wsX3_dim : List Cond := .code yX3_dim cX3_dim 4 (some .int) :: ([.fieldLink RX3 44 "NoiseLampsModel" "dims" "[I", .methodLink RX3 50 yX3_within, .static yX3_within, .initialized RX3, .code yX3_within cX3_within 3 (some .boolean)] ++ wsX30)
def wsX3_sumAt : List Cond := .code yX3_sumAt cX3_sumAt 5 (some .int) :: ([.fieldLink RX3 112 "NoiseLampsModel" "length" "I", .methodLink RX3 109 yX3_lightAt, .instanceMethod yX3_lightAt, .selects RX3 yX3_lightAt yX3_lightAt, .initialized RX3, .code yX3_lightAt cX3_lightAt 4 (some .int), .fieldLink RX3 41 "NoiseLampsModel" "lights" "[I"] ++ wsX30)
def wsX3_isSpacing : List Cond := .code yX3_isSpacing cX3_isSpacing 1 (some .boolean) :: ([.methodLink RX3 50 yX3_within, .static yX3_within, .initialized RX3, .code yX3_within cX3_within 3 (some .boolean)])
def wsX3_at : List Cond := .code yX3_at cX3_at 5 (some .int) :: ([.fieldLink RX3 112 "NoiseLampsModel" "length" "I", .fieldLink RX3 44 "NoiseLampsModel" "dims" "[I", .constantLong RX3 121 (100), .methodLink RX3 50 yX3_within, .static yX3_within, .initialized RX3, .code yX3_within cX3_within 3 (some .boolean), .methodLink RX3 115 yX3_isSpacing, .static yX3_isSpacing, .code yX3_isSpacing cX3_isSpacing 1 (some .boolean), .methodLink RX3 118 yX3_sumAt, .instanceMethod yX3_sumAt, .selects RX3 yX3_sumAt yX3_sumAt, .code yX3_sumAt cX3_sumAt 5 (some .int), .methodLink RX3 109 yX3_lightAt, .instanceMethod yX3_lightAt, .selects RX3 yX3_lightAt yX3_lightAt, .code yX3_lightAt cX3_lightAt 4 (some .int), .fieldLink RX3 41 "NoiseLampsModel" "lights" "[I"] ++ wsX30)
def wsX3_meanOf : List Cond := .code yX3_meanOf cX3_meanOf 6 (some .int) :: ([.fieldLink RX3 112 "NoiseLampsModel" "length" "I", .constantLong RX3 121 (100), .methodLink RX3 118 yX3_sumAt, .instanceMethod yX3_sumAt, .selects RX3 yX3_sumAt yX3_sumAt, .initialized RX3, .code yX3_sumAt cX3_sumAt 5 (some .int), .methodLink RX3 109 yX3_lightAt, .instanceMethod yX3_lightAt, .selects RX3 yX3_lightAt yX3_lightAt, .code yX3_lightAt cX3_lightAt 4 (some .int), .fieldLink RX3 41 "NoiseLampsModel" "lights" "[I"] ++ wsX30)
def wsX3_leastOf : List Cond := .code yX3_leastOf cX3_leastOf 5 (some .int) :: ([.fieldLink RX3 112 "NoiseLampsModel" "length" "I", .methodLink RX3 118 yX3_sumAt, .instanceMethod yX3_sumAt, .selects RX3 yX3_sumAt yX3_sumAt, .initialized RX3, .code yX3_sumAt cX3_sumAt 5 (some .int), .methodLink RX3 109 yX3_lightAt, .instanceMethod yX3_lightAt, .selects RX3 yX3_lightAt yX3_lightAt, .code yX3_lightAt cX3_lightAt 4 (some .int), .fieldLink RX3 41 "NoiseLampsModel" "lights" "[I"] ++ wsX30)
def wsX3_evenness : List Cond := .code yX3_evenness cX3_evenness 3 (some .int) :: ([.constantLong RX3 126 (1000), .methodLink RX3 123 yX3_meanOf, .instanceMethod yX3_meanOf, .selects RX3 yX3_meanOf yX3_meanOf, .initialized RX3, .code yX3_meanOf cX3_meanOf 6 (some .int), .fieldLink RX3 112 "NoiseLampsModel" "length" "I", .constantLong RX3 121 (100), .methodLink RX3 118 yX3_sumAt, .instanceMethod yX3_sumAt, .selects RX3 yX3_sumAt yX3_sumAt, .code yX3_sumAt cX3_sumAt 5 (some .int), .methodLink RX3 109 yX3_lightAt, .instanceMethod yX3_lightAt, .selects RX3 yX3_lightAt yX3_lightAt, .code yX3_lightAt cX3_lightAt 4 (some .int), .fieldLink RX3 41 "NoiseLampsModel" "lights" "[I", .methodLink RX3 128 yX3_leastOf, .instanceMethod yX3_leastOf, .selects RX3 yX3_leastOf yX3_leastOf, .code yX3_leastOf cX3_leastOf 5 (some .int)] ++ wsX30)
def wsX3_poles : List Cond := .code yX3_poles cX3_poles 2 (some .int) :: ([.fieldLink RX3 112 "NoiseLampsModel" "length" "I"] ++ wsX30)
def wsX3_row_r1 : List Cond := [Cond.methodLink RX3 115 yX3_isSpacing, Cond.static yX3_isSpacing, Cond.initialized RX3, Cond.code yX3_isSpacing cX3_isSpacing 1 (some .boolean), Cond.methodLink RX3 50 yX3_within, Cond.static yX3_within, Cond.code yX3_within cX3_within 3 (some .boolean), Cond.methodLink RX3 128 yX3_leastOf, Cond.instanceMethod yX3_leastOf, Cond.selects RX3 yX3_leastOf yX3_leastOf, Cond.code yX3_leastOf cX3_leastOf 5 (some .int), Cond.fieldLink RX3 112 "NoiseLampsModel" "length" "I", Cond.methodLink RX3 118 yX3_sumAt, Cond.instanceMethod yX3_sumAt, Cond.selects RX3 yX3_sumAt yX3_sumAt, Cond.code yX3_sumAt cX3_sumAt 5 (some .int), Cond.methodLink RX3 109 yX3_lightAt, Cond.instanceMethod yX3_lightAt, Cond.selects RX3 yX3_lightAt yX3_lightAt, Cond.code yX3_lightAt cX3_lightAt 4 (some .int), Cond.fieldLink RX3 41 "NoiseLampsModel" "lights" "[I", Cond.methodLink RX3 123 yX3_meanOf, Cond.instanceMethod yX3_meanOf, Cond.selects RX3 yX3_meanOf yX3_meanOf]
def wsX3_row_r2 : List Cond := [Cond.code yX3_meanOf cX3_meanOf 6 (some .int), Cond.constantLong RX3 121 (100), Cond.methodLink RX3 131 yX3_evenness, Cond.instanceMethod yX3_evenness, Cond.selects RX3 yX3_evenness yX3_evenness, Cond.code yX3_evenness cX3_evenness 3 (some .int), Cond.constantLong RX3 126 (1000), Cond.methodLink RX3 134 yX3_poles, Cond.instanceMethod yX3_poles, Cond.selects RX3 yX3_poles yX3_poles, Cond.code yX3_poles cX3_poles 2 (some .int)]
def wsX3_row : List Cond := .code yX3_row cX3_row 3 (some .int) :: ((wsX3_row_r1 ++ wsX3_row_r2) ++ wsX30)
def wsX3_spacing_r1 : List Cond := [Cond.methodLink RX3 123 yX3_meanOf, Cond.instanceMethod yX3_meanOf, Cond.selects RX3 yX3_meanOf yX3_meanOf, Cond.initialized RX3, Cond.code yX3_meanOf cX3_meanOf 6 (some .int), Cond.fieldLink RX3 112 "NoiseLampsModel" "length" "I", Cond.constantLong RX3 121 (100), Cond.methodLink RX3 118 yX3_sumAt, Cond.instanceMethod yX3_sumAt, Cond.selects RX3 yX3_sumAt yX3_sumAt, Cond.code yX3_sumAt cX3_sumAt 5 (some .int), Cond.methodLink RX3 109 yX3_lightAt, Cond.instanceMethod yX3_lightAt, Cond.selects RX3 yX3_lightAt yX3_lightAt, Cond.code yX3_lightAt cX3_lightAt 4 (some .int), Cond.fieldLink RX3 41 "NoiseLampsModel" "lights" "[I", Cond.methodLink RX3 131 yX3_evenness, Cond.instanceMethod yX3_evenness, Cond.selects RX3 yX3_evenness yX3_evenness, Cond.code yX3_evenness cX3_evenness 3 (some .int), Cond.constantLong RX3 126 (1000), Cond.methodLink RX3 128 yX3_leastOf, Cond.instanceMethod yX3_leastOf, Cond.selects RX3 yX3_leastOf yX3_leastOf]
def wsX3_spacing_r2 : List Cond := [Cond.code yX3_leastOf cX3_leastOf 5 (some .int)]
def wsX3_spacing : List Cond := .code yX3_spacing cX3_spacing 4 (some .int) :: ((wsX3_spacing_r1 ++ wsX3_spacing_r2) ++ wsX30)
def wsX3_dark : List Cond := .code yX3_dark cX3_dark 5 (some .int) :: ([.fieldLink RX3 44 "NoiseLampsModel" "dims" "[I", .methodLink RX3 115 yX3_isSpacing, .static yX3_isSpacing, .initialized RX3, .code yX3_isSpacing cX3_isSpacing 1 (some .boolean), .methodLink RX3 50 yX3_within, .static yX3_within, .code yX3_within cX3_within 3 (some .boolean), .methodLink RX3 123 yX3_meanOf, .instanceMethod yX3_meanOf, .selects RX3 yX3_meanOf yX3_meanOf, .code yX3_meanOf cX3_meanOf 6 (some .int), .fieldLink RX3 112 "NoiseLampsModel" "length" "I", .constantLong RX3 121 (100), .methodLink RX3 118 yX3_sumAt, .instanceMethod yX3_sumAt, .selects RX3 yX3_sumAt yX3_sumAt, .code yX3_sumAt cX3_sumAt 5 (some .int), .methodLink RX3 109 yX3_lightAt, .instanceMethod yX3_lightAt, .selects RX3 yX3_lightAt yX3_lightAt, .code yX3_lightAt cX3_lightAt 4 (some .int), .fieldLink RX3 41 "NoiseLampsModel" "lights" "[I"] ++ wsX30)
def wsX3_dropOf : List Cond := .code yX3_dropOf cX3_dropOf 7 (some .long) :: ([.constantLong RX3 137 (1000000), .methodLink RX3 134 yX3_poles, .instanceMethod yX3_poles, .selects RX3 yX3_poles yX3_poles, .initialized RX3, .code yX3_poles cX3_poles 2 (some .int), .fieldLink RX3 112 "NoiseLampsModel" "length" "I"] ++ wsX30)
def wsX3_isWire : List Cond := .code yX3_isWire cX3_isWire 2 (some .boolean) :: ([.methodLink RX3 50 yX3_within, .static yX3_within, .initialized RX3, .code yX3_within cX3_within 3 (some .boolean)])
def wsX3_drop : List Cond := .code yX3_drop cX3_drop 4 (some .int) :: ([.methodLink RX3 115 yX3_isSpacing, .static yX3_isSpacing, .initialized RX3, .code yX3_isSpacing cX3_isSpacing 1 (some .boolean), .methodLink RX3 50 yX3_within, .static yX3_within, .code yX3_within cX3_within 3 (some .boolean), .methodLink RX3 139 yX3_isWire, .static yX3_isWire, .code yX3_isWire cX3_isWire 2 (some .boolean), .methodLink RX3 142 yX3_dropOf, .instanceMethod yX3_dropOf, .selects RX3 yX3_dropOf yX3_dropOf, .code yX3_dropOf cX3_dropOf 7 (some .long), .constantLong RX3 137 (1000000), .methodLink RX3 134 yX3_poles, .instanceMethod yX3_poles, .selects RX3 yX3_poles yX3_poles, .code yX3_poles cX3_poles 2 (some .int), .fieldLink RX3 112 "NoiseLampsModel" "length" "I"] ++ wsX30)
def wsX3_wired : List Cond := .code yX3_wired cX3_wired 5 (some .int) :: ([.methodLink RX3 139 yX3_isWire, .static yX3_isWire, .initialized RX3, .code yX3_isWire cX3_isWire 2 (some .boolean), .methodLink RX3 50 yX3_within, .static yX3_within, .code yX3_within cX3_within 3 (some .boolean), .methodLink RX3 142 yX3_dropOf, .instanceMethod yX3_dropOf, .selects RX3 yX3_dropOf yX3_dropOf, .code yX3_dropOf cX3_dropOf 7 (some .long), .constantLong RX3 137 (1000000), .methodLink RX3 134 yX3_poles, .instanceMethod yX3_poles, .selects RX3 yX3_poles yX3_poles, .code yX3_poles cX3_poles 2 (some .int), .fieldLink RX3 112 "NoiseLampsModel" "length" "I"] ++ wsX30)
def wsX3_count : List Cond := .code yX3_count cX3_count 4 (some .int) :: ([.fieldLink RX3 58 "NoiseLampsModel" "pieces" "I", .fieldLink RX3 61 "NoiseLampsModel" "houses" "I", .fieldLink RX3 64 "NoiseLampsModel" "walls" "I", .fieldLink RX3 25 "NoiseLampsModel" "people" "[I", .fieldLink RX3 41 "NoiseLampsModel" "lights" "[I", .fieldLink RX3 112 "NoiseLampsModel" "length" "I"] ++ wsX30)
def wsJ9_abs_0f7a4 : List Cond := .code yJ9_abs_0f7a4 cJ9_abs_0f7a4 1 (some .int) :: ([])
def wsJ9_max_7cf53 : List Cond := .code yJ9_max_7cf53 cJ9_max_7cf53 2 (some .int) :: ([])
def wsJ9_min_7cf53 : List Cond := .code yJ9_min_7cf53 cJ9_min_7cf53 2 (some .int) :: ([])
def wsL_law_r1 : List Cond := [Cond.classLink RL 7 RX2, Cond.instantiable RX2 2, Cond.initialized RX2, Cond.classLink RL 10 RX3, Cond.instantiable RX3 17, Cond.initialized RX3, Cond.methodLink RL 9 yX2_init, Cond.instanceMethod yX2_init, Cond.code yX2_init cX2_init 1 none, Cond.methodLink RX2 1 objectInit, Cond.instanceMethod objectInit, Cond.code objectInit ⟨#[0xb1]⟩ 1 none, Cond.classLink RX2 7 RX1, Cond.instantiable RX1 19, Cond.initialized RX1, Cond.fieldLink RX2 10 "NoiseLamps" "noise" "LNoiseLamps$Noise;", Cond.classLink RX2 16 RX0, Cond.instantiable RX0 4, Cond.initialized RX0, Cond.fieldLink RX2 19 "NoiseLamps" "lamps" "LNoiseLamps$Lamps;", Cond.methodLink RX2 9 yX1_init, Cond.instanceMethod yX1_init, Cond.code yX1_init cX1_init 1 none, Cond.methodLink RX1 3 objectInit]
def wsL_law_r2 : List Cond := [Cond.arrayClass .int, Cond.fieldLink RX1 11 "NoiseLamps$Noise" "pieceX" "[I", Cond.fieldLink RX1 15 "NoiseLamps$Noise" "pieceY" "[I", Cond.fieldLink RX1 18 "NoiseLamps$Noise" "pieceLevel" "[I", Cond.fieldLink RX1 21 "NoiseLamps$Noise" "houseX" "[I", Cond.fieldLink RX1 24 "NoiseLamps$Noise" "houseY" "[I", Cond.fieldLink RX1 27 "NoiseLamps$Noise" "housePeople" "[I", Cond.fieldLink RX1 30 "NoiseLamps$Noise" "wallX0" "[I", Cond.fieldLink RX1 33 "NoiseLamps$Noise" "wallY0" "[I", Cond.fieldLink RX1 36 "NoiseLamps$Noise" "wallX1" "[I", Cond.fieldLink RX1 39 "NoiseLamps$Noise" "wallY1" "[I", Cond.fieldLink RX1 42 "NoiseLamps$Noise" "wallCut" "[I", Cond.fieldLink RX1 45 "NoiseLamps$Noise" "malus" "[I", Cond.fieldLink RX1 48 "NoiseLamps$Noise" "doublings" "[I", Cond.fieldLink RX1 51 "NoiseLamps$Noise" "wallsBetween" "[I", Cond.fieldLink RX1 54 "NoiseLamps$Noise" "allDayLevels" "[I", Cond.fieldLink RX1 57 "NoiseLamps$Noise" "fall" "I", Cond.methodLink RX2 18 yX0_init, Cond.instanceMethod yX0_init, Cond.code yX0_init cX0_init 2 none, Cond.methodLink RX0 3 objectInit, Cond.fieldLink RX0 9 "NoiseLamps$Lamps" "light" "[I", Cond.fieldLink RX0 15 "NoiseLamps$Lamps" "percents" "[I", Cond.fieldLink RX0 18 "NoiseLamps$Lamps" "placeLight" "[I"]
def wsL_law_r3 : List Cond := [Cond.methodLink RL 12 yX3_init, Cond.instanceMethod yX3_init, Cond.code yX3_init cX3_init 2 none, Cond.methodLink RX3 1 objectInit, Cond.fieldLink RX3 7 "NoiseLampsModel" "pieceX" "[I", Cond.fieldLink RX3 13 "NoiseLampsModel" "pieceY" "[I", Cond.fieldLink RX3 16 "NoiseLampsModel" "levels" "[I", Cond.fieldLink RX3 19 "NoiseLampsModel" "houseX" "[I", Cond.fieldLink RX3 22 "NoiseLampsModel" "houseY" "[I", Cond.fieldLink RX3 25 "NoiseLampsModel" "people" "[I", Cond.fieldLink RX3 28 "NoiseLampsModel" "ends" "[I", Cond.fieldLink RX3 31 "NoiseLampsModel" "cuts" "[I", Cond.fieldLink RX3 34 "NoiseLampsModel" "fall" "I", Cond.fieldLink RX3 38 "NoiseLampsModel" "malus" "[I", Cond.fieldLink RX3 41 "NoiseLampsModel" "lights" "[I", Cond.fieldLink RX3 44 "NoiseLampsModel" "dims" "[I", Cond.fieldLink RX3 47 "NoiseLampsModel" "days" "[I", Cond.methodLink RL 13 yX2_piece, Cond.instanceMethod yX2_piece, Cond.selects RX2 yX2_piece yX2_piece, Cond.code yX2_piece cX2_piece 6 (some .int), Cond.methodLink RX2 23 yX2_isPoint, Cond.static yX2_isPoint, Cond.code yX2_isPoint cX2_isPoint 2 (some .boolean)]
def wsL_law_r4 : List Cond := [Cond.methodLink RX2 35 yX2_isWithin, Cond.static yX2_isWithin, Cond.code yX2_isWithin cX2_isWithin 3 (some .boolean), Cond.methodLink RX2 27 yX2_isLevel, Cond.static yX2_isLevel, Cond.code yX2_isLevel cX2_isLevel 1 (some .boolean), Cond.methodLink RX2 31 yX1_addPiece, Cond.instanceMethod yX1_addPiece, Cond.selects RX1 yX1_addPiece yX1_addPiece, Cond.code yX1_addPiece cX1_addPiece 8 (some .int), Cond.fieldLink RX1 61 "NoiseLamps$Noise" "pieces" "I", Cond.fieldLink RX1 64 "NoiseLamps$Noise" "houses" "I", Cond.methodLink RX1 70 yX1_measurePair, Cond.instanceMethod yX1_measurePair, Cond.selects RX1 yX1_measurePair yX1_measurePair, Cond.code yX1_measurePair cX1_measurePair 6 none, Cond.fieldLink RX1 67 "NoiseLamps$Noise" "walls" "I", Cond.methodLink RX1 82 yX1_pairOf, Cond.static yX1_pairOf, Cond.code yX1_pairOf cX1_pairOf 2 (some .int), Cond.methodLink RX1 111 yX1_doublingsOf, Cond.static yX1_doublingsOf, Cond.code yX1_doublingsOf cX1_doublingsOf 3 (some .int), Cond.methodLink RX1 74 yX1_noteIfBetween]
def wsL_law_r5 : List Cond := [Cond.instanceMethod yX1_noteIfBetween, Cond.selects RX1 yX1_noteIfBetween yX1_noteIfBetween, Cond.code yX1_noteIfBetween cX1_noteIfBetween 4 none, Cond.methodLink RX1 114 yX1_isBetween, Cond.instanceMethod yX1_isBetween, Cond.selects RX1 yX1_isBetween yX1_isBetween, Cond.code yX1_isBetween cX1_isBetween 12 (some .boolean), Cond.methodLink RX1 118 yX1_spansMeet, Cond.static yX1_spansMeet, Cond.code yX1_spansMeet cX1_spansMeet 4 (some .boolean), Cond.methodLink RX1 89 Lib.Math.max.name, Cond.static Lib.Math.max.name, Cond.initialized "java/lang/Math", Cond.code Lib.Math.max.name Lib.Math.max.code 2 (some .int), Cond.methodLink RX1 136 Lib.Math.min.name, Cond.static Lib.Math.min.name, Cond.code Lib.Math.min.name Lib.Math.min.code 2 (some .int), Cond.methodLink RX1 122 yX1_turn, Cond.static yX1_turn, Cond.code yX1_turn cX1_turn 6 (some .int), Cond.methodLink RX1 126 yX1_onOneSide, Cond.static yX1_onOneSide, Cond.code yX1_onOneSide cX1_onOneSide 2 (some .boolean), Cond.methodLink RL 17 yX3_piece]
def wsL_law_r6 : List Cond := [Cond.instanceMethod yX3_piece, Cond.selects RX3 yX3_piece yX3_piece, Cond.code yX3_piece cX3_piece 7 (some .int), Cond.fieldLink RX3 58 "NoiseLampsModel" "pieces" "I", Cond.methodLink RX3 54 yX3_isPoint, Cond.static yX3_isPoint, Cond.code yX3_isPoint cX3_isPoint 2 (some .boolean), Cond.methodLink RX3 50 yX3_within, Cond.static yX3_within, Cond.code yX3_within cX3_within 3 (some .boolean), Cond.methodLink RL 18 yX2_house, Cond.instanceMethod yX2_house, Cond.selects RX2 yX2_house yX2_house, Cond.code yX2_house cX2_house 4 (some .int), Cond.methodLink RX2 39 yX1_addHouse, Cond.instanceMethod yX1_addHouse, Cond.selects RX1 yX1_addHouse yX1_addHouse, Cond.code yX1_addHouse cX1_addHouse 6 (some .int), Cond.methodLink RL 22 yX3_house, Cond.instanceMethod yX3_house, Cond.selects RX3 yX3_house yX3_house, Cond.code yX3_house cX3_house 4 (some .int), Cond.fieldLink RX3 61 "NoiseLampsModel" "houses" "I", Cond.methodLink RL 23 yX2_wall]
def wsL_law_r7 : List Cond := [Cond.instanceMethod yX2_wall, Cond.selects RX2 yX2_wall yX2_wall, Cond.code yX2_wall cX2_wall 7 (some .int), Cond.methodLink RX2 43 yX2_isCut, Cond.static yX2_isCut, Cond.code yX2_isCut cX2_isCut 1 (some .boolean), Cond.methodLink RX2 46 yX1_addWall, Cond.instanceMethod yX1_addWall, Cond.selects RX1 yX1_addWall yX1_addWall, Cond.code yX1_addWall cX1_addWall 9 (some .int), Cond.methodLink RL 26 yX3_wall, Cond.instanceMethod yX3_wall, Cond.selects RX3 yX3_wall yX3_wall, Cond.code yX3_wall cX3_wall 7 (some .int), Cond.fieldLink RX3 64 "NoiseLampsModel" "walls" "I", Cond.methodLink RL 27 yX2_fall, Cond.instanceMethod yX2_fall, Cond.selects RX2 yX2_fall yX2_fall, Cond.code yX2_fall cX2_fall 2 (some .int), Cond.methodLink RX2 49 yX1_changeFall, Cond.instanceMethod yX1_changeFall, Cond.selects RX1 yX1_changeFall yX1_changeFall, Cond.code yX1_changeFall cX1_changeFall 3 (some .int), Cond.methodLink RL 31 yX3_fall]
def wsL_law_r8 : List Cond := [Cond.instanceMethod yX3_fall, Cond.selects RX3 yX3_fall yX3_fall, Cond.code yX3_fall cX3_fall 3 (some .int), Cond.methodLink RL 32 yX2_malus, Cond.instanceMethod yX2_malus, Cond.selects RX2 yX2_malus yX2_malus, Cond.code yX2_malus cX2_malus 3 (some .int), Cond.methodLink RX2 53 yX2_isPart, Cond.static yX2_isPart, Cond.code yX2_isPart cX2_isPart 1 (some .boolean), Cond.methodLink RX2 56 yX1_changeMalus, Cond.instanceMethod yX1_changeMalus, Cond.selects RX1 yX1_changeMalus yX1_changeMalus, Cond.code yX1_changeMalus cX1_changeMalus 4 (some .int), Cond.methodLink RL 36 yX3_malus, Cond.instanceMethod yX3_malus, Cond.selects RX3 yX3_malus yX3_malus, Cond.code yX3_malus cX3_malus 4 (some .int), Cond.methodLink RL 37 yX2_gives, Cond.instanceMethod yX2_gives, Cond.selects RX2 yX2_gives yX2_gives, Cond.code yX2_gives cX2_gives 4 (some .int), Cond.methodLink RX2 60 yX1_hasPiece, Cond.instanceMethod yX1_hasPiece]
def wsL_law_r9 : List Cond := [Cond.selects RX1 yX1_hasPiece yX1_hasPiece, Cond.code yX1_hasPiece cX1_hasPiece 2 (some .boolean), Cond.methodLink RX2 63 yX1_hasHouse, Cond.instanceMethod yX1_hasHouse, Cond.selects RX1 yX1_hasHouse yX1_hasHouse, Cond.code yX1_hasHouse cX1_hasHouse 2 (some .boolean), Cond.methodLink RX2 66 yX1_given, Cond.instanceMethod yX1_given, Cond.selects RX1 yX1_given yX1_given, Cond.code yX1_given cX1_given 6 (some .int), Cond.methodLink RX1 86 yX1_greatestCut, Cond.instanceMethod yX1_greatestCut, Cond.selects RX1 yX1_greatestCut yX1_greatestCut, Cond.code yX1_greatestCut cX1_greatestCut 5 (some .int), Cond.methodLink RL 40 yX3_gives, Cond.instanceMethod yX3_gives, Cond.selects RX3 yX3_gives yX3_gives, Cond.code yX3_gives cX3_gives 4 (some .int), Cond.methodLink RX3 94 yX3_isHouse, Cond.instanceMethod yX3_isHouse, Cond.selects RX3 yX3_isHouse yX3_isHouse, Cond.code yX3_isHouse cX3_isHouse 2 (some .boolean), Cond.methodLink RX3 83 yX3_givesIn, Cond.instanceMethod yX3_givesIn]
def wsL_law_r10 : List Cond := [Cond.selects RX3 yX3_givesIn yX3_givesIn, Cond.code yX3_givesIn cX3_givesIn 14 (some .int), Cond.constantLong RX3 75 (400), Cond.constantLong RX3 77 (4), Cond.methodLink RX3 79 yX3_crosses, Cond.instanceMethod yX3_crosses, Cond.selects RX3 yX3_crosses yX3_crosses, Cond.code yX3_crosses cX3_crosses 16 (some .boolean), Cond.methodLink RX3 67 yX3_side, Cond.static yX3_side, Cond.code yX3_side cX3_side 14 (some .int), Cond.methodLink RX3 71 yX3_isBetween, Cond.static yX3_isBetween, Cond.code yX3_isBetween cX3_isBetween 8 (some .boolean), Cond.methodLink RL 41 yX2_level, Cond.instanceMethod yX2_level, Cond.selects RX2 yX2_level yX2_level, Cond.code yX2_level cX2_level 3 (some .int), Cond.methodLink RX2 69 yX1_allDayLevel, Cond.instanceMethod yX1_allDayLevel, Cond.selects RX1 yX1_allDayLevel yX1_allDayLevel, Cond.code yX1_allDayLevel cX1_allDayLevel 5 (some .int), Cond.methodLink RX1 101 yX1_partLevel, Cond.instanceMethod yX1_partLevel]
def wsL_law_r11 : List Cond := [Cond.selects RX1 yX1_partLevel yX1_partLevel, Cond.code yX1_partLevel cX1_partLevel 5 (some .int), Cond.methodLink RX1 94 yX1_given, Cond.methodLink RX1 98 yX1_join, Cond.static yX1_join, Cond.code yX1_join cX1_join 2 (some .int), Cond.methodLink RX1 130 Lib.Math.abs.name, Cond.static Lib.Math.abs.name, Cond.code Lib.Math.abs.name Lib.Math.abs.code 1 (some .int), Cond.methodLink RX1 133 yX1_moreByJoining, Cond.static yX1_moreByJoining, Cond.code yX1_moreByJoining cX1_moreByJoining 1 (some .int), Cond.methodLink RX2 72 yX1_partLevel, Cond.methodLink RL 44 yX3_level, Cond.instanceMethod yX3_level, Cond.selects RX3 yX3_level yX3_level, Cond.code yX3_level cX3_level 3 (some .int), Cond.methodLink RX3 98 yX3_allDay, Cond.instanceMethod yX3_allDay, Cond.selects RX3 yX3_allDay yX3_allDay, Cond.code yX3_allDay cX3_allDay 5 (some .int), Cond.methodLink RX3 91 yX3_levelIn, Cond.instanceMethod yX3_levelIn, Cond.selects RX3 yX3_levelIn yX3_levelIn]
def wsL_law_r12 : List Cond := [Cond.code yX3_levelIn cX3_levelIn 6 (some .int), Cond.methodLink RX3 87 yX3_join, Cond.static yX3_join, Cond.code yX3_join cX3_join 4 (some .int), Cond.methodLink RL 45 yX2_people, Cond.instanceMethod yX2_people, Cond.selects RX2 yX2_people yX2_people, Cond.code yX2_people cX2_people 2 (some .int), Cond.methodLink RX2 75 yX1_peopleAbove, Cond.instanceMethod yX1_peopleAbove, Cond.selects RX1 yX1_peopleAbove yX1_peopleAbove, Cond.code yX1_peopleAbove cX1_peopleAbove 4 (some .int), Cond.methodLink RX1 78 yX1_allDayLevel, Cond.methodLink RL 48 yX3_people, Cond.instanceMethod yX3_people, Cond.selects RX3 yX3_people yX3_people, Cond.code yX3_people cX3_people 4 (some .int), Cond.methodLink RL 49 yX2_loudest, Cond.instanceMethod yX2_loudest, Cond.selects RX2 yX2_loudest yX2_loudest, Cond.code yX2_loudest cX2_loudest 3 (some .int), Cond.methodLink RX2 78 yX1_loudestPiece, Cond.instanceMethod yX1_loudestPiece, Cond.selects RX1 yX1_loudestPiece yX1_loudestPiece]
def wsL_law_r13 : List Cond := [Cond.code yX1_loudestPiece cX1_loudestPiece 7 (some .int), Cond.methodLink RL 52 yX3_loudest, Cond.instanceMethod yX3_loudest, Cond.selects RX3 yX3_loudest yX3_loudest, Cond.code yX3_loudest cX3_loudest 7 (some .int), Cond.methodLink RL 53 yX2_ranked, Cond.instanceMethod yX2_ranked, Cond.selects RX2 yX2_ranked yX2_ranked, Cond.code yX2_ranked cX2_ranked 2 (some .int), Cond.methodLink RX2 81 yX1_houseOfRank, Cond.instanceMethod yX1_houseOfRank, Cond.selects RX1 yX1_houseOfRank yX1_houseOfRank, Cond.code yX1_houseOfRank cX1_houseOfRank 3 (some .int), Cond.methodLink RX1 104 yX1_housesAhead, Cond.instanceMethod yX1_housesAhead, Cond.selects RX1 yX1_housesAhead yX1_housesAhead, Cond.code yX1_housesAhead cX1_housesAhead 5 (some .int), Cond.methodLink RL 56 yX3_ranked, Cond.instanceMethod yX3_ranked, Cond.selects RX3 yX3_ranked yX3_ranked, Cond.code yX3_ranked cX3_ranked 5 (some .int), Cond.methodLink RL 57 yX2_needed, Cond.instanceMethod yX2_needed, Cond.selects RX2 yX2_needed yX2_needed]
def wsL_law_r14 : List Cond := [Cond.code yX2_needed cX2_needed 3 (some .int), Cond.methodLink RX2 84 yX1_hasWall, Cond.instanceMethod yX1_hasWall, Cond.selects RX1 yX1_hasWall yX1_hasWall, Cond.code yX1_hasWall cX1_hasWall 2 (some .boolean), Cond.methodLink RX2 87 yX1_leastCut, Cond.instanceMethod yX1_leastCut, Cond.selects RX1 yX1_leastCut yX1_leastCut, Cond.code yX1_leastCut cX1_leastCut 6 (some .int), Cond.methodLink RX1 107 yX1_noneAbove, Cond.instanceMethod yX1_noneAbove, Cond.selects RX1 yX1_noneAbove yX1_noneAbove, Cond.code yX1_noneAbove cX1_noneAbove 3 (some .boolean), Cond.methodLink RL 60 yX3_needed, Cond.instanceMethod yX3_needed, Cond.selects RX3 yX3_needed yX3_needed, Cond.code yX3_needed cX3_needed 6 (some .int), Cond.methodLink RX3 102 yX3_isWall, Cond.instanceMethod yX3_isWall, Cond.selects RX3 yX3_isWall yX3_isWall, Cond.code yX3_isWall cX3_isWall 2 (some .boolean), Cond.methodLink RX3 105 yX3_isQuiet, Cond.instanceMethod yX3_isQuiet, Cond.selects RX3 yX3_isQuiet yX3_isQuiet]
def wsL_law_r15 : List Cond := [Cond.code yX3_isQuiet cX3_isQuiet 4 (some .boolean), Cond.methodLink RL 61 yX2_recut, Cond.instanceMethod yX2_recut, Cond.selects RX2 yX2_recut yX2_recut, Cond.code yX2_recut cX2_recut 3 (some .int), Cond.methodLink RX2 90 yX1_changeCut, Cond.instanceMethod yX1_changeCut, Cond.selects RX1 yX1_changeCut yX1_changeCut, Cond.code yX1_changeCut cX1_changeCut 4 (some .int), Cond.methodLink RL 64 yX3_recut, Cond.instanceMethod yX3_recut, Cond.selects RX3 yX3_recut yX3_recut, Cond.code yX3_recut cX3_recut 4 (some .int), Cond.methodLink RL 65 yX2_lamp, Cond.instanceMethod yX2_lamp, Cond.selects RX2 yX2_lamp yX2_lamp, Cond.code yX2_lamp cX2_lamp 4 (some .int), Cond.constant RX2 93 (100000), Cond.methodLink RX2 94 yX0_changeLight, Cond.instanceMethod yX0_changeLight, Cond.selects RX0 yX0_changeLight yX0_changeLight, Cond.code yX0_changeLight cX0_changeLight 4 (some .int), Cond.methodLink RL 68 yX3_lamp, Cond.instanceMethod yX3_lamp]
def wsL_law_r16 : List Cond := [Cond.selects RX3 yX3_lamp yX3_lamp, Cond.code yX3_lamp cX3_lamp 4 (some .int), Cond.constant RX3 108 (100000), Cond.methodLink RL 69 yX2_shines, Cond.instanceMethod yX2_shines, Cond.selects RX2 yX2_shines yX2_shines, Cond.code yX2_shines cX2_shines 2 (some .int), Cond.methodLink RX2 97 yX0_lightFrom, Cond.instanceMethod yX0_lightFrom, Cond.selects RX0 yX0_lightFrom yX0_lightFrom, Cond.code yX0_lightFrom cX0_lightFrom 4 (some .int), Cond.methodLink RL 72 yX3_shines, Cond.instanceMethod yX3_shines, Cond.selects RX3 yX3_shines yX3_shines, Cond.code yX3_shines cX3_shines 2 (some .int), Cond.methodLink RX3 109 yX3_lightAt, Cond.instanceMethod yX3_lightAt, Cond.selects RX3 yX3_lightAt yX3_lightAt, Cond.code yX3_lightAt cX3_lightAt 4 (some .int), Cond.methodLink RL 73 yX2_road, Cond.instanceMethod yX2_road, Cond.selects RX2 yX2_road yX2_road, Cond.code yX2_road cX2_road 2 (some .int), Cond.methodLink RX2 100 yX0_changeLength]
def wsL_law_r17 : List Cond := [Cond.instanceMethod yX0_changeLength, Cond.selects RX0 yX0_changeLength yX0_changeLength, Cond.code yX0_changeLength cX0_changeLength 3 (some .int), Cond.fieldLink RX0 21 "NoiseLamps$Lamps" "length" "I", Cond.methodLink RL 76 yX3_road, Cond.instanceMethod yX3_road, Cond.selects RX3 yX3_road yX3_road, Cond.code yX3_road cX3_road 3 (some .int), Cond.fieldLink RX3 112 "NoiseLampsModel" "length" "I", Cond.methodLink RL 77 yX2_dim, Cond.instanceMethod yX2_dim, Cond.selects RX2 yX2_dim yX2_dim, Cond.code yX2_dim cX2_dim 3 (some .int), Cond.methodLink RX2 103 yX2_isHour, Cond.static yX2_isHour, Cond.code yX2_isHour cX2_isHour 1 (some .boolean), Cond.methodLink RX2 106 yX0_changePercent, Cond.instanceMethod yX0_changePercent, Cond.selects RX0 yX0_changePercent yX0_changePercent, Cond.code yX0_changePercent cX0_changePercent 4 (some .int), Cond.methodLink RL 80 yX3_dim, Cond.instanceMethod yX3_dim, Cond.selects RX3 yX3_dim yX3_dim, Cond.code yX3_dim cX3_dim 4 (some .int)]
def wsL_law_r18 : List Cond := [Cond.methodLink RL 81 yX2_at, Cond.instanceMethod yX2_at, Cond.selects RX2 yX2_at yX2_at, Cond.code yX2_at cX2_at 4 (some .int), Cond.methodLink RX2 109 yX0_roadLength, Cond.instanceMethod yX0_roadLength, Cond.selects RX0 yX0_roadLength yX0_roadLength, Cond.code yX0_roadLength cX0_roadLength 1 (some .int), Cond.methodLink RX2 113 yX2_isSpacing, Cond.static yX2_isSpacing, Cond.code yX2_isSpacing cX2_isSpacing 1 (some .boolean), Cond.methodLink RX2 116 yX0_dimmedLight, Cond.instanceMethod yX0_dimmedLight, Cond.selects RX0 yX0_dimmedLight yX0_dimmedLight, Cond.code yX0_dimmedLight cX0_dimmedLight 4 (some .int), Cond.methodLink RX0 25 yX0_lightAt, Cond.instanceMethod yX0_lightAt, Cond.selects RX0 yX0_lightAt yX0_lightAt, Cond.code yX0_lightAt cX0_lightAt 6 (some .int), Cond.methodLink RX0 58 Lib.Math.min.name, Cond.methodLink RX0 66 Lib.Math.abs.name, Cond.methodLink RX0 63 yX0_firstPoleInReach, Cond.static yX0_firstPoleInReach, Cond.code yX0_firstPoleInReach cX0_firstPoleInReach 3 (some .int)]
def wsL_law_r19 : List Cond := [Cond.methodLink RX0 69 yX0_lightFrom, Cond.methodLink RX0 29 yX0_dimmed, Cond.static yX0_dimmed, Cond.code yX0_dimmed cX0_dimmed 2 (some .int), Cond.methodLink RL 84 yX3_at, Cond.instanceMethod yX3_at, Cond.selects RX3 yX3_at yX3_at, Cond.code yX3_at cX3_at 5 (some .int), Cond.constantLong RX3 121 (100), Cond.methodLink RX3 115 yX3_isSpacing, Cond.static yX3_isSpacing, Cond.code yX3_isSpacing cX3_isSpacing 1 (some .boolean), Cond.methodLink RX3 118 yX3_sumAt, Cond.instanceMethod yX3_sumAt, Cond.selects RX3 yX3_sumAt yX3_sumAt, Cond.code yX3_sumAt cX3_sumAt 5 (some .int), Cond.methodLink RL 85 yX2_row, Cond.instanceMethod yX2_row, Cond.selects RX2 yX2_row yX2_row, Cond.code yX2_row cX2_row 3 (some .int), Cond.methodLink RX2 119 yX0_leastLight, Cond.instanceMethod yX0_leastLight, Cond.selects RX0 yX0_leastLight yX0_leastLight, Cond.code yX0_leastLight cX0_leastLight 2 (some .int)]
def wsL_law_r20 : List Cond := [Cond.methodLink RX0 32 yX0_lightPlaces, Cond.instanceMethod yX0_lightPlaces, Cond.selects RX0 yX0_lightPlaces yX0_lightPlaces, Cond.code yX0_lightPlaces cX0_lightPlaces 3 none, Cond.methodLink RX0 72 yX0_places, Cond.instanceMethod yX0_places, Cond.selects RX0 yX0_places yX0_places, Cond.code yX0_places cX0_places 1 (some .int), Cond.methodLink RX0 36 yX0_leastOfPlaces, Cond.instanceMethod yX0_leastOfPlaces, Cond.selects RX0 yX0_leastOfPlaces yX0_leastOfPlaces, Cond.code yX0_leastOfPlaces cX0_leastOfPlaces 3 (some .int), Cond.methodLink RX2 122 yX0_meanLight, Cond.instanceMethod yX0_meanLight, Cond.selects RX0 yX0_meanLight yX0_meanLight, Cond.code yX0_meanLight cX0_meanLight 2 (some .int), Cond.methodLink RX0 40 yX0_meanOfPlaces, Cond.instanceMethod yX0_meanOfPlaces, Cond.selects RX0 yX0_meanOfPlaces yX0_meanOfPlaces, Cond.code yX0_meanOfPlaces cX0_meanOfPlaces 5 (some .int), Cond.methodLink RX2 125 yX0_evenness, Cond.instanceMethod yX0_evenness, Cond.selects RX0 yX0_evenness yX0_evenness, Cond.code yX0_evenness cX0_evenness 2 (some .int)]
def wsL_law_r21 : List Cond := [Cond.methodLink RX0 44 yX0_evennessOfPlaces, Cond.instanceMethod yX0_evennessOfPlaces, Cond.selects RX0 yX0_evennessOfPlaces yX0_evennessOfPlaces, Cond.code yX0_evennessOfPlaces cX0_evennessOfPlaces 2 (some .int), Cond.constantLong RX0 75 (1000), Cond.methodLink RX2 128 yX0_poles, Cond.instanceMethod yX0_poles, Cond.selects RX0 yX0_poles yX0_poles, Cond.code yX0_poles cX0_poles 2 (some .int), Cond.methodLink RL 88 yX3_row, Cond.instanceMethod yX3_row, Cond.selects RX3 yX3_row yX3_row, Cond.code yX3_row cX3_row 3 (some .int), Cond.methodLink RX3 128 yX3_leastOf, Cond.instanceMethod yX3_leastOf, Cond.selects RX3 yX3_leastOf yX3_leastOf, Cond.code yX3_leastOf cX3_leastOf 5 (some .int), Cond.methodLink RX3 123 yX3_meanOf, Cond.instanceMethod yX3_meanOf, Cond.selects RX3 yX3_meanOf yX3_meanOf, Cond.code yX3_meanOf cX3_meanOf 6 (some .int), Cond.methodLink RX3 131 yX3_evenness, Cond.instanceMethod yX3_evenness, Cond.selects RX3 yX3_evenness yX3_evenness]
def wsL_law_r22 : List Cond := [Cond.code yX3_evenness cX3_evenness 3 (some .int), Cond.constantLong RX3 126 (1000), Cond.methodLink RX3 134 yX3_poles, Cond.instanceMethod yX3_poles, Cond.selects RX3 yX3_poles yX3_poles, Cond.code yX3_poles cX3_poles 2 (some .int), Cond.methodLink RL 89 yX2_spacing, Cond.instanceMethod yX2_spacing, Cond.selects RX2 yX2_spacing yX2_spacing, Cond.code yX2_spacing cX2_spacing 3 (some .int), Cond.methodLink RX2 131 yX0_widestGoodSpacing, Cond.instanceMethod yX0_widestGoodSpacing, Cond.selects RX0 yX0_widestGoodSpacing yX0_widestGoodSpacing, Cond.code yX0_widestGoodSpacing cX0_widestGoodSpacing 4 (some .int), Cond.methodLink RL 92 yX3_spacing, Cond.instanceMethod yX3_spacing, Cond.selects RX3 yX3_spacing yX3_spacing, Cond.code yX3_spacing cX3_spacing 4 (some .int), Cond.methodLink RL 93 yX2_dark, Cond.instanceMethod yX2_dark, Cond.selects RX2 yX2_dark yX2_dark, Cond.code yX2_dark cX2_dark 3 (some .int), Cond.methodLink RX2 134 yX0_hoursBelow, Cond.instanceMethod yX0_hoursBelow]
def wsL_law_r23 : List Cond := [Cond.selects RX0 yX0_hoursBelow yX0_hoursBelow, Cond.code yX0_hoursBelow cX0_hoursBelow 5 (some .int), Cond.methodLink RL 96 yX3_dark, Cond.instanceMethod yX3_dark, Cond.selects RX3 yX3_dark yX3_dark, Cond.code yX3_dark cX3_dark 5 (some .int), Cond.methodLink RL 97 yX2_drop, Cond.instanceMethod yX2_drop, Cond.selects RX2 yX2_drop yX2_drop, Cond.code yX2_drop cX2_drop 4 (some .int), Cond.methodLink RX2 137 yX2_isWire, Cond.static yX2_isWire, Cond.code yX2_isWire cX2_isWire 2 (some .boolean), Cond.methodLink RX2 140 yX0_millivolts, Cond.instanceMethod yX0_millivolts, Cond.selects RX0 yX0_millivolts yX0_millivolts, Cond.code yX0_millivolts cX0_millivolts 8 (some .int), Cond.constantLong RX0 50 (2), Cond.constantLong RX0 52 (1000000), Cond.methodLink RX0 47 yX0_poles, Cond.methodLink RL 100 yX3_drop, Cond.instanceMethod yX3_drop, Cond.selects RX3 yX3_drop yX3_drop, Cond.code yX3_drop cX3_drop 4 (some .int)]
def wsL_law_r24 : List Cond := [Cond.methodLink RX3 139 yX3_isWire, Cond.static yX3_isWire, Cond.code yX3_isWire cX3_isWire 2 (some .boolean), Cond.methodLink RX3 142 yX3_dropOf, Cond.instanceMethod yX3_dropOf, Cond.selects RX3 yX3_dropOf yX3_dropOf, Cond.code yX3_dropOf cX3_dropOf 7 (some .long), Cond.constantLong RX3 137 (1000000), Cond.methodLink RL 101 yX2_wired, Cond.instanceMethod yX2_wired, Cond.selects RX2 yX2_wired yX2_wired, Cond.code yX2_wired cX2_wired 4 (some .int), Cond.methodLink RX2 143 yX0_widestWiredSpacing, Cond.instanceMethod yX0_widestWiredSpacing, Cond.selects RX0 yX0_widestWiredSpacing yX0_widestWiredSpacing, Cond.code yX0_widestWiredSpacing cX0_widestWiredSpacing 5 (some .int), Cond.methodLink RX0 54 yX0_millivolts, Cond.methodLink RL 104 yX3_wired, Cond.instanceMethod yX3_wired, Cond.selects RX3 yX3_wired yX3_wired, Cond.code yX3_wired cX3_wired 5 (some .int), Cond.methodLink RL 105 yX2_count, Cond.instanceMethod yX2_count, Cond.selects RX2 yX2_count yX2_count]
def wsL_law_r25 : List Cond := [Cond.code yX2_count cX2_count 2 (some .int), Cond.methodLink RX2 146 yX1_pieceCount, Cond.instanceMethod yX1_pieceCount, Cond.selects RX1 yX1_pieceCount yX1_pieceCount, Cond.code yX1_pieceCount cX1_pieceCount 1 (some .int), Cond.methodLink RX2 149 yX1_houseCount, Cond.instanceMethod yX1_houseCount, Cond.selects RX1 yX1_houseCount yX1_houseCount, Cond.code yX1_houseCount cX1_houseCount 1 (some .int), Cond.methodLink RX2 152 yX1_wallCount, Cond.instanceMethod yX1_wallCount, Cond.selects RX1 yX1_wallCount yX1_wallCount, Cond.code yX1_wallCount cX1_wallCount 1 (some .int), Cond.methodLink RX2 155 yX1_allPeople, Cond.instanceMethod yX1_allPeople, Cond.selects RX1 yX1_allPeople yX1_allPeople, Cond.code yX1_allPeople cX1_allPeople 3 (some .int), Cond.methodLink RX2 158 yX0_litDistances, Cond.instanceMethod yX0_litDistances, Cond.selects RX0 yX0_litDistances yX0_litDistances, Cond.code yX0_litDistances cX0_litDistances 3 (some .int), Cond.methodLink RL 108 yX3_count, Cond.instanceMethod yX3_count, Cond.selects RX3 yX3_count yX3_count]
def wsL_law_r26 : List Cond := [Cond.code yX3_count cX3_count 4 (some .int)]
def wsL_law : List Cond := (wsL_law_r1 ++ (wsL_law_r2 ++ (wsL_law_r3 ++ (wsL_law_r4 ++ (wsL_law_r5 ++ (wsL_law_r6 ++ (wsL_law_r7 ++ (wsL_law_r8 ++ (wsL_law_r9 ++ (wsL_law_r10 ++ (wsL_law_r11 ++ (wsL_law_r12 ++ (wsL_law_r13 ++ (wsL_law_r14 ++ (wsL_law_r15 ++ (wsL_law_r16 ++ (wsL_law_r17 ++ (wsL_law_r18 ++ (wsL_law_r19 ++ (wsL_law_r20 ++ (wsL_law_r21 ++ (wsL_law_r22 ++ (wsL_law_r23 ++ (wsL_law_r24 ++ (wsL_law_r25 ++ wsL_law_r26))))))))))))))))))))))))) ++ wsX20 ++ wsX30 ++ wsX10 ++ wsX00 ++ ([] : List Cond)
end
section
/-! which words of the tables the law needs, by their places -/
theorem tb1 {i : Nat} {w : Cond} (h : tables_1_1[i]? = some w) : w ∈ lw_tbl := List.mem_append_right _ (List.mem_append_left _ (List.mem_of_getElem? h))
theorem tb2 {i : Nat} {w : Cond} (h : tables_1_2[i]? = some w) : w ∈ lw_tbl := List.mem_append_right _ (List.mem_append_right _ (List.mem_append_left _ (List.mem_of_getElem? h)))
theorem tb3 {i : Nat} {w : Cond} (h : tables_1_3[i]? = some w) : w ∈ lw_tbl := List.mem_append_right _ (List.mem_append_right _ (List.mem_append_right _ (List.mem_of_getElem? h)))
theorem tb4 {i : Nat} {q : MethodName × Nat} (h : lw_privs_1[i]? = some q) : Cond.selects q.1.cls q.1 q.1 ∈ lw_tbl := List.mem_append_left _ (List.mem_map.mpr ⟨q, List.mem_append_left _ (List.mem_of_getElem? h), rfl⟩)
theorem tb5 {i : Nat} {q : MethodName × Nat} (h : lw_privs_2[i]? = some q) : Cond.selects q.1.cls q.1 q.1 ∈ lw_tbl := List.mem_append_left _ (List.mem_map.mpr ⟨q, List.mem_append_right _ (List.mem_of_getElem? h), rfl⟩)
theorem wsL_law_r1_in : ∀ w ∈ wsL_law_r1, w ∈ lw_tbl := List.forall_mem_cons.mpr ⟨tb1 (i := 6) rfl, List.forall_mem_cons.mpr ⟨tb1 (i := 7) rfl, List.forall_mem_cons.mpr ⟨tb1 (i := 1) rfl, List.forall_mem_cons.mpr ⟨tb2 (i := 217) rfl, List.forall_mem_cons.mpr ⟨tb2 (i := 218) rfl, List.forall_mem_cons.mpr ⟨tb1 (i := 4) rfl, List.forall_mem_cons.mpr ⟨tb1 (i := 8) rfl, List.forall_mem_cons.mpr ⟨tb1 (i := 9) rfl, List.forall_mem_cons.mpr ⟨tb1 (i := 10) rfl, List.forall_mem_cons.mpr ⟨tb1 (i := 11) rfl, List.forall_mem_cons.mpr ⟨tb1 (i := 12) rfl, List.forall_mem_cons.mpr ⟨tb1 (i := 13) rfl, List.forall_mem_cons.mpr ⟨tb1 (i := 14) rfl, List.forall_mem_cons.mpr ⟨tb1 (i := 15) rfl, List.forall_mem_cons.mpr ⟨tb1 (i := 2) rfl, List.forall_mem_cons.mpr ⟨tb1 (i := 98) rfl, List.forall_mem_cons.mpr ⟨tb1 (i := 79) rfl, List.forall_mem_cons.mpr ⟨tb1 (i := 80) rfl, List.forall_mem_cons.mpr ⟨tb1 (i := 3) rfl, List.forall_mem_cons.mpr ⟨tb1 (i := 99) rfl, List.forall_mem_cons.mpr ⟨tb1 (i := 16) rfl, List.forall_mem_cons.mpr ⟨tb1 (i := 17) rfl, List.forall_mem_cons.mpr ⟨tb1 (i := 18) rfl, List.forall_mem_cons.mpr ⟨tb1 (i := 19) rfl, fun _ h => absurd h List.not_mem_nil⟩⟩⟩⟩⟩⟩⟩⟩⟩⟩⟩⟩⟩⟩⟩⟩⟩⟩⟩⟩⟩⟩⟩⟩
theorem wsL_law_r2_in : ∀ w ∈ wsL_law_r2, w ∈ lw_tbl := List.forall_mem_cons.mpr ⟨tb1 (i := 78) rfl, List.forall_mem_cons.mpr ⟨tb1 (i := 21) rfl, List.forall_mem_cons.mpr ⟨tb1 (i := 22) rfl, List.forall_mem_cons.mpr ⟨tb1 (i := 23) rfl, List.forall_mem_cons.mpr ⟨tb1 (i := 25) rfl, List.forall_mem_cons.mpr ⟨tb1 (i := 26) rfl, List.forall_mem_cons.mpr ⟨tb1 (i := 27) rfl, List.forall_mem_cons.mpr ⟨tb1 (i := 29) rfl, List.forall_mem_cons.mpr ⟨tb1 (i := 30) rfl, List.forall_mem_cons.mpr ⟨tb1 (i := 31) rfl, List.forall_mem_cons.mpr ⟨tb1 (i := 32) rfl, List.forall_mem_cons.mpr ⟨tb1 (i := 33) rfl, List.forall_mem_cons.mpr ⟨tb1 (i := 35) rfl, List.forall_mem_cons.mpr ⟨tb1 (i := 36) rfl, List.forall_mem_cons.mpr ⟨tb1 (i := 37) rfl, List.forall_mem_cons.mpr ⟨tb1 (i := 38) rfl, List.forall_mem_cons.mpr ⟨tb1 (i := 34) rfl, List.forall_mem_cons.mpr ⟨tb1 (i := 81) rfl, List.forall_mem_cons.mpr ⟨tb1 (i := 82) rfl, List.forall_mem_cons.mpr ⟨tb1 (i := 83) rfl, List.forall_mem_cons.mpr ⟨tb1 (i := 84) rfl, List.forall_mem_cons.mpr ⟨tb1 (i := 85) rfl, List.forall_mem_cons.mpr ⟨tb1 (i := 86) rfl, List.forall_mem_cons.mpr ⟨tb1 (i := 87) rfl, fun _ h => absurd h List.not_mem_nil⟩⟩⟩⟩⟩⟩⟩⟩⟩⟩⟩⟩⟩⟩⟩⟩⟩⟩⟩⟩⟩⟩⟩⟩
theorem wsL_law_r3_in : ∀ w ∈ wsL_law_r3, w ∈ lw_tbl := List.forall_mem_cons.mpr ⟨tb2 (i := 219) rfl, List.forall_mem_cons.mpr ⟨tb2 (i := 220) rfl, List.forall_mem_cons.mpr ⟨tb2 (i := 221) rfl, List.forall_mem_cons.mpr ⟨tb2 (i := 222) rfl, List.forall_mem_cons.mpr ⟨tb2 (i := 224) rfl, List.forall_mem_cons.mpr ⟨tb2 (i := 225) rfl, List.forall_mem_cons.mpr ⟨tb2 (i := 226) rfl, List.forall_mem_cons.mpr ⟨tb2 (i := 228) rfl, List.forall_mem_cons.mpr ⟨tb2 (i := 229) rfl, List.forall_mem_cons.mpr ⟨tb2 (i := 230) rfl, List.forall_mem_cons.mpr ⟨tb2 (i := 232) rfl, List.forall_mem_cons.mpr ⟨tb2 (i := 233) rfl, List.forall_mem_cons.mpr ⟨tb2 (i := 234) rfl, List.forall_mem_cons.mpr ⟨tb2 (i := 235) rfl, List.forall_mem_cons.mpr ⟨tb2 (i := 236) rfl, List.forall_mem_cons.mpr ⟨tb2 (i := 238) rfl, List.forall_mem_cons.mpr ⟨tb2 (i := 239) rfl, List.forall_mem_cons.mpr ⟨tb1 (i := 105) rfl, List.forall_mem_cons.mpr ⟨tb1 (i := 106) rfl, List.forall_mem_cons.mpr ⟨tb1 (i := 107) rfl, List.forall_mem_cons.mpr ⟨tb1 (i := 108) rfl, List.forall_mem_cons.mpr ⟨tb1 (i := 109) rfl, List.forall_mem_cons.mpr ⟨tb1 (i := 110) rfl, List.forall_mem_cons.mpr ⟨tb1 (i := 111) rfl, fun _ h => absurd h List.not_mem_nil⟩⟩⟩⟩⟩⟩⟩⟩⟩⟩⟩⟩⟩⟩⟩⟩⟩⟩⟩⟩⟩⟩⟩⟩
theorem wsL_law_r4_in : ∀ w ∈ wsL_law_r4, w ∈ lw_tbl := List.forall_mem_cons.mpr ⟨tb1 (i := 112) rfl, List.forall_mem_cons.mpr ⟨tb1 (i := 113) rfl, List.forall_mem_cons.mpr ⟨tb1 (i := 114) rfl, List.forall_mem_cons.mpr ⟨tb1 (i := 115) rfl, List.forall_mem_cons.mpr ⟨tb1 (i := 116) rfl, List.forall_mem_cons.mpr ⟨tb1 (i := 117) rfl, List.forall_mem_cons.mpr ⟨tb1 (i := 118) rfl, List.forall_mem_cons.mpr ⟨tb1 (i := 119) rfl, List.forall_mem_cons.mpr ⟨tb1 (i := 120) rfl, List.forall_mem_cons.mpr ⟨tb1 (i := 121) rfl, List.forall_mem_cons.mpr ⟨tb1 (i := 20) rfl, List.forall_mem_cons.mpr ⟨tb1 (i := 24) rfl, List.forall_mem_cons.mpr ⟨tb1 (i := 122) rfl, List.forall_mem_cons.mpr ⟨tb1 (i := 124) rfl, List.forall_mem_cons.mpr ⟨tb4 (i := 0) (q := (⟨"NoiseLamps$Noise", "measurePair", "(II)V"⟩, 19)) rfl, List.forall_mem_cons.mpr ⟨tb1 (i := 125) rfl, List.forall_mem_cons.mpr ⟨tb1 (i := 28) rfl, List.forall_mem_cons.mpr ⟨tb1 (i := 126) rfl, List.forall_mem_cons.mpr ⟨tb1 (i := 127) rfl, List.forall_mem_cons.mpr ⟨tb1 (i := 128) rfl, List.forall_mem_cons.mpr ⟨tb1 (i := 129) rfl, List.forall_mem_cons.mpr ⟨tb1 (i := 130) rfl, List.forall_mem_cons.mpr ⟨tb1 (i := 131) rfl, List.forall_mem_cons.mpr ⟨tb1 (i := 132) rfl, fun _ h => absurd h List.not_mem_nil⟩⟩⟩⟩⟩⟩⟩⟩⟩⟩⟩⟩⟩⟩⟩⟩⟩⟩⟩⟩⟩⟩⟩⟩
theorem wsL_law_r5_in : ∀ w ∈ wsL_law_r5, w ∈ lw_tbl := List.forall_mem_cons.mpr ⟨tb1 (i := 134) rfl, List.forall_mem_cons.mpr ⟨tb4 (i := 1) (q := (⟨"NoiseLamps$Noise", "noteIfBetween", "(III)V"⟩, 19)) rfl, List.forall_mem_cons.mpr ⟨tb1 (i := 135) rfl, List.forall_mem_cons.mpr ⟨tb1 (i := 136) rfl, List.forall_mem_cons.mpr ⟨tb1 (i := 138) rfl, List.forall_mem_cons.mpr ⟨tb4 (i := 2) (q := (⟨"NoiseLamps$Noise", "isBetween", "(III)Z"⟩, 19)) rfl, List.forall_mem_cons.mpr ⟨tb1 (i := 139) rfl, List.forall_mem_cons.mpr ⟨tb1 (i := 140) rfl, List.forall_mem_cons.mpr ⟨tb1 (i := 141) rfl, List.forall_mem_cons.mpr ⟨tb1 (i := 142) rfl, List.forall_mem_cons.mpr ⟨tb1 (i := 143) rfl, List.forall_mem_cons.mpr ⟨tb1 (i := 144) rfl, List.forall_mem_cons.mpr ⟨tb1 (i := 5) rfl, List.forall_mem_cons.mpr ⟨tb1 (i := 145) rfl, List.forall_mem_cons.mpr ⟨tb1 (i := 146) rfl, List.forall_mem_cons.mpr ⟨tb1 (i := 147) rfl, List.forall_mem_cons.mpr ⟨tb1 (i := 148) rfl, List.forall_mem_cons.mpr ⟨tb1 (i := 149) rfl, List.forall_mem_cons.mpr ⟨tb1 (i := 150) rfl, List.forall_mem_cons.mpr ⟨tb1 (i := 151) rfl, List.forall_mem_cons.mpr ⟨tb1 (i := 152) rfl, List.forall_mem_cons.mpr ⟨tb1 (i := 153) rfl, List.forall_mem_cons.mpr ⟨tb1 (i := 154) rfl, List.forall_mem_cons.mpr ⟨tb3 (i := 35) rfl, fun _ h => absurd h List.not_mem_nil⟩⟩⟩⟩⟩⟩⟩⟩⟩⟩⟩⟩⟩⟩⟩⟩⟩⟩⟩⟩⟩⟩⟩⟩
theorem wsL_law_r6_in : ∀ w ∈ wsL_law_r6, w ∈ lw_tbl := List.forall_mem_cons.mpr ⟨tb3 (i := 36) rfl, List.forall_mem_cons.mpr ⟨tb3 (i := 37) rfl, List.forall_mem_cons.mpr ⟨tb3 (i := 38) rfl, List.forall_mem_cons.mpr ⟨tb2 (i := 223) rfl, List.forall_mem_cons.mpr ⟨tb3 (i := 39) rfl, List.forall_mem_cons.mpr ⟨tb3 (i := 40) rfl, List.forall_mem_cons.mpr ⟨tb3 (i := 41) rfl, List.forall_mem_cons.mpr ⟨tb3 (i := 42) rfl, List.forall_mem_cons.mpr ⟨tb3 (i := 43) rfl, List.forall_mem_cons.mpr ⟨tb3 (i := 44) rfl, List.forall_mem_cons.mpr ⟨tb1 (i := 155) rfl, List.forall_mem_cons.mpr ⟨tb1 (i := 156) rfl, List.forall_mem_cons.mpr ⟨tb1 (i := 157) rfl, List.forall_mem_cons.mpr ⟨tb1 (i := 158) rfl, List.forall_mem_cons.mpr ⟨tb1 (i := 159) rfl, List.forall_mem_cons.mpr ⟨tb1 (i := 160) rfl, List.forall_mem_cons.mpr ⟨tb1 (i := 161) rfl, List.forall_mem_cons.mpr ⟨tb1 (i := 162) rfl, List.forall_mem_cons.mpr ⟨tb3 (i := 45) rfl, List.forall_mem_cons.mpr ⟨tb3 (i := 46) rfl, List.forall_mem_cons.mpr ⟨tb3 (i := 47) rfl, List.forall_mem_cons.mpr ⟨tb3 (i := 48) rfl, List.forall_mem_cons.mpr ⟨tb2 (i := 227) rfl, List.forall_mem_cons.mpr ⟨tb1 (i := 163) rfl, fun _ h => absurd h List.not_mem_nil⟩⟩⟩⟩⟩⟩⟩⟩⟩⟩⟩⟩⟩⟩⟩⟩⟩⟩⟩⟩⟩⟩⟩⟩
theorem wsL_law_r7_in : ∀ w ∈ wsL_law_r7, w ∈ lw_tbl := List.forall_mem_cons.mpr ⟨tb1 (i := 164) rfl, List.forall_mem_cons.mpr ⟨tb1 (i := 165) rfl, List.forall_mem_cons.mpr ⟨tb1 (i := 166) rfl, List.forall_mem_cons.mpr ⟨tb1 (i := 167) rfl, List.forall_mem_cons.mpr ⟨tb1 (i := 168) rfl, List.forall_mem_cons.mpr ⟨tb1 (i := 169) rfl, List.forall_mem_cons.mpr ⟨tb1 (i := 170) rfl, List.forall_mem_cons.mpr ⟨tb1 (i := 171) rfl, List.forall_mem_cons.mpr ⟨tb1 (i := 172) rfl, List.forall_mem_cons.mpr ⟨tb1 (i := 173) rfl, List.forall_mem_cons.mpr ⟨tb3 (i := 49) rfl, List.forall_mem_cons.mpr ⟨tb3 (i := 50) rfl, List.forall_mem_cons.mpr ⟨tb3 (i := 51) rfl, List.forall_mem_cons.mpr ⟨tb3 (i := 52) rfl, List.forall_mem_cons.mpr ⟨tb2 (i := 231) rfl, List.forall_mem_cons.mpr ⟨tb1 (i := 174) rfl, List.forall_mem_cons.mpr ⟨tb1 (i := 175) rfl, List.forall_mem_cons.mpr ⟨tb1 (i := 176) rfl, List.forall_mem_cons.mpr ⟨tb1 (i := 177) rfl, List.forall_mem_cons.mpr ⟨tb1 (i := 178) rfl, List.forall_mem_cons.mpr ⟨tb1 (i := 179) rfl, List.forall_mem_cons.mpr ⟨tb1 (i := 180) rfl, List.forall_mem_cons.mpr ⟨tb1 (i := 181) rfl, List.forall_mem_cons.mpr ⟨tb3 (i := 53) rfl, fun _ h => absurd h List.not_mem_nil⟩⟩⟩⟩⟩⟩⟩⟩⟩⟩⟩⟩⟩⟩⟩⟩⟩⟩⟩⟩⟩⟩⟩⟩
theorem wsL_law_r8_in : ∀ w ∈ wsL_law_r8, w ∈ lw_tbl := List.forall_mem_cons.mpr ⟨tb3 (i := 54) rfl, List.forall_mem_cons.mpr ⟨tb3 (i := 55) rfl, List.forall_mem_cons.mpr ⟨tb3 (i := 56) rfl, List.forall_mem_cons.mpr ⟨tb1 (i := 182) rfl, List.forall_mem_cons.mpr ⟨tb1 (i := 183) rfl, List.forall_mem_cons.mpr ⟨tb1 (i := 184) rfl, List.forall_mem_cons.mpr ⟨tb1 (i := 185) rfl, List.forall_mem_cons.mpr ⟨tb1 (i := 186) rfl, List.forall_mem_cons.mpr ⟨tb1 (i := 187) rfl, List.forall_mem_cons.mpr ⟨tb1 (i := 188) rfl, List.forall_mem_cons.mpr ⟨tb1 (i := 189) rfl, List.forall_mem_cons.mpr ⟨tb1 (i := 190) rfl, List.forall_mem_cons.mpr ⟨tb1 (i := 191) rfl, List.forall_mem_cons.mpr ⟨tb1 (i := 192) rfl, List.forall_mem_cons.mpr ⟨tb3 (i := 57) rfl, List.forall_mem_cons.mpr ⟨tb3 (i := 58) rfl, List.forall_mem_cons.mpr ⟨tb3 (i := 59) rfl, List.forall_mem_cons.mpr ⟨tb3 (i := 60) rfl, List.forall_mem_cons.mpr ⟨tb1 (i := 193) rfl, List.forall_mem_cons.mpr ⟨tb1 (i := 194) rfl, List.forall_mem_cons.mpr ⟨tb1 (i := 195) rfl, List.forall_mem_cons.mpr ⟨tb1 (i := 196) rfl, List.forall_mem_cons.mpr ⟨tb1 (i := 197) rfl, List.forall_mem_cons.mpr ⟨tb1 (i := 198) rfl, fun _ h => absurd h List.not_mem_nil⟩⟩⟩⟩⟩⟩⟩⟩⟩⟩⟩⟩⟩⟩⟩⟩⟩⟩⟩⟩⟩⟩⟩⟩
theorem wsL_law_r9_in : ∀ w ∈ wsL_law_r9, w ∈ lw_tbl := List.forall_mem_cons.mpr ⟨tb1 (i := 199) rfl, List.forall_mem_cons.mpr ⟨tb1 (i := 200) rfl, List.forall_mem_cons.mpr ⟨tb1 (i := 201) rfl, List.forall_mem_cons.mpr ⟨tb1 (i := 202) rfl, List.forall_mem_cons.mpr ⟨tb1 (i := 203) rfl, List.forall_mem_cons.mpr ⟨tb1 (i := 204) rfl, List.forall_mem_cons.mpr ⟨tb1 (i := 205) rfl, List.forall_mem_cons.mpr ⟨tb1 (i := 206) rfl, List.forall_mem_cons.mpr ⟨tb1 (i := 207) rfl, List.forall_mem_cons.mpr ⟨tb1 (i := 208) rfl, List.forall_mem_cons.mpr ⟨tb1 (i := 209) rfl, List.forall_mem_cons.mpr ⟨tb1 (i := 211) rfl, List.forall_mem_cons.mpr ⟨tb4 (i := 3) (q := (⟨"NoiseLamps$Noise", "greatestCut", "(I)I"⟩, 19)) rfl, List.forall_mem_cons.mpr ⟨tb1 (i := 212) rfl, List.forall_mem_cons.mpr ⟨tb3 (i := 61) rfl, List.forall_mem_cons.mpr ⟨tb3 (i := 62) rfl, List.forall_mem_cons.mpr ⟨tb3 (i := 63) rfl, List.forall_mem_cons.mpr ⟨tb3 (i := 64) rfl, List.forall_mem_cons.mpr ⟨tb3 (i := 65) rfl, List.forall_mem_cons.mpr ⟨tb3 (i := 67) rfl, List.forall_mem_cons.mpr ⟨tb4 (i := 12) (q := (⟨"NoiseLampsModel", "isHouse", "(I)Z"⟩, 17)) rfl, List.forall_mem_cons.mpr ⟨tb3 (i := 68) rfl, List.forall_mem_cons.mpr ⟨tb3 (i := 69) rfl, List.forall_mem_cons.mpr ⟨tb3 (i := 71) rfl, fun _ h => absurd h List.not_mem_nil⟩⟩⟩⟩⟩⟩⟩⟩⟩⟩⟩⟩⟩⟩⟩⟩⟩⟩⟩⟩⟩⟩⟩⟩
theorem wsL_law_r10_in : ∀ w ∈ wsL_law_r10, w ∈ lw_tbl := List.forall_mem_cons.mpr ⟨tb4 (i := 13) (q := (⟨"NoiseLampsModel", "givesIn", "(III)I"⟩, 17)) rfl, List.forall_mem_cons.mpr ⟨tb3 (i := 72) rfl, List.forall_mem_cons.mpr ⟨tb3 (i := 73) rfl, List.forall_mem_cons.mpr ⟨tb3 (i := 74) rfl, List.forall_mem_cons.mpr ⟨tb3 (i := 75) rfl, List.forall_mem_cons.mpr ⟨tb3 (i := 77) rfl, List.forall_mem_cons.mpr ⟨tb4 (i := 14) (q := (⟨"NoiseLampsModel", "crosses", "(IIIII)Z"⟩, 17)) rfl, List.forall_mem_cons.mpr ⟨tb3 (i := 78) rfl, List.forall_mem_cons.mpr ⟨tb3 (i := 79) rfl, List.forall_mem_cons.mpr ⟨tb3 (i := 80) rfl, List.forall_mem_cons.mpr ⟨tb3 (i := 81) rfl, List.forall_mem_cons.mpr ⟨tb3 (i := 82) rfl, List.forall_mem_cons.mpr ⟨tb3 (i := 83) rfl, List.forall_mem_cons.mpr ⟨tb3 (i := 84) rfl, List.forall_mem_cons.mpr ⟨tb1 (i := 213) rfl, List.forall_mem_cons.mpr ⟨tb1 (i := 214) rfl, List.forall_mem_cons.mpr ⟨tb1 (i := 215) rfl, List.forall_mem_cons.mpr ⟨tb1 (i := 216) rfl, List.forall_mem_cons.mpr ⟨tb1 (i := 217) rfl, List.forall_mem_cons.mpr ⟨tb1 (i := 218) rfl, List.forall_mem_cons.mpr ⟨tb1 (i := 219) rfl, List.forall_mem_cons.mpr ⟨tb1 (i := 220) rfl, List.forall_mem_cons.mpr ⟨tb1 (i := 221) rfl, List.forall_mem_cons.mpr ⟨tb1 (i := 222) rfl, fun _ h => absurd h List.not_mem_nil⟩⟩⟩⟩⟩⟩⟩⟩⟩⟩⟩⟩⟩⟩⟩⟩⟩⟩⟩⟩⟩⟩⟩⟩
theorem wsL_law_r11_in : ∀ w ∈ wsL_law_r11, w ∈ lw_tbl := List.forall_mem_cons.mpr ⟨tb1 (i := 223) rfl, List.forall_mem_cons.mpr ⟨tb1 (i := 224) rfl, List.forall_mem_cons.mpr ⟨tb1 (i := 225) rfl, List.forall_mem_cons.mpr ⟨tb1 (i := 226) rfl, List.forall_mem_cons.mpr ⟨tb1 (i := 227) rfl, List.forall_mem_cons.mpr ⟨tb1 (i := 228) rfl, List.forall_mem_cons.mpr ⟨tb1 (i := 229) rfl, List.forall_mem_cons.mpr ⟨tb1 (i := 230) rfl, List.forall_mem_cons.mpr ⟨tb1 (i := 231) rfl, List.forall_mem_cons.mpr ⟨tb1 (i := 232) rfl, List.forall_mem_cons.mpr ⟨tb1 (i := 233) rfl, List.forall_mem_cons.mpr ⟨tb1 (i := 234) rfl, List.forall_mem_cons.mpr ⟨tb1 (i := 235) rfl, List.forall_mem_cons.mpr ⟨tb3 (i := 85) rfl, List.forall_mem_cons.mpr ⟨tb3 (i := 86) rfl, List.forall_mem_cons.mpr ⟨tb3 (i := 87) rfl, List.forall_mem_cons.mpr ⟨tb3 (i := 88) rfl, List.forall_mem_cons.mpr ⟨tb3 (i := 89) rfl, List.forall_mem_cons.mpr ⟨tb3 (i := 91) rfl, List.forall_mem_cons.mpr ⟨tb4 (i := 15) (q := (⟨"NoiseLampsModel", "allDay", "(I)I"⟩, 17)) rfl, List.forall_mem_cons.mpr ⟨tb3 (i := 92) rfl, List.forall_mem_cons.mpr ⟨tb3 (i := 93) rfl, List.forall_mem_cons.mpr ⟨tb3 (i := 95) rfl, List.forall_mem_cons.mpr ⟨tb5 (i := 0) (q := (⟨"NoiseLampsModel", "levelIn", "(II)I"⟩, 17)) rfl, fun _ h => absurd h List.not_mem_nil⟩⟩⟩⟩⟩⟩⟩⟩⟩⟩⟩⟩⟩⟩⟩⟩⟩⟩⟩⟩⟩⟩⟩⟩
theorem wsL_law_r12_in : ∀ w ∈ wsL_law_r12, w ∈ lw_tbl := List.forall_mem_cons.mpr ⟨tb3 (i := 96) rfl, List.forall_mem_cons.mpr ⟨tb3 (i := 97) rfl, List.forall_mem_cons.mpr ⟨tb3 (i := 98) rfl, List.forall_mem_cons.mpr ⟨tb3 (i := 99) rfl, List.forall_mem_cons.mpr ⟨tb1 (i := 236) rfl, List.forall_mem_cons.mpr ⟨tb1 (i := 237) rfl, List.forall_mem_cons.mpr ⟨tb1 (i := 238) rfl, List.forall_mem_cons.mpr ⟨tb1 (i := 239) rfl, List.forall_mem_cons.mpr ⟨tb2 (i := 0) rfl, List.forall_mem_cons.mpr ⟨tb2 (i := 1) rfl, List.forall_mem_cons.mpr ⟨tb2 (i := 2) rfl, List.forall_mem_cons.mpr ⟨tb2 (i := 3) rfl, List.forall_mem_cons.mpr ⟨tb2 (i := 4) rfl, List.forall_mem_cons.mpr ⟨tb3 (i := 100) rfl, List.forall_mem_cons.mpr ⟨tb3 (i := 101) rfl, List.forall_mem_cons.mpr ⟨tb3 (i := 102) rfl, List.forall_mem_cons.mpr ⟨tb3 (i := 103) rfl, List.forall_mem_cons.mpr ⟨tb2 (i := 5) rfl, List.forall_mem_cons.mpr ⟨tb2 (i := 6) rfl, List.forall_mem_cons.mpr ⟨tb2 (i := 7) rfl, List.forall_mem_cons.mpr ⟨tb2 (i := 8) rfl, List.forall_mem_cons.mpr ⟨tb2 (i := 9) rfl, List.forall_mem_cons.mpr ⟨tb2 (i := 10) rfl, List.forall_mem_cons.mpr ⟨tb2 (i := 11) rfl, fun _ h => absurd h List.not_mem_nil⟩⟩⟩⟩⟩⟩⟩⟩⟩⟩⟩⟩⟩⟩⟩⟩⟩⟩⟩⟩⟩⟩⟩⟩
theorem wsL_law_r13_in : ∀ w ∈ wsL_law_r13, w ∈ lw_tbl := List.forall_mem_cons.mpr ⟨tb2 (i := 12) rfl, List.forall_mem_cons.mpr ⟨tb3 (i := 104) rfl, List.forall_mem_cons.mpr ⟨tb3 (i := 105) rfl, List.forall_mem_cons.mpr ⟨tb3 (i := 106) rfl, List.forall_mem_cons.mpr ⟨tb3 (i := 107) rfl, List.forall_mem_cons.mpr ⟨tb2 (i := 13) rfl, List.forall_mem_cons.mpr ⟨tb2 (i := 14) rfl, List.forall_mem_cons.mpr ⟨tb2 (i := 15) rfl, List.forall_mem_cons.mpr ⟨tb2 (i := 16) rfl, List.forall_mem_cons.mpr ⟨tb2 (i := 17) rfl, List.forall_mem_cons.mpr ⟨tb2 (i := 18) rfl, List.forall_mem_cons.mpr ⟨tb2 (i := 19) rfl, List.forall_mem_cons.mpr ⟨tb2 (i := 20) rfl, List.forall_mem_cons.mpr ⟨tb2 (i := 21) rfl, List.forall_mem_cons.mpr ⟨tb2 (i := 23) rfl, List.forall_mem_cons.mpr ⟨tb4 (i := 4) (q := (⟨"NoiseLamps$Noise", "housesAhead", "(I)I"⟩, 19)) rfl, List.forall_mem_cons.mpr ⟨tb2 (i := 24) rfl, List.forall_mem_cons.mpr ⟨tb3 (i := 108) rfl, List.forall_mem_cons.mpr ⟨tb3 (i := 109) rfl, List.forall_mem_cons.mpr ⟨tb3 (i := 110) rfl, List.forall_mem_cons.mpr ⟨tb3 (i := 111) rfl, List.forall_mem_cons.mpr ⟨tb2 (i := 25) rfl, List.forall_mem_cons.mpr ⟨tb2 (i := 26) rfl, List.forall_mem_cons.mpr ⟨tb2 (i := 27) rfl, fun _ h => absurd h List.not_mem_nil⟩⟩⟩⟩⟩⟩⟩⟩⟩⟩⟩⟩⟩⟩⟩⟩⟩⟩⟩⟩⟩⟩⟩⟩
theorem wsL_law_r14_in : ∀ w ∈ wsL_law_r14, w ∈ lw_tbl := List.forall_mem_cons.mpr ⟨tb2 (i := 28) rfl, List.forall_mem_cons.mpr ⟨tb2 (i := 29) rfl, List.forall_mem_cons.mpr ⟨tb2 (i := 30) rfl, List.forall_mem_cons.mpr ⟨tb2 (i := 31) rfl, List.forall_mem_cons.mpr ⟨tb2 (i := 32) rfl, List.forall_mem_cons.mpr ⟨tb2 (i := 33) rfl, List.forall_mem_cons.mpr ⟨tb2 (i := 34) rfl, List.forall_mem_cons.mpr ⟨tb2 (i := 35) rfl, List.forall_mem_cons.mpr ⟨tb2 (i := 36) rfl, List.forall_mem_cons.mpr ⟨tb2 (i := 37) rfl, List.forall_mem_cons.mpr ⟨tb2 (i := 39) rfl, List.forall_mem_cons.mpr ⟨tb4 (i := 5) (q := (⟨"NoiseLamps$Noise", "noneAbove", "(I)Z"⟩, 19)) rfl, List.forall_mem_cons.mpr ⟨tb2 (i := 40) rfl, List.forall_mem_cons.mpr ⟨tb3 (i := 112) rfl, List.forall_mem_cons.mpr ⟨tb3 (i := 113) rfl, List.forall_mem_cons.mpr ⟨tb3 (i := 114) rfl, List.forall_mem_cons.mpr ⟨tb3 (i := 115) rfl, List.forall_mem_cons.mpr ⟨tb3 (i := 116) rfl, List.forall_mem_cons.mpr ⟨tb3 (i := 118) rfl, List.forall_mem_cons.mpr ⟨tb5 (i := 1) (q := (⟨"NoiseLampsModel", "isWall", "(I)Z"⟩, 17)) rfl, List.forall_mem_cons.mpr ⟨tb3 (i := 119) rfl, List.forall_mem_cons.mpr ⟨tb3 (i := 120) rfl, List.forall_mem_cons.mpr ⟨tb3 (i := 122) rfl, List.forall_mem_cons.mpr ⟨tb5 (i := 2) (q := (⟨"NoiseLampsModel", "isQuiet", "(I)Z"⟩, 17)) rfl, fun _ h => absurd h List.not_mem_nil⟩⟩⟩⟩⟩⟩⟩⟩⟩⟩⟩⟩⟩⟩⟩⟩⟩⟩⟩⟩⟩⟩⟩⟩
theorem wsL_law_r15_in : ∀ w ∈ wsL_law_r15, w ∈ lw_tbl := List.forall_mem_cons.mpr ⟨tb3 (i := 123) rfl, List.forall_mem_cons.mpr ⟨tb2 (i := 41) rfl, List.forall_mem_cons.mpr ⟨tb2 (i := 42) rfl, List.forall_mem_cons.mpr ⟨tb2 (i := 43) rfl, List.forall_mem_cons.mpr ⟨tb2 (i := 44) rfl, List.forall_mem_cons.mpr ⟨tb2 (i := 45) rfl, List.forall_mem_cons.mpr ⟨tb2 (i := 46) rfl, List.forall_mem_cons.mpr ⟨tb2 (i := 47) rfl, List.forall_mem_cons.mpr ⟨tb2 (i := 48) rfl, List.forall_mem_cons.mpr ⟨tb3 (i := 124) rfl, List.forall_mem_cons.mpr ⟨tb3 (i := 125) rfl, List.forall_mem_cons.mpr ⟨tb3 (i := 126) rfl, List.forall_mem_cons.mpr ⟨tb3 (i := 127) rfl, List.forall_mem_cons.mpr ⟨tb2 (i := 49) rfl, List.forall_mem_cons.mpr ⟨tb2 (i := 50) rfl, List.forall_mem_cons.mpr ⟨tb2 (i := 51) rfl, List.forall_mem_cons.mpr ⟨tb2 (i := 52) rfl, List.forall_mem_cons.mpr ⟨tb2 (i := 53) rfl, List.forall_mem_cons.mpr ⟨tb2 (i := 54) rfl, List.forall_mem_cons.mpr ⟨tb2 (i := 55) rfl, List.forall_mem_cons.mpr ⟨tb2 (i := 56) rfl, List.forall_mem_cons.mpr ⟨tb2 (i := 57) rfl, List.forall_mem_cons.mpr ⟨tb3 (i := 128) rfl, List.forall_mem_cons.mpr ⟨tb3 (i := 129) rfl, fun _ h => absurd h List.not_mem_nil⟩⟩⟩⟩⟩⟩⟩⟩⟩⟩⟩⟩⟩⟩⟩⟩⟩⟩⟩⟩⟩⟩⟩⟩
theorem wsL_law_r16_in : ∀ w ∈ wsL_law_r16, w ∈ lw_tbl := List.forall_mem_cons.mpr ⟨tb3 (i := 130) rfl, List.forall_mem_cons.mpr ⟨tb3 (i := 131) rfl, List.forall_mem_cons.mpr ⟨tb3 (i := 132) rfl, List.forall_mem_cons.mpr ⟨tb2 (i := 58) rfl, List.forall_mem_cons.mpr ⟨tb2 (i := 59) rfl, List.forall_mem_cons.mpr ⟨tb2 (i := 60) rfl, List.forall_mem_cons.mpr ⟨tb2 (i := 61) rfl, List.forall_mem_cons.mpr ⟨tb2 (i := 62) rfl, List.forall_mem_cons.mpr ⟨tb2 (i := 63) rfl, List.forall_mem_cons.mpr ⟨tb2 (i := 64) rfl, List.forall_mem_cons.mpr ⟨tb2 (i := 65) rfl, List.forall_mem_cons.mpr ⟨tb3 (i := 133) rfl, List.forall_mem_cons.mpr ⟨tb3 (i := 134) rfl, List.forall_mem_cons.mpr ⟨tb3 (i := 135) rfl, List.forall_mem_cons.mpr ⟨tb3 (i := 136) rfl, List.forall_mem_cons.mpr ⟨tb3 (i := 137) rfl, List.forall_mem_cons.mpr ⟨tb3 (i := 139) rfl, List.forall_mem_cons.mpr ⟨tb5 (i := 3) (q := (⟨"NoiseLampsModel", "lightAt", "(I)I"⟩, 17)) rfl, List.forall_mem_cons.mpr ⟨tb3 (i := 140) rfl, List.forall_mem_cons.mpr ⟨tb2 (i := 66) rfl, List.forall_mem_cons.mpr ⟨tb2 (i := 67) rfl, List.forall_mem_cons.mpr ⟨tb2 (i := 68) rfl, List.forall_mem_cons.mpr ⟨tb2 (i := 69) rfl, List.forall_mem_cons.mpr ⟨tb2 (i := 70) rfl, fun _ h => absurd h List.not_mem_nil⟩⟩⟩⟩⟩⟩⟩⟩⟩⟩⟩⟩⟩⟩⟩⟩⟩⟩⟩⟩⟩⟩⟩⟩
theorem wsL_law_r17_in : ∀ w ∈ wsL_law_r17, w ∈ lw_tbl := List.forall_mem_cons.mpr ⟨tb2 (i := 71) rfl, List.forall_mem_cons.mpr ⟨tb2 (i := 72) rfl, List.forall_mem_cons.mpr ⟨tb2 (i := 73) rfl, List.forall_mem_cons.mpr ⟨tb1 (i := 88) rfl, List.forall_mem_cons.mpr ⟨tb3 (i := 141) rfl, List.forall_mem_cons.mpr ⟨tb3 (i := 142) rfl, List.forall_mem_cons.mpr ⟨tb3 (i := 143) rfl, List.forall_mem_cons.mpr ⟨tb3 (i := 144) rfl, List.forall_mem_cons.mpr ⟨tb2 (i := 237) rfl, List.forall_mem_cons.mpr ⟨tb2 (i := 74) rfl, List.forall_mem_cons.mpr ⟨tb2 (i := 75) rfl, List.forall_mem_cons.mpr ⟨tb2 (i := 76) rfl, List.forall_mem_cons.mpr ⟨tb2 (i := 77) rfl, List.forall_mem_cons.mpr ⟨tb2 (i := 78) rfl, List.forall_mem_cons.mpr ⟨tb2 (i := 79) rfl, List.forall_mem_cons.mpr ⟨tb2 (i := 80) rfl, List.forall_mem_cons.mpr ⟨tb2 (i := 81) rfl, List.forall_mem_cons.mpr ⟨tb2 (i := 82) rfl, List.forall_mem_cons.mpr ⟨tb2 (i := 83) rfl, List.forall_mem_cons.mpr ⟨tb2 (i := 84) rfl, List.forall_mem_cons.mpr ⟨tb3 (i := 145) rfl, List.forall_mem_cons.mpr ⟨tb3 (i := 146) rfl, List.forall_mem_cons.mpr ⟨tb3 (i := 147) rfl, List.forall_mem_cons.mpr ⟨tb3 (i := 148) rfl, fun _ h => absurd h List.not_mem_nil⟩⟩⟩⟩⟩⟩⟩⟩⟩⟩⟩⟩⟩⟩⟩⟩⟩⟩⟩⟩⟩⟩⟩⟩
theorem wsL_law_r18_in : ∀ w ∈ wsL_law_r18, w ∈ lw_tbl := List.forall_mem_cons.mpr ⟨tb2 (i := 85) rfl, List.forall_mem_cons.mpr ⟨tb2 (i := 86) rfl, List.forall_mem_cons.mpr ⟨tb2 (i := 87) rfl, List.forall_mem_cons.mpr ⟨tb2 (i := 88) rfl, List.forall_mem_cons.mpr ⟨tb2 (i := 89) rfl, List.forall_mem_cons.mpr ⟨tb2 (i := 90) rfl, List.forall_mem_cons.mpr ⟨tb2 (i := 91) rfl, List.forall_mem_cons.mpr ⟨tb2 (i := 92) rfl, List.forall_mem_cons.mpr ⟨tb2 (i := 93) rfl, List.forall_mem_cons.mpr ⟨tb2 (i := 94) rfl, List.forall_mem_cons.mpr ⟨tb2 (i := 95) rfl, List.forall_mem_cons.mpr ⟨tb2 (i := 96) rfl, List.forall_mem_cons.mpr ⟨tb2 (i := 97) rfl, List.forall_mem_cons.mpr ⟨tb2 (i := 98) rfl, List.forall_mem_cons.mpr ⟨tb2 (i := 99) rfl, List.forall_mem_cons.mpr ⟨tb2 (i := 100) rfl, List.forall_mem_cons.mpr ⟨tb2 (i := 102) rfl, List.forall_mem_cons.mpr ⟨tb4 (i := 6) (q := (⟨"NoiseLamps$Lamps", "lightAt", "(II)I"⟩, 4)) rfl, List.forall_mem_cons.mpr ⟨tb2 (i := 103) rfl, List.forall_mem_cons.mpr ⟨tb2 (i := 104) rfl, List.forall_mem_cons.mpr ⟨tb2 (i := 108) rfl, List.forall_mem_cons.mpr ⟨tb2 (i := 105) rfl, List.forall_mem_cons.mpr ⟨tb2 (i := 106) rfl, List.forall_mem_cons.mpr ⟨tb2 (i := 107) rfl, fun _ h => absurd h List.not_mem_nil⟩⟩⟩⟩⟩⟩⟩⟩⟩⟩⟩⟩⟩⟩⟩⟩⟩⟩⟩⟩⟩⟩⟩⟩
theorem wsL_law_r19_in : ∀ w ∈ wsL_law_r19, w ∈ lw_tbl := List.forall_mem_cons.mpr ⟨tb2 (i := 109) rfl, List.forall_mem_cons.mpr ⟨tb2 (i := 110) rfl, List.forall_mem_cons.mpr ⟨tb2 (i := 111) rfl, List.forall_mem_cons.mpr ⟨tb2 (i := 112) rfl, List.forall_mem_cons.mpr ⟨tb3 (i := 149) rfl, List.forall_mem_cons.mpr ⟨tb3 (i := 150) rfl, List.forall_mem_cons.mpr ⟨tb3 (i := 151) rfl, List.forall_mem_cons.mpr ⟨tb3 (i := 152) rfl, List.forall_mem_cons.mpr ⟨tb3 (i := 160) rfl, List.forall_mem_cons.mpr ⟨tb3 (i := 153) rfl, List.forall_mem_cons.mpr ⟨tb3 (i := 154) rfl, List.forall_mem_cons.mpr ⟨tb3 (i := 155) rfl, List.forall_mem_cons.mpr ⟨tb3 (i := 156) rfl, List.forall_mem_cons.mpr ⟨tb3 (i := 158) rfl, List.forall_mem_cons.mpr ⟨tb5 (i := 4) (q := (⟨"NoiseLampsModel", "sumAt", "(II)I"⟩, 17)) rfl, List.forall_mem_cons.mpr ⟨tb3 (i := 159) rfl, List.forall_mem_cons.mpr ⟨tb2 (i := 113) rfl, List.forall_mem_cons.mpr ⟨tb2 (i := 114) rfl, List.forall_mem_cons.mpr ⟨tb2 (i := 115) rfl, List.forall_mem_cons.mpr ⟨tb2 (i := 116) rfl, List.forall_mem_cons.mpr ⟨tb2 (i := 117) rfl, List.forall_mem_cons.mpr ⟨tb2 (i := 118) rfl, List.forall_mem_cons.mpr ⟨tb2 (i := 119) rfl, List.forall_mem_cons.mpr ⟨tb2 (i := 120) rfl, fun _ h => absurd h List.not_mem_nil⟩⟩⟩⟩⟩⟩⟩⟩⟩⟩⟩⟩⟩⟩⟩⟩⟩⟩⟩⟩⟩⟩⟩⟩
theorem wsL_law_r20_in : ∀ w ∈ wsL_law_r20, w ∈ lw_tbl := List.forall_mem_cons.mpr ⟨tb2 (i := 121) rfl, List.forall_mem_cons.mpr ⟨tb2 (i := 123) rfl, List.forall_mem_cons.mpr ⟨tb4 (i := 7) (q := (⟨"NoiseLamps$Lamps", "lightPlaces", "(I)V"⟩, 4)) rfl, List.forall_mem_cons.mpr ⟨tb2 (i := 124) rfl, List.forall_mem_cons.mpr ⟨tb2 (i := 125) rfl, List.forall_mem_cons.mpr ⟨tb2 (i := 127) rfl, List.forall_mem_cons.mpr ⟨tb4 (i := 8) (q := (⟨"NoiseLamps$Lamps", "places", "()I"⟩, 4)) rfl, List.forall_mem_cons.mpr ⟨tb2 (i := 128) rfl, List.forall_mem_cons.mpr ⟨tb2 (i := 129) rfl, List.forall_mem_cons.mpr ⟨tb2 (i := 131) rfl, List.forall_mem_cons.mpr ⟨tb4 (i := 9) (q := (⟨"NoiseLamps$Lamps", "leastOfPlaces", "()I"⟩, 4)) rfl, List.forall_mem_cons.mpr ⟨tb2 (i := 132) rfl, List.forall_mem_cons.mpr ⟨tb2 (i := 133) rfl, List.forall_mem_cons.mpr ⟨tb2 (i := 134) rfl, List.forall_mem_cons.mpr ⟨tb2 (i := 135) rfl, List.forall_mem_cons.mpr ⟨tb2 (i := 136) rfl, List.forall_mem_cons.mpr ⟨tb2 (i := 137) rfl, List.forall_mem_cons.mpr ⟨tb2 (i := 139) rfl, List.forall_mem_cons.mpr ⟨tb4 (i := 10) (q := (⟨"NoiseLamps$Lamps", "meanOfPlaces", "(I)I"⟩, 4)) rfl, List.forall_mem_cons.mpr ⟨tb2 (i := 140) rfl, List.forall_mem_cons.mpr ⟨tb2 (i := 141) rfl, List.forall_mem_cons.mpr ⟨tb2 (i := 142) rfl, List.forall_mem_cons.mpr ⟨tb2 (i := 143) rfl, List.forall_mem_cons.mpr ⟨tb2 (i := 144) rfl, fun _ h => absurd h List.not_mem_nil⟩⟩⟩⟩⟩⟩⟩⟩⟩⟩⟩⟩⟩⟩⟩⟩⟩⟩⟩⟩⟩⟩⟩⟩
theorem wsL_law_r21_in : ∀ w ∈ wsL_law_r21, w ∈ lw_tbl := List.forall_mem_cons.mpr ⟨tb2 (i := 145) rfl, List.forall_mem_cons.mpr ⟨tb2 (i := 147) rfl, List.forall_mem_cons.mpr ⟨tb4 (i := 11) (q := (⟨"NoiseLamps$Lamps", "evennessOfPlaces", "()I"⟩, 4)) rfl, List.forall_mem_cons.mpr ⟨tb2 (i := 148) rfl, List.forall_mem_cons.mpr ⟨tb2 (i := 149) rfl, List.forall_mem_cons.mpr ⟨tb2 (i := 150) rfl, List.forall_mem_cons.mpr ⟨tb2 (i := 151) rfl, List.forall_mem_cons.mpr ⟨tb2 (i := 152) rfl, List.forall_mem_cons.mpr ⟨tb2 (i := 153) rfl, List.forall_mem_cons.mpr ⟨tb3 (i := 161) rfl, List.forall_mem_cons.mpr ⟨tb3 (i := 162) rfl, List.forall_mem_cons.mpr ⟨tb3 (i := 163) rfl, List.forall_mem_cons.mpr ⟨tb3 (i := 164) rfl, List.forall_mem_cons.mpr ⟨tb3 (i := 165) rfl, List.forall_mem_cons.mpr ⟨tb3 (i := 167) rfl, List.forall_mem_cons.mpr ⟨tb5 (i := 5) (q := (⟨"NoiseLampsModel", "leastOf", "(I)I"⟩, 17)) rfl, List.forall_mem_cons.mpr ⟨tb3 (i := 168) rfl, List.forall_mem_cons.mpr ⟨tb3 (i := 169) rfl, List.forall_mem_cons.mpr ⟨tb3 (i := 171) rfl, List.forall_mem_cons.mpr ⟨tb5 (i := 6) (q := (⟨"NoiseLampsModel", "meanOf", "(II)I"⟩, 17)) rfl, List.forall_mem_cons.mpr ⟨tb3 (i := 172) rfl, List.forall_mem_cons.mpr ⟨tb3 (i := 173) rfl, List.forall_mem_cons.mpr ⟨tb3 (i := 175) rfl, List.forall_mem_cons.mpr ⟨tb5 (i := 7) (q := (⟨"NoiseLampsModel", "evenness", "(I)I"⟩, 17)) rfl, fun _ h => absurd h List.not_mem_nil⟩⟩⟩⟩⟩⟩⟩⟩⟩⟩⟩⟩⟩⟩⟩⟩⟩⟩⟩⟩⟩⟩⟩⟩
theorem wsL_law_r22_in : ∀ w ∈ wsL_law_r22, w ∈ lw_tbl := List.forall_mem_cons.mpr ⟨tb3 (i := 176) rfl, List.forall_mem_cons.mpr ⟨tb3 (i := 177) rfl, List.forall_mem_cons.mpr ⟨tb3 (i := 178) rfl, List.forall_mem_cons.mpr ⟨tb3 (i := 180) rfl, List.forall_mem_cons.mpr ⟨tb5 (i := 8) (q := (⟨"NoiseLampsModel", "poles", "(I)I"⟩, 17)) rfl, List.forall_mem_cons.mpr ⟨tb3 (i := 181) rfl, List.forall_mem_cons.mpr ⟨tb2 (i := 154) rfl, List.forall_mem_cons.mpr ⟨tb2 (i := 155) rfl, List.forall_mem_cons.mpr ⟨tb2 (i := 156) rfl, List.forall_mem_cons.mpr ⟨tb2 (i := 157) rfl, List.forall_mem_cons.mpr ⟨tb2 (i := 158) rfl, List.forall_mem_cons.mpr ⟨tb2 (i := 159) rfl, List.forall_mem_cons.mpr ⟨tb2 (i := 160) rfl, List.forall_mem_cons.mpr ⟨tb2 (i := 161) rfl, List.forall_mem_cons.mpr ⟨tb3 (i := 182) rfl, List.forall_mem_cons.mpr ⟨tb3 (i := 183) rfl, List.forall_mem_cons.mpr ⟨tb3 (i := 184) rfl, List.forall_mem_cons.mpr ⟨tb3 (i := 185) rfl, List.forall_mem_cons.mpr ⟨tb2 (i := 162) rfl, List.forall_mem_cons.mpr ⟨tb2 (i := 163) rfl, List.forall_mem_cons.mpr ⟨tb2 (i := 164) rfl, List.forall_mem_cons.mpr ⟨tb2 (i := 165) rfl, List.forall_mem_cons.mpr ⟨tb2 (i := 166) rfl, List.forall_mem_cons.mpr ⟨tb2 (i := 167) rfl, fun _ h => absurd h List.not_mem_nil⟩⟩⟩⟩⟩⟩⟩⟩⟩⟩⟩⟩⟩⟩⟩⟩⟩⟩⟩⟩⟩⟩⟩⟩
theorem wsL_law_r23_in : ∀ w ∈ wsL_law_r23, w ∈ lw_tbl := List.forall_mem_cons.mpr ⟨tb2 (i := 168) rfl, List.forall_mem_cons.mpr ⟨tb2 (i := 169) rfl, List.forall_mem_cons.mpr ⟨tb3 (i := 186) rfl, List.forall_mem_cons.mpr ⟨tb3 (i := 187) rfl, List.forall_mem_cons.mpr ⟨tb3 (i := 188) rfl, List.forall_mem_cons.mpr ⟨tb3 (i := 189) rfl, List.forall_mem_cons.mpr ⟨tb2 (i := 170) rfl, List.forall_mem_cons.mpr ⟨tb2 (i := 171) rfl, List.forall_mem_cons.mpr ⟨tb2 (i := 172) rfl, List.forall_mem_cons.mpr ⟨tb2 (i := 173) rfl, List.forall_mem_cons.mpr ⟨tb2 (i := 174) rfl, List.forall_mem_cons.mpr ⟨tb2 (i := 175) rfl, List.forall_mem_cons.mpr ⟨tb2 (i := 176) rfl, List.forall_mem_cons.mpr ⟨tb2 (i := 177) rfl, List.forall_mem_cons.mpr ⟨tb2 (i := 178) rfl, List.forall_mem_cons.mpr ⟨tb2 (i := 179) rfl, List.forall_mem_cons.mpr ⟨tb2 (i := 180) rfl, List.forall_mem_cons.mpr ⟨tb2 (i := 182) rfl, List.forall_mem_cons.mpr ⟨tb2 (i := 183) rfl, List.forall_mem_cons.mpr ⟨tb2 (i := 181) rfl, List.forall_mem_cons.mpr ⟨tb3 (i := 190) rfl, List.forall_mem_cons.mpr ⟨tb3 (i := 191) rfl, List.forall_mem_cons.mpr ⟨tb3 (i := 192) rfl, List.forall_mem_cons.mpr ⟨tb3 (i := 193) rfl, fun _ h => absurd h List.not_mem_nil⟩⟩⟩⟩⟩⟩⟩⟩⟩⟩⟩⟩⟩⟩⟩⟩⟩⟩⟩⟩⟩⟩⟩⟩
theorem wsL_law_r24_in : ∀ w ∈ wsL_law_r24, w ∈ lw_tbl := List.forall_mem_cons.mpr ⟨tb3 (i := 194) rfl, List.forall_mem_cons.mpr ⟨tb3 (i := 195) rfl, List.forall_mem_cons.mpr ⟨tb3 (i := 196) rfl, List.forall_mem_cons.mpr ⟨tb3 (i := 197) rfl, List.forall_mem_cons.mpr ⟨tb3 (i := 199) rfl, List.forall_mem_cons.mpr ⟨tb5 (i := 9) (q := (⟨"NoiseLampsModel", "dropOf", "(III)J"⟩, 17)) rfl, List.forall_mem_cons.mpr ⟨tb3 (i := 200) rfl, List.forall_mem_cons.mpr ⟨tb3 (i := 201) rfl, List.forall_mem_cons.mpr ⟨tb2 (i := 184) rfl, List.forall_mem_cons.mpr ⟨tb2 (i := 185) rfl, List.forall_mem_cons.mpr ⟨tb2 (i := 186) rfl, List.forall_mem_cons.mpr ⟨tb2 (i := 187) rfl, List.forall_mem_cons.mpr ⟨tb2 (i := 188) rfl, List.forall_mem_cons.mpr ⟨tb2 (i := 189) rfl, List.forall_mem_cons.mpr ⟨tb2 (i := 190) rfl, List.forall_mem_cons.mpr ⟨tb2 (i := 191) rfl, List.forall_mem_cons.mpr ⟨tb2 (i := 192) rfl, List.forall_mem_cons.mpr ⟨tb3 (i := 202) rfl, List.forall_mem_cons.mpr ⟨tb3 (i := 203) rfl, List.forall_mem_cons.mpr ⟨tb3 (i := 204) rfl, List.forall_mem_cons.mpr ⟨tb3 (i := 205) rfl, List.forall_mem_cons.mpr ⟨tb2 (i := 193) rfl, List.forall_mem_cons.mpr ⟨tb2 (i := 194) rfl, List.forall_mem_cons.mpr ⟨tb2 (i := 195) rfl, fun _ h => absurd h List.not_mem_nil⟩⟩⟩⟩⟩⟩⟩⟩⟩⟩⟩⟩⟩⟩⟩⟩⟩⟩⟩⟩⟩⟩⟩⟩
theorem wsL_law_r25_in : ∀ w ∈ wsL_law_r25, w ∈ lw_tbl := List.forall_mem_cons.mpr ⟨tb2 (i := 196) rfl, List.forall_mem_cons.mpr ⟨tb2 (i := 197) rfl, List.forall_mem_cons.mpr ⟨tb2 (i := 198) rfl, List.forall_mem_cons.mpr ⟨tb2 (i := 199) rfl, List.forall_mem_cons.mpr ⟨tb2 (i := 200) rfl, List.forall_mem_cons.mpr ⟨tb2 (i := 201) rfl, List.forall_mem_cons.mpr ⟨tb2 (i := 202) rfl, List.forall_mem_cons.mpr ⟨tb2 (i := 203) rfl, List.forall_mem_cons.mpr ⟨tb2 (i := 204) rfl, List.forall_mem_cons.mpr ⟨tb2 (i := 205) rfl, List.forall_mem_cons.mpr ⟨tb2 (i := 206) rfl, List.forall_mem_cons.mpr ⟨tb2 (i := 207) rfl, List.forall_mem_cons.mpr ⟨tb2 (i := 208) rfl, List.forall_mem_cons.mpr ⟨tb2 (i := 209) rfl, List.forall_mem_cons.mpr ⟨tb2 (i := 210) rfl, List.forall_mem_cons.mpr ⟨tb2 (i := 211) rfl, List.forall_mem_cons.mpr ⟨tb2 (i := 212) rfl, List.forall_mem_cons.mpr ⟨tb2 (i := 213) rfl, List.forall_mem_cons.mpr ⟨tb2 (i := 214) rfl, List.forall_mem_cons.mpr ⟨tb2 (i := 215) rfl, List.forall_mem_cons.mpr ⟨tb2 (i := 216) rfl, List.forall_mem_cons.mpr ⟨tb3 (i := 206) rfl, List.forall_mem_cons.mpr ⟨tb3 (i := 207) rfl, List.forall_mem_cons.mpr ⟨tb3 (i := 208) rfl, fun _ h => absurd h List.not_mem_nil⟩⟩⟩⟩⟩⟩⟩⟩⟩⟩⟩⟩⟩⟩⟩⟩⟩⟩⟩⟩⟩⟩⟩⟩
theorem wsL_law_r26_in : ∀ w ∈ wsL_law_r26, w ∈ lw_tbl := List.forall_mem_cons.mpr ⟨tb3 (i := 209) rfl, fun _ h => absurd h List.not_mem_nil⟩
theorem inX0 : ∀ w ∈ wsX00, w ∈ lw_tbl := show ∀ w ∈ [u_lay RX0 TX0 0, u_lay RX0 TX0 1, u_lay RX0 TX0 2, u_lay RX0 TX0 3], w ∈ lw_tbl from List.forall_mem_cons.mpr ⟨tb1 (i := 89) rfl, List.forall_mem_cons.mpr ⟨tb1 (i := 91) rfl, List.forall_mem_cons.mpr ⟨tb1 (i := 93) rfl, List.forall_mem_cons.mpr ⟨tb1 (i := 95) rfl, fun _ h => absurd h List.not_mem_nil⟩⟩⟩⟩
theorem inX1 : ∀ w ∈ wsX10, w ∈ lw_tbl := show ∀ w ∈ [u_lay RX1 TX1 0, u_lay RX1 TX1 1, u_lay RX1 TX1 2, u_lay RX1 TX1 3, u_lay RX1 TX1 4, u_lay RX1 TX1 5, u_lay RX1 TX1 6, u_lay RX1 TX1 7, u_lay RX1 TX1 8, u_lay RX1 TX1 9, u_lay RX1 TX1 10, u_lay RX1 TX1 11, u_lay RX1 TX1 12, u_lay RX1 TX1 13, u_lay RX1 TX1 14, u_lay RX1 TX1 15, u_lay RX1 TX1 16, u_lay RX1 TX1 17, u_lay RX1 TX1 18], w ∈ lw_tbl from List.forall_mem_cons.mpr ⟨tb1 (i := 39) rfl, List.forall_mem_cons.mpr ⟨tb1 (i := 41) rfl, List.forall_mem_cons.mpr ⟨tb1 (i := 43) rfl, List.forall_mem_cons.mpr ⟨tb1 (i := 45) rfl, List.forall_mem_cons.mpr ⟨tb1 (i := 47) rfl, List.forall_mem_cons.mpr ⟨tb1 (i := 49) rfl, List.forall_mem_cons.mpr ⟨tb1 (i := 51) rfl, List.forall_mem_cons.mpr ⟨tb1 (i := 53) rfl, List.forall_mem_cons.mpr ⟨tb1 (i := 55) rfl, List.forall_mem_cons.mpr ⟨tb1 (i := 57) rfl, List.forall_mem_cons.mpr ⟨tb1 (i := 59) rfl, List.forall_mem_cons.mpr ⟨tb1 (i := 61) rfl, List.forall_mem_cons.mpr ⟨tb1 (i := 63) rfl, List.forall_mem_cons.mpr ⟨tb1 (i := 65) rfl, List.forall_mem_cons.mpr ⟨tb1 (i := 67) rfl, List.forall_mem_cons.mpr ⟨tb1 (i := 69) rfl, List.forall_mem_cons.mpr ⟨tb1 (i := 71) rfl, List.forall_mem_cons.mpr ⟨tb1 (i := 73) rfl, List.forall_mem_cons.mpr ⟨tb1 (i := 75) rfl, fun _ h => absurd h List.not_mem_nil⟩⟩⟩⟩⟩⟩⟩⟩⟩⟩⟩⟩⟩⟩⟩⟩⟩⟩⟩
theorem inX2 : ∀ w ∈ wsX20, w ∈ lw_tbl := show ∀ w ∈ [u_lay RX2 TX2 0, u_lay RX2 TX2 1], w ∈ lw_tbl from List.forall_mem_cons.mpr ⟨tb1 (i := 100) rfl, List.forall_mem_cons.mpr ⟨tb1 (i := 102) rfl, fun _ h => absurd h List.not_mem_nil⟩⟩
theorem inX3 : ∀ w ∈ wsX30, w ∈ lw_tbl := show ∀ w ∈ [u_lay RX3 TX3 0, u_lay RX3 TX3 1, u_lay RX3 TX3 2, u_lay RX3 TX3 3, u_lay RX3 TX3 4, u_lay RX3 TX3 5, u_lay RX3 TX3 6, u_lay RX3 TX3 7, u_lay RX3 TX3 8, u_lay RX3 TX3 9, u_lay RX3 TX3 10, u_lay RX3 TX3 11, u_lay RX3 TX3 12, u_lay RX3 TX3 13, u_lay RX3 TX3 14, u_lay RX3 TX3 15, u_lay RX3 TX3 16], w ∈ lw_tbl from List.forall_mem_cons.mpr ⟨tb3 (i := 0) rfl, List.forall_mem_cons.mpr ⟨tb3 (i := 2) rfl, List.forall_mem_cons.mpr ⟨tb3 (i := 4) rfl, List.forall_mem_cons.mpr ⟨tb3 (i := 6) rfl, List.forall_mem_cons.mpr ⟨tb3 (i := 8) rfl, List.forall_mem_cons.mpr ⟨tb3 (i := 10) rfl, List.forall_mem_cons.mpr ⟨tb3 (i := 12) rfl, List.forall_mem_cons.mpr ⟨tb3 (i := 14) rfl, List.forall_mem_cons.mpr ⟨tb3 (i := 16) rfl, List.forall_mem_cons.mpr ⟨tb3 (i := 18) rfl, List.forall_mem_cons.mpr ⟨tb3 (i := 20) rfl, List.forall_mem_cons.mpr ⟨tb3 (i := 22) rfl, List.forall_mem_cons.mpr ⟨tb3 (i := 24) rfl, List.forall_mem_cons.mpr ⟨tb3 (i := 26) rfl, List.forall_mem_cons.mpr ⟨tb3 (i := 28) rfl, List.forall_mem_cons.mpr ⟨tb3 (i := 30) rfl, List.forall_mem_cons.mpr ⟨tb3 (i := 32) rfl, fun _ h => absurd h List.not_mem_nil⟩⟩⟩⟩⟩⟩⟩⟩⟩⟩⟩⟩⟩⟩⟩⟩⟩
theorem wsL_law_in : ∀ w ∈ wsL_law, w ∈ lw_tbl := List.forall_mem_append.mpr ⟨List.forall_mem_append.mpr ⟨List.forall_mem_append.mpr ⟨List.forall_mem_append.mpr ⟨List.forall_mem_append.mpr ⟨List.forall_mem_append.mpr ⟨wsL_law_r1_in, List.forall_mem_append.mpr ⟨wsL_law_r2_in, List.forall_mem_append.mpr ⟨wsL_law_r3_in, List.forall_mem_append.mpr ⟨wsL_law_r4_in, List.forall_mem_append.mpr ⟨wsL_law_r5_in, List.forall_mem_append.mpr ⟨wsL_law_r6_in, List.forall_mem_append.mpr ⟨wsL_law_r7_in, List.forall_mem_append.mpr ⟨wsL_law_r8_in, List.forall_mem_append.mpr ⟨wsL_law_r9_in, List.forall_mem_append.mpr ⟨wsL_law_r10_in, List.forall_mem_append.mpr ⟨wsL_law_r11_in, List.forall_mem_append.mpr ⟨wsL_law_r12_in, List.forall_mem_append.mpr ⟨wsL_law_r13_in, List.forall_mem_append.mpr ⟨wsL_law_r14_in, List.forall_mem_append.mpr ⟨wsL_law_r15_in, List.forall_mem_append.mpr ⟨wsL_law_r16_in, List.forall_mem_append.mpr ⟨wsL_law_r17_in, List.forall_mem_append.mpr ⟨wsL_law_r18_in, List.forall_mem_append.mpr ⟨wsL_law_r19_in, List.forall_mem_append.mpr ⟨wsL_law_r20_in, List.forall_mem_append.mpr ⟨wsL_law_r21_in, List.forall_mem_append.mpr ⟨wsL_law_r22_in, List.forall_mem_append.mpr ⟨wsL_law_r23_in, List.forall_mem_append.mpr ⟨wsL_law_r24_in, List.forall_mem_append.mpr ⟨wsL_law_r25_in, wsL_law_r26_in⟩⟩⟩⟩⟩⟩⟩⟩⟩⟩⟩⟩⟩⟩⟩⟩⟩⟩⟩⟩⟩⟩⟩⟩⟩, inX2⟩, inX3⟩, inX1⟩, inX0⟩, fun _ h => absurd h List.not_mem_nil⟩
theorem inlX0 : ∀ w ∈ wsX00, w ∈ wsL_law := fun _ h => List.mem_append_left _ (List.mem_append_right _ h)
theorem inlX1 : ∀ w ∈ wsX10, w ∈ wsL_law := fun _ h => List.mem_append_left _ (List.mem_append_left _ (List.mem_append_right _ h))
theorem inlX2 : ∀ w ∈ wsX20, w ∈ wsL_law := fun _ h => List.mem_append_left _ (List.mem_append_left _ (List.mem_append_left _ (List.mem_append_left _ (List.mem_append_right _ h))))
theorem inlX3 : ∀ w ∈ wsX30, w ∈ wsL_law := fun _ h => List.mem_append_left _ (List.mem_append_left _ (List.mem_append_left _ (List.mem_append_right _ h)))
end
section
theorem dJ9_abs_0f7a4_0 : decode cJ9_abs_0f7a4 0 = .ok (.iload_n 0, 1) := by decide +kernel
theorem dJ9_abs_0f7a4_1 : decode cJ9_abs_0f7a4 1 = .ok (.ifCond .ge 8, 3) := by decide +kernel
theorem dJ9_abs_0f7a4_4 : decode cJ9_abs_0f7a4 4 = .ok (.iload_n 0, 1) := by decide +kernel
theorem dJ9_abs_0f7a4_5 : decode cJ9_abs_0f7a4 5 = .ok (.ineg, 1) := by decide +kernel
theorem dJ9_abs_0f7a4_6 : decode cJ9_abs_0f7a4 6 = .ok (.goto 4, 3) := by decide +kernel
theorem dJ9_abs_0f7a4_9 : decode cJ9_abs_0f7a4 9 = .ok (.iload_n 0, 1) := by decide +kernel
theorem dJ9_abs_0f7a4_10 : decode cJ9_abs_0f7a4 10 = .ok (.ireturn, 1) := by decide +kernel
theorem dJ9_max_7cf53_0 : decode cJ9_max_7cf53 0 = .ok (.iload_n 0, 1) := by decide +kernel
theorem dJ9_max_7cf53_1 : decode cJ9_max_7cf53 1 = .ok (.iload_n 1, 1) := by decide +kernel
theorem dJ9_max_7cf53_2 : decode cJ9_max_7cf53 2 = .ok (.if_icmp .lt 7, 3) := by decide +kernel
theorem dJ9_max_7cf53_5 : decode cJ9_max_7cf53 5 = .ok (.iload_n 0, 1) := by decide +kernel
theorem dJ9_max_7cf53_6 : decode cJ9_max_7cf53 6 = .ok (.goto 4, 3) := by decide +kernel
theorem dJ9_max_7cf53_9 : decode cJ9_max_7cf53 9 = .ok (.iload_n 1, 1) := by decide +kernel
theorem dJ9_max_7cf53_10 : decode cJ9_max_7cf53 10 = .ok (.ireturn, 1) := by decide +kernel
theorem dJ9_min_7cf53_0 : decode cJ9_min_7cf53 0 = .ok (.iload_n 0, 1) := by decide +kernel
theorem dJ9_min_7cf53_1 : decode cJ9_min_7cf53 1 = .ok (.iload_n 1, 1) := by decide +kernel
theorem dJ9_min_7cf53_2 : decode cJ9_min_7cf53 2 = .ok (.if_icmp .gt 7, 3) := by decide +kernel
theorem dJ9_min_7cf53_5 : decode cJ9_min_7cf53 5 = .ok (.iload_n 0, 1) := by decide +kernel
theorem dJ9_min_7cf53_6 : decode cJ9_min_7cf53 6 = .ok (.goto 4, 3) := by decide +kernel
theorem dJ9_min_7cf53_9 : decode cJ9_min_7cf53 9 = .ok (.iload_n 1, 1) := by decide +kernel
theorem dJ9_min_7cf53_10 : decode cJ9_min_7cf53 10 = .ok (.ireturn, 1) := by decide +kernel
theorem dX0_init_0 : decode cX0_init 0 = .ok (.aload_n 0, 1) := by decide +kernel
theorem dX0_init_1 : decode cX0_init 1 = .ok (.invokespecial 3, 3) := by decide +kernel
theorem dX0_init_4 : decode cX0_init 4 = .ok (.aload_n 0, 1) := by decide +kernel
theorem dX0_init_5 : decode cX0_init 5 = .ok (.bipush 31, 2) := by decide +kernel
theorem dX0_init_7 : decode cX0_init 7 = .ok (.newarray .int, 2) := by decide +kernel
theorem dX0_init_9 : decode cX0_init 9 = .ok (.putfield 9, 3) := by decide +kernel
theorem dX0_init_12 : decode cX0_init 12 = .ok (.aload_n 0, 1) := by decide +kernel
theorem dX0_init_13 : decode cX0_init 13 = .ok (.bipush 24, 2) := by decide +kernel
theorem dX0_init_15 : decode cX0_init 15 = .ok (.newarray .int, 2) := by decide +kernel
theorem dX0_init_17 : decode cX0_init 17 = .ok (.putfield 15, 3) := by decide +kernel
theorem dX0_init_20 : decode cX0_init 20 = .ok (.aload_n 0, 1) := by decide +kernel
theorem dX0_init_21 : decode cX0_init 21 = .ok (.sipush 501, 3) := by decide +kernel
theorem dX0_init_24 : decode cX0_init 24 = .ok (.newarray .int, 2) := by decide +kernel
theorem dX0_init_26 : decode cX0_init 26 = .ok (.putfield 18, 3) := by decide +kernel
theorem dX0_init_29 : decode cX0_init 29 = .ok (.iconst 0, 1) := by decide +kernel
theorem dX0_init_30 : decode cX0_init 30 = .ok (.istore_n 1, 1) := by decide +kernel
theorem dX0_init_31 : decode cX0_init 31 = .ok (.iload_n 1, 1) := by decide +kernel
theorem dX0_init_32 : decode cX0_init 32 = .ok (.bipush 24, 2) := by decide +kernel
theorem dX0_init_34 : decode cX0_init 34 = .ok (.if_icmp .ge 17, 3) := by decide +kernel
theorem dX0_init_37 : decode cX0_init 37 = .ok (.aload_n 0, 1) := by decide +kernel
theorem dX0_init_38 : decode cX0_init 38 = .ok (.getfield 15, 3) := by decide +kernel
theorem dX0_init_41 : decode cX0_init 41 = .ok (.iload_n 1, 1) := by decide +kernel
theorem dX0_init_42 : decode cX0_init 42 = .ok (.bipush 100, 2) := by decide +kernel
theorem dX0_init_44 : decode cX0_init 44 = .ok (.iastore, 1) := by decide +kernel
theorem dX0_init_45 : decode cX0_init 45 = .ok (.iinc 1 1, 3) := by decide +kernel
theorem dX0_init_48 : decode cX0_init 48 = .ok (.goto (-17), 3) := by decide +kernel
theorem dX0_init_51 : decode cX0_init 51 = .ok (.return_, 1) := by decide +kernel
theorem dX0_roadLength_0 : decode cX0_roadLength 0 = .ok (.aload_n 0, 1) := by decide +kernel
theorem dX0_roadLength_1 : decode cX0_roadLength 1 = .ok (.getfield 21, 3) := by decide +kernel
theorem dX0_roadLength_4 : decode cX0_roadLength 4 = .ok (.ireturn, 1) := by decide +kernel
theorem dX0_changeLength_0 : decode cX0_changeLength 0 = .ok (.aload_n 0, 1) := by decide +kernel
theorem dX0_changeLength_1 : decode cX0_changeLength 1 = .ok (.getfield 21, 3) := by decide +kernel
theorem dX0_changeLength_4 : decode cX0_changeLength 4 = .ok (.istore_n 2, 1) := by decide +kernel
theorem dX0_changeLength_5 : decode cX0_changeLength 5 = .ok (.aload_n 0, 1) := by decide +kernel
theorem dX0_changeLength_6 : decode cX0_changeLength 6 = .ok (.iload_n 1, 1) := by decide +kernel
theorem dX0_changeLength_7 : decode cX0_changeLength 7 = .ok (.putfield 21, 3) := by decide +kernel
theorem dX0_changeLength_10 : decode cX0_changeLength 10 = .ok (.iload_n 2, 1) := by decide +kernel
theorem dX0_changeLength_11 : decode cX0_changeLength 11 = .ok (.ireturn, 1) := by decide +kernel
theorem dX0_changeLight_0 : decode cX0_changeLight 0 = .ok (.aload_n 0, 1) := by decide +kernel
theorem dX0_changeLight_1 : decode cX0_changeLight 1 = .ok (.getfield 9, 3) := by decide +kernel
theorem dX0_changeLight_4 : decode cX0_changeLight 4 = .ok (.iload_n 1, 1) := by decide +kernel
theorem dX0_changeLight_5 : decode cX0_changeLight 5 = .ok (.bipush 10, 2) := by decide +kernel
theorem dX0_changeLight_7 : decode cX0_changeLight 7 = .ok (.idiv, 1) := by decide +kernel
theorem dX0_changeLight_8 : decode cX0_changeLight 8 = .ok (.iaload, 1) := by decide +kernel
theorem dX0_changeLight_9 : decode cX0_changeLight 9 = .ok (.istore_n 3, 1) := by decide +kernel
theorem dX0_changeLight_10 : decode cX0_changeLight 10 = .ok (.aload_n 0, 1) := by decide +kernel
theorem dX0_changeLight_11 : decode cX0_changeLight 11 = .ok (.getfield 9, 3) := by decide +kernel
theorem dX0_changeLight_14 : decode cX0_changeLight 14 = .ok (.iload_n 1, 1) := by decide +kernel
theorem dX0_changeLight_15 : decode cX0_changeLight 15 = .ok (.bipush 10, 2) := by decide +kernel
theorem dX0_changeLight_17 : decode cX0_changeLight 17 = .ok (.idiv, 1) := by decide +kernel
theorem dX0_changeLight_18 : decode cX0_changeLight 18 = .ok (.iload_n 2, 1) := by decide +kernel
theorem dX0_changeLight_19 : decode cX0_changeLight 19 = .ok (.iastore, 1) := by decide +kernel
theorem dX0_changeLight_20 : decode cX0_changeLight 20 = .ok (.iload_n 3, 1) := by decide +kernel
theorem dX0_changeLight_21 : decode cX0_changeLight 21 = .ok (.ireturn, 1) := by decide +kernel
theorem dX0_changePercent_0 : decode cX0_changePercent 0 = .ok (.aload_n 0, 1) := by decide +kernel
theorem dX0_changePercent_1 : decode cX0_changePercent 1 = .ok (.getfield 15, 3) := by decide +kernel
theorem dX0_changePercent_4 : decode cX0_changePercent 4 = .ok (.iload_n 1, 1) := by decide +kernel
theorem dX0_changePercent_5 : decode cX0_changePercent 5 = .ok (.iaload, 1) := by decide +kernel
theorem dX0_changePercent_6 : decode cX0_changePercent 6 = .ok (.istore_n 3, 1) := by decide +kernel
theorem dX0_changePercent_7 : decode cX0_changePercent 7 = .ok (.aload_n 0, 1) := by decide +kernel
theorem dX0_changePercent_8 : decode cX0_changePercent 8 = .ok (.getfield 15, 3) := by decide +kernel
theorem dX0_changePercent_11 : decode cX0_changePercent 11 = .ok (.iload_n 1, 1) := by decide +kernel
theorem dX0_changePercent_12 : decode cX0_changePercent 12 = .ok (.iload_n 2, 1) := by decide +kernel
theorem dX0_changePercent_13 : decode cX0_changePercent 13 = .ok (.iastore, 1) := by decide +kernel
theorem dX0_changePercent_14 : decode cX0_changePercent 14 = .ok (.iload_n 3, 1) := by decide +kernel
theorem dX0_changePercent_15 : decode cX0_changePercent 15 = .ok (.ireturn, 1) := by decide +kernel
theorem dX0_litDistances_0 : decode cX0_litDistances 0 = .ok (.iconst 0, 1) := by decide +kernel
theorem dX0_litDistances_1 : decode cX0_litDistances 1 = .ok (.istore_n 1, 1) := by decide +kernel
theorem dX0_litDistances_2 : decode cX0_litDistances 2 = .ok (.iconst 0, 1) := by decide +kernel
theorem dX0_litDistances_3 : decode cX0_litDistances 3 = .ok (.istore_n 2, 1) := by decide +kernel
theorem dX0_litDistances_4 : decode cX0_litDistances 4 = .ok (.iload_n 2, 1) := by decide +kernel
theorem dX0_litDistances_5 : decode cX0_litDistances 5 = .ok (.aload_n 0, 1) := by decide +kernel
theorem dX0_litDistances_6 : decode cX0_litDistances 6 = .ok (.getfield 9, 3) := by decide +kernel
theorem dX0_litDistances_9 : decode cX0_litDistances 9 = .ok (.arraylength, 1) := by decide +kernel
theorem dX0_litDistances_10 : decode cX0_litDistances 10 = .ok (.if_icmp .ge 21, 3) := by decide +kernel
theorem dX0_litDistances_13 : decode cX0_litDistances 13 = .ok (.aload_n 0, 1) := by decide +kernel
theorem dX0_litDistances_14 : decode cX0_litDistances 14 = .ok (.getfield 9, 3) := by decide +kernel
theorem dX0_litDistances_17 : decode cX0_litDistances 17 = .ok (.iload_n 2, 1) := by decide +kernel
theorem dX0_litDistances_18 : decode cX0_litDistances 18 = .ok (.iaload, 1) := by decide +kernel
theorem dX0_litDistances_19 : decode cX0_litDistances 19 = .ok (.ifCond .le 6, 3) := by decide +kernel
theorem dX0_litDistances_22 : decode cX0_litDistances 22 = .ok (.iinc 1 1, 3) := by decide +kernel
theorem dX0_litDistances_25 : decode cX0_litDistances 25 = .ok (.iinc 2 1, 3) := by decide +kernel
theorem dX0_litDistances_28 : decode cX0_litDistances 28 = .ok (.goto (-24), 3) := by decide +kernel
theorem dX0_litDistances_31 : decode cX0_litDistances 31 = .ok (.iload_n 1, 1) := by decide +kernel
theorem dX0_litDistances_32 : decode cX0_litDistances 32 = .ok (.ireturn, 1) := by decide +kernel
theorem dX0_lightFrom_0 : decode cX0_lightFrom 0 = .ok (.iload_n 1, 1) := by decide +kernel
theorem dX0_lightFrom_1 : decode cX0_lightFrom 1 = .ok (.sipush 300, 3) := by decide +kernel
theorem dX0_lightFrom_4 : decode cX0_lightFrom 4 = .ok (.if_icmp .le 5, 3) := by decide +kernel
theorem dX0_lightFrom_7 : decode cX0_lightFrom 7 = .ok (.iconst 0, 1) := by decide +kernel
theorem dX0_lightFrom_8 : decode cX0_lightFrom 8 = .ok (.ireturn, 1) := by decide +kernel
theorem dX0_lightFrom_9 : decode cX0_lightFrom 9 = .ok (.iload_n 1, 1) := by decide +kernel
theorem dX0_lightFrom_10 : decode cX0_lightFrom 10 = .ok (.bipush 10, 2) := by decide +kernel
theorem dX0_lightFrom_12 : decode cX0_lightFrom 12 = .ok (.idiv, 1) := by decide +kernel
theorem dX0_lightFrom_13 : decode cX0_lightFrom 13 = .ok (.istore_n 2, 1) := by decide +kernel
theorem dX0_lightFrom_14 : decode cX0_lightFrom 14 = .ok (.iload_n 1, 1) := by decide +kernel
theorem dX0_lightFrom_15 : decode cX0_lightFrom 15 = .ok (.bipush 10, 2) := by decide +kernel
theorem dX0_lightFrom_17 : decode cX0_lightFrom 17 = .ok (.irem, 1) := by decide +kernel
theorem dX0_lightFrom_18 : decode cX0_lightFrom 18 = .ok (.istore_n 3, 1) := by decide +kernel
theorem dX0_lightFrom_19 : decode cX0_lightFrom 19 = .ok (.iload_n 3, 1) := by decide +kernel
theorem dX0_lightFrom_20 : decode cX0_lightFrom 20 = .ok (.ifCond .ne 10, 3) := by decide +kernel
theorem dX0_lightFrom_23 : decode cX0_lightFrom 23 = .ok (.aload_n 0, 1) := by decide +kernel
theorem dX0_lightFrom_24 : decode cX0_lightFrom 24 = .ok (.getfield 9, 3) := by decide +kernel
theorem dX0_lightFrom_27 : decode cX0_lightFrom 27 = .ok (.iload_n 2, 1) := by decide +kernel
theorem dX0_lightFrom_28 : decode cX0_lightFrom 28 = .ok (.iaload, 1) := by decide +kernel
theorem dX0_lightFrom_29 : decode cX0_lightFrom 29 = .ok (.ireturn, 1) := by decide +kernel
theorem dX0_lightFrom_30 : decode cX0_lightFrom 30 = .ok (.aload_n 0, 1) := by decide +kernel
theorem dX0_lightFrom_31 : decode cX0_lightFrom 31 = .ok (.getfield 9, 3) := by decide +kernel
theorem dX0_lightFrom_34 : decode cX0_lightFrom 34 = .ok (.iload_n 2, 1) := by decide +kernel
theorem dX0_lightFrom_35 : decode cX0_lightFrom 35 = .ok (.iaload, 1) := by decide +kernel
theorem dX0_lightFrom_36 : decode cX0_lightFrom 36 = .ok (.bipush 10, 2) := by decide +kernel
theorem dX0_lightFrom_38 : decode cX0_lightFrom 38 = .ok (.iload_n 3, 1) := by decide +kernel
theorem dX0_lightFrom_39 : decode cX0_lightFrom 39 = .ok (.isub, 1) := by decide +kernel
theorem dX0_lightFrom_40 : decode cX0_lightFrom 40 = .ok (.imul, 1) := by decide +kernel
theorem dX0_lightFrom_41 : decode cX0_lightFrom 41 = .ok (.aload_n 0, 1) := by decide +kernel
theorem dX0_lightFrom_42 : decode cX0_lightFrom 42 = .ok (.getfield 9, 3) := by decide +kernel
theorem dX0_lightFrom_45 : decode cX0_lightFrom 45 = .ok (.iload_n 2, 1) := by decide +kernel
theorem dX0_lightFrom_46 : decode cX0_lightFrom 46 = .ok (.iconst 1, 1) := by decide +kernel
theorem dX0_lightFrom_47 : decode cX0_lightFrom 47 = .ok (.iadd, 1) := by decide +kernel
theorem dX0_lightFrom_48 : decode cX0_lightFrom 48 = .ok (.iaload, 1) := by decide +kernel
theorem dX0_lightFrom_49 : decode cX0_lightFrom 49 = .ok (.iload_n 3, 1) := by decide +kernel
theorem dX0_lightFrom_50 : decode cX0_lightFrom 50 = .ok (.imul, 1) := by decide +kernel
theorem dX0_lightFrom_51 : decode cX0_lightFrom 51 = .ok (.iadd, 1) := by decide +kernel
theorem dX0_lightFrom_52 : decode cX0_lightFrom 52 = .ok (.bipush 10, 2) := by decide +kernel
theorem dX0_lightFrom_54 : decode cX0_lightFrom 54 = .ok (.idiv, 1) := by decide +kernel
theorem dX0_lightFrom_55 : decode cX0_lightFrom 55 = .ok (.ireturn, 1) := by decide +kernel
set_option maxRecDepth 20000 in
theorem ggX0_dimmedLight_X0_lightAt : GoodIn wsX0_dimmedLight wsX0_lightAt := goodIn_r _ [6, 7, 8, 9, 10, 11, 12, 13, 14, 15, 16, 5, 17, 18, 19, 20, 21, 22, 26, 27, 28, 29] (by decide +kernel) (by decide +kernel)
set_option maxRecDepth 20000 in
theorem gX0_dimmedLight_X0_lightAt : GoodIn wsX0_dimmedLight (wsV RX0 25 RX0 yX0_lightAt wsX0_lightAt) := goodIn_app (goodIn_of _ (by decide +kernel)) ggX0_dimmedLight_X0_lightAt
set_option maxRecDepth 20000 in
theorem ggX0_dimmedLight_X0_dimmed : GoodIn wsX0_dimmedLight wsX0_dimmed := goodIn_r _ [25] (by decide +kernel) (by decide +kernel)
set_option maxRecDepth 20000 in
theorem gX0_dimmedLight_X0_dimmed : GoodIn wsX0_dimmedLight (va_wsS RX0 29 yX0_dimmed wsX0_dimmed) := goodIn_app (goodIn_of _ (by decide +kernel)) ggX0_dimmedLight_X0_dimmed
theorem dX0_dimmedLight_0 : decode cX0_dimmedLight 0 = .ok (.aload_n 0, 1) := by decide +kernel
theorem dX0_dimmedLight_1 : decode cX0_dimmedLight 1 = .ok (.iload_n 1, 1) := by decide +kernel
theorem dX0_dimmedLight_2 : decode cX0_dimmedLight 2 = .ok (.iload_n 2, 1) := by decide +kernel
theorem dX0_dimmedLight_3 : decode cX0_dimmedLight 3 = .ok (.invokevirtual 25, 3) := by decide +kernel
theorem dX0_dimmedLight_6 : decode cX0_dimmedLight 6 = .ok (.aload_n 0, 1) := by decide +kernel
theorem dX0_dimmedLight_7 : decode cX0_dimmedLight 7 = .ok (.getfield 15, 3) := by decide +kernel
theorem dX0_dimmedLight_10 : decode cX0_dimmedLight 10 = .ok (.iload_n 3, 1) := by decide +kernel
theorem dX0_dimmedLight_11 : decode cX0_dimmedLight 11 = .ok (.iaload, 1) := by decide +kernel
theorem dX0_dimmedLight_12 : decode cX0_dimmedLight 12 = .ok (.invokestatic 29, 3) := by decide +kernel
theorem dX0_dimmedLight_15 : decode cX0_dimmedLight 15 = .ok (.ireturn, 1) := by decide +kernel
theorem dX0_poles_0 : decode cX0_poles 0 = .ok (.aload_n 0, 1) := by decide +kernel
theorem dX0_poles_1 : decode cX0_poles 1 = .ok (.getfield 21, 3) := by decide +kernel
theorem dX0_poles_4 : decode cX0_poles 4 = .ok (.iload_n 1, 1) := by decide +kernel
theorem dX0_poles_5 : decode cX0_poles 5 = .ok (.idiv, 1) := by decide +kernel
theorem dX0_poles_6 : decode cX0_poles 6 = .ok (.iconst 1, 1) := by decide +kernel
theorem dX0_poles_7 : decode cX0_poles 7 = .ok (.iadd, 1) := by decide +kernel
theorem dX0_poles_8 : decode cX0_poles 8 = .ok (.ireturn, 1) := by decide +kernel
set_option maxRecDepth 20000 in
theorem ggX0_leastLight_X0_lightPlaces : GoodIn wsX0_leastLight wsX0_lightPlaces := goodIn_r _ [5, 6, 7, 8, 9, 4, 10, 11, 12, 13, 14, 15, 16, 17, 18, 19, 20, 21, 22, 23, 24, 25, 26, 27, 28, 29, 30, 35, 36, 37, 38] (by decide +kernel) (by decide +kernel)
set_option maxRecDepth 20000 in
theorem gX0_leastLight_X0_lightPlaces : GoodIn wsX0_leastLight (wsV RX0 32 RX0 yX0_lightPlaces wsX0_lightPlaces) := goodIn_app (goodIn_of _ (by decide +kernel)) ggX0_leastLight_X0_lightPlaces
set_option maxRecDepth 20000 in
theorem ggX0_leastLight_X0_leastOfPlaces : GoodIn wsX0_leastLight wsX0_leastOfPlaces := goodIn_r _ [34, 6, 16, 17, 18, 19, 7, 8, 9, 4, 10, 11, 35, 36, 37, 38] (by decide +kernel) (by decide +kernel)
set_option maxRecDepth 20000 in
theorem gX0_leastLight_X0_leastOfPlaces : GoodIn wsX0_leastLight (wsV RX0 36 RX0 yX0_leastOfPlaces wsX0_leastOfPlaces) := goodIn_app (goodIn_of _ (by decide +kernel)) ggX0_leastLight_X0_leastOfPlaces
theorem dX0_leastLight_0 : decode cX0_leastLight 0 = .ok (.aload_n 0, 1) := by decide +kernel
theorem dX0_leastLight_1 : decode cX0_leastLight 1 = .ok (.iload_n 1, 1) := by decide +kernel
theorem dX0_leastLight_2 : decode cX0_leastLight 2 = .ok (.invokevirtual 32, 3) := by decide +kernel
theorem dX0_leastLight_5 : decode cX0_leastLight 5 = .ok (.aload_n 0, 1) := by decide +kernel
theorem dX0_leastLight_6 : decode cX0_leastLight 6 = .ok (.invokevirtual 36, 3) := by decide +kernel
theorem dX0_leastLight_9 : decode cX0_leastLight 9 = .ok (.ireturn, 1) := by decide +kernel
set_option maxRecDepth 20000 in
theorem ggX0_meanLight_X0_lightPlaces : GoodIn wsX0_meanLight wsX0_lightPlaces := goodIn_r _ [5, 6, 7, 8, 9, 4, 10, 11, 12, 13, 14, 15, 16, 17, 18, 19, 20, 21, 22, 23, 24, 25, 26, 27, 28, 29, 30, 38, 39, 40, 41] (by decide +kernel) (by decide +kernel)
set_option maxRecDepth 20000 in
theorem gX0_meanLight_X0_lightPlaces : GoodIn wsX0_meanLight (wsV RX0 32 RX0 yX0_lightPlaces wsX0_lightPlaces) := goodIn_app (goodIn_of _ (by decide +kernel)) ggX0_meanLight_X0_lightPlaces
set_option maxRecDepth 20000 in
theorem ggX0_meanLight_X0_meanOfPlaces : GoodIn wsX0_meanLight wsX0_meanOfPlaces := goodIn_r _ [34, 6, 7, 8, 9, 4, 10, 11, 35, 36, 37, 38, 39, 40, 41] (by decide +kernel) (by decide +kernel)
set_option maxRecDepth 20000 in
theorem gX0_meanLight_X0_meanOfPlaces : GoodIn wsX0_meanLight (wsV RX0 40 RX0 yX0_meanOfPlaces wsX0_meanOfPlaces) := goodIn_app (goodIn_of _ (by decide +kernel)) ggX0_meanLight_X0_meanOfPlaces
theorem dX0_meanLight_0 : decode cX0_meanLight 0 = .ok (.aload_n 0, 1) := by decide +kernel
theorem dX0_meanLight_1 : decode cX0_meanLight 1 = .ok (.iload_n 1, 1) := by decide +kernel
theorem dX0_meanLight_2 : decode cX0_meanLight 2 = .ok (.invokevirtual 32, 3) := by decide +kernel
theorem dX0_meanLight_5 : decode cX0_meanLight 5 = .ok (.aload_n 0, 1) := by decide +kernel
theorem dX0_meanLight_6 : decode cX0_meanLight 6 = .ok (.bipush 100, 2) := by decide +kernel
theorem dX0_meanLight_8 : decode cX0_meanLight 8 = .ok (.invokevirtual 40, 3) := by decide +kernel
theorem dX0_meanLight_11 : decode cX0_meanLight 11 = .ok (.ireturn, 1) := by decide +kernel
set_option maxRecDepth 20000 in
theorem ggX0_evenness_X0_lightPlaces : GoodIn wsX0_evenness wsX0_lightPlaces := goodIn_r _ [5, 6, 7, 8, 9, 4, 10, 11, 12, 13, 14, 15, 16, 17, 18, 19, 20, 21, 22, 23, 24, 25, 26, 27, 28, 29, 30, 47, 48, 49, 50] (by decide +kernel) (by decide +kernel)
set_option maxRecDepth 20000 in
theorem gX0_evenness_X0_lightPlaces : GoodIn wsX0_evenness (wsV RX0 32 RX0 yX0_lightPlaces wsX0_lightPlaces) := goodIn_app (goodIn_of _ (by decide +kernel)) ggX0_evenness_X0_lightPlaces
set_option maxRecDepth 20000 in
theorem ggX0_evenness_X0_evennessOfPlaces : GoodIn wsX0_evenness wsX0_evennessOfPlaces := goodIn_r _ [34, 35, 36, 37, 38, 4, 39, 6, 7, 8, 9, 10, 11, 40, 41, 42, 43, 44, 45, 46, 16, 17, 18, 19, 47, 48, 49, 50] (by decide +kernel) (by decide +kernel)
set_option maxRecDepth 20000 in
theorem gX0_evenness_X0_evennessOfPlaces : GoodIn wsX0_evenness (wsV RX0 44 RX0 yX0_evennessOfPlaces wsX0_evennessOfPlaces) := goodIn_app (goodIn_of _ (by decide +kernel)) ggX0_evenness_X0_evennessOfPlaces
theorem dX0_evenness_0 : decode cX0_evenness 0 = .ok (.aload_n 0, 1) := by decide +kernel
theorem dX0_evenness_1 : decode cX0_evenness 1 = .ok (.iload_n 1, 1) := by decide +kernel
theorem dX0_evenness_2 : decode cX0_evenness 2 = .ok (.invokevirtual 32, 3) := by decide +kernel
theorem dX0_evenness_5 : decode cX0_evenness 5 = .ok (.aload_n 0, 1) := by decide +kernel
theorem dX0_evenness_6 : decode cX0_evenness 6 = .ok (.invokevirtual 44, 3) := by decide +kernel
theorem dX0_evenness_9 : decode cX0_evenness 9 = .ok (.ireturn, 1) := by decide +kernel
set_option maxRecDepth 20000 in
theorem ggX0_widestGoodSpacing_X0_lightPlaces : GoodIn wsX0_widestGoodSpacing wsX0_lightPlaces := goodIn_r _ [5, 6, 7, 8, 9, 4, 10, 11, 12, 13, 14, 15, 16, 17, 18, 19, 20, 21, 22, 23, 24, 25, 26, 27, 28, 29, 30, 47, 48, 49, 50] (by decide +kernel) (by decide +kernel)
set_option maxRecDepth 20000 in
theorem gX0_widestGoodSpacing_X0_lightPlaces : GoodIn wsX0_widestGoodSpacing (wsV RX0 32 RX0 yX0_lightPlaces wsX0_lightPlaces) := goodIn_app (goodIn_of _ (by decide +kernel)) ggX0_widestGoodSpacing_X0_lightPlaces
set_option maxRecDepth 20000 in
theorem ggX0_widestGoodSpacing_X0_meanOfPlaces : GoodIn wsX0_widestGoodSpacing wsX0_meanOfPlaces := goodIn_r _ [34, 6, 7, 8, 9, 4, 10, 11, 35, 36, 37, 47, 48, 49, 50] (by decide +kernel) (by decide +kernel)
set_option maxRecDepth 20000 in
theorem gX0_widestGoodSpacing_X0_meanOfPlaces : GoodIn wsX0_widestGoodSpacing (wsV RX0 40 RX0 yX0_meanOfPlaces wsX0_meanOfPlaces) := goodIn_app (goodIn_of _ (by decide +kernel)) ggX0_widestGoodSpacing_X0_meanOfPlaces
set_option maxRecDepth 20000 in
theorem ggX0_widestGoodSpacing_X0_evennessOfPlaces : GoodIn wsX0_widestGoodSpacing wsX0_evennessOfPlaces := goodIn_r _ [41, 42, 31, 32, 33, 4, 34, 6, 7, 8, 9, 10, 11, 35, 36, 37, 43, 44, 45, 46, 16, 17, 18, 19, 47, 48, 49, 50] (by decide +kernel) (by decide +kernel)
set_option maxRecDepth 20000 in
theorem gX0_widestGoodSpacing_X0_evennessOfPlaces : GoodIn wsX0_widestGoodSpacing (wsV RX0 44 RX0 yX0_evennessOfPlaces wsX0_evennessOfPlaces) := goodIn_app (goodIn_of _ (by decide +kernel)) ggX0_widestGoodSpacing_X0_evennessOfPlaces
theorem dX0_widestGoodSpacing_0 : decode cX0_widestGoodSpacing 0 = .ok (.sipush 600, 3) := by decide +kernel
theorem dX0_widestGoodSpacing_3 : decode cX0_widestGoodSpacing 3 = .ok (.istore_n 3, 1) := by decide +kernel
theorem dX0_widestGoodSpacing_4 : decode cX0_widestGoodSpacing 4 = .ok (.iload_n 3, 1) := by decide +kernel
theorem dX0_widestGoodSpacing_5 : decode cX0_widestGoodSpacing 5 = .ok (.bipush 10, 2) := by decide +kernel
theorem dX0_widestGoodSpacing_7 : decode cX0_widestGoodSpacing 7 = .ok (.if_icmp .lt 34, 3) := by decide +kernel
theorem dX0_widestGoodSpacing_10 : decode cX0_widestGoodSpacing 10 = .ok (.aload_n 0, 1) := by decide +kernel
theorem dX0_widestGoodSpacing_11 : decode cX0_widestGoodSpacing 11 = .ok (.iload_n 3, 1) := by decide +kernel
theorem dX0_widestGoodSpacing_12 : decode cX0_widestGoodSpacing 12 = .ok (.invokevirtual 32, 3) := by decide +kernel
theorem dX0_widestGoodSpacing_15 : decode cX0_widestGoodSpacing 15 = .ok (.aload_n 0, 1) := by decide +kernel
theorem dX0_widestGoodSpacing_16 : decode cX0_widestGoodSpacing 16 = .ok (.bipush 100, 2) := by decide +kernel
theorem dX0_widestGoodSpacing_18 : decode cX0_widestGoodSpacing 18 = .ok (.invokevirtual 40, 3) := by decide +kernel
theorem dX0_widestGoodSpacing_21 : decode cX0_widestGoodSpacing 21 = .ok (.iload_n 1, 1) := by decide +kernel
theorem dX0_widestGoodSpacing_22 : decode cX0_widestGoodSpacing 22 = .ok (.if_icmp .lt 13, 3) := by decide +kernel
theorem dX0_widestGoodSpacing_25 : decode cX0_widestGoodSpacing 25 = .ok (.aload_n 0, 1) := by decide +kernel
theorem dX0_widestGoodSpacing_26 : decode cX0_widestGoodSpacing 26 = .ok (.invokevirtual 44, 3) := by decide +kernel
theorem dX0_widestGoodSpacing_29 : decode cX0_widestGoodSpacing 29 = .ok (.iload_n 2, 1) := by decide +kernel
theorem dX0_widestGoodSpacing_30 : decode cX0_widestGoodSpacing 30 = .ok (.if_icmp .lt 5, 3) := by decide +kernel
theorem dX0_widestGoodSpacing_33 : decode cX0_widestGoodSpacing 33 = .ok (.iload_n 3, 1) := by decide +kernel
theorem dX0_widestGoodSpacing_34 : decode cX0_widestGoodSpacing 34 = .ok (.ireturn, 1) := by decide +kernel
theorem dX0_widestGoodSpacing_35 : decode cX0_widestGoodSpacing 35 = .ok (.iinc 3 (-10), 3) := by decide +kernel
theorem dX0_widestGoodSpacing_38 : decode cX0_widestGoodSpacing 38 = .ok (.goto (-34), 3) := by decide +kernel
theorem dX0_widestGoodSpacing_41 : decode cX0_widestGoodSpacing 41 = .ok (.iconst (-1), 1) := by decide +kernel
theorem dX0_widestGoodSpacing_42 : decode cX0_widestGoodSpacing 42 = .ok (.ireturn, 1) := by decide +kernel
set_option maxRecDepth 20000 in
theorem ggX0_hoursBelow_X0_lightPlaces : GoodIn wsX0_hoursBelow wsX0_lightPlaces := goodIn_r _ [6, 7, 8, 9, 10, 5, 11, 12, 13, 14, 15, 16, 17, 18, 19, 20, 21, 22, 23, 24, 25, 26, 27, 28, 29, 30, 31, 39, 40, 41, 42] (by decide +kernel) (by decide +kernel)
set_option maxRecDepth 20000 in
theorem gX0_hoursBelow_X0_lightPlaces : GoodIn wsX0_hoursBelow (wsV RX0 32 RX0 yX0_lightPlaces wsX0_lightPlaces) := goodIn_app (goodIn_of _ (by decide +kernel)) ggX0_hoursBelow_X0_lightPlaces
set_option maxRecDepth 20000 in
theorem ggX0_hoursBelow_X0_meanOfPlaces : GoodIn wsX0_hoursBelow wsX0_meanOfPlaces := goodIn_r _ [35, 7, 8, 9, 10, 5, 11, 12, 36, 37, 38, 39, 40, 41, 42] (by decide +kernel) (by decide +kernel)
set_option maxRecDepth 20000 in
theorem gX0_hoursBelow_X0_meanOfPlaces : GoodIn wsX0_hoursBelow (wsV RX0 40 RX0 yX0_meanOfPlaces wsX0_meanOfPlaces) := goodIn_app (goodIn_of _ (by decide +kernel)) ggX0_hoursBelow_X0_meanOfPlaces
theorem dX0_hoursBelow_0 : decode cX0_hoursBelow 0 = .ok (.aload_n 0, 1) := by decide +kernel
theorem dX0_hoursBelow_1 : decode cX0_hoursBelow 1 = .ok (.iload_n 1, 1) := by decide +kernel
theorem dX0_hoursBelow_2 : decode cX0_hoursBelow 2 = .ok (.invokevirtual 32, 3) := by decide +kernel
theorem dX0_hoursBelow_5 : decode cX0_hoursBelow 5 = .ok (.iconst 0, 1) := by decide +kernel
theorem dX0_hoursBelow_6 : decode cX0_hoursBelow 6 = .ok (.istore_n 3, 1) := by decide +kernel
theorem dX0_hoursBelow_7 : decode cX0_hoursBelow 7 = .ok (.iconst 0, 1) := by decide +kernel
theorem dX0_hoursBelow_8 : decode cX0_hoursBelow 8 = .ok (.istore 4, 2) := by decide +kernel
theorem dX0_hoursBelow_10 : decode cX0_hoursBelow 10 = .ok (.iload 4, 2) := by decide +kernel
theorem dX0_hoursBelow_12 : decode cX0_hoursBelow 12 = .ok (.bipush 24, 2) := by decide +kernel
theorem dX0_hoursBelow_14 : decode cX0_hoursBelow 14 = .ok (.if_icmp .ge 27, 3) := by decide +kernel
theorem dX0_hoursBelow_17 : decode cX0_hoursBelow 17 = .ok (.aload_n 0, 1) := by decide +kernel
theorem dX0_hoursBelow_18 : decode cX0_hoursBelow 18 = .ok (.aload_n 0, 1) := by decide +kernel
theorem dX0_hoursBelow_19 : decode cX0_hoursBelow 19 = .ok (.getfield 15, 3) := by decide +kernel
theorem dX0_hoursBelow_22 : decode cX0_hoursBelow 22 = .ok (.iload 4, 2) := by decide +kernel
theorem dX0_hoursBelow_24 : decode cX0_hoursBelow 24 = .ok (.iaload, 1) := by decide +kernel
theorem dX0_hoursBelow_25 : decode cX0_hoursBelow 25 = .ok (.invokevirtual 40, 3) := by decide +kernel
theorem dX0_hoursBelow_28 : decode cX0_hoursBelow 28 = .ok (.iload_n 2, 1) := by decide +kernel
theorem dX0_hoursBelow_29 : decode cX0_hoursBelow 29 = .ok (.if_icmp .ge 6, 3) := by decide +kernel
theorem dX0_hoursBelow_32 : decode cX0_hoursBelow 32 = .ok (.iinc 3 1, 3) := by decide +kernel
theorem dX0_hoursBelow_35 : decode cX0_hoursBelow 35 = .ok (.iinc 4 1, 3) := by decide +kernel
theorem dX0_hoursBelow_38 : decode cX0_hoursBelow 38 = .ok (.goto (-28), 3) := by decide +kernel
theorem dX0_hoursBelow_41 : decode cX0_hoursBelow 41 = .ok (.iload_n 3, 1) := by decide +kernel
theorem dX0_hoursBelow_42 : decode cX0_hoursBelow 42 = .ok (.ireturn, 1) := by decide +kernel
set_option maxRecDepth 20000 in
theorem ggX0_millivolts_X0_poles : GoodIn wsX0_millivolts wsX0_poles := goodIn_r _ [7, 8, 9, 10, 11, 12] (by decide +kernel) (by decide +kernel)
set_option maxRecDepth 20000 in
theorem gX0_millivolts_X0_poles : GoodIn wsX0_millivolts (wsV RX0 47 RX0 yX0_poles wsX0_poles) := goodIn_app (goodIn_of _ (by decide +kernel)) ggX0_millivolts_X0_poles
theorem dX0_millivolts_0 : decode cX0_millivolts 0 = .ok (.aload_n 0, 1) := by decide +kernel
theorem dX0_millivolts_1 : decode cX0_millivolts 1 = .ok (.iload_n 1, 1) := by decide +kernel
theorem dX0_millivolts_2 : decode cX0_millivolts 2 = .ok (.invokevirtual 47, 3) := by decide +kernel
theorem dX0_millivolts_5 : decode cX0_millivolts 5 = .ok (.i2l, 1) := by decide +kernel
theorem dX0_millivolts_6 : decode cX0_millivolts 6 = .ok (.lstore 4, 2) := by decide +kernel
theorem dX0_millivolts_8 : decode cX0_millivolts 8 = .ok (.lload 4, 2) := by decide +kernel
theorem dX0_millivolts_10 : decode cX0_millivolts 10 = .ok (.lload 4, 2) := by decide +kernel
theorem dX0_millivolts_12 : decode cX0_millivolts 12 = .ok (.lconst 1, 1) := by decide +kernel
theorem dX0_millivolts_13 : decode cX0_millivolts 13 = .ok (.lsub, 1) := by decide +kernel
theorem dX0_millivolts_14 : decode cX0_millivolts 14 = .ok (.lmul, 1) := by decide +kernel
theorem dX0_millivolts_15 : decode cX0_millivolts 15 = .ok (.ldc2_w 50, 3) := by decide +kernel
theorem dX0_millivolts_18 : decode cX0_millivolts 18 = .ok (.ldiv, 1) := by decide +kernel
theorem dX0_millivolts_19 : decode cX0_millivolts 19 = .ok (.iload_n 2, 1) := by decide +kernel
theorem dX0_millivolts_20 : decode cX0_millivolts 20 = .ok (.i2l, 1) := by decide +kernel
theorem dX0_millivolts_21 : decode cX0_millivolts 21 = .ok (.lmul, 1) := by decide +kernel
theorem dX0_millivolts_22 : decode cX0_millivolts 22 = .ok (.lstore 6, 2) := by decide +kernel
theorem dX0_millivolts_24 : decode cX0_millivolts 24 = .ok (.lload 6, 2) := by decide +kernel
theorem dX0_millivolts_26 : decode cX0_millivolts 26 = .ok (.iload_n 1, 1) := by decide +kernel
theorem dX0_millivolts_27 : decode cX0_millivolts 27 = .ok (.i2l, 1) := by decide +kernel
theorem dX0_millivolts_28 : decode cX0_millivolts 28 = .ok (.lmul, 1) := by decide +kernel
theorem dX0_millivolts_29 : decode cX0_millivolts 29 = .ok (.iload_n 3, 1) := by decide +kernel
theorem dX0_millivolts_30 : decode cX0_millivolts 30 = .ok (.i2l, 1) := by decide +kernel
theorem dX0_millivolts_31 : decode cX0_millivolts 31 = .ok (.lmul, 1) := by decide +kernel
theorem dX0_millivolts_32 : decode cX0_millivolts 32 = .ok (.ldc2_w 52, 3) := by decide +kernel
theorem dX0_millivolts_35 : decode cX0_millivolts 35 = .ok (.ldiv, 1) := by decide +kernel
theorem dX0_millivolts_36 : decode cX0_millivolts 36 = .ok (.l2i, 1) := by decide +kernel
theorem dX0_millivolts_37 : decode cX0_millivolts 37 = .ok (.ireturn, 1) := by decide +kernel
set_option maxRecDepth 20000 in
theorem ggX0_widestWiredSpacing_X0_millivolts : GoodIn wsX0_widestWiredSpacing wsX0_millivolts := goodIn_r _ [5, 6, 7, 8, 9, 10, 4, 11, 12, 13, 14, 15, 16] (by decide +kernel) (by decide +kernel)
set_option maxRecDepth 20000 in
theorem gX0_widestWiredSpacing_X0_millivolts : GoodIn wsX0_widestWiredSpacing (wsV RX0 54 RX0 yX0_millivolts wsX0_millivolts) := goodIn_app (goodIn_of _ (by decide +kernel)) ggX0_widestWiredSpacing_X0_millivolts
theorem dX0_widestWiredSpacing_0 : decode cX0_widestWiredSpacing 0 = .ok (.sipush 600, 3) := by decide +kernel
theorem dX0_widestWiredSpacing_3 : decode cX0_widestWiredSpacing 3 = .ok (.istore 4, 2) := by decide +kernel
theorem dX0_widestWiredSpacing_5 : decode cX0_widestWiredSpacing 5 = .ok (.iload 4, 2) := by decide +kernel
theorem dX0_widestWiredSpacing_7 : decode cX0_widestWiredSpacing 7 = .ok (.bipush 10, 2) := by decide +kernel
theorem dX0_widestWiredSpacing_9 : decode cX0_widestWiredSpacing 9 = .ok (.if_icmp .lt 24, 3) := by decide +kernel
theorem dX0_widestWiredSpacing_12 : decode cX0_widestWiredSpacing 12 = .ok (.aload_n 0, 1) := by decide +kernel
theorem dX0_widestWiredSpacing_13 : decode cX0_widestWiredSpacing 13 = .ok (.iload 4, 2) := by decide +kernel
theorem dX0_widestWiredSpacing_15 : decode cX0_widestWiredSpacing 15 = .ok (.iload_n 1, 1) := by decide +kernel
theorem dX0_widestWiredSpacing_16 : decode cX0_widestWiredSpacing 16 = .ok (.iload_n 2, 1) := by decide +kernel
theorem dX0_widestWiredSpacing_17 : decode cX0_widestWiredSpacing 17 = .ok (.invokevirtual 54, 3) := by decide +kernel
theorem dX0_widestWiredSpacing_20 : decode cX0_widestWiredSpacing 20 = .ok (.iload_n 3, 1) := by decide +kernel
theorem dX0_widestWiredSpacing_21 : decode cX0_widestWiredSpacing 21 = .ok (.if_icmp .gt 6, 3) := by decide +kernel
theorem dX0_widestWiredSpacing_24 : decode cX0_widestWiredSpacing 24 = .ok (.iload 4, 2) := by decide +kernel
theorem dX0_widestWiredSpacing_26 : decode cX0_widestWiredSpacing 26 = .ok (.ireturn, 1) := by decide +kernel
theorem dX0_widestWiredSpacing_27 : decode cX0_widestWiredSpacing 27 = .ok (.iinc 4 (-10), 3) := by decide +kernel
theorem dX0_widestWiredSpacing_30 : decode cX0_widestWiredSpacing 30 = .ok (.goto (-25), 3) := by decide +kernel
theorem dX0_widestWiredSpacing_33 : decode cX0_widestWiredSpacing 33 = .ok (.iconst (-1), 1) := by decide +kernel
theorem dX0_widestWiredSpacing_34 : decode cX0_widestWiredSpacing 34 = .ok (.ireturn, 1) := by decide +kernel
set_option maxRecDepth 20000 in
theorem ggX0_lightAt_X0_firstPoleInReach : GoodIn wsX0_lightAt wsX0_firstPoleInReach := goodIn_r _ [12] (by decide +kernel) (by decide +kernel)
set_option maxRecDepth 20000 in
theorem gX0_lightAt_X0_firstPoleInReach : GoodIn wsX0_lightAt (va_wsS RX0 63 yX0_firstPoleInReach wsX0_firstPoleInReach) := goodIn_app (goodIn_of _ (by decide +kernel)) ggX0_lightAt_X0_firstPoleInReach
set_option maxRecDepth 20000 in
theorem ggX0_lightAt_X0_lightFrom : GoodIn wsX0_lightAt wsX0_lightFrom := goodIn_r _ [16, 17, 18, 19, 20, 21] (by decide +kernel) (by decide +kernel)
set_option maxRecDepth 20000 in
theorem gX0_lightAt_X0_lightFrom : GoodIn wsX0_lightAt (wsV RX0 69 RX0 yX0_lightFrom wsX0_lightFrom) := goodIn_app (goodIn_of _ (by decide +kernel)) ggX0_lightAt_X0_lightFrom
theorem dX0_lightAt_0 : decode cX0_lightAt 0 = .ok (.aload_n 0, 1) := by decide +kernel
theorem dX0_lightAt_1 : decode cX0_lightAt 1 = .ok (.getfield 21, 3) := by decide +kernel
theorem dX0_lightAt_4 : decode cX0_lightAt 4 = .ok (.iload_n 1, 1) := by decide +kernel
theorem dX0_lightAt_5 : decode cX0_lightAt 5 = .ok (.sipush 300, 3) := by decide +kernel
theorem dX0_lightAt_8 : decode cX0_lightAt 8 = .ok (.iadd, 1) := by decide +kernel
theorem dX0_lightAt_9 : decode cX0_lightAt 9 = .ok (.invokestatic 58, 3) := by decide +kernel
theorem dX0_lightAt_12 : decode cX0_lightAt 12 = .ok (.istore_n 3, 1) := by decide +kernel
theorem dX0_lightAt_13 : decode cX0_lightAt 13 = .ok (.iconst 0, 1) := by decide +kernel
theorem dX0_lightAt_14 : decode cX0_lightAt 14 = .ok (.istore 4, 2) := by decide +kernel
theorem dX0_lightAt_16 : decode cX0_lightAt 16 = .ok (.iload_n 1, 1) := by decide +kernel
theorem dX0_lightAt_17 : decode cX0_lightAt 17 = .ok (.iload_n 2, 1) := by decide +kernel
theorem dX0_lightAt_18 : decode cX0_lightAt 18 = .ok (.invokestatic 63, 3) := by decide +kernel
theorem dX0_lightAt_21 : decode cX0_lightAt 21 = .ok (.istore 5, 2) := by decide +kernel
theorem dX0_lightAt_23 : decode cX0_lightAt 23 = .ok (.iload 5, 2) := by decide +kernel
theorem dX0_lightAt_25 : decode cX0_lightAt 25 = .ok (.iload_n 3, 1) := by decide +kernel
theorem dX0_lightAt_26 : decode cX0_lightAt 26 = .ok (.if_icmp .gt 28, 3) := by decide +kernel
theorem dX0_lightAt_29 : decode cX0_lightAt 29 = .ok (.iload 4, 2) := by decide +kernel
theorem dX0_lightAt_31 : decode cX0_lightAt 31 = .ok (.aload_n 0, 1) := by decide +kernel
theorem dX0_lightAt_32 : decode cX0_lightAt 32 = .ok (.iload_n 1, 1) := by decide +kernel
theorem dX0_lightAt_33 : decode cX0_lightAt 33 = .ok (.iload 5, 2) := by decide +kernel
theorem dX0_lightAt_35 : decode cX0_lightAt 35 = .ok (.isub, 1) := by decide +kernel
theorem dX0_lightAt_36 : decode cX0_lightAt 36 = .ok (.invokestatic 66, 3) := by decide +kernel
theorem dX0_lightAt_39 : decode cX0_lightAt 39 = .ok (.invokevirtual 69, 3) := by decide +kernel
theorem dX0_lightAt_42 : decode cX0_lightAt 42 = .ok (.iadd, 1) := by decide +kernel
theorem dX0_lightAt_43 : decode cX0_lightAt 43 = .ok (.istore 4, 2) := by decide +kernel
theorem dX0_lightAt_45 : decode cX0_lightAt 45 = .ok (.iload 5, 2) := by decide +kernel
theorem dX0_lightAt_47 : decode cX0_lightAt 47 = .ok (.iload_n 2, 1) := by decide +kernel
theorem dX0_lightAt_48 : decode cX0_lightAt 48 = .ok (.iadd, 1) := by decide +kernel
theorem dX0_lightAt_49 : decode cX0_lightAt 49 = .ok (.istore 5, 2) := by decide +kernel
theorem dX0_lightAt_51 : decode cX0_lightAt 51 = .ok (.goto (-28), 3) := by decide +kernel
theorem dX0_lightAt_54 : decode cX0_lightAt 54 = .ok (.iload 4, 2) := by decide +kernel
theorem dX0_lightAt_56 : decode cX0_lightAt 56 = .ok (.ireturn, 1) := by decide +kernel
theorem dX0_places_0 : decode cX0_places 0 = .ok (.aload_n 0, 1) := by decide +kernel
theorem dX0_places_1 : decode cX0_places 1 = .ok (.getfield 21, 3) := by decide +kernel
theorem dX0_places_4 : decode cX0_places 4 = .ok (.bipush 10, 2) := by decide +kernel
theorem dX0_places_6 : decode cX0_places 6 = .ok (.idiv, 1) := by decide +kernel
theorem dX0_places_7 : decode cX0_places 7 = .ok (.iconst 1, 1) := by decide +kernel
theorem dX0_places_8 : decode cX0_places 8 = .ok (.iadd, 1) := by decide +kernel
theorem dX0_places_9 : decode cX0_places 9 = .ok (.ireturn, 1) := by decide +kernel
set_option maxRecDepth 20000 in
theorem ggX0_lightPlaces_X0_places : GoodIn wsX0_lightPlaces wsX0_places := goodIn_r _ [6, 7, 27, 28, 29, 30] (by decide +kernel) (by decide +kernel)
set_option maxRecDepth 20000 in
theorem gX0_lightPlaces_X0_places : GoodIn wsX0_lightPlaces (wsV RX0 72 RX0 yX0_places wsX0_places) := goodIn_app (goodIn_of _ (by decide +kernel)) ggX0_lightPlaces_X0_places
set_option maxRecDepth 20000 in
theorem ggX0_lightPlaces_X0_lightAt : GoodIn wsX0_lightPlaces wsX0_lightAt := goodIn_r _ [11, 7, 12, 13, 14, 15, 16, 17, 18, 19, 20, 5, 21, 22, 23, 24, 25, 26, 27, 28, 29, 30] (by decide +kernel) (by decide +kernel)
set_option maxRecDepth 20000 in
theorem gX0_lightPlaces_X0_lightAt : GoodIn wsX0_lightPlaces (wsV RX0 25 RX0 yX0_lightAt wsX0_lightAt) := goodIn_app (goodIn_of _ (by decide +kernel)) ggX0_lightPlaces_X0_lightAt
theorem dX0_lightPlaces_0 : decode cX0_lightPlaces 0 = .ok (.iconst 0, 1) := by decide +kernel
theorem dX0_lightPlaces_1 : decode cX0_lightPlaces 1 = .ok (.istore_n 2, 1) := by decide +kernel
theorem dX0_lightPlaces_2 : decode cX0_lightPlaces 2 = .ok (.iload_n 2, 1) := by decide +kernel
theorem dX0_lightPlaces_3 : decode cX0_lightPlaces 3 = .ok (.aload_n 0, 1) := by decide +kernel
theorem dX0_lightPlaces_4 : decode cX0_lightPlaces 4 = .ok (.invokevirtual 72, 3) := by decide +kernel
theorem dX0_lightPlaces_7 : decode cX0_lightPlaces 7 = .ok (.if_icmp .ge 24, 3) := by decide +kernel
theorem dX0_lightPlaces_10 : decode cX0_lightPlaces 10 = .ok (.aload_n 0, 1) := by decide +kernel
theorem dX0_lightPlaces_11 : decode cX0_lightPlaces 11 = .ok (.getfield 18, 3) := by decide +kernel
theorem dX0_lightPlaces_14 : decode cX0_lightPlaces 14 = .ok (.iload_n 2, 1) := by decide +kernel
theorem dX0_lightPlaces_15 : decode cX0_lightPlaces 15 = .ok (.aload_n 0, 1) := by decide +kernel
theorem dX0_lightPlaces_16 : decode cX0_lightPlaces 16 = .ok (.iload_n 2, 1) := by decide +kernel
theorem dX0_lightPlaces_17 : decode cX0_lightPlaces 17 = .ok (.bipush 10, 2) := by decide +kernel
theorem dX0_lightPlaces_19 : decode cX0_lightPlaces 19 = .ok (.imul, 1) := by decide +kernel
theorem dX0_lightPlaces_20 : decode cX0_lightPlaces 20 = .ok (.iload_n 1, 1) := by decide +kernel
theorem dX0_lightPlaces_21 : decode cX0_lightPlaces 21 = .ok (.invokevirtual 25, 3) := by decide +kernel
theorem dX0_lightPlaces_24 : decode cX0_lightPlaces 24 = .ok (.iastore, 1) := by decide +kernel
theorem dX0_lightPlaces_25 : decode cX0_lightPlaces 25 = .ok (.iinc 2 1, 3) := by decide +kernel
theorem dX0_lightPlaces_28 : decode cX0_lightPlaces 28 = .ok (.goto (-26), 3) := by decide +kernel
theorem dX0_lightPlaces_31 : decode cX0_lightPlaces 31 = .ok (.return_, 1) := by decide +kernel
set_option maxRecDepth 20000 in
theorem ggX0_leastOfPlaces_X0_places : GoodIn wsX0_leastOfPlaces wsX0_places := goodIn_r _ [10, 11, 12, 13, 14, 15] (by decide +kernel) (by decide +kernel)
set_option maxRecDepth 20000 in
theorem gX0_leastOfPlaces_X0_places : GoodIn wsX0_leastOfPlaces (wsV RX0 72 RX0 yX0_places wsX0_places) := goodIn_app (goodIn_of _ (by decide +kernel)) ggX0_leastOfPlaces_X0_places
theorem dX0_leastOfPlaces_0 : decode cX0_leastOfPlaces 0 = .ok (.aload_n 0, 1) := by decide +kernel
theorem dX0_leastOfPlaces_1 : decode cX0_leastOfPlaces 1 = .ok (.getfield 18, 3) := by decide +kernel
theorem dX0_leastOfPlaces_4 : decode cX0_leastOfPlaces 4 = .ok (.iconst 0, 1) := by decide +kernel
theorem dX0_leastOfPlaces_5 : decode cX0_leastOfPlaces 5 = .ok (.iaload, 1) := by decide +kernel
theorem dX0_leastOfPlaces_6 : decode cX0_leastOfPlaces 6 = .ok (.istore_n 1, 1) := by decide +kernel
theorem dX0_leastOfPlaces_7 : decode cX0_leastOfPlaces 7 = .ok (.iconst 1, 1) := by decide +kernel
theorem dX0_leastOfPlaces_8 : decode cX0_leastOfPlaces 8 = .ok (.istore_n 2, 1) := by decide +kernel
theorem dX0_leastOfPlaces_9 : decode cX0_leastOfPlaces 9 = .ok (.iload_n 2, 1) := by decide +kernel
theorem dX0_leastOfPlaces_10 : decode cX0_leastOfPlaces 10 = .ok (.aload_n 0, 1) := by decide +kernel
theorem dX0_leastOfPlaces_11 : decode cX0_leastOfPlaces 11 = .ok (.invokevirtual 72, 3) := by decide +kernel
theorem dX0_leastOfPlaces_14 : decode cX0_leastOfPlaces 14 = .ok (.if_icmp .ge 20, 3) := by decide +kernel
theorem dX0_leastOfPlaces_17 : decode cX0_leastOfPlaces 17 = .ok (.iload_n 1, 1) := by decide +kernel
theorem dX0_leastOfPlaces_18 : decode cX0_leastOfPlaces 18 = .ok (.aload_n 0, 1) := by decide +kernel
theorem dX0_leastOfPlaces_19 : decode cX0_leastOfPlaces 19 = .ok (.getfield 18, 3) := by decide +kernel
theorem dX0_leastOfPlaces_22 : decode cX0_leastOfPlaces 22 = .ok (.iload_n 2, 1) := by decide +kernel
theorem dX0_leastOfPlaces_23 : decode cX0_leastOfPlaces 23 = .ok (.iaload, 1) := by decide +kernel
theorem dX0_leastOfPlaces_24 : decode cX0_leastOfPlaces 24 = .ok (.invokestatic 58, 3) := by decide +kernel
theorem dX0_leastOfPlaces_27 : decode cX0_leastOfPlaces 27 = .ok (.istore_n 1, 1) := by decide +kernel
theorem dX0_leastOfPlaces_28 : decode cX0_leastOfPlaces 28 = .ok (.iinc 2 1, 3) := by decide +kernel
theorem dX0_leastOfPlaces_31 : decode cX0_leastOfPlaces 31 = .ok (.goto (-22), 3) := by decide +kernel
theorem dX0_leastOfPlaces_34 : decode cX0_leastOfPlaces 34 = .ok (.iload_n 1, 1) := by decide +kernel
theorem dX0_leastOfPlaces_35 : decode cX0_leastOfPlaces 35 = .ok (.ireturn, 1) := by decide +kernel
set_option maxRecDepth 20000 in
theorem ggX0_meanOfPlaces_X0_places : GoodIn wsX0_meanOfPlaces wsX0_places := goodIn_r _ [6, 7, 11, 12, 13, 14] (by decide +kernel) (by decide +kernel)
set_option maxRecDepth 20000 in
theorem gX0_meanOfPlaces_X0_places : GoodIn wsX0_meanOfPlaces (wsV RX0 72 RX0 yX0_places wsX0_places) := goodIn_app (goodIn_of _ (by decide +kernel)) ggX0_meanOfPlaces_X0_places
set_option maxRecDepth 20000 in
theorem ggX0_meanOfPlaces_X0_dimmed : GoodIn wsX0_meanOfPlaces wsX0_dimmed := goodIn_r _ [10] (by decide +kernel) (by decide +kernel)
set_option maxRecDepth 20000 in
theorem gX0_meanOfPlaces_X0_dimmed : GoodIn wsX0_meanOfPlaces (va_wsS RX0 29 yX0_dimmed wsX0_dimmed) := goodIn_app (goodIn_of _ (by decide +kernel)) ggX0_meanOfPlaces_X0_dimmed
theorem dX0_meanOfPlaces_0 : decode cX0_meanOfPlaces 0 = .ok (.lconst 0, 1) := by decide +kernel
theorem dX0_meanOfPlaces_1 : decode cX0_meanOfPlaces 1 = .ok (.lstore_n 2, 1) := by decide +kernel
theorem dX0_meanOfPlaces_2 : decode cX0_meanOfPlaces 2 = .ok (.iconst 0, 1) := by decide +kernel
theorem dX0_meanOfPlaces_3 : decode cX0_meanOfPlaces 3 = .ok (.istore 4, 2) := by decide +kernel
theorem dX0_meanOfPlaces_5 : decode cX0_meanOfPlaces 5 = .ok (.iload 4, 2) := by decide +kernel
theorem dX0_meanOfPlaces_7 : decode cX0_meanOfPlaces 7 = .ok (.aload_n 0, 1) := by decide +kernel
theorem dX0_meanOfPlaces_8 : decode cX0_meanOfPlaces 8 = .ok (.invokevirtual 72, 3) := by decide +kernel
theorem dX0_meanOfPlaces_11 : decode cX0_meanOfPlaces 11 = .ok (.if_icmp .ge 24, 3) := by decide +kernel
theorem dX0_meanOfPlaces_14 : decode cX0_meanOfPlaces 14 = .ok (.lload_n 2, 1) := by decide +kernel
theorem dX0_meanOfPlaces_15 : decode cX0_meanOfPlaces 15 = .ok (.aload_n 0, 1) := by decide +kernel
theorem dX0_meanOfPlaces_16 : decode cX0_meanOfPlaces 16 = .ok (.getfield 18, 3) := by decide +kernel
theorem dX0_meanOfPlaces_19 : decode cX0_meanOfPlaces 19 = .ok (.iload 4, 2) := by decide +kernel
theorem dX0_meanOfPlaces_21 : decode cX0_meanOfPlaces 21 = .ok (.iaload, 1) := by decide +kernel
theorem dX0_meanOfPlaces_22 : decode cX0_meanOfPlaces 22 = .ok (.iload_n 1, 1) := by decide +kernel
theorem dX0_meanOfPlaces_23 : decode cX0_meanOfPlaces 23 = .ok (.invokestatic 29, 3) := by decide +kernel
theorem dX0_meanOfPlaces_26 : decode cX0_meanOfPlaces 26 = .ok (.i2l, 1) := by decide +kernel
theorem dX0_meanOfPlaces_27 : decode cX0_meanOfPlaces 27 = .ok (.ladd, 1) := by decide +kernel
theorem dX0_meanOfPlaces_28 : decode cX0_meanOfPlaces 28 = .ok (.lstore_n 2, 1) := by decide +kernel
theorem dX0_meanOfPlaces_29 : decode cX0_meanOfPlaces 29 = .ok (.iinc 4 1, 3) := by decide +kernel
theorem dX0_meanOfPlaces_32 : decode cX0_meanOfPlaces 32 = .ok (.goto (-27), 3) := by decide +kernel
theorem dX0_meanOfPlaces_35 : decode cX0_meanOfPlaces 35 = .ok (.lload_n 2, 1) := by decide +kernel
theorem dX0_meanOfPlaces_36 : decode cX0_meanOfPlaces 36 = .ok (.aload_n 0, 1) := by decide +kernel
theorem dX0_meanOfPlaces_37 : decode cX0_meanOfPlaces 37 = .ok (.invokevirtual 72, 3) := by decide +kernel
theorem dX0_meanOfPlaces_40 : decode cX0_meanOfPlaces 40 = .ok (.i2l, 1) := by decide +kernel
theorem dX0_meanOfPlaces_41 : decode cX0_meanOfPlaces 41 = .ok (.ldiv, 1) := by decide +kernel
theorem dX0_meanOfPlaces_42 : decode cX0_meanOfPlaces 42 = .ok (.l2i, 1) := by decide +kernel
theorem dX0_meanOfPlaces_43 : decode cX0_meanOfPlaces 43 = .ok (.ireturn, 1) := by decide +kernel
set_option maxRecDepth 20000 in
theorem ggX0_evennessOfPlaces_X0_meanOfPlaces : GoodIn wsX0_evennessOfPlaces wsX0_meanOfPlaces := goodIn_r _ [6, 7, 8, 9, 10, 5, 11, 12, 13, 14, 15, 24, 25, 26, 27] (by decide +kernel) (by decide +kernel)
set_option maxRecDepth 20000 in
theorem gX0_evennessOfPlaces_X0_meanOfPlaces : GoodIn wsX0_evennessOfPlaces (wsV RX0 40 RX0 yX0_meanOfPlaces wsX0_meanOfPlaces) := goodIn_app (goodIn_of _ (by decide +kernel)) ggX0_evennessOfPlaces_X0_meanOfPlaces
set_option maxRecDepth 20000 in
theorem ggX0_evennessOfPlaces_X0_leastOfPlaces : GoodIn wsX0_evennessOfPlaces wsX0_leastOfPlaces := goodIn_r _ [19, 7, 20, 21, 22, 23, 8, 9, 10, 5, 11, 12, 24, 25, 26, 27] (by decide +kernel) (by decide +kernel)
set_option maxRecDepth 20000 in
theorem gX0_evennessOfPlaces_X0_leastOfPlaces : GoodIn wsX0_evennessOfPlaces (wsV RX0 36 RX0 yX0_leastOfPlaces wsX0_leastOfPlaces) := goodIn_app (goodIn_of _ (by decide +kernel)) ggX0_evennessOfPlaces_X0_leastOfPlaces
theorem dX0_evennessOfPlaces_0 : decode cX0_evennessOfPlaces 0 = .ok (.aload_n 0, 1) := by decide +kernel
theorem dX0_evennessOfPlaces_1 : decode cX0_evennessOfPlaces 1 = .ok (.bipush 100, 2) := by decide +kernel
theorem dX0_evennessOfPlaces_3 : decode cX0_evennessOfPlaces 3 = .ok (.invokevirtual 40, 3) := by decide +kernel
theorem dX0_evennessOfPlaces_6 : decode cX0_evennessOfPlaces 6 = .ok (.istore_n 1, 1) := by decide +kernel
theorem dX0_evennessOfPlaces_7 : decode cX0_evennessOfPlaces 7 = .ok (.iload_n 1, 1) := by decide +kernel
theorem dX0_evennessOfPlaces_8 : decode cX0_evennessOfPlaces 8 = .ok (.ifCond .ne 5, 3) := by decide +kernel
theorem dX0_evennessOfPlaces_11 : decode cX0_evennessOfPlaces 11 = .ok (.iconst 0, 1) := by decide +kernel
theorem dX0_evennessOfPlaces_12 : decode cX0_evennessOfPlaces 12 = .ok (.ireturn, 1) := by decide +kernel
theorem dX0_evennessOfPlaces_13 : decode cX0_evennessOfPlaces 13 = .ok (.aload_n 0, 1) := by decide +kernel
theorem dX0_evennessOfPlaces_14 : decode cX0_evennessOfPlaces 14 = .ok (.invokevirtual 36, 3) := by decide +kernel
theorem dX0_evennessOfPlaces_17 : decode cX0_evennessOfPlaces 17 = .ok (.i2l, 1) := by decide +kernel
theorem dX0_evennessOfPlaces_18 : decode cX0_evennessOfPlaces 18 = .ok (.ldc2_w 75, 3) := by decide +kernel
theorem dX0_evennessOfPlaces_21 : decode cX0_evennessOfPlaces 21 = .ok (.lmul, 1) := by decide +kernel
theorem dX0_evennessOfPlaces_22 : decode cX0_evennessOfPlaces 22 = .ok (.iload_n 1, 1) := by decide +kernel
theorem dX0_evennessOfPlaces_23 : decode cX0_evennessOfPlaces 23 = .ok (.i2l, 1) := by decide +kernel
theorem dX0_evennessOfPlaces_24 : decode cX0_evennessOfPlaces 24 = .ok (.ldiv, 1) := by decide +kernel
theorem dX0_evennessOfPlaces_25 : decode cX0_evennessOfPlaces 25 = .ok (.l2i, 1) := by decide +kernel
theorem dX0_evennessOfPlaces_26 : decode cX0_evennessOfPlaces 26 = .ok (.ireturn, 1) := by decide +kernel
theorem dX0_dimmed_0 : decode cX0_dimmed 0 = .ok (.iload_n 0, 1) := by decide +kernel
theorem dX0_dimmed_1 : decode cX0_dimmed 1 = .ok (.iload_n 1, 1) := by decide +kernel
theorem dX0_dimmed_2 : decode cX0_dimmed 2 = .ok (.imul, 1) := by decide +kernel
theorem dX0_dimmed_3 : decode cX0_dimmed 3 = .ok (.bipush 100, 2) := by decide +kernel
theorem dX0_dimmed_5 : decode cX0_dimmed 5 = .ok (.idiv, 1) := by decide +kernel
theorem dX0_dimmed_6 : decode cX0_dimmed 6 = .ok (.ireturn, 1) := by decide +kernel
theorem dX0_firstPoleInReach_0 : decode cX0_firstPoleInReach 0 = .ok (.iload_n 0, 1) := by decide +kernel
theorem dX0_firstPoleInReach_1 : decode cX0_firstPoleInReach 1 = .ok (.sipush 300, 3) := by decide +kernel
theorem dX0_firstPoleInReach_4 : decode cX0_firstPoleInReach 4 = .ok (.isub, 1) := by decide +kernel
theorem dX0_firstPoleInReach_5 : decode cX0_firstPoleInReach 5 = .ok (.istore_n 2, 1) := by decide +kernel
theorem dX0_firstPoleInReach_6 : decode cX0_firstPoleInReach 6 = .ok (.iload_n 2, 1) := by decide +kernel
theorem dX0_firstPoleInReach_7 : decode cX0_firstPoleInReach 7 = .ok (.ifCond .gt 7, 3) := by decide +kernel
theorem dX0_firstPoleInReach_10 : decode cX0_firstPoleInReach 10 = .ok (.iconst 0, 1) := by decide +kernel
theorem dX0_firstPoleInReach_11 : decode cX0_firstPoleInReach 11 = .ok (.goto 12, 3) := by decide +kernel
theorem dX0_firstPoleInReach_14 : decode cX0_firstPoleInReach 14 = .ok (.iload_n 2, 1) := by decide +kernel
theorem dX0_firstPoleInReach_15 : decode cX0_firstPoleInReach 15 = .ok (.iload_n 1, 1) := by decide +kernel
theorem dX0_firstPoleInReach_16 : decode cX0_firstPoleInReach 16 = .ok (.iadd, 1) := by decide +kernel
theorem dX0_firstPoleInReach_17 : decode cX0_firstPoleInReach 17 = .ok (.iconst 1, 1) := by decide +kernel
theorem dX0_firstPoleInReach_18 : decode cX0_firstPoleInReach 18 = .ok (.isub, 1) := by decide +kernel
theorem dX0_firstPoleInReach_19 : decode cX0_firstPoleInReach 19 = .ok (.iload_n 1, 1) := by decide +kernel
theorem dX0_firstPoleInReach_20 : decode cX0_firstPoleInReach 20 = .ok (.idiv, 1) := by decide +kernel
theorem dX0_firstPoleInReach_21 : decode cX0_firstPoleInReach 21 = .ok (.iload_n 1, 1) := by decide +kernel
theorem dX0_firstPoleInReach_22 : decode cX0_firstPoleInReach 22 = .ok (.imul, 1) := by decide +kernel
theorem dX0_firstPoleInReach_23 : decode cX0_firstPoleInReach 23 = .ok (.ireturn, 1) := by decide +kernel
end
section
theorem dX1_init_0 : decode cX1_init 0 = .ok (.aload_n 0, 1) := by decide +kernel
theorem dX1_init_1 : decode cX1_init 1 = .ok (.invokespecial 3, 3) := by decide +kernel
theorem dX1_init_4 : decode cX1_init 4 = .ok (.aload_n 0, 1) := by decide +kernel
theorem dX1_init_5 : decode cX1_init 5 = .ok (.bipush 12, 2) := by decide +kernel
theorem dX1_init_7 : decode cX1_init 7 = .ok (.newarray .int, 2) := by decide +kernel
theorem dX1_init_9 : decode cX1_init 9 = .ok (.putfield 11, 3) := by decide +kernel
theorem dX1_init_12 : decode cX1_init 12 = .ok (.aload_n 0, 1) := by decide +kernel
theorem dX1_init_13 : decode cX1_init 13 = .ok (.bipush 12, 2) := by decide +kernel
theorem dX1_init_15 : decode cX1_init 15 = .ok (.newarray .int, 2) := by decide +kernel
theorem dX1_init_17 : decode cX1_init 17 = .ok (.putfield 15, 3) := by decide +kernel
theorem dX1_init_20 : decode cX1_init 20 = .ok (.aload_n 0, 1) := by decide +kernel
theorem dX1_init_21 : decode cX1_init 21 = .ok (.bipush 36, 2) := by decide +kernel
theorem dX1_init_23 : decode cX1_init 23 = .ok (.newarray .int, 2) := by decide +kernel
theorem dX1_init_25 : decode cX1_init 25 = .ok (.putfield 18, 3) := by decide +kernel
theorem dX1_init_28 : decode cX1_init 28 = .ok (.aload_n 0, 1) := by decide +kernel
theorem dX1_init_29 : decode cX1_init 29 = .ok (.bipush 20, 2) := by decide +kernel
theorem dX1_init_31 : decode cX1_init 31 = .ok (.newarray .int, 2) := by decide +kernel
theorem dX1_init_33 : decode cX1_init 33 = .ok (.putfield 21, 3) := by decide +kernel
theorem dX1_init_36 : decode cX1_init 36 = .ok (.aload_n 0, 1) := by decide +kernel
theorem dX1_init_37 : decode cX1_init 37 = .ok (.bipush 20, 2) := by decide +kernel
theorem dX1_init_39 : decode cX1_init 39 = .ok (.newarray .int, 2) := by decide +kernel
theorem dX1_init_41 : decode cX1_init 41 = .ok (.putfield 24, 3) := by decide +kernel
theorem dX1_init_44 : decode cX1_init 44 = .ok (.aload_n 0, 1) := by decide +kernel
theorem dX1_init_45 : decode cX1_init 45 = .ok (.bipush 20, 2) := by decide +kernel
theorem dX1_init_47 : decode cX1_init 47 = .ok (.newarray .int, 2) := by decide +kernel
theorem dX1_init_49 : decode cX1_init 49 = .ok (.putfield 27, 3) := by decide +kernel
theorem dX1_init_52 : decode cX1_init 52 = .ok (.aload_n 0, 1) := by decide +kernel
theorem dX1_init_53 : decode cX1_init 53 = .ok (.bipush 8, 2) := by decide +kernel
theorem dX1_init_55 : decode cX1_init 55 = .ok (.newarray .int, 2) := by decide +kernel
theorem dX1_init_57 : decode cX1_init 57 = .ok (.putfield 30, 3) := by decide +kernel
theorem dX1_init_60 : decode cX1_init 60 = .ok (.aload_n 0, 1) := by decide +kernel
theorem dX1_init_61 : decode cX1_init 61 = .ok (.bipush 8, 2) := by decide +kernel
theorem dX1_init_63 : decode cX1_init 63 = .ok (.newarray .int, 2) := by decide +kernel
theorem dX1_init_65 : decode cX1_init 65 = .ok (.putfield 33, 3) := by decide +kernel
theorem dX1_init_68 : decode cX1_init 68 = .ok (.aload_n 0, 1) := by decide +kernel
theorem dX1_init_69 : decode cX1_init 69 = .ok (.bipush 8, 2) := by decide +kernel
theorem dX1_init_71 : decode cX1_init 71 = .ok (.newarray .int, 2) := by decide +kernel
theorem dX1_init_73 : decode cX1_init 73 = .ok (.putfield 36, 3) := by decide +kernel
theorem dX1_init_76 : decode cX1_init 76 = .ok (.aload_n 0, 1) := by decide +kernel
theorem dX1_init_77 : decode cX1_init 77 = .ok (.bipush 8, 2) := by decide +kernel
theorem dX1_init_79 : decode cX1_init 79 = .ok (.newarray .int, 2) := by decide +kernel
theorem dX1_init_81 : decode cX1_init 81 = .ok (.putfield 39, 3) := by decide +kernel
theorem dX1_init_84 : decode cX1_init 84 = .ok (.aload_n 0, 1) := by decide +kernel
theorem dX1_init_85 : decode cX1_init 85 = .ok (.bipush 8, 2) := by decide +kernel
theorem dX1_init_87 : decode cX1_init 87 = .ok (.newarray .int, 2) := by decide +kernel
theorem dX1_init_89 : decode cX1_init 89 = .ok (.putfield 42, 3) := by decide +kernel
theorem dX1_init_92 : decode cX1_init 92 = .ok (.aload_n 0, 1) := by decide +kernel
theorem dX1_init_93 : decode cX1_init 93 = .ok (.iconst 3, 1) := by decide +kernel
theorem dX1_init_94 : decode cX1_init 94 = .ok (.newarray .int, 2) := by decide +kernel
theorem dX1_init_96 : decode cX1_init 96 = .ok (.dup, 1) := by decide +kernel
theorem dX1_init_97 : decode cX1_init 97 = .ok (.iconst 0, 1) := by decide +kernel
theorem dX1_init_98 : decode cX1_init 98 = .ok (.iconst 0, 1) := by decide +kernel
theorem dX1_init_99 : decode cX1_init 99 = .ok (.iastore, 1) := by decide +kernel
theorem dX1_init_100 : decode cX1_init 100 = .ok (.dup, 1) := by decide +kernel
theorem dX1_init_101 : decode cX1_init 101 = .ok (.iconst 1, 1) := by decide +kernel
theorem dX1_init_102 : decode cX1_init 102 = .ok (.bipush 50, 2) := by decide +kernel
theorem dX1_init_104 : decode cX1_init 104 = .ok (.iastore, 1) := by decide +kernel
theorem dX1_init_105 : decode cX1_init 105 = .ok (.dup, 1) := by decide +kernel
theorem dX1_init_106 : decode cX1_init 106 = .ok (.iconst 2, 1) := by decide +kernel
theorem dX1_init_107 : decode cX1_init 107 = .ok (.bipush 100, 2) := by decide +kernel
theorem dX1_init_109 : decode cX1_init 109 = .ok (.iastore, 1) := by decide +kernel
theorem dX1_init_110 : decode cX1_init 110 = .ok (.putfield 45, 3) := by decide +kernel
theorem dX1_init_113 : decode cX1_init 113 = .ok (.aload_n 0, 1) := by decide +kernel
theorem dX1_init_114 : decode cX1_init 114 = .ok (.sipush 240, 3) := by decide +kernel
theorem dX1_init_117 : decode cX1_init 117 = .ok (.newarray .int, 2) := by decide +kernel
theorem dX1_init_119 : decode cX1_init 119 = .ok (.putfield 48, 3) := by decide +kernel
theorem dX1_init_122 : decode cX1_init 122 = .ok (.aload_n 0, 1) := by decide +kernel
theorem dX1_init_123 : decode cX1_init 123 = .ok (.sipush 240, 3) := by decide +kernel
theorem dX1_init_126 : decode cX1_init 126 = .ok (.newarray .int, 2) := by decide +kernel
theorem dX1_init_128 : decode cX1_init 128 = .ok (.putfield 51, 3) := by decide +kernel
theorem dX1_init_131 : decode cX1_init 131 = .ok (.aload_n 0, 1) := by decide +kernel
theorem dX1_init_132 : decode cX1_init 132 = .ok (.bipush 20, 2) := by decide +kernel
theorem dX1_init_134 : decode cX1_init 134 = .ok (.newarray .int, 2) := by decide +kernel
theorem dX1_init_136 : decode cX1_init 136 = .ok (.putfield 54, 3) := by decide +kernel
theorem dX1_init_139 : decode cX1_init 139 = .ok (.aload_n 0, 1) := by decide +kernel
theorem dX1_init_140 : decode cX1_init 140 = .ok (.bipush 30, 2) := by decide +kernel
theorem dX1_init_142 : decode cX1_init 142 = .ok (.putfield 57, 3) := by decide +kernel
theorem dX1_init_145 : decode cX1_init 145 = .ok (.return_, 1) := by decide +kernel
theorem dX1_pieceCount_0 : decode cX1_pieceCount 0 = .ok (.aload_n 0, 1) := by decide +kernel
theorem dX1_pieceCount_1 : decode cX1_pieceCount 1 = .ok (.getfield 61, 3) := by decide +kernel
theorem dX1_pieceCount_4 : decode cX1_pieceCount 4 = .ok (.ireturn, 1) := by decide +kernel
theorem dX1_houseCount_0 : decode cX1_houseCount 0 = .ok (.aload_n 0, 1) := by decide +kernel
theorem dX1_houseCount_1 : decode cX1_houseCount 1 = .ok (.getfield 64, 3) := by decide +kernel
theorem dX1_houseCount_4 : decode cX1_houseCount 4 = .ok (.ireturn, 1) := by decide +kernel
theorem dX1_wallCount_0 : decode cX1_wallCount 0 = .ok (.aload_n 0, 1) := by decide +kernel
theorem dX1_wallCount_1 : decode cX1_wallCount 1 = .ok (.getfield 67, 3) := by decide +kernel
theorem dX1_wallCount_4 : decode cX1_wallCount 4 = .ok (.ireturn, 1) := by decide +kernel
theorem dX1_hasPiece_0 : decode cX1_hasPiece 0 = .ok (.iload_n 1, 1) := by decide +kernel
theorem dX1_hasPiece_1 : decode cX1_hasPiece 1 = .ok (.ifCond .lt 15, 3) := by decide +kernel
theorem dX1_hasPiece_4 : decode cX1_hasPiece 4 = .ok (.iload_n 1, 1) := by decide +kernel
theorem dX1_hasPiece_5 : decode cX1_hasPiece 5 = .ok (.aload_n 0, 1) := by decide +kernel
theorem dX1_hasPiece_6 : decode cX1_hasPiece 6 = .ok (.getfield 61, 3) := by decide +kernel
theorem dX1_hasPiece_9 : decode cX1_hasPiece 9 = .ok (.if_icmp .ge 7, 3) := by decide +kernel
theorem dX1_hasPiece_12 : decode cX1_hasPiece 12 = .ok (.iconst 1, 1) := by decide +kernel
theorem dX1_hasPiece_13 : decode cX1_hasPiece 13 = .ok (.goto 4, 3) := by decide +kernel
theorem dX1_hasPiece_16 : decode cX1_hasPiece 16 = .ok (.iconst 0, 1) := by decide +kernel
theorem dX1_hasPiece_17 : decode cX1_hasPiece 17 = .ok (.ireturn, 1) := by decide +kernel
theorem dX1_hasHouse_0 : decode cX1_hasHouse 0 = .ok (.iload_n 1, 1) := by decide +kernel
theorem dX1_hasHouse_1 : decode cX1_hasHouse 1 = .ok (.ifCond .lt 15, 3) := by decide +kernel
theorem dX1_hasHouse_4 : decode cX1_hasHouse 4 = .ok (.iload_n 1, 1) := by decide +kernel
theorem dX1_hasHouse_5 : decode cX1_hasHouse 5 = .ok (.aload_n 0, 1) := by decide +kernel
theorem dX1_hasHouse_6 : decode cX1_hasHouse 6 = .ok (.getfield 64, 3) := by decide +kernel
theorem dX1_hasHouse_9 : decode cX1_hasHouse 9 = .ok (.if_icmp .ge 7, 3) := by decide +kernel
theorem dX1_hasHouse_12 : decode cX1_hasHouse 12 = .ok (.iconst 1, 1) := by decide +kernel
theorem dX1_hasHouse_13 : decode cX1_hasHouse 13 = .ok (.goto 4, 3) := by decide +kernel
theorem dX1_hasHouse_16 : decode cX1_hasHouse 16 = .ok (.iconst 0, 1) := by decide +kernel
theorem dX1_hasHouse_17 : decode cX1_hasHouse 17 = .ok (.ireturn, 1) := by decide +kernel
theorem dX1_hasWall_0 : decode cX1_hasWall 0 = .ok (.iload_n 1, 1) := by decide +kernel
theorem dX1_hasWall_1 : decode cX1_hasWall 1 = .ok (.ifCond .lt 15, 3) := by decide +kernel
theorem dX1_hasWall_4 : decode cX1_hasWall 4 = .ok (.iload_n 1, 1) := by decide +kernel
theorem dX1_hasWall_5 : decode cX1_hasWall 5 = .ok (.aload_n 0, 1) := by decide +kernel
theorem dX1_hasWall_6 : decode cX1_hasWall 6 = .ok (.getfield 67, 3) := by decide +kernel
theorem dX1_hasWall_9 : decode cX1_hasWall 9 = .ok (.if_icmp .ge 7, 3) := by decide +kernel
theorem dX1_hasWall_12 : decode cX1_hasWall 12 = .ok (.iconst 1, 1) := by decide +kernel
theorem dX1_hasWall_13 : decode cX1_hasWall 13 = .ok (.goto 4, 3) := by decide +kernel
theorem dX1_hasWall_16 : decode cX1_hasWall 16 = .ok (.iconst 0, 1) := by decide +kernel
theorem dX1_hasWall_17 : decode cX1_hasWall 17 = .ok (.ireturn, 1) := by decide +kernel
set_option maxRecDepth 20000 in
theorem ggX1_addPiece_X1_measurePair : GoodIn wsX1_addPiece wsX1_measurePair := goodIn_r _ [10, 2, 11, 3, 12, 13, 14, 15, 16, 9, 17, 18, 19, 20, 21, 22, 23, 24, 25, 26, 27, 28, 29, 30, 31, 32, 33, 34, 35, 36, 37, 38, 39, 40, 41, 42, 43, 44, 45, 46, 47, 48, 49, 50, 51, 52, 53, 54, 55, 56, 57, 58, 59, 60, 61, 62, 63, 64, 65, 66, 67, 68] (by decide +kernel) (by decide +kernel)
set_option maxRecDepth 20000 in
theorem gX1_addPiece_X1_measurePair : GoodIn wsX1_addPiece (wsV RX1 70 RX1 yX1_measurePair wsX1_measurePair) := goodIn_app (goodIn_of _ (by decide +kernel)) ggX1_addPiece_X1_measurePair
theorem dX1_addPiece_0 : decode cX1_addPiece 0 = .ok (.aload_n 0, 1) := by decide +kernel
theorem dX1_addPiece_1 : decode cX1_addPiece 1 = .ok (.getfield 61, 3) := by decide +kernel
theorem dX1_addPiece_4 : decode cX1_addPiece 4 = .ok (.bipush 12, 2) := by decide +kernel
theorem dX1_addPiece_6 : decode cX1_addPiece 6 = .ok (.if_icmp .lt 5, 3) := by decide +kernel
theorem dX1_addPiece_9 : decode cX1_addPiece 9 = .ok (.iconst (-1), 1) := by decide +kernel
theorem dX1_addPiece_10 : decode cX1_addPiece 10 = .ok (.ireturn, 1) := by decide +kernel
theorem dX1_addPiece_11 : decode cX1_addPiece 11 = .ok (.aload_n 0, 1) := by decide +kernel
theorem dX1_addPiece_12 : decode cX1_addPiece 12 = .ok (.getfield 61, 3) := by decide +kernel
theorem dX1_addPiece_15 : decode cX1_addPiece 15 = .ok (.istore 6, 2) := by decide +kernel
theorem dX1_addPiece_17 : decode cX1_addPiece 17 = .ok (.aload_n 0, 1) := by decide +kernel
theorem dX1_addPiece_18 : decode cX1_addPiece 18 = .ok (.dup, 1) := by decide +kernel
theorem dX1_addPiece_19 : decode cX1_addPiece 19 = .ok (.getfield 61, 3) := by decide +kernel
theorem dX1_addPiece_22 : decode cX1_addPiece 22 = .ok (.iconst 1, 1) := by decide +kernel
theorem dX1_addPiece_23 : decode cX1_addPiece 23 = .ok (.iadd, 1) := by decide +kernel
theorem dX1_addPiece_24 : decode cX1_addPiece 24 = .ok (.putfield 61, 3) := by decide +kernel
theorem dX1_addPiece_27 : decode cX1_addPiece 27 = .ok (.aload_n 0, 1) := by decide +kernel
theorem dX1_addPiece_28 : decode cX1_addPiece 28 = .ok (.getfield 11, 3) := by decide +kernel
theorem dX1_addPiece_31 : decode cX1_addPiece 31 = .ok (.iload 6, 2) := by decide +kernel
theorem dX1_addPiece_33 : decode cX1_addPiece 33 = .ok (.iload_n 1, 1) := by decide +kernel
theorem dX1_addPiece_34 : decode cX1_addPiece 34 = .ok (.iastore, 1) := by decide +kernel
theorem dX1_addPiece_35 : decode cX1_addPiece 35 = .ok (.aload_n 0, 1) := by decide +kernel
theorem dX1_addPiece_36 : decode cX1_addPiece 36 = .ok (.getfield 15, 3) := by decide +kernel
theorem dX1_addPiece_39 : decode cX1_addPiece 39 = .ok (.iload 6, 2) := by decide +kernel
theorem dX1_addPiece_41 : decode cX1_addPiece 41 = .ok (.iload_n 2, 1) := by decide +kernel
theorem dX1_addPiece_42 : decode cX1_addPiece 42 = .ok (.iastore, 1) := by decide +kernel
theorem dX1_addPiece_43 : decode cX1_addPiece 43 = .ok (.aload_n 0, 1) := by decide +kernel
theorem dX1_addPiece_44 : decode cX1_addPiece 44 = .ok (.getfield 18, 3) := by decide +kernel
theorem dX1_addPiece_47 : decode cX1_addPiece 47 = .ok (.iload 6, 2) := by decide +kernel
theorem dX1_addPiece_49 : decode cX1_addPiece 49 = .ok (.iconst 3, 1) := by decide +kernel
theorem dX1_addPiece_50 : decode cX1_addPiece 50 = .ok (.imul, 1) := by decide +kernel
theorem dX1_addPiece_51 : decode cX1_addPiece 51 = .ok (.iload_n 3, 1) := by decide +kernel
theorem dX1_addPiece_52 : decode cX1_addPiece 52 = .ok (.iastore, 1) := by decide +kernel
theorem dX1_addPiece_53 : decode cX1_addPiece 53 = .ok (.aload_n 0, 1) := by decide +kernel
theorem dX1_addPiece_54 : decode cX1_addPiece 54 = .ok (.getfield 18, 3) := by decide +kernel
theorem dX1_addPiece_57 : decode cX1_addPiece 57 = .ok (.iload 6, 2) := by decide +kernel
theorem dX1_addPiece_59 : decode cX1_addPiece 59 = .ok (.iconst 3, 1) := by decide +kernel
theorem dX1_addPiece_60 : decode cX1_addPiece 60 = .ok (.imul, 1) := by decide +kernel
theorem dX1_addPiece_61 : decode cX1_addPiece 61 = .ok (.iconst 1, 1) := by decide +kernel
theorem dX1_addPiece_62 : decode cX1_addPiece 62 = .ok (.iadd, 1) := by decide +kernel
theorem dX1_addPiece_63 : decode cX1_addPiece 63 = .ok (.iload 4, 2) := by decide +kernel
theorem dX1_addPiece_65 : decode cX1_addPiece 65 = .ok (.iastore, 1) := by decide +kernel
theorem dX1_addPiece_66 : decode cX1_addPiece 66 = .ok (.aload_n 0, 1) := by decide +kernel
theorem dX1_addPiece_67 : decode cX1_addPiece 67 = .ok (.getfield 18, 3) := by decide +kernel
theorem dX1_addPiece_70 : decode cX1_addPiece 70 = .ok (.iload 6, 2) := by decide +kernel
theorem dX1_addPiece_72 : decode cX1_addPiece 72 = .ok (.iconst 3, 1) := by decide +kernel
theorem dX1_addPiece_73 : decode cX1_addPiece 73 = .ok (.imul, 1) := by decide +kernel
theorem dX1_addPiece_74 : decode cX1_addPiece 74 = .ok (.iconst 2, 1) := by decide +kernel
theorem dX1_addPiece_75 : decode cX1_addPiece 75 = .ok (.iadd, 1) := by decide +kernel
theorem dX1_addPiece_76 : decode cX1_addPiece 76 = .ok (.iload 5, 2) := by decide +kernel
theorem dX1_addPiece_78 : decode cX1_addPiece 78 = .ok (.iastore, 1) := by decide +kernel
theorem dX1_addPiece_79 : decode cX1_addPiece 79 = .ok (.iconst 0, 1) := by decide +kernel
theorem dX1_addPiece_80 : decode cX1_addPiece 80 = .ok (.istore 7, 2) := by decide +kernel
theorem dX1_addPiece_82 : decode cX1_addPiece 82 = .ok (.iload 7, 2) := by decide +kernel
theorem dX1_addPiece_84 : decode cX1_addPiece 84 = .ok (.aload_n 0, 1) := by decide +kernel
theorem dX1_addPiece_85 : decode cX1_addPiece 85 = .ok (.getfield 64, 3) := by decide +kernel
theorem dX1_addPiece_88 : decode cX1_addPiece 88 = .ok (.if_icmp .ge 17, 3) := by decide +kernel
theorem dX1_addPiece_91 : decode cX1_addPiece 91 = .ok (.aload_n 0, 1) := by decide +kernel
theorem dX1_addPiece_92 : decode cX1_addPiece 92 = .ok (.iload 6, 2) := by decide +kernel
theorem dX1_addPiece_94 : decode cX1_addPiece 94 = .ok (.iload 7, 2) := by decide +kernel
theorem dX1_addPiece_96 : decode cX1_addPiece 96 = .ok (.invokevirtual 70, 3) := by decide +kernel
theorem dX1_addPiece_99 : decode cX1_addPiece 99 = .ok (.iinc 7 1, 3) := by decide +kernel
theorem dX1_addPiece_102 : decode cX1_addPiece 102 = .ok (.goto (-20), 3) := by decide +kernel
theorem dX1_addPiece_105 : decode cX1_addPiece 105 = .ok (.iload 6, 2) := by decide +kernel
theorem dX1_addPiece_107 : decode cX1_addPiece 107 = .ok (.ireturn, 1) := by decide +kernel
set_option maxRecDepth 20000 in
theorem ggX1_addHouse_X1_measurePair : GoodIn wsX1_addHouse wsX1_measurePair := goodIn_r _ [10, 11, 2, 12, 3, 13, 14, 15, 16, 9, 17, 18, 19, 20, 21, 22, 23, 24, 25, 26, 27, 28, 29, 30, 31, 32, 33, 34, 35, 36, 37, 38, 39, 40, 41, 42, 43, 44, 45, 46, 47, 48, 49, 50, 51, 52, 53, 54, 55, 56, 57, 58, 59, 60, 61, 62, 63, 64, 65, 66, 67, 68] (by decide +kernel) (by decide +kernel)
set_option maxRecDepth 20000 in
theorem gX1_addHouse_X1_measurePair : GoodIn wsX1_addHouse (wsV RX1 70 RX1 yX1_measurePair wsX1_measurePair) := goodIn_app (goodIn_of _ (by decide +kernel)) ggX1_addHouse_X1_measurePair
theorem dX1_addHouse_0 : decode cX1_addHouse 0 = .ok (.aload_n 0, 1) := by decide +kernel
theorem dX1_addHouse_1 : decode cX1_addHouse 1 = .ok (.getfield 64, 3) := by decide +kernel
theorem dX1_addHouse_4 : decode cX1_addHouse 4 = .ok (.bipush 20, 2) := by decide +kernel
theorem dX1_addHouse_6 : decode cX1_addHouse 6 = .ok (.if_icmp .lt 5, 3) := by decide +kernel
theorem dX1_addHouse_9 : decode cX1_addHouse 9 = .ok (.iconst (-1), 1) := by decide +kernel
theorem dX1_addHouse_10 : decode cX1_addHouse 10 = .ok (.ireturn, 1) := by decide +kernel
theorem dX1_addHouse_11 : decode cX1_addHouse 11 = .ok (.aload_n 0, 1) := by decide +kernel
theorem dX1_addHouse_12 : decode cX1_addHouse 12 = .ok (.getfield 64, 3) := by decide +kernel
theorem dX1_addHouse_15 : decode cX1_addHouse 15 = .ok (.istore 4, 2) := by decide +kernel
theorem dX1_addHouse_17 : decode cX1_addHouse 17 = .ok (.aload_n 0, 1) := by decide +kernel
theorem dX1_addHouse_18 : decode cX1_addHouse 18 = .ok (.dup, 1) := by decide +kernel
theorem dX1_addHouse_19 : decode cX1_addHouse 19 = .ok (.getfield 64, 3) := by decide +kernel
theorem dX1_addHouse_22 : decode cX1_addHouse 22 = .ok (.iconst 1, 1) := by decide +kernel
theorem dX1_addHouse_23 : decode cX1_addHouse 23 = .ok (.iadd, 1) := by decide +kernel
theorem dX1_addHouse_24 : decode cX1_addHouse 24 = .ok (.putfield 64, 3) := by decide +kernel
theorem dX1_addHouse_27 : decode cX1_addHouse 27 = .ok (.aload_n 0, 1) := by decide +kernel
theorem dX1_addHouse_28 : decode cX1_addHouse 28 = .ok (.getfield 21, 3) := by decide +kernel
theorem dX1_addHouse_31 : decode cX1_addHouse 31 = .ok (.iload 4, 2) := by decide +kernel
theorem dX1_addHouse_33 : decode cX1_addHouse 33 = .ok (.iload_n 1, 1) := by decide +kernel
theorem dX1_addHouse_34 : decode cX1_addHouse 34 = .ok (.iastore, 1) := by decide +kernel
theorem dX1_addHouse_35 : decode cX1_addHouse 35 = .ok (.aload_n 0, 1) := by decide +kernel
theorem dX1_addHouse_36 : decode cX1_addHouse 36 = .ok (.getfield 24, 3) := by decide +kernel
theorem dX1_addHouse_39 : decode cX1_addHouse 39 = .ok (.iload 4, 2) := by decide +kernel
theorem dX1_addHouse_41 : decode cX1_addHouse 41 = .ok (.iload_n 2, 1) := by decide +kernel
theorem dX1_addHouse_42 : decode cX1_addHouse 42 = .ok (.iastore, 1) := by decide +kernel
theorem dX1_addHouse_43 : decode cX1_addHouse 43 = .ok (.aload_n 0, 1) := by decide +kernel
theorem dX1_addHouse_44 : decode cX1_addHouse 44 = .ok (.getfield 27, 3) := by decide +kernel
theorem dX1_addHouse_47 : decode cX1_addHouse 47 = .ok (.iload 4, 2) := by decide +kernel
theorem dX1_addHouse_49 : decode cX1_addHouse 49 = .ok (.iload_n 3, 1) := by decide +kernel
theorem dX1_addHouse_50 : decode cX1_addHouse 50 = .ok (.iastore, 1) := by decide +kernel
theorem dX1_addHouse_51 : decode cX1_addHouse 51 = .ok (.iconst 0, 1) := by decide +kernel
theorem dX1_addHouse_52 : decode cX1_addHouse 52 = .ok (.istore 5, 2) := by decide +kernel
theorem dX1_addHouse_54 : decode cX1_addHouse 54 = .ok (.iload 5, 2) := by decide +kernel
theorem dX1_addHouse_56 : decode cX1_addHouse 56 = .ok (.aload_n 0, 1) := by decide +kernel
theorem dX1_addHouse_57 : decode cX1_addHouse 57 = .ok (.getfield 61, 3) := by decide +kernel
theorem dX1_addHouse_60 : decode cX1_addHouse 60 = .ok (.if_icmp .ge 17, 3) := by decide +kernel
theorem dX1_addHouse_63 : decode cX1_addHouse 63 = .ok (.aload_n 0, 1) := by decide +kernel
theorem dX1_addHouse_64 : decode cX1_addHouse 64 = .ok (.iload 5, 2) := by decide +kernel
theorem dX1_addHouse_66 : decode cX1_addHouse 66 = .ok (.iload 4, 2) := by decide +kernel
theorem dX1_addHouse_68 : decode cX1_addHouse 68 = .ok (.invokevirtual 70, 3) := by decide +kernel
theorem dX1_addHouse_71 : decode cX1_addHouse 71 = .ok (.iinc 5 1, 3) := by decide +kernel
theorem dX1_addHouse_74 : decode cX1_addHouse 74 = .ok (.goto (-20), 3) := by decide +kernel
theorem dX1_addHouse_77 : decode cX1_addHouse 77 = .ok (.iload 4, 2) := by decide +kernel
theorem dX1_addHouse_79 : decode cX1_addHouse 79 = .ok (.ireturn, 1) := by decide +kernel
set_option maxRecDepth 20000 in
theorem ggX1_addWall_X1_noteIfBetween : GoodIn wsX1_addWall wsX1_noteIfBetween := goodIn_r _ [13, 14, 15, 16, 17, 12, 18, 19, 20, 21, 22, 2, 3, 4, 5, 23, 24, 25, 26, 27, 28, 29, 30, 31, 32, 33, 34, 35, 36, 37, 38, 39, 40, 41, 42, 43, 44, 45, 46, 47, 48, 49, 50, 51, 52, 53, 54, 55, 56, 57, 58, 59, 60] (by decide +kernel) (by decide +kernel)
set_option maxRecDepth 20000 in
theorem gX1_addWall_X1_noteIfBetween : GoodIn wsX1_addWall (wsV RX1 74 RX1 yX1_noteIfBetween wsX1_noteIfBetween) := goodIn_app (goodIn_of _ (by decide +kernel)) ggX1_addWall_X1_noteIfBetween
theorem dX1_addWall_0 : decode cX1_addWall 0 = .ok (.aload_n 0, 1) := by decide +kernel
theorem dX1_addWall_1 : decode cX1_addWall 1 = .ok (.getfield 67, 3) := by decide +kernel
theorem dX1_addWall_4 : decode cX1_addWall 4 = .ok (.bipush 8, 2) := by decide +kernel
theorem dX1_addWall_6 : decode cX1_addWall 6 = .ok (.if_icmp .lt 5, 3) := by decide +kernel
theorem dX1_addWall_9 : decode cX1_addWall 9 = .ok (.iconst (-1), 1) := by decide +kernel
theorem dX1_addWall_10 : decode cX1_addWall 10 = .ok (.ireturn, 1) := by decide +kernel
theorem dX1_addWall_11 : decode cX1_addWall 11 = .ok (.aload_n 0, 1) := by decide +kernel
theorem dX1_addWall_12 : decode cX1_addWall 12 = .ok (.getfield 67, 3) := by decide +kernel
theorem dX1_addWall_15 : decode cX1_addWall 15 = .ok (.istore 6, 2) := by decide +kernel
theorem dX1_addWall_17 : decode cX1_addWall 17 = .ok (.aload_n 0, 1) := by decide +kernel
theorem dX1_addWall_18 : decode cX1_addWall 18 = .ok (.dup, 1) := by decide +kernel
theorem dX1_addWall_19 : decode cX1_addWall 19 = .ok (.getfield 67, 3) := by decide +kernel
theorem dX1_addWall_22 : decode cX1_addWall 22 = .ok (.iconst 1, 1) := by decide +kernel
theorem dX1_addWall_23 : decode cX1_addWall 23 = .ok (.iadd, 1) := by decide +kernel
theorem dX1_addWall_24 : decode cX1_addWall 24 = .ok (.putfield 67, 3) := by decide +kernel
theorem dX1_addWall_27 : decode cX1_addWall 27 = .ok (.aload_n 0, 1) := by decide +kernel
theorem dX1_addWall_28 : decode cX1_addWall 28 = .ok (.getfield 30, 3) := by decide +kernel
theorem dX1_addWall_31 : decode cX1_addWall 31 = .ok (.iload 6, 2) := by decide +kernel
theorem dX1_addWall_33 : decode cX1_addWall 33 = .ok (.iload_n 1, 1) := by decide +kernel
theorem dX1_addWall_34 : decode cX1_addWall 34 = .ok (.iastore, 1) := by decide +kernel
theorem dX1_addWall_35 : decode cX1_addWall 35 = .ok (.aload_n 0, 1) := by decide +kernel
theorem dX1_addWall_36 : decode cX1_addWall 36 = .ok (.getfield 33, 3) := by decide +kernel
theorem dX1_addWall_39 : decode cX1_addWall 39 = .ok (.iload 6, 2) := by decide +kernel
theorem dX1_addWall_41 : decode cX1_addWall 41 = .ok (.iload_n 2, 1) := by decide +kernel
theorem dX1_addWall_42 : decode cX1_addWall 42 = .ok (.iastore, 1) := by decide +kernel
theorem dX1_addWall_43 : decode cX1_addWall 43 = .ok (.aload_n 0, 1) := by decide +kernel
theorem dX1_addWall_44 : decode cX1_addWall 44 = .ok (.getfield 36, 3) := by decide +kernel
theorem dX1_addWall_47 : decode cX1_addWall 47 = .ok (.iload 6, 2) := by decide +kernel
theorem dX1_addWall_49 : decode cX1_addWall 49 = .ok (.iload_n 3, 1) := by decide +kernel
theorem dX1_addWall_50 : decode cX1_addWall 50 = .ok (.iastore, 1) := by decide +kernel
theorem dX1_addWall_51 : decode cX1_addWall 51 = .ok (.aload_n 0, 1) := by decide +kernel
theorem dX1_addWall_52 : decode cX1_addWall 52 = .ok (.getfield 39, 3) := by decide +kernel
theorem dX1_addWall_55 : decode cX1_addWall 55 = .ok (.iload 6, 2) := by decide +kernel
theorem dX1_addWall_57 : decode cX1_addWall 57 = .ok (.iload 4, 2) := by decide +kernel
theorem dX1_addWall_59 : decode cX1_addWall 59 = .ok (.iastore, 1) := by decide +kernel
theorem dX1_addWall_60 : decode cX1_addWall 60 = .ok (.aload_n 0, 1) := by decide +kernel
theorem dX1_addWall_61 : decode cX1_addWall 61 = .ok (.getfield 42, 3) := by decide +kernel
theorem dX1_addWall_64 : decode cX1_addWall 64 = .ok (.iload 6, 2) := by decide +kernel
theorem dX1_addWall_66 : decode cX1_addWall 66 = .ok (.iload 5, 2) := by decide +kernel
theorem dX1_addWall_68 : decode cX1_addWall 68 = .ok (.iastore, 1) := by decide +kernel
theorem dX1_addWall_69 : decode cX1_addWall 69 = .ok (.iconst 0, 1) := by decide +kernel
theorem dX1_addWall_70 : decode cX1_addWall 70 = .ok (.istore 7, 2) := by decide +kernel
theorem dX1_addWall_72 : decode cX1_addWall 72 = .ok (.iload 7, 2) := by decide +kernel
theorem dX1_addWall_74 : decode cX1_addWall 74 = .ok (.aload_n 0, 1) := by decide +kernel
theorem dX1_addWall_75 : decode cX1_addWall 75 = .ok (.getfield 61, 3) := by decide +kernel
theorem dX1_addWall_78 : decode cX1_addWall 78 = .ok (.if_icmp .ge 37, 3) := by decide +kernel
theorem dX1_addWall_81 : decode cX1_addWall 81 = .ok (.iconst 0, 1) := by decide +kernel
theorem dX1_addWall_82 : decode cX1_addWall 82 = .ok (.istore 8, 2) := by decide +kernel
theorem dX1_addWall_84 : decode cX1_addWall 84 = .ok (.iload 8, 2) := by decide +kernel
theorem dX1_addWall_86 : decode cX1_addWall 86 = .ok (.aload_n 0, 1) := by decide +kernel
theorem dX1_addWall_87 : decode cX1_addWall 87 = .ok (.getfield 64, 3) := by decide +kernel
theorem dX1_addWall_90 : decode cX1_addWall 90 = .ok (.if_icmp .ge 19, 3) := by decide +kernel
theorem dX1_addWall_93 : decode cX1_addWall 93 = .ok (.aload_n 0, 1) := by decide +kernel
theorem dX1_addWall_94 : decode cX1_addWall 94 = .ok (.iload 6, 2) := by decide +kernel
theorem dX1_addWall_96 : decode cX1_addWall 96 = .ok (.iload 7, 2) := by decide +kernel
theorem dX1_addWall_98 : decode cX1_addWall 98 = .ok (.iload 8, 2) := by decide +kernel
theorem dX1_addWall_100 : decode cX1_addWall 100 = .ok (.invokevirtual 74, 3) := by decide +kernel
theorem dX1_addWall_103 : decode cX1_addWall 103 = .ok (.iinc 8 1, 3) := by decide +kernel
theorem dX1_addWall_106 : decode cX1_addWall 106 = .ok (.goto (-22), 3) := by decide +kernel
theorem dX1_addWall_109 : decode cX1_addWall 109 = .ok (.iinc 7 1, 3) := by decide +kernel
theorem dX1_addWall_112 : decode cX1_addWall 112 = .ok (.goto (-40), 3) := by decide +kernel
theorem dX1_addWall_115 : decode cX1_addWall 115 = .ok (.iload 6, 2) := by decide +kernel
theorem dX1_addWall_117 : decode cX1_addWall 117 = .ok (.ireturn, 1) := by decide +kernel
theorem dX1_changeFall_0 : decode cX1_changeFall 0 = .ok (.aload_n 0, 1) := by decide +kernel
theorem dX1_changeFall_1 : decode cX1_changeFall 1 = .ok (.getfield 57, 3) := by decide +kernel
theorem dX1_changeFall_4 : decode cX1_changeFall 4 = .ok (.istore_n 2, 1) := by decide +kernel
theorem dX1_changeFall_5 : decode cX1_changeFall 5 = .ok (.aload_n 0, 1) := by decide +kernel
theorem dX1_changeFall_6 : decode cX1_changeFall 6 = .ok (.iload_n 1, 1) := by decide +kernel
theorem dX1_changeFall_7 : decode cX1_changeFall 7 = .ok (.putfield 57, 3) := by decide +kernel
theorem dX1_changeFall_10 : decode cX1_changeFall 10 = .ok (.iload_n 2, 1) := by decide +kernel
theorem dX1_changeFall_11 : decode cX1_changeFall 11 = .ok (.ireturn, 1) := by decide +kernel
theorem dX1_changeMalus_0 : decode cX1_changeMalus 0 = .ok (.aload_n 0, 1) := by decide +kernel
theorem dX1_changeMalus_1 : decode cX1_changeMalus 1 = .ok (.getfield 45, 3) := by decide +kernel
theorem dX1_changeMalus_4 : decode cX1_changeMalus 4 = .ok (.iload_n 1, 1) := by decide +kernel
theorem dX1_changeMalus_5 : decode cX1_changeMalus 5 = .ok (.iaload, 1) := by decide +kernel
theorem dX1_changeMalus_6 : decode cX1_changeMalus 6 = .ok (.istore_n 3, 1) := by decide +kernel
theorem dX1_changeMalus_7 : decode cX1_changeMalus 7 = .ok (.aload_n 0, 1) := by decide +kernel
theorem dX1_changeMalus_8 : decode cX1_changeMalus 8 = .ok (.getfield 45, 3) := by decide +kernel
theorem dX1_changeMalus_11 : decode cX1_changeMalus 11 = .ok (.iload_n 1, 1) := by decide +kernel
theorem dX1_changeMalus_12 : decode cX1_changeMalus 12 = .ok (.iload_n 2, 1) := by decide +kernel
theorem dX1_changeMalus_13 : decode cX1_changeMalus 13 = .ok (.iastore, 1) := by decide +kernel
theorem dX1_changeMalus_14 : decode cX1_changeMalus 14 = .ok (.iload_n 3, 1) := by decide +kernel
theorem dX1_changeMalus_15 : decode cX1_changeMalus 15 = .ok (.ireturn, 1) := by decide +kernel
theorem dX1_changeCut_0 : decode cX1_changeCut 0 = .ok (.aload_n 0, 1) := by decide +kernel
theorem dX1_changeCut_1 : decode cX1_changeCut 1 = .ok (.getfield 42, 3) := by decide +kernel
theorem dX1_changeCut_4 : decode cX1_changeCut 4 = .ok (.iload_n 1, 1) := by decide +kernel
theorem dX1_changeCut_5 : decode cX1_changeCut 5 = .ok (.iaload, 1) := by decide +kernel
theorem dX1_changeCut_6 : decode cX1_changeCut 6 = .ok (.istore_n 3, 1) := by decide +kernel
theorem dX1_changeCut_7 : decode cX1_changeCut 7 = .ok (.aload_n 0, 1) := by decide +kernel
theorem dX1_changeCut_8 : decode cX1_changeCut 8 = .ok (.getfield 42, 3) := by decide +kernel
theorem dX1_changeCut_11 : decode cX1_changeCut 11 = .ok (.iload_n 1, 1) := by decide +kernel
theorem dX1_changeCut_12 : decode cX1_changeCut 12 = .ok (.iload_n 2, 1) := by decide +kernel
theorem dX1_changeCut_13 : decode cX1_changeCut 13 = .ok (.iastore, 1) := by decide +kernel
theorem dX1_changeCut_14 : decode cX1_changeCut 14 = .ok (.iload_n 3, 1) := by decide +kernel
theorem dX1_changeCut_15 : decode cX1_changeCut 15 = .ok (.ireturn, 1) := by decide +kernel
theorem dX1_allPeople_0 : decode cX1_allPeople 0 = .ok (.iconst 0, 1) := by decide +kernel
theorem dX1_allPeople_1 : decode cX1_allPeople 1 = .ok (.istore_n 1, 1) := by decide +kernel
theorem dX1_allPeople_2 : decode cX1_allPeople 2 = .ok (.iconst 0, 1) := by decide +kernel
theorem dX1_allPeople_3 : decode cX1_allPeople 3 = .ok (.istore_n 2, 1) := by decide +kernel
theorem dX1_allPeople_4 : decode cX1_allPeople 4 = .ok (.iload_n 2, 1) := by decide +kernel
theorem dX1_allPeople_5 : decode cX1_allPeople 5 = .ok (.aload_n 0, 1) := by decide +kernel
theorem dX1_allPeople_6 : decode cX1_allPeople 6 = .ok (.getfield 64, 3) := by decide +kernel
theorem dX1_allPeople_9 : decode cX1_allPeople 9 = .ok (.if_icmp .ge 18, 3) := by decide +kernel
theorem dX1_allPeople_12 : decode cX1_allPeople 12 = .ok (.iload_n 1, 1) := by decide +kernel
theorem dX1_allPeople_13 : decode cX1_allPeople 13 = .ok (.aload_n 0, 1) := by decide +kernel
theorem dX1_allPeople_14 : decode cX1_allPeople 14 = .ok (.getfield 27, 3) := by decide +kernel
theorem dX1_allPeople_17 : decode cX1_allPeople 17 = .ok (.iload_n 2, 1) := by decide +kernel
theorem dX1_allPeople_18 : decode cX1_allPeople 18 = .ok (.iaload, 1) := by decide +kernel
theorem dX1_allPeople_19 : decode cX1_allPeople 19 = .ok (.iadd, 1) := by decide +kernel
theorem dX1_allPeople_20 : decode cX1_allPeople 20 = .ok (.istore_n 1, 1) := by decide +kernel
theorem dX1_allPeople_21 : decode cX1_allPeople 21 = .ok (.iinc 2 1, 3) := by decide +kernel
theorem dX1_allPeople_24 : decode cX1_allPeople 24 = .ok (.goto (-20), 3) := by decide +kernel
theorem dX1_allPeople_27 : decode cX1_allPeople 27 = .ok (.iload_n 1, 1) := by decide +kernel
theorem dX1_allPeople_28 : decode cX1_allPeople 28 = .ok (.ireturn, 1) := by decide +kernel
set_option maxRecDepth 20000 in
theorem ggX1_peopleAbove_X1_allDayLevel : GoodIn wsX1_peopleAbove wsX1_allDayLevel := goodIn_r _ [7, 8, 9, 10, 11, 12, 13, 14, 15, 6, 16, 17, 18, 19, 20, 21, 22, 23, 24, 25, 26, 27, 28, 29, 30, 31, 32, 33, 34, 35, 36, 37, 38, 39, 40, 41, 42, 43, 44, 45, 46, 47, 48, 49, 50, 51, 52, 53, 54, 55, 56, 57, 58, 59, 60, 61, 62] (by decide +kernel) (by decide +kernel)
set_option maxRecDepth 20000 in
theorem gX1_peopleAbove_X1_allDayLevel : GoodIn wsX1_peopleAbove (wsV RX1 78 RX1 yX1_allDayLevel wsX1_allDayLevel) := goodIn_app (goodIn_of _ (by decide +kernel)) ggX1_peopleAbove_X1_allDayLevel
theorem dX1_peopleAbove_0 : decode cX1_peopleAbove 0 = .ok (.iconst 0, 1) := by decide +kernel
theorem dX1_peopleAbove_1 : decode cX1_peopleAbove 1 = .ok (.istore_n 2, 1) := by decide +kernel
theorem dX1_peopleAbove_2 : decode cX1_peopleAbove 2 = .ok (.iconst 0, 1) := by decide +kernel
theorem dX1_peopleAbove_3 : decode cX1_peopleAbove 3 = .ok (.istore_n 3, 1) := by decide +kernel
theorem dX1_peopleAbove_4 : decode cX1_peopleAbove 4 = .ok (.iload_n 3, 1) := by decide +kernel
theorem dX1_peopleAbove_5 : decode cX1_peopleAbove 5 = .ok (.aload_n 0, 1) := by decide +kernel
theorem dX1_peopleAbove_6 : decode cX1_peopleAbove 6 = .ok (.getfield 64, 3) := by decide +kernel
theorem dX1_peopleAbove_9 : decode cX1_peopleAbove 9 = .ok (.if_icmp .ge 27, 3) := by decide +kernel
theorem dX1_peopleAbove_12 : decode cX1_peopleAbove 12 = .ok (.aload_n 0, 1) := by decide +kernel
theorem dX1_peopleAbove_13 : decode cX1_peopleAbove 13 = .ok (.iload_n 3, 1) := by decide +kernel
theorem dX1_peopleAbove_14 : decode cX1_peopleAbove 14 = .ok (.invokevirtual 78, 3) := by decide +kernel
theorem dX1_peopleAbove_17 : decode cX1_peopleAbove 17 = .ok (.iload_n 1, 1) := by decide +kernel
theorem dX1_peopleAbove_18 : decode cX1_peopleAbove 18 = .ok (.if_icmp .le 12, 3) := by decide +kernel
theorem dX1_peopleAbove_21 : decode cX1_peopleAbove 21 = .ok (.iload_n 2, 1) := by decide +kernel
theorem dX1_peopleAbove_22 : decode cX1_peopleAbove 22 = .ok (.aload_n 0, 1) := by decide +kernel
theorem dX1_peopleAbove_23 : decode cX1_peopleAbove 23 = .ok (.getfield 27, 3) := by decide +kernel
theorem dX1_peopleAbove_26 : decode cX1_peopleAbove 26 = .ok (.iload_n 3, 1) := by decide +kernel
theorem dX1_peopleAbove_27 : decode cX1_peopleAbove 27 = .ok (.iaload, 1) := by decide +kernel
theorem dX1_peopleAbove_28 : decode cX1_peopleAbove 28 = .ok (.iadd, 1) := by decide +kernel
theorem dX1_peopleAbove_29 : decode cX1_peopleAbove 29 = .ok (.istore_n 2, 1) := by decide +kernel
theorem dX1_peopleAbove_30 : decode cX1_peopleAbove 30 = .ok (.iinc 3 1, 3) := by decide +kernel
theorem dX1_peopleAbove_33 : decode cX1_peopleAbove 33 = .ok (.goto (-29), 3) := by decide +kernel
theorem dX1_peopleAbove_36 : decode cX1_peopleAbove 36 = .ok (.iload_n 2, 1) := by decide +kernel
theorem dX1_peopleAbove_37 : decode cX1_peopleAbove 37 = .ok (.ireturn, 1) := by decide +kernel
set_option maxRecDepth 20000 in
theorem ggX1_given_X1_pairOf : GoodIn wsX1_given wsX1_pairOf := goodIn_r _ [11] (by decide +kernel) (by decide +kernel)
set_option maxRecDepth 20000 in
theorem gX1_given_X1_pairOf : GoodIn wsX1_given (va_wsS RX1 82 yX1_pairOf wsX1_pairOf) := goodIn_app (goodIn_of _ (by decide +kernel)) ggX1_given_X1_pairOf
set_option maxRecDepth 20000 in
theorem ggX1_given_X1_greatestCut : GoodIn wsX1_given wsX1_greatestCut := goodIn_r _ [15, 16, 17, 18, 19, 20, 21, 22, 23, 24, 25, 26, 27, 28, 29, 30, 31, 32, 33, 34, 35, 36, 37] (by decide +kernel) (by decide +kernel)
set_option maxRecDepth 20000 in
theorem gX1_given_X1_greatestCut : GoodIn wsX1_given (wsV RX1 86 RX1 yX1_greatestCut wsX1_greatestCut) := goodIn_app (goodIn_of _ (by decide +kernel)) ggX1_given_X1_greatestCut
theorem dX1_given_0 : decode cX1_given 0 = .ok (.iload_n 1, 1) := by decide +kernel
theorem dX1_given_1 : decode cX1_given 1 = .ok (.iload_n 2, 1) := by decide +kernel
theorem dX1_given_2 : decode cX1_given 2 = .ok (.invokestatic 82, 3) := by decide +kernel
theorem dX1_given_5 : decode cX1_given 5 = .ok (.istore 4, 2) := by decide +kernel
theorem dX1_given_7 : decode cX1_given 7 = .ok (.aload_n 0, 1) := by decide +kernel
theorem dX1_given_8 : decode cX1_given 8 = .ok (.getfield 18, 3) := by decide +kernel
theorem dX1_given_11 : decode cX1_given 11 = .ok (.iload_n 1, 1) := by decide +kernel
theorem dX1_given_12 : decode cX1_given 12 = .ok (.iconst 3, 1) := by decide +kernel
theorem dX1_given_13 : decode cX1_given 13 = .ok (.imul, 1) := by decide +kernel
theorem dX1_given_14 : decode cX1_given 14 = .ok (.iload_n 3, 1) := by decide +kernel
theorem dX1_given_15 : decode cX1_given 15 = .ok (.iadd, 1) := by decide +kernel
theorem dX1_given_16 : decode cX1_given 16 = .ok (.iaload, 1) := by decide +kernel
theorem dX1_given_17 : decode cX1_given 17 = .ok (.aload_n 0, 1) := by decide +kernel
theorem dX1_given_18 : decode cX1_given 18 = .ok (.getfield 57, 3) := by decide +kernel
theorem dX1_given_21 : decode cX1_given 21 = .ok (.aload_n 0, 1) := by decide +kernel
theorem dX1_given_22 : decode cX1_given 22 = .ok (.getfield 48, 3) := by decide +kernel
theorem dX1_given_25 : decode cX1_given 25 = .ok (.iload 4, 2) := by decide +kernel
theorem dX1_given_27 : decode cX1_given 27 = .ok (.iaload, 1) := by decide +kernel
theorem dX1_given_28 : decode cX1_given 28 = .ok (.imul, 1) := by decide +kernel
theorem dX1_given_29 : decode cX1_given 29 = .ok (.isub, 1) := by decide +kernel
theorem dX1_given_30 : decode cX1_given 30 = .ok (.aload_n 0, 1) := by decide +kernel
theorem dX1_given_31 : decode cX1_given 31 = .ok (.iload 4, 2) := by decide +kernel
theorem dX1_given_33 : decode cX1_given 33 = .ok (.invokevirtual 86, 3) := by decide +kernel
theorem dX1_given_36 : decode cX1_given 36 = .ok (.isub, 1) := by decide +kernel
theorem dX1_given_37 : decode cX1_given 37 = .ok (.istore 5, 2) := by decide +kernel
theorem dX1_given_39 : decode cX1_given 39 = .ok (.iload 5, 2) := by decide +kernel
theorem dX1_given_41 : decode cX1_given 41 = .ok (.iconst 0, 1) := by decide +kernel
theorem dX1_given_42 : decode cX1_given 42 = .ok (.invokestatic 89, 3) := by decide +kernel
theorem dX1_given_45 : decode cX1_given 45 = .ok (.ireturn, 1) := by decide +kernel
set_option maxRecDepth 20000 in
theorem ggX1_partLevel_X1_given : GoodIn wsX1_partLevel wsX1_given := goodIn_r _ [6, 7, 8, 9, 10, 11, 12, 13, 14, 15, 5, 16, 17, 18, 19, 20, 21, 22, 23, 33, 34, 35, 36, 37, 38, 39, 40, 41, 42, 43, 44, 45, 46, 47, 48, 49, 50, 51] (by decide +kernel) (by decide +kernel)
set_option maxRecDepth 20000 in
theorem gX1_partLevel_X1_given : GoodIn wsX1_partLevel (wsV RX1 94 RX1 yX1_given wsX1_given) := goodIn_app (goodIn_of _ (by decide +kernel)) ggX1_partLevel_X1_given
set_option maxRecDepth 20000 in
theorem ggX1_partLevel_X1_join : GoodIn wsX1_partLevel wsX1_join := goodIn_r _ [26, 10, 11, 12, 13, 27, 28, 29, 30, 31, 5, 32] (by decide +kernel) (by decide +kernel)
set_option maxRecDepth 20000 in
theorem gX1_partLevel_X1_join : GoodIn wsX1_partLevel (va_wsS RX1 98 yX1_join wsX1_join) := goodIn_app (goodIn_of _ (by decide +kernel)) ggX1_partLevel_X1_join
theorem dX1_partLevel_0 : decode cX1_partLevel 0 = .ok (.iconst 0, 1) := by decide +kernel
theorem dX1_partLevel_1 : decode cX1_partLevel 1 = .ok (.istore_n 3, 1) := by decide +kernel
theorem dX1_partLevel_2 : decode cX1_partLevel 2 = .ok (.iconst 0, 1) := by decide +kernel
theorem dX1_partLevel_3 : decode cX1_partLevel 3 = .ok (.istore 4, 2) := by decide +kernel
theorem dX1_partLevel_5 : decode cX1_partLevel 5 = .ok (.iload 4, 2) := by decide +kernel
theorem dX1_partLevel_7 : decode cX1_partLevel 7 = .ok (.aload_n 0, 1) := by decide +kernel
theorem dX1_partLevel_8 : decode cX1_partLevel 8 = .ok (.getfield 61, 3) := by decide +kernel
theorem dX1_partLevel_11 : decode cX1_partLevel 11 = .ok (.if_icmp .ge 22, 3) := by decide +kernel
theorem dX1_partLevel_14 : decode cX1_partLevel 14 = .ok (.iload_n 3, 1) := by decide +kernel
theorem dX1_partLevel_15 : decode cX1_partLevel 15 = .ok (.aload_n 0, 1) := by decide +kernel
theorem dX1_partLevel_16 : decode cX1_partLevel 16 = .ok (.iload 4, 2) := by decide +kernel
theorem dX1_partLevel_18 : decode cX1_partLevel 18 = .ok (.iload_n 1, 1) := by decide +kernel
theorem dX1_partLevel_19 : decode cX1_partLevel 19 = .ok (.iload_n 2, 1) := by decide +kernel
theorem dX1_partLevel_20 : decode cX1_partLevel 20 = .ok (.invokevirtual 94, 3) := by decide +kernel
theorem dX1_partLevel_23 : decode cX1_partLevel 23 = .ok (.invokestatic 98, 3) := by decide +kernel
theorem dX1_partLevel_26 : decode cX1_partLevel 26 = .ok (.istore_n 3, 1) := by decide +kernel
theorem dX1_partLevel_27 : decode cX1_partLevel 27 = .ok (.iinc 4 1, 3) := by decide +kernel
theorem dX1_partLevel_30 : decode cX1_partLevel 30 = .ok (.goto (-25), 3) := by decide +kernel
theorem dX1_partLevel_33 : decode cX1_partLevel 33 = .ok (.iload_n 3, 1) := by decide +kernel
theorem dX1_partLevel_34 : decode cX1_partLevel 34 = .ok (.ireturn, 1) := by decide +kernel
set_option maxRecDepth 20000 in
theorem ggX1_allDayLevel_X1_partLevel : GoodIn wsX1_allDayLevel wsX1_partLevel := goodIn_r _ [10, 11, 12, 13, 14, 9, 15, 16, 17, 18, 2, 3, 4, 5, 19, 20, 21, 22, 23, 24, 25, 26, 27, 28, 29, 30, 31, 32, 33, 34, 35, 36, 37, 38, 39, 40, 41, 42, 43, 44, 45, 46, 47, 48, 49, 50, 51, 52, 53, 54, 55, 56] (by decide +kernel) (by decide +kernel)
set_option maxRecDepth 20000 in
theorem gX1_allDayLevel_X1_partLevel : GoodIn wsX1_allDayLevel (wsV RX1 101 RX1 yX1_partLevel wsX1_partLevel) := goodIn_app (goodIn_of _ (by decide +kernel)) ggX1_allDayLevel_X1_partLevel
theorem dX1_allDayLevel_0 : decode cX1_allDayLevel 0 = .ok (.iconst 0, 1) := by decide +kernel
theorem dX1_allDayLevel_1 : decode cX1_allDayLevel 1 = .ok (.istore_n 2, 1) := by decide +kernel
theorem dX1_allDayLevel_2 : decode cX1_allDayLevel 2 = .ok (.iconst 0, 1) := by decide +kernel
theorem dX1_allDayLevel_3 : decode cX1_allDayLevel 3 = .ok (.istore_n 3, 1) := by decide +kernel
theorem dX1_allDayLevel_4 : decode cX1_allDayLevel 4 = .ok (.iload_n 3, 1) := by decide +kernel
theorem dX1_allDayLevel_5 : decode cX1_allDayLevel 5 = .ok (.iconst 3, 1) := by decide +kernel
theorem dX1_allDayLevel_6 : decode cX1_allDayLevel 6 = .ok (.if_icmp .ge 36, 3) := by decide +kernel
theorem dX1_allDayLevel_9 : decode cX1_allDayLevel 9 = .ok (.aload_n 0, 1) := by decide +kernel
theorem dX1_allDayLevel_10 : decode cX1_allDayLevel 10 = .ok (.iload_n 1, 1) := by decide +kernel
theorem dX1_allDayLevel_11 : decode cX1_allDayLevel 11 = .ok (.iload_n 3, 1) := by decide +kernel
theorem dX1_allDayLevel_12 : decode cX1_allDayLevel 12 = .ok (.invokevirtual 101, 3) := by decide +kernel
theorem dX1_allDayLevel_15 : decode cX1_allDayLevel 15 = .ok (.istore 4, 2) := by decide +kernel
theorem dX1_allDayLevel_17 : decode cX1_allDayLevel 17 = .ok (.iload 4, 2) := by decide +kernel
theorem dX1_allDayLevel_19 : decode cX1_allDayLevel 19 = .ok (.ifCond .le 17, 3) := by decide +kernel
theorem dX1_allDayLevel_22 : decode cX1_allDayLevel 22 = .ok (.iload_n 2, 1) := by decide +kernel
theorem dX1_allDayLevel_23 : decode cX1_allDayLevel 23 = .ok (.iload 4, 2) := by decide +kernel
theorem dX1_allDayLevel_25 : decode cX1_allDayLevel 25 = .ok (.aload_n 0, 1) := by decide +kernel
theorem dX1_allDayLevel_26 : decode cX1_allDayLevel 26 = .ok (.getfield 45, 3) := by decide +kernel
theorem dX1_allDayLevel_29 : decode cX1_allDayLevel 29 = .ok (.iload_n 3, 1) := by decide +kernel
theorem dX1_allDayLevel_30 : decode cX1_allDayLevel 30 = .ok (.iaload, 1) := by decide +kernel
theorem dX1_allDayLevel_31 : decode cX1_allDayLevel 31 = .ok (.iadd, 1) := by decide +kernel
theorem dX1_allDayLevel_32 : decode cX1_allDayLevel 32 = .ok (.invokestatic 89, 3) := by decide +kernel
theorem dX1_allDayLevel_35 : decode cX1_allDayLevel 35 = .ok (.istore_n 2, 1) := by decide +kernel
theorem dX1_allDayLevel_36 : decode cX1_allDayLevel 36 = .ok (.iinc 3 1, 3) := by decide +kernel
theorem dX1_allDayLevel_39 : decode cX1_allDayLevel 39 = .ok (.goto (-35), 3) := by decide +kernel
theorem dX1_allDayLevel_42 : decode cX1_allDayLevel 42 = .ok (.iload_n 2, 1) := by decide +kernel
theorem dX1_allDayLevel_43 : decode cX1_allDayLevel 43 = .ok (.ireturn, 1) := by decide +kernel
set_option maxRecDepth 20000 in
theorem ggX1_loudestPiece_X1_given : GoodIn wsX1_loudestPiece wsX1_given := goodIn_r _ [6, 7, 8, 9, 10, 11, 12, 13, 14, 15, 5, 16, 17, 18, 19, 20, 21, 22, 23, 24, 25, 26, 27, 28, 29, 30, 31, 32, 33, 34, 35, 36, 37, 38, 39, 40, 41, 42] (by decide +kernel) (by decide +kernel)
set_option maxRecDepth 20000 in
theorem gX1_loudestPiece_X1_given : GoodIn wsX1_loudestPiece (wsV RX1 94 RX1 yX1_given wsX1_given) := goodIn_app (goodIn_of _ (by decide +kernel)) ggX1_loudestPiece_X1_given
theorem dX1_loudestPiece_0 : decode cX1_loudestPiece 0 = .ok (.iconst (-1), 1) := by decide +kernel
theorem dX1_loudestPiece_1 : decode cX1_loudestPiece 1 = .ok (.istore_n 3, 1) := by decide +kernel
theorem dX1_loudestPiece_2 : decode cX1_loudestPiece 2 = .ok (.iconst 0, 1) := by decide +kernel
theorem dX1_loudestPiece_3 : decode cX1_loudestPiece 3 = .ok (.istore 4, 2) := by decide +kernel
theorem dX1_loudestPiece_5 : decode cX1_loudestPiece 5 = .ok (.iconst 0, 1) := by decide +kernel
theorem dX1_loudestPiece_6 : decode cX1_loudestPiece 6 = .ok (.istore 5, 2) := by decide +kernel
theorem dX1_loudestPiece_8 : decode cX1_loudestPiece 8 = .ok (.iload 5, 2) := by decide +kernel
theorem dX1_loudestPiece_10 : decode cX1_loudestPiece 10 = .ok (.aload_n 0, 1) := by decide +kernel
theorem dX1_loudestPiece_11 : decode cX1_loudestPiece 11 = .ok (.getfield 61, 3) := by decide +kernel
theorem dX1_loudestPiece_14 : decode cX1_loudestPiece 14 = .ok (.if_icmp .ge 33, 3) := by decide +kernel
theorem dX1_loudestPiece_17 : decode cX1_loudestPiece 17 = .ok (.aload_n 0, 1) := by decide +kernel
theorem dX1_loudestPiece_18 : decode cX1_loudestPiece 18 = .ok (.iload 5, 2) := by decide +kernel
theorem dX1_loudestPiece_20 : decode cX1_loudestPiece 20 = .ok (.iload_n 1, 1) := by decide +kernel
theorem dX1_loudestPiece_21 : decode cX1_loudestPiece 21 = .ok (.iload_n 2, 1) := by decide +kernel
theorem dX1_loudestPiece_22 : decode cX1_loudestPiece 22 = .ok (.invokevirtual 94, 3) := by decide +kernel
theorem dX1_loudestPiece_25 : decode cX1_loudestPiece 25 = .ok (.istore 6, 2) := by decide +kernel
theorem dX1_loudestPiece_27 : decode cX1_loudestPiece 27 = .ok (.iload 6, 2) := by decide +kernel
theorem dX1_loudestPiece_29 : decode cX1_loudestPiece 29 = .ok (.iload 4, 2) := by decide +kernel
theorem dX1_loudestPiece_31 : decode cX1_loudestPiece 31 = .ok (.if_icmp .le 10, 3) := by decide +kernel
theorem dX1_loudestPiece_34 : decode cX1_loudestPiece 34 = .ok (.iload 6, 2) := by decide +kernel
theorem dX1_loudestPiece_36 : decode cX1_loudestPiece 36 = .ok (.istore 4, 2) := by decide +kernel
theorem dX1_loudestPiece_38 : decode cX1_loudestPiece 38 = .ok (.iload 5, 2) := by decide +kernel
theorem dX1_loudestPiece_40 : decode cX1_loudestPiece 40 = .ok (.istore_n 3, 1) := by decide +kernel
theorem dX1_loudestPiece_41 : decode cX1_loudestPiece 41 = .ok (.iinc 5 1, 3) := by decide +kernel
theorem dX1_loudestPiece_44 : decode cX1_loudestPiece 44 = .ok (.goto (-36), 3) := by decide +kernel
theorem dX1_loudestPiece_47 : decode cX1_loudestPiece 47 = .ok (.iload_n 3, 1) := by decide +kernel
theorem dX1_loudestPiece_48 : decode cX1_loudestPiece 48 = .ok (.ireturn, 1) := by decide +kernel
set_option maxRecDepth 20000 in
theorem ggX1_houseOfRank_X1_allDayLevel : GoodIn wsX1_houseOfRank wsX1_allDayLevel := goodIn_r _ [7, 8, 9, 10, 11, 12, 13, 14, 15, 6, 16, 17, 18, 19, 20, 21, 22, 23, 24, 25, 26, 27, 28, 29, 30, 31, 32, 33, 34, 35, 36, 37, 38, 39, 40, 41, 42, 43, 48, 49, 50, 51, 52, 53, 54, 55, 56, 57, 58, 59, 60, 61, 62, 63, 64, 65, 66] (by decide +kernel) (by decide +kernel)
set_option maxRecDepth 20000 in
theorem gX1_houseOfRank_X1_allDayLevel : GoodIn wsX1_houseOfRank (wsV RX1 78 RX1 yX1_allDayLevel wsX1_allDayLevel) := goodIn_app (goodIn_of _ (by decide +kernel)) ggX1_houseOfRank_X1_allDayLevel
set_option maxRecDepth 20000 in
theorem ggX1_houseOfRank_X1_housesAhead : GoodIn wsX1_houseOfRank wsX1_housesAhead := goodIn_r _ [47, 1, 2, 48, 49, 50, 51, 52, 53, 54, 55, 56, 57, 58, 59, 60, 61, 62, 63, 64, 65, 66] (by decide +kernel) (by decide +kernel)
set_option maxRecDepth 20000 in
theorem gX1_houseOfRank_X1_housesAhead : GoodIn wsX1_houseOfRank (wsV RX1 104 RX1 yX1_housesAhead wsX1_housesAhead) := goodIn_app (goodIn_of _ (by decide +kernel)) ggX1_houseOfRank_X1_housesAhead
theorem dX1_houseOfRank_0 : decode cX1_houseOfRank 0 = .ok (.iconst 0, 1) := by decide +kernel
theorem dX1_houseOfRank_1 : decode cX1_houseOfRank 1 = .ok (.istore_n 2, 1) := by decide +kernel
theorem dX1_houseOfRank_2 : decode cX1_houseOfRank 2 = .ok (.iload_n 2, 1) := by decide +kernel
theorem dX1_houseOfRank_3 : decode cX1_houseOfRank 3 = .ok (.aload_n 0, 1) := by decide +kernel
theorem dX1_houseOfRank_4 : decode cX1_houseOfRank 4 = .ok (.getfield 64, 3) := by decide +kernel
theorem dX1_houseOfRank_7 : decode cX1_houseOfRank 7 = .ok (.if_icmp .ge 20, 3) := by decide +kernel
theorem dX1_houseOfRank_10 : decode cX1_houseOfRank 10 = .ok (.aload_n 0, 1) := by decide +kernel
theorem dX1_houseOfRank_11 : decode cX1_houseOfRank 11 = .ok (.getfield 54, 3) := by decide +kernel
theorem dX1_houseOfRank_14 : decode cX1_houseOfRank 14 = .ok (.iload_n 2, 1) := by decide +kernel
theorem dX1_houseOfRank_15 : decode cX1_houseOfRank 15 = .ok (.aload_n 0, 1) := by decide +kernel
theorem dX1_houseOfRank_16 : decode cX1_houseOfRank 16 = .ok (.iload_n 2, 1) := by decide +kernel
theorem dX1_houseOfRank_17 : decode cX1_houseOfRank 17 = .ok (.invokevirtual 78, 3) := by decide +kernel
theorem dX1_houseOfRank_20 : decode cX1_houseOfRank 20 = .ok (.iastore, 1) := by decide +kernel
theorem dX1_houseOfRank_21 : decode cX1_houseOfRank 21 = .ok (.iinc 2 1, 3) := by decide +kernel
theorem dX1_houseOfRank_24 : decode cX1_houseOfRank 24 = .ok (.goto (-22), 3) := by decide +kernel
theorem dX1_houseOfRank_27 : decode cX1_houseOfRank 27 = .ok (.iconst 0, 1) := by decide +kernel
theorem dX1_houseOfRank_28 : decode cX1_houseOfRank 28 = .ok (.istore_n 2, 1) := by decide +kernel
theorem dX1_houseOfRank_29 : decode cX1_houseOfRank 29 = .ok (.iload_n 2, 1) := by decide +kernel
theorem dX1_houseOfRank_30 : decode cX1_houseOfRank 30 = .ok (.aload_n 0, 1) := by decide +kernel
theorem dX1_houseOfRank_31 : decode cX1_houseOfRank 31 = .ok (.getfield 64, 3) := by decide +kernel
theorem dX1_houseOfRank_34 : decode cX1_houseOfRank 34 = .ok (.if_icmp .ge 20, 3) := by decide +kernel
theorem dX1_houseOfRank_37 : decode cX1_houseOfRank 37 = .ok (.aload_n 0, 1) := by decide +kernel
theorem dX1_houseOfRank_38 : decode cX1_houseOfRank 38 = .ok (.iload_n 2, 1) := by decide +kernel
theorem dX1_houseOfRank_39 : decode cX1_houseOfRank 39 = .ok (.invokevirtual 104, 3) := by decide +kernel
theorem dX1_houseOfRank_42 : decode cX1_houseOfRank 42 = .ok (.iload_n 1, 1) := by decide +kernel
theorem dX1_houseOfRank_43 : decode cX1_houseOfRank 43 = .ok (.if_icmp .ne 5, 3) := by decide +kernel
theorem dX1_houseOfRank_46 : decode cX1_houseOfRank 46 = .ok (.iload_n 2, 1) := by decide +kernel
theorem dX1_houseOfRank_47 : decode cX1_houseOfRank 47 = .ok (.ireturn, 1) := by decide +kernel
theorem dX1_houseOfRank_48 : decode cX1_houseOfRank 48 = .ok (.iinc 2 1, 3) := by decide +kernel
theorem dX1_houseOfRank_51 : decode cX1_houseOfRank 51 = .ok (.goto (-22), 3) := by decide +kernel
theorem dX1_houseOfRank_54 : decode cX1_houseOfRank 54 = .ok (.iconst (-1), 1) := by decide +kernel
theorem dX1_houseOfRank_55 : decode cX1_houseOfRank 55 = .ok (.ireturn, 1) := by decide +kernel
set_option maxRecDepth 20000 in
theorem ggX1_leastCut_X1_noneAbove : GoodIn wsX1_leastCut wsX1_noneAbove := goodIn_r _ [6, 7, 8, 9, 10, 5, 11, 12, 13, 14, 15, 16, 17, 18, 19, 20, 21, 22, 23, 24, 25, 26, 27, 28, 29, 30, 31, 32, 33, 34, 35, 36, 37, 1, 38, 39, 40, 41, 42, 43, 44, 45, 46, 47, 48, 49, 50, 51, 52, 53, 54, 55, 56, 57, 58, 59, 60, 61, 62, 63, 64, 65] (by decide +kernel) (by decide +kernel)
set_option maxRecDepth 20000 in
theorem gX1_leastCut_X1_noneAbove : GoodIn wsX1_leastCut (wsV RX1 107 RX1 yX1_noneAbove wsX1_noneAbove) := goodIn_app (goodIn_of _ (by decide +kernel)) ggX1_leastCut_X1_noneAbove
theorem dX1_leastCut_0 : decode cX1_leastCut 0 = .ok (.aload_n 0, 1) := by decide +kernel
theorem dX1_leastCut_1 : decode cX1_leastCut 1 = .ok (.getfield 42, 3) := by decide +kernel
theorem dX1_leastCut_4 : decode cX1_leastCut 4 = .ok (.iload_n 1, 1) := by decide +kernel
theorem dX1_leastCut_5 : decode cX1_leastCut 5 = .ok (.iaload, 1) := by decide +kernel
theorem dX1_leastCut_6 : decode cX1_leastCut 6 = .ok (.istore_n 3, 1) := by decide +kernel
theorem dX1_leastCut_7 : decode cX1_leastCut 7 = .ok (.iconst (-1), 1) := by decide +kernel
theorem dX1_leastCut_8 : decode cX1_leastCut 8 = .ok (.istore 4, 2) := by decide +kernel
theorem dX1_leastCut_10 : decode cX1_leastCut 10 = .ok (.iconst 0, 1) := by decide +kernel
theorem dX1_leastCut_11 : decode cX1_leastCut 11 = .ok (.istore 5, 2) := by decide +kernel
theorem dX1_leastCut_13 : decode cX1_leastCut 13 = .ok (.iload 5, 2) := by decide +kernel
theorem dX1_leastCut_15 : decode cX1_leastCut 15 = .ok (.sipush 300, 3) := by decide +kernel
theorem dX1_leastCut_18 : decode cX1_leastCut 18 = .ok (.if_icmp .gt 35, 3) := by decide +kernel
theorem dX1_leastCut_21 : decode cX1_leastCut 21 = .ok (.iload 4, 2) := by decide +kernel
theorem dX1_leastCut_23 : decode cX1_leastCut 23 = .ok (.iconst (-1), 1) := by decide +kernel
theorem dX1_leastCut_24 : decode cX1_leastCut 24 = .ok (.if_icmp .ne 29, 3) := by decide +kernel
theorem dX1_leastCut_27 : decode cX1_leastCut 27 = .ok (.aload_n 0, 1) := by decide +kernel
theorem dX1_leastCut_28 : decode cX1_leastCut 28 = .ok (.getfield 42, 3) := by decide +kernel
theorem dX1_leastCut_31 : decode cX1_leastCut 31 = .ok (.iload_n 1, 1) := by decide +kernel
theorem dX1_leastCut_32 : decode cX1_leastCut 32 = .ok (.iload 5, 2) := by decide +kernel
theorem dX1_leastCut_34 : decode cX1_leastCut 34 = .ok (.iastore, 1) := by decide +kernel
theorem dX1_leastCut_35 : decode cX1_leastCut 35 = .ok (.aload_n 0, 1) := by decide +kernel
theorem dX1_leastCut_36 : decode cX1_leastCut 36 = .ok (.iload_n 2, 1) := by decide +kernel
theorem dX1_leastCut_37 : decode cX1_leastCut 37 = .ok (.invokevirtual 107, 3) := by decide +kernel
theorem dX1_leastCut_40 : decode cX1_leastCut 40 = .ok (.ifCond .eq 7, 3) := by decide +kernel
theorem dX1_leastCut_43 : decode cX1_leastCut 43 = .ok (.iload 5, 2) := by decide +kernel
theorem dX1_leastCut_45 : decode cX1_leastCut 45 = .ok (.istore 4, 2) := by decide +kernel
theorem dX1_leastCut_47 : decode cX1_leastCut 47 = .ok (.iinc 5 5, 3) := by decide +kernel
theorem dX1_leastCut_50 : decode cX1_leastCut 50 = .ok (.goto (-37), 3) := by decide +kernel
theorem dX1_leastCut_53 : decode cX1_leastCut 53 = .ok (.aload_n 0, 1) := by decide +kernel
theorem dX1_leastCut_54 : decode cX1_leastCut 54 = .ok (.getfield 42, 3) := by decide +kernel
theorem dX1_leastCut_57 : decode cX1_leastCut 57 = .ok (.iload_n 1, 1) := by decide +kernel
theorem dX1_leastCut_58 : decode cX1_leastCut 58 = .ok (.iload_n 3, 1) := by decide +kernel
theorem dX1_leastCut_59 : decode cX1_leastCut 59 = .ok (.iastore, 1) := by decide +kernel
theorem dX1_leastCut_60 : decode cX1_leastCut 60 = .ok (.iload 4, 2) := by decide +kernel
theorem dX1_leastCut_62 : decode cX1_leastCut 62 = .ok (.ireturn, 1) := by decide +kernel
set_option maxRecDepth 20000 in
theorem ggX1_noneAbove_X1_allDayLevel : GoodIn wsX1_noneAbove wsX1_allDayLevel := goodIn_r _ [6, 7, 8, 9, 10, 11, 12, 13, 14, 5, 15, 16, 17, 18, 19, 20, 21, 22, 23, 24, 25, 26, 27, 28, 29, 30, 31, 32, 33, 34, 35, 36, 37, 38, 39, 40, 41, 42, 43, 44, 45, 46, 47, 48, 49, 50, 51, 52, 53, 54, 55, 56, 57, 58, 59, 60, 61] (by decide +kernel) (by decide +kernel)
set_option maxRecDepth 20000 in
theorem gX1_noneAbove_X1_allDayLevel : GoodIn wsX1_noneAbove (wsV RX1 78 RX1 yX1_allDayLevel wsX1_allDayLevel) := goodIn_app (goodIn_of _ (by decide +kernel)) ggX1_noneAbove_X1_allDayLevel
theorem dX1_noneAbove_0 : decode cX1_noneAbove 0 = .ok (.iconst 0, 1) := by decide +kernel
theorem dX1_noneAbove_1 : decode cX1_noneAbove 1 = .ok (.istore_n 2, 1) := by decide +kernel
theorem dX1_noneAbove_2 : decode cX1_noneAbove 2 = .ok (.iload_n 2, 1) := by decide +kernel
theorem dX1_noneAbove_3 : decode cX1_noneAbove 3 = .ok (.aload_n 0, 1) := by decide +kernel
theorem dX1_noneAbove_4 : decode cX1_noneAbove 4 = .ok (.getfield 64, 3) := by decide +kernel
theorem dX1_noneAbove_7 : decode cX1_noneAbove 7 = .ok (.if_icmp .ge 20, 3) := by decide +kernel
theorem dX1_noneAbove_10 : decode cX1_noneAbove 10 = .ok (.aload_n 0, 1) := by decide +kernel
theorem dX1_noneAbove_11 : decode cX1_noneAbove 11 = .ok (.iload_n 2, 1) := by decide +kernel
theorem dX1_noneAbove_12 : decode cX1_noneAbove 12 = .ok (.invokevirtual 78, 3) := by decide +kernel
theorem dX1_noneAbove_15 : decode cX1_noneAbove 15 = .ok (.iload_n 1, 1) := by decide +kernel
theorem dX1_noneAbove_16 : decode cX1_noneAbove 16 = .ok (.if_icmp .le 5, 3) := by decide +kernel
theorem dX1_noneAbove_19 : decode cX1_noneAbove 19 = .ok (.iconst 0, 1) := by decide +kernel
theorem dX1_noneAbove_20 : decode cX1_noneAbove 20 = .ok (.ireturn, 1) := by decide +kernel
theorem dX1_noneAbove_21 : decode cX1_noneAbove 21 = .ok (.iinc 2 1, 3) := by decide +kernel
theorem dX1_noneAbove_24 : decode cX1_noneAbove 24 = .ok (.goto (-22), 3) := by decide +kernel
theorem dX1_noneAbove_27 : decode cX1_noneAbove 27 = .ok (.iconst 1, 1) := by decide +kernel
theorem dX1_noneAbove_28 : decode cX1_noneAbove 28 = .ok (.ireturn, 1) := by decide +kernel
theorem dX1_housesAhead_0 : decode cX1_housesAhead 0 = .ok (.iconst 0, 1) := by decide +kernel
theorem dX1_housesAhead_1 : decode cX1_housesAhead 1 = .ok (.istore_n 2, 1) := by decide +kernel
theorem dX1_housesAhead_2 : decode cX1_housesAhead 2 = .ok (.iconst 0, 1) := by decide +kernel
theorem dX1_housesAhead_3 : decode cX1_housesAhead 3 = .ok (.istore_n 3, 1) := by decide +kernel
theorem dX1_housesAhead_4 : decode cX1_housesAhead 4 = .ok (.iload_n 3, 1) := by decide +kernel
theorem dX1_housesAhead_5 : decode cX1_housesAhead 5 = .ok (.aload_n 0, 1) := by decide +kernel
theorem dX1_housesAhead_6 : decode cX1_housesAhead 6 = .ok (.getfield 64, 3) := by decide +kernel
theorem dX1_housesAhead_9 : decode cX1_housesAhead 9 = .ok (.if_icmp .ge 59, 3) := by decide +kernel
theorem dX1_housesAhead_12 : decode cX1_housesAhead 12 = .ok (.aload_n 0, 1) := by decide +kernel
theorem dX1_housesAhead_13 : decode cX1_housesAhead 13 = .ok (.getfield 54, 3) := by decide +kernel
theorem dX1_housesAhead_16 : decode cX1_housesAhead 16 = .ok (.iload_n 3, 1) := by decide +kernel
theorem dX1_housesAhead_17 : decode cX1_housesAhead 17 = .ok (.iaload, 1) := by decide +kernel
theorem dX1_housesAhead_18 : decode cX1_housesAhead 18 = .ok (.aload_n 0, 1) := by decide +kernel
theorem dX1_housesAhead_19 : decode cX1_housesAhead 19 = .ok (.getfield 54, 3) := by decide +kernel
theorem dX1_housesAhead_22 : decode cX1_housesAhead 22 = .ok (.iload_n 1, 1) := by decide +kernel
theorem dX1_housesAhead_23 : decode cX1_housesAhead 23 = .ok (.iaload, 1) := by decide +kernel
theorem dX1_housesAhead_24 : decode cX1_housesAhead 24 = .ok (.if_icmp .ne 12, 3) := by decide +kernel
theorem dX1_housesAhead_27 : decode cX1_housesAhead 27 = .ok (.iload_n 3, 1) := by decide +kernel
theorem dX1_housesAhead_28 : decode cX1_housesAhead 28 = .ok (.iload_n 1, 1) := by decide +kernel
theorem dX1_housesAhead_29 : decode cX1_housesAhead 29 = .ok (.if_icmp .ge 7, 3) := by decide +kernel
theorem dX1_housesAhead_32 : decode cX1_housesAhead 32 = .ok (.iconst 1, 1) := by decide +kernel
theorem dX1_housesAhead_33 : decode cX1_housesAhead 33 = .ok (.goto 4, 3) := by decide +kernel
theorem dX1_housesAhead_36 : decode cX1_housesAhead 36 = .ok (.iconst 0, 1) := by decide +kernel
theorem dX1_housesAhead_37 : decode cX1_housesAhead 37 = .ok (.istore 4, 2) := by decide +kernel
theorem dX1_housesAhead_39 : decode cX1_housesAhead 39 = .ok (.aload_n 0, 1) := by decide +kernel
theorem dX1_housesAhead_40 : decode cX1_housesAhead 40 = .ok (.getfield 54, 3) := by decide +kernel
theorem dX1_housesAhead_43 : decode cX1_housesAhead 43 = .ok (.iload_n 3, 1) := by decide +kernel
theorem dX1_housesAhead_44 : decode cX1_housesAhead 44 = .ok (.iaload, 1) := by decide +kernel
theorem dX1_housesAhead_45 : decode cX1_housesAhead 45 = .ok (.aload_n 0, 1) := by decide +kernel
theorem dX1_housesAhead_46 : decode cX1_housesAhead 46 = .ok (.getfield 54, 3) := by decide +kernel
theorem dX1_housesAhead_49 : decode cX1_housesAhead 49 = .ok (.iload_n 1, 1) := by decide +kernel
theorem dX1_housesAhead_50 : decode cX1_housesAhead 50 = .ok (.iaload, 1) := by decide +kernel
theorem dX1_housesAhead_51 : decode cX1_housesAhead 51 = .ok (.if_icmp .gt 8, 3) := by decide +kernel
theorem dX1_housesAhead_54 : decode cX1_housesAhead 54 = .ok (.iload 4, 2) := by decide +kernel
theorem dX1_housesAhead_56 : decode cX1_housesAhead 56 = .ok (.ifCond .eq 6, 3) := by decide +kernel
theorem dX1_housesAhead_59 : decode cX1_housesAhead 59 = .ok (.iinc 2 1, 3) := by decide +kernel
theorem dX1_housesAhead_62 : decode cX1_housesAhead 62 = .ok (.iinc 3 1, 3) := by decide +kernel
theorem dX1_housesAhead_65 : decode cX1_housesAhead 65 = .ok (.goto (-61), 3) := by decide +kernel
theorem dX1_housesAhead_68 : decode cX1_housesAhead 68 = .ok (.iload_n 2, 1) := by decide +kernel
theorem dX1_housesAhead_69 : decode cX1_housesAhead 69 = .ok (.ireturn, 1) := by decide +kernel
theorem dX1_greatestCut_0 : decode cX1_greatestCut 0 = .ok (.iconst 0, 1) := by decide +kernel
theorem dX1_greatestCut_1 : decode cX1_greatestCut 1 = .ok (.istore_n 2, 1) := by decide +kernel
theorem dX1_greatestCut_2 : decode cX1_greatestCut 2 = .ok (.iconst 0, 1) := by decide +kernel
theorem dX1_greatestCut_3 : decode cX1_greatestCut 3 = .ok (.istore_n 3, 1) := by decide +kernel
theorem dX1_greatestCut_4 : decode cX1_greatestCut 4 = .ok (.iload_n 3, 1) := by decide +kernel
theorem dX1_greatestCut_5 : decode cX1_greatestCut 5 = .ok (.aload_n 0, 1) := by decide +kernel
theorem dX1_greatestCut_6 : decode cX1_greatestCut 6 = .ok (.getfield 67, 3) := by decide +kernel
theorem dX1_greatestCut_9 : decode cX1_greatestCut 9 = .ok (.if_icmp .ge 51, 3) := by decide +kernel
theorem dX1_greatestCut_12 : decode cX1_greatestCut 12 = .ok (.aload_n 0, 1) := by decide +kernel
theorem dX1_greatestCut_13 : decode cX1_greatestCut 13 = .ok (.getfield 51, 3) := by decide +kernel
theorem dX1_greatestCut_16 : decode cX1_greatestCut 16 = .ok (.iload_n 1, 1) := by decide +kernel
theorem dX1_greatestCut_17 : decode cX1_greatestCut 17 = .ok (.iaload, 1) := by decide +kernel
theorem dX1_greatestCut_18 : decode cX1_greatestCut 18 = .ok (.iconst 1, 1) := by decide +kernel
theorem dX1_greatestCut_19 : decode cX1_greatestCut 19 = .ok (.iload_n 3, 1) := by decide +kernel
theorem dX1_greatestCut_20 : decode cX1_greatestCut 20 = .ok (.ishl, 1) := by decide +kernel
theorem dX1_greatestCut_21 : decode cX1_greatestCut 21 = .ok (.iand, 1) := by decide +kernel
theorem dX1_greatestCut_22 : decode cX1_greatestCut 22 = .ok (.ifCond .eq 7, 3) := by decide +kernel
theorem dX1_greatestCut_25 : decode cX1_greatestCut 25 = .ok (.iconst 1, 1) := by decide +kernel
theorem dX1_greatestCut_26 : decode cX1_greatestCut 26 = .ok (.goto 4, 3) := by decide +kernel
theorem dX1_greatestCut_29 : decode cX1_greatestCut 29 = .ok (.iconst 0, 1) := by decide +kernel
theorem dX1_greatestCut_30 : decode cX1_greatestCut 30 = .ok (.istore 4, 2) := by decide +kernel
theorem dX1_greatestCut_32 : decode cX1_greatestCut 32 = .ok (.iload 4, 2) := by decide +kernel
theorem dX1_greatestCut_34 : decode cX1_greatestCut 34 = .ok (.ifCond .eq 20, 3) := by decide +kernel
theorem dX1_greatestCut_37 : decode cX1_greatestCut 37 = .ok (.aload_n 0, 1) := by decide +kernel
theorem dX1_greatestCut_38 : decode cX1_greatestCut 38 = .ok (.getfield 42, 3) := by decide +kernel
theorem dX1_greatestCut_41 : decode cX1_greatestCut 41 = .ok (.iload_n 3, 1) := by decide +kernel
theorem dX1_greatestCut_42 : decode cX1_greatestCut 42 = .ok (.iaload, 1) := by decide +kernel
theorem dX1_greatestCut_43 : decode cX1_greatestCut 43 = .ok (.iload_n 2, 1) := by decide +kernel
theorem dX1_greatestCut_44 : decode cX1_greatestCut 44 = .ok (.if_icmp .le 10, 3) := by decide +kernel
theorem dX1_greatestCut_47 : decode cX1_greatestCut 47 = .ok (.aload_n 0, 1) := by decide +kernel
theorem dX1_greatestCut_48 : decode cX1_greatestCut 48 = .ok (.getfield 42, 3) := by decide +kernel
theorem dX1_greatestCut_51 : decode cX1_greatestCut 51 = .ok (.iload_n 3, 1) := by decide +kernel
theorem dX1_greatestCut_52 : decode cX1_greatestCut 52 = .ok (.iaload, 1) := by decide +kernel
theorem dX1_greatestCut_53 : decode cX1_greatestCut 53 = .ok (.istore_n 2, 1) := by decide +kernel
theorem dX1_greatestCut_54 : decode cX1_greatestCut 54 = .ok (.iinc 3 1, 3) := by decide +kernel
theorem dX1_greatestCut_57 : decode cX1_greatestCut 57 = .ok (.goto (-53), 3) := by decide +kernel
theorem dX1_greatestCut_60 : decode cX1_greatestCut 60 = .ok (.iload_n 2, 1) := by decide +kernel
theorem dX1_greatestCut_61 : decode cX1_greatestCut 61 = .ok (.ireturn, 1) := by decide +kernel
set_option maxRecDepth 20000 in
theorem ggX1_measurePair_X1_pairOf : GoodIn wsX1_measurePair wsX1_pairOf := goodIn_r _ [10] (by decide +kernel) (by decide +kernel)
set_option maxRecDepth 20000 in
theorem gX1_measurePair_X1_pairOf : GoodIn wsX1_measurePair (va_wsS RX1 82 yX1_pairOf wsX1_pairOf) := goodIn_app (goodIn_of _ (by decide +kernel)) ggX1_measurePair_X1_pairOf
set_option maxRecDepth 20000 in
theorem ggX1_measurePair_X1_doublingsOf : GoodIn wsX1_measurePair wsX1_doublingsOf := goodIn_r _ [13] (by decide +kernel) (by decide +kernel)
set_option maxRecDepth 20000 in
theorem gX1_measurePair_X1_doublingsOf : GoodIn wsX1_measurePair (va_wsS RX1 111 yX1_doublingsOf wsX1_doublingsOf) := goodIn_app (goodIn_of _ (by decide +kernel)) ggX1_measurePair_X1_doublingsOf
set_option maxRecDepth 20000 in
theorem ggX1_measurePair_X1_noteIfBetween : GoodIn wsX1_measurePair wsX1_noteIfBetween := goodIn_r _ [17, 18, 19, 20, 21, 9, 22, 1, 3, 2, 4, 23, 24, 25, 26, 27, 28, 29, 30, 31, 32, 33, 34, 35, 36, 37, 38, 39, 40, 41, 42, 7, 8, 10, 43, 44, 45, 46, 47, 48, 49, 50, 51, 52, 53, 54, 55, 56, 57, 58, 59, 60, 61] (by decide +kernel) (by decide +kernel)
set_option maxRecDepth 20000 in
theorem gX1_measurePair_X1_noteIfBetween : GoodIn wsX1_measurePair (wsV RX1 74 RX1 yX1_noteIfBetween wsX1_noteIfBetween) := goodIn_app (goodIn_of _ (by decide +kernel)) ggX1_measurePair_X1_noteIfBetween
theorem dX1_measurePair_0 : decode cX1_measurePair 0 = .ok (.aload_n 0, 1) := by decide +kernel
theorem dX1_measurePair_1 : decode cX1_measurePair 1 = .ok (.getfield 11, 3) := by decide +kernel
theorem dX1_measurePair_4 : decode cX1_measurePair 4 = .ok (.iload_n 1, 1) := by decide +kernel
theorem dX1_measurePair_5 : decode cX1_measurePair 5 = .ok (.iaload, 1) := by decide +kernel
theorem dX1_measurePair_6 : decode cX1_measurePair 6 = .ok (.aload_n 0, 1) := by decide +kernel
theorem dX1_measurePair_7 : decode cX1_measurePair 7 = .ok (.getfield 21, 3) := by decide +kernel
theorem dX1_measurePair_10 : decode cX1_measurePair 10 = .ok (.iload_n 2, 1) := by decide +kernel
theorem dX1_measurePair_11 : decode cX1_measurePair 11 = .ok (.iaload, 1) := by decide +kernel
theorem dX1_measurePair_12 : decode cX1_measurePair 12 = .ok (.isub, 1) := by decide +kernel
theorem dX1_measurePair_13 : decode cX1_measurePair 13 = .ok (.istore_n 3, 1) := by decide +kernel
theorem dX1_measurePair_14 : decode cX1_measurePair 14 = .ok (.aload_n 0, 1) := by decide +kernel
theorem dX1_measurePair_15 : decode cX1_measurePair 15 = .ok (.getfield 15, 3) := by decide +kernel
theorem dX1_measurePair_18 : decode cX1_measurePair 18 = .ok (.iload_n 1, 1) := by decide +kernel
theorem dX1_measurePair_19 : decode cX1_measurePair 19 = .ok (.iaload, 1) := by decide +kernel
theorem dX1_measurePair_20 : decode cX1_measurePair 20 = .ok (.aload_n 0, 1) := by decide +kernel
theorem dX1_measurePair_21 : decode cX1_measurePair 21 = .ok (.getfield 24, 3) := by decide +kernel
theorem dX1_measurePair_24 : decode cX1_measurePair 24 = .ok (.iload_n 2, 1) := by decide +kernel
theorem dX1_measurePair_25 : decode cX1_measurePair 25 = .ok (.iaload, 1) := by decide +kernel
theorem dX1_measurePair_26 : decode cX1_measurePair 26 = .ok (.isub, 1) := by decide +kernel
theorem dX1_measurePair_27 : decode cX1_measurePair 27 = .ok (.istore 4, 2) := by decide +kernel
theorem dX1_measurePair_29 : decode cX1_measurePair 29 = .ok (.aload_n 0, 1) := by decide +kernel
theorem dX1_measurePair_30 : decode cX1_measurePair 30 = .ok (.getfield 48, 3) := by decide +kernel
theorem dX1_measurePair_33 : decode cX1_measurePair 33 = .ok (.iload_n 1, 1) := by decide +kernel
theorem dX1_measurePair_34 : decode cX1_measurePair 34 = .ok (.iload_n 2, 1) := by decide +kernel
theorem dX1_measurePair_35 : decode cX1_measurePair 35 = .ok (.invokestatic 82, 3) := by decide +kernel
theorem dX1_measurePair_38 : decode cX1_measurePair 38 = .ok (.iload_n 3, 1) := by decide +kernel
theorem dX1_measurePair_39 : decode cX1_measurePair 39 = .ok (.iload_n 3, 1) := by decide +kernel
theorem dX1_measurePair_40 : decode cX1_measurePair 40 = .ok (.imul, 1) := by decide +kernel
theorem dX1_measurePair_41 : decode cX1_measurePair 41 = .ok (.iload 4, 2) := by decide +kernel
theorem dX1_measurePair_43 : decode cX1_measurePair 43 = .ok (.iload 4, 2) := by decide +kernel
theorem dX1_measurePair_45 : decode cX1_measurePair 45 = .ok (.imul, 1) := by decide +kernel
theorem dX1_measurePair_46 : decode cX1_measurePair 46 = .ok (.iadd, 1) := by decide +kernel
theorem dX1_measurePair_47 : decode cX1_measurePair 47 = .ok (.invokestatic 111, 3) := by decide +kernel
theorem dX1_measurePair_50 : decode cX1_measurePair 50 = .ok (.iastore, 1) := by decide +kernel
theorem dX1_measurePair_51 : decode cX1_measurePair 51 = .ok (.iconst 0, 1) := by decide +kernel
theorem dX1_measurePair_52 : decode cX1_measurePair 52 = .ok (.istore 5, 2) := by decide +kernel
theorem dX1_measurePair_54 : decode cX1_measurePair 54 = .ok (.iload 5, 2) := by decide +kernel
theorem dX1_measurePair_56 : decode cX1_measurePair 56 = .ok (.aload_n 0, 1) := by decide +kernel
theorem dX1_measurePair_57 : decode cX1_measurePair 57 = .ok (.getfield 67, 3) := by decide +kernel
theorem dX1_measurePair_60 : decode cX1_measurePair 60 = .ok (.if_icmp .ge 17, 3) := by decide +kernel
theorem dX1_measurePair_63 : decode cX1_measurePair 63 = .ok (.aload_n 0, 1) := by decide +kernel
theorem dX1_measurePair_64 : decode cX1_measurePair 64 = .ok (.iload 5, 2) := by decide +kernel
theorem dX1_measurePair_66 : decode cX1_measurePair 66 = .ok (.iload_n 1, 1) := by decide +kernel
theorem dX1_measurePair_67 : decode cX1_measurePair 67 = .ok (.iload_n 2, 1) := by decide +kernel
theorem dX1_measurePair_68 : decode cX1_measurePair 68 = .ok (.invokevirtual 74, 3) := by decide +kernel
theorem dX1_measurePair_71 : decode cX1_measurePair 71 = .ok (.iinc 5 1, 3) := by decide +kernel
theorem dX1_measurePair_74 : decode cX1_measurePair 74 = .ok (.goto (-20), 3) := by decide +kernel
theorem dX1_measurePair_77 : decode cX1_measurePair 77 = .ok (.return_, 1) := by decide +kernel
set_option maxRecDepth 20000 in
theorem ggX1_noteIfBetween_X1_isBetween : GoodIn wsX1_noteIfBetween wsX1_isBetween := goodIn_r _ [6, 7, 8, 9, 10, 11, 12, 13, 14, 15, 16, 5, 17, 18, 19, 20, 21, 22, 23, 24, 25, 26, 27, 28, 29, 30, 34, 35, 36, 37, 38, 39, 40, 41, 42, 43, 44, 45, 46, 47, 48, 49, 50, 51, 52] (by decide +kernel) (by decide +kernel)
set_option maxRecDepth 20000 in
theorem gX1_noteIfBetween_X1_isBetween : GoodIn wsX1_noteIfBetween (wsV RX1 114 RX1 yX1_isBetween wsX1_isBetween) := goodIn_app (goodIn_of _ (by decide +kernel)) ggX1_noteIfBetween_X1_isBetween
set_option maxRecDepth 20000 in
theorem ggX1_noteIfBetween_X1_pairOf : GoodIn wsX1_noteIfBetween wsX1_pairOf := goodIn_r _ [33] (by decide +kernel) (by decide +kernel)
set_option maxRecDepth 20000 in
theorem gX1_noteIfBetween_X1_pairOf : GoodIn wsX1_noteIfBetween (va_wsS RX1 82 yX1_pairOf wsX1_pairOf) := goodIn_app (goodIn_of _ (by decide +kernel)) ggX1_noteIfBetween_X1_pairOf
theorem dX1_noteIfBetween_0 : decode cX1_noteIfBetween 0 = .ok (.aload_n 0, 1) := by decide +kernel
theorem dX1_noteIfBetween_1 : decode cX1_noteIfBetween 1 = .ok (.iload_n 1, 1) := by decide +kernel
theorem dX1_noteIfBetween_2 : decode cX1_noteIfBetween 2 = .ok (.iload_n 2, 1) := by decide +kernel
theorem dX1_noteIfBetween_3 : decode cX1_noteIfBetween 3 = .ok (.iload_n 3, 1) := by decide +kernel
theorem dX1_noteIfBetween_4 : decode cX1_noteIfBetween 4 = .ok (.invokevirtual 114, 3) := by decide +kernel
theorem dX1_noteIfBetween_7 : decode cX1_noteIfBetween 7 = .ok (.ifCond .eq 19, 3) := by decide +kernel
theorem dX1_noteIfBetween_10 : decode cX1_noteIfBetween 10 = .ok (.aload_n 0, 1) := by decide +kernel
theorem dX1_noteIfBetween_11 : decode cX1_noteIfBetween 11 = .ok (.getfield 51, 3) := by decide +kernel
theorem dX1_noteIfBetween_14 : decode cX1_noteIfBetween 14 = .ok (.iload_n 2, 1) := by decide +kernel
theorem dX1_noteIfBetween_15 : decode cX1_noteIfBetween 15 = .ok (.iload_n 3, 1) := by decide +kernel
theorem dX1_noteIfBetween_16 : decode cX1_noteIfBetween 16 = .ok (.invokestatic 82, 3) := by decide +kernel
theorem dX1_noteIfBetween_19 : decode cX1_noteIfBetween 19 = .ok (.dup2, 1) := by decide +kernel
theorem dX1_noteIfBetween_20 : decode cX1_noteIfBetween 20 = .ok (.iaload, 1) := by decide +kernel
theorem dX1_noteIfBetween_21 : decode cX1_noteIfBetween 21 = .ok (.iconst 1, 1) := by decide +kernel
theorem dX1_noteIfBetween_22 : decode cX1_noteIfBetween 22 = .ok (.iload_n 1, 1) := by decide +kernel
theorem dX1_noteIfBetween_23 : decode cX1_noteIfBetween 23 = .ok (.ishl, 1) := by decide +kernel
theorem dX1_noteIfBetween_24 : decode cX1_noteIfBetween 24 = .ok (.ior, 1) := by decide +kernel
theorem dX1_noteIfBetween_25 : decode cX1_noteIfBetween 25 = .ok (.iastore, 1) := by decide +kernel
theorem dX1_noteIfBetween_26 : decode cX1_noteIfBetween 26 = .ok (.return_, 1) := by decide +kernel
set_option maxRecDepth 20000 in
theorem ggX1_isBetween_X1_spansMeet : GoodIn wsX1_isBetween wsX1_spansMeet := goodIn_r _ [12, 13, 14, 15, 16, 17, 18, 19] (by decide +kernel) (by decide +kernel)
set_option maxRecDepth 20000 in
theorem gX1_isBetween_X1_spansMeet : GoodIn wsX1_isBetween (va_wsS RX1 118 yX1_spansMeet wsX1_spansMeet) := goodIn_app (goodIn_of _ (by decide +kernel)) ggX1_isBetween_X1_spansMeet
set_option maxRecDepth 20000 in
theorem ggX1_isBetween_X1_turn : GoodIn wsX1_isBetween wsX1_turn := goodIn_r _ [22] (by decide +kernel) (by decide +kernel)
set_option maxRecDepth 20000 in
theorem gX1_isBetween_X1_turn : GoodIn wsX1_isBetween (va_wsS RX1 122 yX1_turn wsX1_turn) := goodIn_app (goodIn_of _ (by decide +kernel)) ggX1_isBetween_X1_turn
set_option maxRecDepth 20000 in
theorem ggX1_isBetween_X1_onOneSide : GoodIn wsX1_isBetween wsX1_onOneSide := goodIn_r _ [25] (by decide +kernel) (by decide +kernel)
set_option maxRecDepth 20000 in
theorem gX1_isBetween_X1_onOneSide : GoodIn wsX1_isBetween (va_wsS RX1 126 yX1_onOneSide wsX1_onOneSide) := goodIn_app (goodIn_of _ (by decide +kernel)) ggX1_isBetween_X1_onOneSide
theorem dX1_isBetween_0 : decode cX1_isBetween 0 = .ok (.aload_n 0, 1) := by decide +kernel
theorem dX1_isBetween_1 : decode cX1_isBetween 1 = .ok (.getfield 11, 3) := by decide +kernel
theorem dX1_isBetween_4 : decode cX1_isBetween 4 = .ok (.iload_n 2, 1) := by decide +kernel
theorem dX1_isBetween_5 : decode cX1_isBetween 5 = .ok (.iaload, 1) := by decide +kernel
theorem dX1_isBetween_6 : decode cX1_isBetween 6 = .ok (.istore 4, 2) := by decide +kernel
theorem dX1_isBetween_8 : decode cX1_isBetween 8 = .ok (.aload_n 0, 1) := by decide +kernel
theorem dX1_isBetween_9 : decode cX1_isBetween 9 = .ok (.getfield 15, 3) := by decide +kernel
theorem dX1_isBetween_12 : decode cX1_isBetween 12 = .ok (.iload_n 2, 1) := by decide +kernel
theorem dX1_isBetween_13 : decode cX1_isBetween 13 = .ok (.iaload, 1) := by decide +kernel
theorem dX1_isBetween_14 : decode cX1_isBetween 14 = .ok (.istore 5, 2) := by decide +kernel
theorem dX1_isBetween_16 : decode cX1_isBetween 16 = .ok (.aload_n 0, 1) := by decide +kernel
theorem dX1_isBetween_17 : decode cX1_isBetween 17 = .ok (.getfield 21, 3) := by decide +kernel
theorem dX1_isBetween_20 : decode cX1_isBetween 20 = .ok (.iload_n 3, 1) := by decide +kernel
theorem dX1_isBetween_21 : decode cX1_isBetween 21 = .ok (.iaload, 1) := by decide +kernel
theorem dX1_isBetween_22 : decode cX1_isBetween 22 = .ok (.istore 6, 2) := by decide +kernel
theorem dX1_isBetween_24 : decode cX1_isBetween 24 = .ok (.aload_n 0, 1) := by decide +kernel
theorem dX1_isBetween_25 : decode cX1_isBetween 25 = .ok (.getfield 24, 3) := by decide +kernel
theorem dX1_isBetween_28 : decode cX1_isBetween 28 = .ok (.iload_n 3, 1) := by decide +kernel
theorem dX1_isBetween_29 : decode cX1_isBetween 29 = .ok (.iaload, 1) := by decide +kernel
theorem dX1_isBetween_30 : decode cX1_isBetween 30 = .ok (.istore 7, 2) := by decide +kernel
theorem dX1_isBetween_32 : decode cX1_isBetween 32 = .ok (.aload_n 0, 1) := by decide +kernel
theorem dX1_isBetween_33 : decode cX1_isBetween 33 = .ok (.getfield 30, 3) := by decide +kernel
theorem dX1_isBetween_36 : decode cX1_isBetween 36 = .ok (.iload_n 1, 1) := by decide +kernel
theorem dX1_isBetween_37 : decode cX1_isBetween 37 = .ok (.iaload, 1) := by decide +kernel
theorem dX1_isBetween_38 : decode cX1_isBetween 38 = .ok (.istore 8, 2) := by decide +kernel
theorem dX1_isBetween_40 : decode cX1_isBetween 40 = .ok (.aload_n 0, 1) := by decide +kernel
theorem dX1_isBetween_41 : decode cX1_isBetween 41 = .ok (.getfield 33, 3) := by decide +kernel
theorem dX1_isBetween_44 : decode cX1_isBetween 44 = .ok (.iload_n 1, 1) := by decide +kernel
theorem dX1_isBetween_45 : decode cX1_isBetween 45 = .ok (.iaload, 1) := by decide +kernel
theorem dX1_isBetween_46 : decode cX1_isBetween 46 = .ok (.istore 9, 2) := by decide +kernel
theorem dX1_isBetween_48 : decode cX1_isBetween 48 = .ok (.aload_n 0, 1) := by decide +kernel
theorem dX1_isBetween_49 : decode cX1_isBetween 49 = .ok (.getfield 36, 3) := by decide +kernel
theorem dX1_isBetween_52 : decode cX1_isBetween 52 = .ok (.iload_n 1, 1) := by decide +kernel
theorem dX1_isBetween_53 : decode cX1_isBetween 53 = .ok (.iaload, 1) := by decide +kernel
theorem dX1_isBetween_54 : decode cX1_isBetween 54 = .ok (.istore 10, 2) := by decide +kernel
theorem dX1_isBetween_56 : decode cX1_isBetween 56 = .ok (.aload_n 0, 1) := by decide +kernel
theorem dX1_isBetween_57 : decode cX1_isBetween 57 = .ok (.getfield 39, 3) := by decide +kernel
theorem dX1_isBetween_60 : decode cX1_isBetween 60 = .ok (.iload_n 1, 1) := by decide +kernel
theorem dX1_isBetween_61 : decode cX1_isBetween 61 = .ok (.iaload, 1) := by decide +kernel
theorem dX1_isBetween_62 : decode cX1_isBetween 62 = .ok (.istore 11, 2) := by decide +kernel
theorem dX1_isBetween_64 : decode cX1_isBetween 64 = .ok (.iload 4, 2) := by decide +kernel
theorem dX1_isBetween_66 : decode cX1_isBetween 66 = .ok (.iload 6, 2) := by decide +kernel
theorem dX1_isBetween_68 : decode cX1_isBetween 68 = .ok (.iload 8, 2) := by decide +kernel
theorem dX1_isBetween_70 : decode cX1_isBetween 70 = .ok (.iload 10, 2) := by decide +kernel
theorem dX1_isBetween_72 : decode cX1_isBetween 72 = .ok (.invokestatic 118, 3) := by decide +kernel
theorem dX1_isBetween_75 : decode cX1_isBetween 75 = .ok (.ifCond .eq 93, 3) := by decide +kernel
theorem dX1_isBetween_78 : decode cX1_isBetween 78 = .ok (.iload 5, 2) := by decide +kernel
theorem dX1_isBetween_80 : decode cX1_isBetween 80 = .ok (.iload 7, 2) := by decide +kernel
theorem dX1_isBetween_82 : decode cX1_isBetween 82 = .ok (.iload 9, 2) := by decide +kernel
theorem dX1_isBetween_84 : decode cX1_isBetween 84 = .ok (.iload 11, 2) := by decide +kernel
theorem dX1_isBetween_86 : decode cX1_isBetween 86 = .ok (.invokestatic 118, 3) := by decide +kernel
theorem dX1_isBetween_89 : decode cX1_isBetween 89 = .ok (.ifCond .eq 79, 3) := by decide +kernel
theorem dX1_isBetween_92 : decode cX1_isBetween 92 = .ok (.iload 4, 2) := by decide +kernel
theorem dX1_isBetween_94 : decode cX1_isBetween 94 = .ok (.iload 5, 2) := by decide +kernel
theorem dX1_isBetween_96 : decode cX1_isBetween 96 = .ok (.iload 6, 2) := by decide +kernel
theorem dX1_isBetween_98 : decode cX1_isBetween 98 = .ok (.iload 7, 2) := by decide +kernel
theorem dX1_isBetween_100 : decode cX1_isBetween 100 = .ok (.iload 8, 2) := by decide +kernel
theorem dX1_isBetween_102 : decode cX1_isBetween 102 = .ok (.iload 9, 2) := by decide +kernel
theorem dX1_isBetween_104 : decode cX1_isBetween 104 = .ok (.invokestatic 122, 3) := by decide +kernel
theorem dX1_isBetween_107 : decode cX1_isBetween 107 = .ok (.iload 4, 2) := by decide +kernel
theorem dX1_isBetween_109 : decode cX1_isBetween 109 = .ok (.iload 5, 2) := by decide +kernel
theorem dX1_isBetween_111 : decode cX1_isBetween 111 = .ok (.iload 6, 2) := by decide +kernel
theorem dX1_isBetween_113 : decode cX1_isBetween 113 = .ok (.iload 7, 2) := by decide +kernel
theorem dX1_isBetween_115 : decode cX1_isBetween 115 = .ok (.iload 10, 2) := by decide +kernel
theorem dX1_isBetween_117 : decode cX1_isBetween 117 = .ok (.iload 11, 2) := by decide +kernel
theorem dX1_isBetween_119 : decode cX1_isBetween 119 = .ok (.invokestatic 122, 3) := by decide +kernel
theorem dX1_isBetween_122 : decode cX1_isBetween 122 = .ok (.invokestatic 126, 3) := by decide +kernel
theorem dX1_isBetween_125 : decode cX1_isBetween 125 = .ok (.ifCond .ne 43, 3) := by decide +kernel
theorem dX1_isBetween_128 : decode cX1_isBetween 128 = .ok (.iload 8, 2) := by decide +kernel
theorem dX1_isBetween_130 : decode cX1_isBetween 130 = .ok (.iload 9, 2) := by decide +kernel
theorem dX1_isBetween_132 : decode cX1_isBetween 132 = .ok (.iload 10, 2) := by decide +kernel
theorem dX1_isBetween_134 : decode cX1_isBetween 134 = .ok (.iload 11, 2) := by decide +kernel
theorem dX1_isBetween_136 : decode cX1_isBetween 136 = .ok (.iload 4, 2) := by decide +kernel
theorem dX1_isBetween_138 : decode cX1_isBetween 138 = .ok (.iload 5, 2) := by decide +kernel
theorem dX1_isBetween_140 : decode cX1_isBetween 140 = .ok (.invokestatic 122, 3) := by decide +kernel
theorem dX1_isBetween_143 : decode cX1_isBetween 143 = .ok (.iload 8, 2) := by decide +kernel
theorem dX1_isBetween_145 : decode cX1_isBetween 145 = .ok (.iload 9, 2) := by decide +kernel
theorem dX1_isBetween_147 : decode cX1_isBetween 147 = .ok (.iload 10, 2) := by decide +kernel
theorem dX1_isBetween_149 : decode cX1_isBetween 149 = .ok (.iload 11, 2) := by decide +kernel
theorem dX1_isBetween_151 : decode cX1_isBetween 151 = .ok (.iload 6, 2) := by decide +kernel
theorem dX1_isBetween_153 : decode cX1_isBetween 153 = .ok (.iload 7, 2) := by decide +kernel
theorem dX1_isBetween_155 : decode cX1_isBetween 155 = .ok (.invokestatic 122, 3) := by decide +kernel
theorem dX1_isBetween_158 : decode cX1_isBetween 158 = .ok (.invokestatic 126, 3) := by decide +kernel
theorem dX1_isBetween_161 : decode cX1_isBetween 161 = .ok (.ifCond .ne 7, 3) := by decide +kernel
theorem dX1_isBetween_164 : decode cX1_isBetween 164 = .ok (.iconst 1, 1) := by decide +kernel
theorem dX1_isBetween_165 : decode cX1_isBetween 165 = .ok (.goto 4, 3) := by decide +kernel
theorem dX1_isBetween_168 : decode cX1_isBetween 168 = .ok (.iconst 0, 1) := by decide +kernel
theorem dX1_isBetween_169 : decode cX1_isBetween 169 = .ok (.ireturn, 1) := by decide +kernel
theorem dX1_pairOf_0 : decode cX1_pairOf 0 = .ok (.iload_n 0, 1) := by decide +kernel
theorem dX1_pairOf_1 : decode cX1_pairOf 1 = .ok (.bipush 20, 2) := by decide +kernel
theorem dX1_pairOf_3 : decode cX1_pairOf 3 = .ok (.imul, 1) := by decide +kernel
theorem dX1_pairOf_4 : decode cX1_pairOf 4 = .ok (.iload_n 1, 1) := by decide +kernel
theorem dX1_pairOf_5 : decode cX1_pairOf 5 = .ok (.iadd, 1) := by decide +kernel
theorem dX1_pairOf_6 : decode cX1_pairOf 6 = .ok (.ireturn, 1) := by decide +kernel
set_option maxRecDepth 20000 in
theorem ggX1_join_X1_moreByJoining : GoodIn wsX1_join wsX1_moreByJoining := goodIn_r _ [11] (by decide +kernel) (by decide +kernel)
set_option maxRecDepth 20000 in
theorem gX1_join_X1_moreByJoining : GoodIn wsX1_join (va_wsS RX1 133 yX1_moreByJoining wsX1_moreByJoining) := goodIn_app (goodIn_of _ (by decide +kernel)) ggX1_join_X1_moreByJoining
theorem dX1_join_0 : decode cX1_join 0 = .ok (.iload_n 0, 1) := by decide +kernel
theorem dX1_join_1 : decode cX1_join 1 = .ok (.ifCond .eq 7, 3) := by decide +kernel
theorem dX1_join_4 : decode cX1_join 4 = .ok (.iload_n 1, 1) := by decide +kernel
theorem dX1_join_5 : decode cX1_join 5 = .ok (.ifCond .ne 7, 3) := by decide +kernel
theorem dX1_join_8 : decode cX1_join 8 = .ok (.iload_n 0, 1) := by decide +kernel
theorem dX1_join_9 : decode cX1_join 9 = .ok (.iload_n 1, 1) := by decide +kernel
theorem dX1_join_10 : decode cX1_join 10 = .ok (.iadd, 1) := by decide +kernel
theorem dX1_join_11 : decode cX1_join 11 = .ok (.ireturn, 1) := by decide +kernel
theorem dX1_join_12 : decode cX1_join 12 = .ok (.iload_n 0, 1) := by decide +kernel
theorem dX1_join_13 : decode cX1_join 13 = .ok (.iload_n 1, 1) := by decide +kernel
theorem dX1_join_14 : decode cX1_join 14 = .ok (.invokestatic 89, 3) := by decide +kernel
theorem dX1_join_17 : decode cX1_join 17 = .ok (.iload_n 0, 1) := by decide +kernel
theorem dX1_join_18 : decode cX1_join 18 = .ok (.iload_n 1, 1) := by decide +kernel
theorem dX1_join_19 : decode cX1_join 19 = .ok (.isub, 1) := by decide +kernel
theorem dX1_join_20 : decode cX1_join 20 = .ok (.invokestatic 130, 3) := by decide +kernel
theorem dX1_join_23 : decode cX1_join 23 = .ok (.invokestatic 133, 3) := by decide +kernel
theorem dX1_join_26 : decode cX1_join 26 = .ok (.iadd, 1) := by decide +kernel
theorem dX1_join_27 : decode cX1_join 27 = .ok (.ireturn, 1) := by decide +kernel
theorem dX1_moreByJoining_0 : decode cX1_moreByJoining 0 = .ok (.iload_n 0, 1) := by decide +kernel
theorem dX1_moreByJoining_1 : decode cX1_moreByJoining 1 = .ok (.bipush 15, 2) := by decide +kernel
theorem dX1_moreByJoining_3 : decode cX1_moreByJoining 3 = .ok (.if_icmp .ge 6, 3) := by decide +kernel
theorem dX1_moreByJoining_6 : decode cX1_moreByJoining 6 = .ok (.bipush 30, 2) := by decide +kernel
theorem dX1_moreByJoining_8 : decode cX1_moreByJoining 8 = .ok (.ireturn, 1) := by decide +kernel
theorem dX1_moreByJoining_9 : decode cX1_moreByJoining 9 = .ok (.iload_n 0, 1) := by decide +kernel
theorem dX1_moreByJoining_10 : decode cX1_moreByJoining 10 = .ok (.bipush 35, 2) := by decide +kernel
theorem dX1_moreByJoining_12 : decode cX1_moreByJoining 12 = .ok (.if_icmp .ge 6, 3) := by decide +kernel
theorem dX1_moreByJoining_15 : decode cX1_moreByJoining 15 = .ok (.bipush 20, 2) := by decide +kernel
theorem dX1_moreByJoining_17 : decode cX1_moreByJoining 17 = .ok (.ireturn, 1) := by decide +kernel
theorem dX1_moreByJoining_18 : decode cX1_moreByJoining 18 = .ok (.iload_n 0, 1) := by decide +kernel
theorem dX1_moreByJoining_19 : decode cX1_moreByJoining 19 = .ok (.bipush 95, 2) := by decide +kernel
theorem dX1_moreByJoining_21 : decode cX1_moreByJoining 21 = .ok (.if_icmp .ge 8, 3) := by decide +kernel
theorem dX1_moreByJoining_24 : decode cX1_moreByJoining 24 = .ok (.bipush 10, 2) := by decide +kernel
theorem dX1_moreByJoining_26 : decode cX1_moreByJoining 26 = .ok (.goto 4, 3) := by decide +kernel
theorem dX1_moreByJoining_29 : decode cX1_moreByJoining 29 = .ok (.iconst 0, 1) := by decide +kernel
theorem dX1_moreByJoining_30 : decode cX1_moreByJoining 30 = .ok (.ireturn, 1) := by decide +kernel
theorem dX1_doublingsOf_0 : decode cX1_doublingsOf 0 = .ok (.iconst 0, 1) := by decide +kernel
theorem dX1_doublingsOf_1 : decode cX1_doublingsOf 1 = .ok (.istore_n 1, 1) := by decide +kernel
theorem dX1_doublingsOf_2 : decode cX1_doublingsOf 2 = .ok (.sipush 400, 3) := by decide +kernel
theorem dX1_doublingsOf_5 : decode cX1_doublingsOf 5 = .ok (.istore_n 2, 1) := by decide +kernel
theorem dX1_doublingsOf_6 : decode cX1_doublingsOf 6 = .ok (.iload_n 2, 1) := by decide +kernel
theorem dX1_doublingsOf_7 : decode cX1_doublingsOf 7 = .ok (.iload_n 0, 1) := by decide +kernel
theorem dX1_doublingsOf_8 : decode cX1_doublingsOf 8 = .ok (.if_icmp .gt 13, 3) := by decide +kernel
theorem dX1_doublingsOf_11 : decode cX1_doublingsOf 11 = .ok (.iinc 1 1, 3) := by decide +kernel
theorem dX1_doublingsOf_14 : decode cX1_doublingsOf 14 = .ok (.iload_n 2, 1) := by decide +kernel
theorem dX1_doublingsOf_15 : decode cX1_doublingsOf 15 = .ok (.iconst 4, 1) := by decide +kernel
theorem dX1_doublingsOf_16 : decode cX1_doublingsOf 16 = .ok (.imul, 1) := by decide +kernel
theorem dX1_doublingsOf_17 : decode cX1_doublingsOf 17 = .ok (.istore_n 2, 1) := by decide +kernel
theorem dX1_doublingsOf_18 : decode cX1_doublingsOf 18 = .ok (.goto (-12), 3) := by decide +kernel
theorem dX1_doublingsOf_21 : decode cX1_doublingsOf 21 = .ok (.iload_n 1, 1) := by decide +kernel
theorem dX1_doublingsOf_22 : decode cX1_doublingsOf 22 = .ok (.ireturn, 1) := by decide +kernel
theorem dX1_spansMeet_0 : decode cX1_spansMeet 0 = .ok (.iload_n 0, 1) := by decide +kernel
theorem dX1_spansMeet_1 : decode cX1_spansMeet 1 = .ok (.iload_n 1, 1) := by decide +kernel
theorem dX1_spansMeet_2 : decode cX1_spansMeet 2 = .ok (.invokestatic 89, 3) := by decide +kernel
theorem dX1_spansMeet_5 : decode cX1_spansMeet 5 = .ok (.iload_n 2, 1) := by decide +kernel
theorem dX1_spansMeet_6 : decode cX1_spansMeet 6 = .ok (.iload_n 3, 1) := by decide +kernel
theorem dX1_spansMeet_7 : decode cX1_spansMeet 7 = .ok (.invokestatic 136, 3) := by decide +kernel
theorem dX1_spansMeet_10 : decode cX1_spansMeet 10 = .ok (.if_icmp .lt 20, 3) := by decide +kernel
theorem dX1_spansMeet_13 : decode cX1_spansMeet 13 = .ok (.iload_n 2, 1) := by decide +kernel
theorem dX1_spansMeet_14 : decode cX1_spansMeet 14 = .ok (.iload_n 3, 1) := by decide +kernel
theorem dX1_spansMeet_15 : decode cX1_spansMeet 15 = .ok (.invokestatic 89, 3) := by decide +kernel
theorem dX1_spansMeet_18 : decode cX1_spansMeet 18 = .ok (.iload_n 0, 1) := by decide +kernel
theorem dX1_spansMeet_19 : decode cX1_spansMeet 19 = .ok (.iload_n 1, 1) := by decide +kernel
theorem dX1_spansMeet_20 : decode cX1_spansMeet 20 = .ok (.invokestatic 136, 3) := by decide +kernel
theorem dX1_spansMeet_23 : decode cX1_spansMeet 23 = .ok (.if_icmp .lt 7, 3) := by decide +kernel
theorem dX1_spansMeet_26 : decode cX1_spansMeet 26 = .ok (.iconst 1, 1) := by decide +kernel
theorem dX1_spansMeet_27 : decode cX1_spansMeet 27 = .ok (.goto 4, 3) := by decide +kernel
theorem dX1_spansMeet_30 : decode cX1_spansMeet 30 = .ok (.iconst 0, 1) := by decide +kernel
theorem dX1_spansMeet_31 : decode cX1_spansMeet 31 = .ok (.ireturn, 1) := by decide +kernel
theorem dX1_onOneSide_0 : decode cX1_onOneSide 0 = .ok (.iload_n 0, 1) := by decide +kernel
theorem dX1_onOneSide_1 : decode cX1_onOneSide 1 = .ok (.ifCond .le 7, 3) := by decide +kernel
theorem dX1_onOneSide_4 : decode cX1_onOneSide 4 = .ok (.iload_n 1, 1) := by decide +kernel
theorem dX1_onOneSide_5 : decode cX1_onOneSide 5 = .ok (.ifCond .gt 11, 3) := by decide +kernel
theorem dX1_onOneSide_8 : decode cX1_onOneSide 8 = .ok (.iload_n 0, 1) := by decide +kernel
theorem dX1_onOneSide_9 : decode cX1_onOneSide 9 = .ok (.ifCond .ge 11, 3) := by decide +kernel
theorem dX1_onOneSide_12 : decode cX1_onOneSide 12 = .ok (.iload_n 1, 1) := by decide +kernel
theorem dX1_onOneSide_13 : decode cX1_onOneSide 13 = .ok (.ifCond .ge 7, 3) := by decide +kernel
theorem dX1_onOneSide_16 : decode cX1_onOneSide 16 = .ok (.iconst 1, 1) := by decide +kernel
theorem dX1_onOneSide_17 : decode cX1_onOneSide 17 = .ok (.goto 4, 3) := by decide +kernel
theorem dX1_onOneSide_20 : decode cX1_onOneSide 20 = .ok (.iconst 0, 1) := by decide +kernel
theorem dX1_onOneSide_21 : decode cX1_onOneSide 21 = .ok (.ireturn, 1) := by decide +kernel
theorem dX1_turn_0 : decode cX1_turn 0 = .ok (.iload_n 2, 1) := by decide +kernel
theorem dX1_turn_1 : decode cX1_turn 1 = .ok (.iload_n 0, 1) := by decide +kernel
theorem dX1_turn_2 : decode cX1_turn 2 = .ok (.isub, 1) := by decide +kernel
theorem dX1_turn_3 : decode cX1_turn 3 = .ok (.iload 5, 2) := by decide +kernel
theorem dX1_turn_5 : decode cX1_turn 5 = .ok (.iload_n 1, 1) := by decide +kernel
theorem dX1_turn_6 : decode cX1_turn 6 = .ok (.isub, 1) := by decide +kernel
theorem dX1_turn_7 : decode cX1_turn 7 = .ok (.imul, 1) := by decide +kernel
theorem dX1_turn_8 : decode cX1_turn 8 = .ok (.iload_n 3, 1) := by decide +kernel
theorem dX1_turn_9 : decode cX1_turn 9 = .ok (.iload_n 1, 1) := by decide +kernel
theorem dX1_turn_10 : decode cX1_turn 10 = .ok (.isub, 1) := by decide +kernel
theorem dX1_turn_11 : decode cX1_turn 11 = .ok (.iload 4, 2) := by decide +kernel
theorem dX1_turn_13 : decode cX1_turn 13 = .ok (.iload_n 0, 1) := by decide +kernel
theorem dX1_turn_14 : decode cX1_turn 14 = .ok (.isub, 1) := by decide +kernel
theorem dX1_turn_15 : decode cX1_turn 15 = .ok (.imul, 1) := by decide +kernel
theorem dX1_turn_16 : decode cX1_turn 16 = .ok (.isub, 1) := by decide +kernel
theorem dX1_turn_17 : decode cX1_turn 17 = .ok (.ireturn, 1) := by decide +kernel
end
section
set_option maxRecDepth 20000 in
theorem ggX2_init_X1_init : GoodIn wsX2_init wsX1_init := goodIn_r _ [14, 15, 2, 3, 16, 17, 18, 19, 20, 21, 22, 23, 24, 25, 26, 27, 28, 29, 30, 31, 32, 40, 41, 42, 43, 44, 45, 46, 47, 48, 49, 50, 51, 52, 53, 54, 55, 56, 57, 58] (by decide +kernel) (by decide +kernel)
set_option maxRecDepth 20000 in
theorem gX2_init_X1_init : GoodIn wsX2_init (wsX1_init) := ggX2_init_X1_init
set_option maxRecDepth 20000 in
theorem ggX2_init_X0_init : GoodIn wsX2_init wsX0_init := goodIn_r _ [35, 36, 2, 3, 16, 37, 38, 39, 61, 62, 63, 64] (by decide +kernel) (by decide +kernel)
set_option maxRecDepth 20000 in
theorem gX2_init_X0_init : GoodIn wsX2_init (wsX0_init) := ggX2_init_X0_init
theorem dX2_init_0 : decode cX2_init 0 = .ok (.aload_n 0, 1) := by decide +kernel
theorem dX2_init_1 : decode cX2_init 1 = .ok (.invokespecial 1, 3) := by decide +kernel
theorem dX2_init_4 : decode cX2_init 4 = .ok (.aload_n 0, 1) := by decide +kernel
theorem dX2_init_5 : decode cX2_init 5 = .ok (.new 7, 3) := by decide +kernel
theorem dX2_init_8 : decode cX2_init 8 = .ok (.dup, 1) := by decide +kernel
theorem dX2_init_9 : decode cX2_init 9 = .ok (.invokespecial 9, 3) := by decide +kernel
theorem dX2_init_12 : decode cX2_init 12 = .ok (.putfield 10, 3) := by decide +kernel
theorem dX2_init_15 : decode cX2_init 15 = .ok (.aload_n 0, 1) := by decide +kernel
theorem dX2_init_16 : decode cX2_init 16 = .ok (.new 16, 3) := by decide +kernel
theorem dX2_init_19 : decode cX2_init 19 = .ok (.dup, 1) := by decide +kernel
theorem dX2_init_20 : decode cX2_init 20 = .ok (.invokespecial 18, 3) := by decide +kernel
theorem dX2_init_23 : decode cX2_init 23 = .ok (.putfield 19, 3) := by decide +kernel
theorem dX2_init_26 : decode cX2_init 26 = .ok (.return_, 1) := by decide +kernel
set_option maxRecDepth 20000 in
theorem ggX2_piece_X2_isPoint : GoodIn wsX2_piece wsX2_isPoint := goodIn_r _ [5, 6, 7, 4, 8] (by decide +kernel) (by decide +kernel)
set_option maxRecDepth 20000 in
theorem gX2_piece_X2_isPoint : GoodIn wsX2_piece (va_wsS RX2 23 yX2_isPoint wsX2_isPoint) := goodIn_app (goodIn_of _ (by decide +kernel)) ggX2_piece_X2_isPoint
set_option maxRecDepth 20000 in
theorem ggX2_piece_X2_isLevel : GoodIn wsX2_piece wsX2_isLevel := goodIn_r _ [11, 6, 7, 4, 8] (by decide +kernel) (by decide +kernel)
set_option maxRecDepth 20000 in
theorem gX2_piece_X2_isLevel : GoodIn wsX2_piece (va_wsS RX2 27 yX2_isLevel wsX2_isLevel) := goodIn_app (goodIn_of _ (by decide +kernel)) ggX2_piece_X2_isLevel
set_option maxRecDepth 20000 in
theorem ggX2_piece_X1_addPiece : GoodIn wsX2_piece wsX1_addPiece := goodIn_r _ [16, 17, 18, 19, 20, 21, 22, 23, 24, 15, 25, 26, 27, 28, 29, 30, 31, 32, 33, 34, 35, 36, 37, 38, 39, 40, 41, 42, 43, 44, 45, 46, 47, 48, 49, 50, 51, 52, 53, 54, 55, 56, 57, 58, 59, 60, 61, 62, 63, 64, 67, 68, 69, 70, 71, 72, 73, 74, 75, 76, 77, 78, 79, 80, 81, 82, 83, 84, 85] (by decide +kernel) (by decide +kernel)
set_option maxRecDepth 20000 in
theorem gX2_piece_X1_addPiece : GoodIn wsX2_piece (wsV RX2 31 RX1 yX1_addPiece wsX1_addPiece) := goodIn_app (goodIn_of _ (by decide +kernel)) ggX2_piece_X1_addPiece
theorem dX2_piece_0 : decode cX2_piece 0 = .ok (.iload_n 1, 1) := by decide +kernel
theorem dX2_piece_1 : decode cX2_piece 1 = .ok (.iload_n 2, 1) := by decide +kernel
theorem dX2_piece_2 : decode cX2_piece 2 = .ok (.invokestatic 23, 3) := by decide +kernel
theorem dX2_piece_5 : decode cX2_piece 5 = .ok (.ifCond .eq 26, 3) := by decide +kernel
theorem dX2_piece_8 : decode cX2_piece 8 = .ok (.iload_n 3, 1) := by decide +kernel
theorem dX2_piece_9 : decode cX2_piece 9 = .ok (.invokestatic 27, 3) := by decide +kernel
theorem dX2_piece_12 : decode cX2_piece 12 = .ok (.ifCond .eq 19, 3) := by decide +kernel
theorem dX2_piece_15 : decode cX2_piece 15 = .ok (.iload 4, 2) := by decide +kernel
theorem dX2_piece_17 : decode cX2_piece 17 = .ok (.invokestatic 27, 3) := by decide +kernel
theorem dX2_piece_20 : decode cX2_piece 20 = .ok (.ifCond .eq 11, 3) := by decide +kernel
theorem dX2_piece_23 : decode cX2_piece 23 = .ok (.iload 5, 2) := by decide +kernel
theorem dX2_piece_25 : decode cX2_piece 25 = .ok (.invokestatic 27, 3) := by decide +kernel
theorem dX2_piece_28 : decode cX2_piece 28 = .ok (.ifCond .ne 5, 3) := by decide +kernel
theorem dX2_piece_31 : decode cX2_piece 31 = .ok (.iconst (-1), 1) := by decide +kernel
theorem dX2_piece_32 : decode cX2_piece 32 = .ok (.ireturn, 1) := by decide +kernel
theorem dX2_piece_33 : decode cX2_piece 33 = .ok (.aload_n 0, 1) := by decide +kernel
theorem dX2_piece_34 : decode cX2_piece 34 = .ok (.getfield 10, 3) := by decide +kernel
theorem dX2_piece_37 : decode cX2_piece 37 = .ok (.iload_n 1, 1) := by decide +kernel
theorem dX2_piece_38 : decode cX2_piece 38 = .ok (.iload_n 2, 1) := by decide +kernel
theorem dX2_piece_39 : decode cX2_piece 39 = .ok (.iload_n 3, 1) := by decide +kernel
theorem dX2_piece_40 : decode cX2_piece 40 = .ok (.iload 4, 2) := by decide +kernel
theorem dX2_piece_42 : decode cX2_piece 42 = .ok (.iload 5, 2) := by decide +kernel
theorem dX2_piece_44 : decode cX2_piece 44 = .ok (.invokevirtual 31, 3) := by decide +kernel
theorem dX2_piece_47 : decode cX2_piece 47 = .ok (.ireturn, 1) := by decide +kernel
set_option maxRecDepth 20000 in
theorem ggX2_house_X2_isPoint : GoodIn wsX2_house wsX2_isPoint := goodIn_r _ [5, 6, 7, 4, 8] (by decide +kernel) (by decide +kernel)
set_option maxRecDepth 20000 in
theorem gX2_house_X2_isPoint : GoodIn wsX2_house (va_wsS RX2 23 yX2_isPoint wsX2_isPoint) := goodIn_app (goodIn_of _ (by decide +kernel)) ggX2_house_X2_isPoint
set_option maxRecDepth 20000 in
theorem ggX2_house_X2_isWithin : GoodIn wsX2_house wsX2_isWithin := goodIn_r _ [8] (by decide +kernel) (by decide +kernel)
set_option maxRecDepth 20000 in
theorem gX2_house_X2_isWithin : GoodIn wsX2_house (va_wsS RX2 35 yX2_isWithin wsX2_isWithin) := goodIn_app (goodIn_of _ (by decide +kernel)) ggX2_house_X2_isWithin
set_option maxRecDepth 20000 in
theorem ggX2_house_X1_addHouse : GoodIn wsX2_house wsX1_addHouse := goodIn_r _ [13, 14, 15, 16, 17, 18, 19, 20, 21, 12, 22, 23, 24, 25, 26, 27, 28, 29, 30, 31, 32, 33, 34, 35, 36, 37, 38, 39, 40, 41, 42, 43, 44, 45, 46, 47, 48, 49, 50, 51, 52, 53, 54, 55, 56, 57, 58, 59, 60, 61, 64, 65, 66, 67, 68, 69, 70, 71, 72, 73, 74, 75, 76, 77, 78, 79, 80, 81, 82] (by decide +kernel) (by decide +kernel)
set_option maxRecDepth 20000 in
theorem gX2_house_X1_addHouse : GoodIn wsX2_house (wsV RX2 39 RX1 yX1_addHouse wsX1_addHouse) := goodIn_app (goodIn_of _ (by decide +kernel)) ggX2_house_X1_addHouse
theorem dX2_house_0 : decode cX2_house 0 = .ok (.iload_n 1, 1) := by decide +kernel
theorem dX2_house_1 : decode cX2_house 1 = .ok (.iload_n 2, 1) := by decide +kernel
theorem dX2_house_2 : decode cX2_house 2 = .ok (.invokestatic 23, 3) := by decide +kernel
theorem dX2_house_5 : decode cX2_house 5 = .ok (.ifCond .eq 14, 3) := by decide +kernel
theorem dX2_house_8 : decode cX2_house 8 = .ok (.iload_n 3, 1) := by decide +kernel
theorem dX2_house_9 : decode cX2_house 9 = .ok (.iconst 0, 1) := by decide +kernel
theorem dX2_house_10 : decode cX2_house 10 = .ok (.sipush 1000, 3) := by decide +kernel
theorem dX2_house_13 : decode cX2_house 13 = .ok (.invokestatic 35, 3) := by decide +kernel
theorem dX2_house_16 : decode cX2_house 16 = .ok (.ifCond .ne 5, 3) := by decide +kernel
theorem dX2_house_19 : decode cX2_house 19 = .ok (.iconst (-1), 1) := by decide +kernel
theorem dX2_house_20 : decode cX2_house 20 = .ok (.ireturn, 1) := by decide +kernel
theorem dX2_house_21 : decode cX2_house 21 = .ok (.aload_n 0, 1) := by decide +kernel
theorem dX2_house_22 : decode cX2_house 22 = .ok (.getfield 10, 3) := by decide +kernel
theorem dX2_house_25 : decode cX2_house 25 = .ok (.iload_n 1, 1) := by decide +kernel
theorem dX2_house_26 : decode cX2_house 26 = .ok (.iload_n 2, 1) := by decide +kernel
theorem dX2_house_27 : decode cX2_house 27 = .ok (.iload_n 3, 1) := by decide +kernel
theorem dX2_house_28 : decode cX2_house 28 = .ok (.invokevirtual 39, 3) := by decide +kernel
theorem dX2_house_31 : decode cX2_house 31 = .ok (.ireturn, 1) := by decide +kernel
set_option maxRecDepth 20000 in
theorem ggX2_wall_X2_isPoint : GoodIn wsX2_wall wsX2_isPoint := goodIn_r _ [5, 6, 7, 4, 8] (by decide +kernel) (by decide +kernel)
set_option maxRecDepth 20000 in
theorem gX2_wall_X2_isPoint : GoodIn wsX2_wall (va_wsS RX2 23 yX2_isPoint wsX2_isPoint) := goodIn_app (goodIn_of _ (by decide +kernel)) ggX2_wall_X2_isPoint
set_option maxRecDepth 20000 in
theorem ggX2_wall_X2_isCut : GoodIn wsX2_wall wsX2_isCut := goodIn_r _ [11, 6, 7, 4, 8] (by decide +kernel) (by decide +kernel)
set_option maxRecDepth 20000 in
theorem gX2_wall_X2_isCut : GoodIn wsX2_wall (va_wsS RX2 43 yX2_isCut wsX2_isCut) := goodIn_app (goodIn_of _ (by decide +kernel)) ggX2_wall_X2_isCut
set_option maxRecDepth 20000 in
theorem ggX2_wall_X1_addWall : GoodIn wsX2_wall wsX1_addWall := goodIn_r _ [16, 17, 18, 19, 20, 21, 22, 23, 24, 25, 26, 27, 15, 28, 29, 30, 31, 32, 33, 34, 35, 36, 37, 38, 39, 40, 41, 42, 43, 44, 45, 46, 47, 48, 49, 50, 51, 52, 53, 54, 55, 56, 59, 60, 61, 62, 63, 64, 65, 66, 67, 68, 69, 70, 71, 72, 73, 74, 75, 76, 77] (by decide +kernel) (by decide +kernel)
set_option maxRecDepth 20000 in
theorem gX2_wall_X1_addWall : GoodIn wsX2_wall (wsV RX2 46 RX1 yX1_addWall wsX1_addWall) := goodIn_app (goodIn_of _ (by decide +kernel)) ggX2_wall_X1_addWall
theorem dX2_wall_0 : decode cX2_wall 0 = .ok (.iload_n 1, 1) := by decide +kernel
theorem dX2_wall_1 : decode cX2_wall 1 = .ok (.iload_n 3, 1) := by decide +kernel
theorem dX2_wall_2 : decode cX2_wall 2 = .ok (.if_icmp .ne 13, 3) := by decide +kernel
theorem dX2_wall_5 : decode cX2_wall 5 = .ok (.iload_n 2, 1) := by decide +kernel
theorem dX2_wall_6 : decode cX2_wall 6 = .ok (.iload 4, 2) := by decide +kernel
theorem dX2_wall_8 : decode cX2_wall 8 = .ok (.if_icmp .ne 7, 3) := by decide +kernel
theorem dX2_wall_11 : decode cX2_wall 11 = .ok (.iconst 1, 1) := by decide +kernel
theorem dX2_wall_12 : decode cX2_wall 12 = .ok (.goto 4, 3) := by decide +kernel
theorem dX2_wall_15 : decode cX2_wall 15 = .ok (.iconst 0, 1) := by decide +kernel
theorem dX2_wall_16 : decode cX2_wall 16 = .ok (.istore 6, 2) := by decide +kernel
theorem dX2_wall_18 : decode cX2_wall 18 = .ok (.iload_n 1, 1) := by decide +kernel
theorem dX2_wall_19 : decode cX2_wall 19 = .ok (.iload_n 2, 1) := by decide +kernel
theorem dX2_wall_20 : decode cX2_wall 20 = .ok (.invokestatic 23, 3) := by decide +kernel
theorem dX2_wall_23 : decode cX2_wall 23 = .ok (.ifCond .eq 25, 3) := by decide +kernel
theorem dX2_wall_26 : decode cX2_wall 26 = .ok (.iload_n 3, 1) := by decide +kernel
theorem dX2_wall_27 : decode cX2_wall 27 = .ok (.iload 4, 2) := by decide +kernel
theorem dX2_wall_29 : decode cX2_wall 29 = .ok (.invokestatic 23, 3) := by decide +kernel
theorem dX2_wall_32 : decode cX2_wall 32 = .ok (.ifCond .eq 16, 3) := by decide +kernel
theorem dX2_wall_35 : decode cX2_wall 35 = .ok (.iload 6, 2) := by decide +kernel
theorem dX2_wall_37 : decode cX2_wall 37 = .ok (.ifCond .ne 11, 3) := by decide +kernel
theorem dX2_wall_40 : decode cX2_wall 40 = .ok (.iload 5, 2) := by decide +kernel
theorem dX2_wall_42 : decode cX2_wall 42 = .ok (.invokestatic 43, 3) := by decide +kernel
theorem dX2_wall_45 : decode cX2_wall 45 = .ok (.ifCond .ne 5, 3) := by decide +kernel
theorem dX2_wall_48 : decode cX2_wall 48 = .ok (.iconst (-1), 1) := by decide +kernel
theorem dX2_wall_49 : decode cX2_wall 49 = .ok (.ireturn, 1) := by decide +kernel
theorem dX2_wall_50 : decode cX2_wall 50 = .ok (.aload_n 0, 1) := by decide +kernel
theorem dX2_wall_51 : decode cX2_wall 51 = .ok (.getfield 10, 3) := by decide +kernel
theorem dX2_wall_54 : decode cX2_wall 54 = .ok (.iload_n 1, 1) := by decide +kernel
theorem dX2_wall_55 : decode cX2_wall 55 = .ok (.iload_n 2, 1) := by decide +kernel
theorem dX2_wall_56 : decode cX2_wall 56 = .ok (.iload_n 3, 1) := by decide +kernel
theorem dX2_wall_57 : decode cX2_wall 57 = .ok (.iload 4, 2) := by decide +kernel
theorem dX2_wall_59 : decode cX2_wall 59 = .ok (.iload 5, 2) := by decide +kernel
theorem dX2_wall_61 : decode cX2_wall 61 = .ok (.invokevirtual 46, 3) := by decide +kernel
theorem dX2_wall_64 : decode cX2_wall 64 = .ok (.ireturn, 1) := by decide +kernel
set_option maxRecDepth 20000 in
theorem ggX2_fall_X2_isWithin : GoodIn wsX2_fall wsX2_isWithin := goodIn_r _ [5] (by decide +kernel) (by decide +kernel)
set_option maxRecDepth 20000 in
theorem gX2_fall_X2_isWithin : GoodIn wsX2_fall (va_wsS RX2 35 yX2_isWithin wsX2_isWithin) := goodIn_app (goodIn_of _ (by decide +kernel)) ggX2_fall_X2_isWithin
set_option maxRecDepth 20000 in
theorem ggX2_fall_X1_changeFall : GoodIn wsX2_fall wsX1_changeFall := goodIn_r _ [10, 11, 14, 15, 16, 17, 18, 19, 20, 21, 22, 23, 24, 25, 26, 27, 28, 29, 30, 31, 32] (by decide +kernel) (by decide +kernel)
set_option maxRecDepth 20000 in
theorem gX2_fall_X1_changeFall : GoodIn wsX2_fall (wsV RX2 49 RX1 yX1_changeFall wsX1_changeFall) := goodIn_app (goodIn_of _ (by decide +kernel)) ggX2_fall_X1_changeFall
theorem dX2_fall_0 : decode cX2_fall 0 = .ok (.iload_n 1, 1) := by decide +kernel
theorem dX2_fall_1 : decode cX2_fall 1 = .ok (.iconst 0, 1) := by decide +kernel
theorem dX2_fall_2 : decode cX2_fall 2 = .ok (.bipush 60, 2) := by decide +kernel
theorem dX2_fall_4 : decode cX2_fall 4 = .ok (.invokestatic 35, 3) := by decide +kernel
theorem dX2_fall_7 : decode cX2_fall 7 = .ok (.ifCond .eq 14, 3) := by decide +kernel
theorem dX2_fall_10 : decode cX2_fall 10 = .ok (.aload_n 0, 1) := by decide +kernel
theorem dX2_fall_11 : decode cX2_fall 11 = .ok (.getfield 10, 3) := by decide +kernel
theorem dX2_fall_14 : decode cX2_fall 14 = .ok (.iload_n 1, 1) := by decide +kernel
theorem dX2_fall_15 : decode cX2_fall 15 = .ok (.invokevirtual 49, 3) := by decide +kernel
theorem dX2_fall_18 : decode cX2_fall 18 = .ok (.goto 4, 3) := by decide +kernel
theorem dX2_fall_21 : decode cX2_fall 21 = .ok (.iconst (-1), 1) := by decide +kernel
theorem dX2_fall_22 : decode cX2_fall 22 = .ok (.ireturn, 1) := by decide +kernel
set_option maxRecDepth 20000 in
theorem ggX2_malus_X2_isPart : GoodIn wsX2_malus wsX2_isPart := goodIn_r _ [5, 6, 7, 4, 8] (by decide +kernel) (by decide +kernel)
set_option maxRecDepth 20000 in
theorem gX2_malus_X2_isPart : GoodIn wsX2_malus (va_wsS RX2 53 yX2_isPart wsX2_isPart) := goodIn_app (goodIn_of _ (by decide +kernel)) ggX2_malus_X2_isPart
set_option maxRecDepth 20000 in
theorem ggX2_malus_X2_isWithin : GoodIn wsX2_malus wsX2_isWithin := goodIn_r _ [8] (by decide +kernel) (by decide +kernel)
set_option maxRecDepth 20000 in
theorem gX2_malus_X2_isWithin : GoodIn wsX2_malus (va_wsS RX2 35 yX2_isWithin wsX2_isWithin) := goodIn_app (goodIn_of _ (by decide +kernel)) ggX2_malus_X2_isWithin
set_option maxRecDepth 20000 in
theorem ggX2_malus_X1_changeMalus : GoodIn wsX2_malus wsX1_changeMalus := goodIn_r _ [13, 14, 17, 18, 19, 20, 21, 22, 23, 24, 25, 26, 27, 28, 29, 30, 31, 32, 33, 34, 35] (by decide +kernel) (by decide +kernel)
set_option maxRecDepth 20000 in
theorem gX2_malus_X1_changeMalus : GoodIn wsX2_malus (wsV RX2 56 RX1 yX1_changeMalus wsX1_changeMalus) := goodIn_app (goodIn_of _ (by decide +kernel)) ggX2_malus_X1_changeMalus
theorem dX2_malus_0 : decode cX2_malus 0 = .ok (.iload_n 1, 1) := by decide +kernel
theorem dX2_malus_1 : decode cX2_malus 1 = .ok (.invokestatic 53, 3) := by decide +kernel
theorem dX2_malus_4 : decode cX2_malus 4 = .ok (.ifCond .eq 14, 3) := by decide +kernel
theorem dX2_malus_7 : decode cX2_malus 7 = .ok (.iload_n 2, 1) := by decide +kernel
theorem dX2_malus_8 : decode cX2_malus 8 = .ok (.iconst 0, 1) := by decide +kernel
theorem dX2_malus_9 : decode cX2_malus 9 = .ok (.sipush 200, 3) := by decide +kernel
theorem dX2_malus_12 : decode cX2_malus 12 = .ok (.invokestatic 35, 3) := by decide +kernel
theorem dX2_malus_15 : decode cX2_malus 15 = .ok (.ifCond .ne 5, 3) := by decide +kernel
theorem dX2_malus_18 : decode cX2_malus 18 = .ok (.iconst (-1), 1) := by decide +kernel
theorem dX2_malus_19 : decode cX2_malus 19 = .ok (.ireturn, 1) := by decide +kernel
theorem dX2_malus_20 : decode cX2_malus 20 = .ok (.aload_n 0, 1) := by decide +kernel
theorem dX2_malus_21 : decode cX2_malus 21 = .ok (.getfield 10, 3) := by decide +kernel
theorem dX2_malus_24 : decode cX2_malus 24 = .ok (.iload_n 1, 1) := by decide +kernel
theorem dX2_malus_25 : decode cX2_malus 25 = .ok (.iload_n 2, 1) := by decide +kernel
theorem dX2_malus_26 : decode cX2_malus 26 = .ok (.invokevirtual 56, 3) := by decide +kernel
theorem dX2_malus_29 : decode cX2_malus 29 = .ok (.ireturn, 1) := by decide +kernel
set_option maxRecDepth 20000 in
theorem ggX2_gives_X1_hasPiece : GoodIn wsX2_gives wsX1_hasPiece := goodIn_r _ [6, 7, 43, 44, 45, 46, 47, 48, 49, 50, 51, 52, 53, 54, 55, 56, 57, 58, 59, 60, 61] (by decide +kernel) (by decide +kernel)
set_option maxRecDepth 20000 in
theorem gX2_gives_X1_hasPiece : GoodIn wsX2_gives (wsV RX2 60 RX1 yX1_hasPiece wsX1_hasPiece) := goodIn_app (goodIn_of _ (by decide +kernel)) ggX2_gives_X1_hasPiece
set_option maxRecDepth 20000 in
theorem ggX2_gives_X1_hasHouse : GoodIn wsX2_gives wsX1_hasHouse := goodIn_r _ [11, 12, 43, 44, 45, 46, 47, 48, 49, 50, 51, 52, 53, 54, 55, 56, 57, 58, 59, 60, 61] (by decide +kernel) (by decide +kernel)
set_option maxRecDepth 20000 in
theorem gX2_gives_X1_hasHouse : GoodIn wsX2_gives (wsV RX2 63 RX1 yX1_hasHouse wsX1_hasHouse) := goodIn_app (goodIn_of _ (by decide +kernel)) ggX2_gives_X1_hasHouse
set_option maxRecDepth 20000 in
theorem ggX2_gives_X2_isPart : GoodIn wsX2_gives wsX2_isPart := goodIn_r _ [16, 17, 18, 15, 19] (by decide +kernel) (by decide +kernel)
set_option maxRecDepth 20000 in
theorem gX2_gives_X2_isPart : GoodIn wsX2_gives (va_wsS RX2 53 yX2_isPart wsX2_isPart) := goodIn_app (goodIn_of _ (by decide +kernel)) ggX2_gives_X2_isPart
set_option maxRecDepth 20000 in
theorem ggX2_gives_X1_given : GoodIn wsX2_gives wsX1_given := goodIn_r _ [23, 24, 25, 26, 27, 28, 29, 30, 31, 32, 5, 33, 34, 35, 36, 37, 38, 39, 40, 43, 44, 45, 46, 47, 48, 49, 50, 51, 52, 53, 54, 55, 56, 57, 58, 59, 60, 61] (by decide +kernel) (by decide +kernel)
set_option maxRecDepth 20000 in
theorem gX2_gives_X1_given : GoodIn wsX2_gives (wsV RX2 66 RX1 yX1_given wsX1_given) := goodIn_app (goodIn_of _ (by decide +kernel)) ggX2_gives_X1_given
theorem dX2_gives_0 : decode cX2_gives 0 = .ok (.aload_n 0, 1) := by decide +kernel
theorem dX2_gives_1 : decode cX2_gives 1 = .ok (.getfield 10, 3) := by decide +kernel
theorem dX2_gives_4 : decode cX2_gives 4 = .ok (.iload_n 1, 1) := by decide +kernel
theorem dX2_gives_5 : decode cX2_gives 5 = .ok (.invokevirtual 60, 3) := by decide +kernel
theorem dX2_gives_8 : decode cX2_gives 8 = .ok (.ifCond .eq 21, 3) := by decide +kernel
theorem dX2_gives_11 : decode cX2_gives 11 = .ok (.aload_n 0, 1) := by decide +kernel
theorem dX2_gives_12 : decode cX2_gives 12 = .ok (.getfield 10, 3) := by decide +kernel
theorem dX2_gives_15 : decode cX2_gives 15 = .ok (.iload_n 2, 1) := by decide +kernel
theorem dX2_gives_16 : decode cX2_gives 16 = .ok (.invokevirtual 63, 3) := by decide +kernel
theorem dX2_gives_19 : decode cX2_gives 19 = .ok (.ifCond .eq 10, 3) := by decide +kernel
theorem dX2_gives_22 : decode cX2_gives 22 = .ok (.iload_n 3, 1) := by decide +kernel
theorem dX2_gives_23 : decode cX2_gives 23 = .ok (.invokestatic 53, 3) := by decide +kernel
theorem dX2_gives_26 : decode cX2_gives 26 = .ok (.ifCond .ne 5, 3) := by decide +kernel
theorem dX2_gives_29 : decode cX2_gives 29 = .ok (.iconst (-1), 1) := by decide +kernel
theorem dX2_gives_30 : decode cX2_gives 30 = .ok (.ireturn, 1) := by decide +kernel
theorem dX2_gives_31 : decode cX2_gives 31 = .ok (.aload_n 0, 1) := by decide +kernel
theorem dX2_gives_32 : decode cX2_gives 32 = .ok (.getfield 10, 3) := by decide +kernel
theorem dX2_gives_35 : decode cX2_gives 35 = .ok (.iload_n 1, 1) := by decide +kernel
theorem dX2_gives_36 : decode cX2_gives 36 = .ok (.iload_n 2, 1) := by decide +kernel
theorem dX2_gives_37 : decode cX2_gives 37 = .ok (.iload_n 3, 1) := by decide +kernel
theorem dX2_gives_38 : decode cX2_gives 38 = .ok (.invokevirtual 66, 3) := by decide +kernel
theorem dX2_gives_41 : decode cX2_gives 41 = .ok (.ireturn, 1) := by decide +kernel
set_option maxRecDepth 20000 in
theorem ggX2_level_X1_hasHouse : GoodIn wsX2_level wsX1_hasHouse := goodIn_r _ [6, 7, 58, 59, 60, 61, 62, 63, 64, 65, 66, 67, 68, 69, 70, 71, 72, 73, 74, 75, 76] (by decide +kernel) (by decide +kernel)
set_option maxRecDepth 20000 in
theorem gX2_level_X1_hasHouse : GoodIn wsX2_level (wsV RX2 63 RX1 yX1_hasHouse wsX1_hasHouse) := goodIn_app (goodIn_of _ (by decide +kernel)) ggX2_level_X1_hasHouse
set_option maxRecDepth 20000 in
theorem ggX2_level_X1_allDayLevel : GoodIn wsX2_level wsX1_allDayLevel := goodIn_r _ [11, 12, 13, 14, 15, 16, 17, 18, 19, 5, 20, 21, 22, 23, 24, 25, 26, 27, 28, 29, 30, 31, 32, 33, 34, 35, 36, 37, 38, 39, 40, 41, 42, 43, 44, 45, 46, 47, 58, 59, 60, 61, 62, 63, 64, 65, 66, 67, 68, 69, 70, 71, 72, 73, 74, 75, 76] (by decide +kernel) (by decide +kernel)
set_option maxRecDepth 20000 in
theorem gX2_level_X1_allDayLevel : GoodIn wsX2_level (wsV RX2 69 RX1 yX1_allDayLevel wsX1_allDayLevel) := goodIn_app (goodIn_of _ (by decide +kernel)) ggX2_level_X1_allDayLevel
set_option maxRecDepth 20000 in
theorem ggX2_level_X2_isPart : GoodIn wsX2_level wsX2_isPart := goodIn_r _ [51, 52, 53, 50, 54] (by decide +kernel) (by decide +kernel)
set_option maxRecDepth 20000 in
theorem gX2_level_X2_isPart : GoodIn wsX2_level (va_wsS RX2 53 yX2_isPart wsX2_isPart) := goodIn_app (goodIn_of _ (by decide +kernel)) ggX2_level_X2_isPart
set_option maxRecDepth 20000 in
theorem ggX2_level_X1_partLevel : GoodIn wsX2_level wsX1_partLevel := goodIn_r _ [20, 21, 22, 23, 24, 5, 25, 26, 27, 28, 13, 14, 15, 16, 29, 30, 31, 32, 33, 34, 35, 36, 37, 38, 39, 40, 41, 42, 43, 44, 45, 46, 47, 58, 59, 60, 61, 62, 63, 64, 65, 66, 67, 68, 69, 70, 71, 72, 73, 74, 75, 76] (by decide +kernel) (by decide +kernel)
set_option maxRecDepth 20000 in
theorem gX2_level_X1_partLevel : GoodIn wsX2_level (wsV RX2 72 RX1 yX1_partLevel wsX1_partLevel) := goodIn_app (goodIn_of _ (by decide +kernel)) ggX2_level_X1_partLevel
theorem dX2_level_0 : decode cX2_level 0 = .ok (.aload_n 0, 1) := by decide +kernel
theorem dX2_level_1 : decode cX2_level 1 = .ok (.getfield 10, 3) := by decide +kernel
theorem dX2_level_4 : decode cX2_level 4 = .ok (.iload_n 1, 1) := by decide +kernel
theorem dX2_level_5 : decode cX2_level 5 = .ok (.invokevirtual 63, 3) := by decide +kernel
theorem dX2_level_8 : decode cX2_level 8 = .ok (.ifCond .ne 5, 3) := by decide +kernel
theorem dX2_level_11 : decode cX2_level 11 = .ok (.iconst (-1), 1) := by decide +kernel
theorem dX2_level_12 : decode cX2_level 12 = .ok (.ireturn, 1) := by decide +kernel
theorem dX2_level_13 : decode cX2_level 13 = .ok (.iload_n 2, 1) := by decide +kernel
theorem dX2_level_14 : decode cX2_level 14 = .ok (.iconst 3, 1) := by decide +kernel
theorem dX2_level_15 : decode cX2_level 15 = .ok (.if_icmp .ne 12, 3) := by decide +kernel
theorem dX2_level_18 : decode cX2_level 18 = .ok (.aload_n 0, 1) := by decide +kernel
theorem dX2_level_19 : decode cX2_level 19 = .ok (.getfield 10, 3) := by decide +kernel
theorem dX2_level_22 : decode cX2_level 22 = .ok (.iload_n 1, 1) := by decide +kernel
theorem dX2_level_23 : decode cX2_level 23 = .ok (.invokevirtual 69, 3) := by decide +kernel
theorem dX2_level_26 : decode cX2_level 26 = .ok (.ireturn, 1) := by decide +kernel
theorem dX2_level_27 : decode cX2_level 27 = .ok (.iload_n 2, 1) := by decide +kernel
theorem dX2_level_28 : decode cX2_level 28 = .ok (.invokestatic 53, 3) := by decide +kernel
theorem dX2_level_31 : decode cX2_level 31 = .ok (.ifCond .eq 15, 3) := by decide +kernel
theorem dX2_level_34 : decode cX2_level 34 = .ok (.aload_n 0, 1) := by decide +kernel
theorem dX2_level_35 : decode cX2_level 35 = .ok (.getfield 10, 3) := by decide +kernel
theorem dX2_level_38 : decode cX2_level 38 = .ok (.iload_n 1, 1) := by decide +kernel
theorem dX2_level_39 : decode cX2_level 39 = .ok (.iload_n 2, 1) := by decide +kernel
theorem dX2_level_40 : decode cX2_level 40 = .ok (.invokevirtual 72, 3) := by decide +kernel
theorem dX2_level_43 : decode cX2_level 43 = .ok (.goto 4, 3) := by decide +kernel
theorem dX2_level_46 : decode cX2_level 46 = .ok (.iconst (-1), 1) := by decide +kernel
theorem dX2_level_47 : decode cX2_level 47 = .ok (.ireturn, 1) := by decide +kernel
set_option maxRecDepth 20000 in
theorem ggX2_people_X1_peopleAbove : GoodIn wsX2_people wsX1_peopleAbove := goodIn_r _ [6, 7, 8, 9, 10, 11, 5, 12, 13, 14, 15, 16, 17, 18, 19, 20, 21, 22, 23, 24, 25, 26, 27, 28, 29, 30, 31, 32, 33, 34, 35, 36, 37, 38, 39, 40, 41, 42, 43, 44, 45, 46, 47, 48, 51, 52, 53, 54, 55, 56, 57, 58, 59, 60, 61, 62, 63, 64, 65, 66, 67, 68, 69] (by decide +kernel) (by decide +kernel)
set_option maxRecDepth 20000 in
theorem gX2_people_X1_peopleAbove : GoodIn wsX2_people (wsV RX2 75 RX1 yX1_peopleAbove wsX1_peopleAbove) := goodIn_app (goodIn_of _ (by decide +kernel)) ggX2_people_X1_peopleAbove
theorem dX2_people_0 : decode cX2_people 0 = .ok (.aload_n 0, 1) := by decide +kernel
theorem dX2_people_1 : decode cX2_people 1 = .ok (.getfield 10, 3) := by decide +kernel
theorem dX2_people_4 : decode cX2_people 4 = .ok (.iload_n 1, 1) := by decide +kernel
theorem dX2_people_5 : decode cX2_people 5 = .ok (.invokevirtual 75, 3) := by decide +kernel
theorem dX2_people_8 : decode cX2_people 8 = .ok (.ireturn, 1) := by decide +kernel
set_option maxRecDepth 20000 in
theorem ggX2_loudest_X1_hasHouse : GoodIn wsX2_loudest wsX1_hasHouse := goodIn_r _ [6, 7, 43, 44, 45, 46, 47, 48, 49, 50, 51, 52, 53, 54, 55, 56, 57, 58, 59, 60, 61] (by decide +kernel) (by decide +kernel)
set_option maxRecDepth 20000 in
theorem gX2_loudest_X1_hasHouse : GoodIn wsX2_loudest (wsV RX2 63 RX1 yX1_hasHouse wsX1_hasHouse) := goodIn_app (goodIn_of _ (by decide +kernel)) ggX2_loudest_X1_hasHouse
set_option maxRecDepth 20000 in
theorem ggX2_loudest_X2_isPart : GoodIn wsX2_loudest wsX2_isPart := goodIn_r _ [11, 12, 13, 10, 14] (by decide +kernel) (by decide +kernel)
set_option maxRecDepth 20000 in
theorem gX2_loudest_X2_isPart : GoodIn wsX2_loudest (va_wsS RX2 53 yX2_isPart wsX2_isPart) := goodIn_app (goodIn_of _ (by decide +kernel)) ggX2_loudest_X2_isPart
set_option maxRecDepth 20000 in
theorem ggX2_loudest_X1_loudestPiece : GoodIn wsX2_loudest wsX1_loudestPiece := goodIn_r _ [18, 19, 20, 21, 22, 5, 23, 24, 25, 26, 27, 28, 29, 30, 31, 32, 33, 34, 35, 36, 37, 38, 39, 40, 43, 44, 45, 46, 47, 48, 49, 50, 51, 52, 53, 54, 55, 56, 57, 58, 59, 60, 61] (by decide +kernel) (by decide +kernel)
set_option maxRecDepth 20000 in
theorem gX2_loudest_X1_loudestPiece : GoodIn wsX2_loudest (wsV RX2 78 RX1 yX1_loudestPiece wsX1_loudestPiece) := goodIn_app (goodIn_of _ (by decide +kernel)) ggX2_loudest_X1_loudestPiece
theorem dX2_loudest_0 : decode cX2_loudest 0 = .ok (.aload_n 0, 1) := by decide +kernel
theorem dX2_loudest_1 : decode cX2_loudest 1 = .ok (.getfield 10, 3) := by decide +kernel
theorem dX2_loudest_4 : decode cX2_loudest 4 = .ok (.iload_n 1, 1) := by decide +kernel
theorem dX2_loudest_5 : decode cX2_loudest 5 = .ok (.invokevirtual 63, 3) := by decide +kernel
theorem dX2_loudest_8 : decode cX2_loudest 8 = .ok (.ifCond .eq 10, 3) := by decide +kernel
theorem dX2_loudest_11 : decode cX2_loudest 11 = .ok (.iload_n 2, 1) := by decide +kernel
theorem dX2_loudest_12 : decode cX2_loudest 12 = .ok (.invokestatic 53, 3) := by decide +kernel
theorem dX2_loudest_15 : decode cX2_loudest 15 = .ok (.ifCond .ne 5, 3) := by decide +kernel
theorem dX2_loudest_18 : decode cX2_loudest 18 = .ok (.iconst (-1), 1) := by decide +kernel
theorem dX2_loudest_19 : decode cX2_loudest 19 = .ok (.ireturn, 1) := by decide +kernel
theorem dX2_loudest_20 : decode cX2_loudest 20 = .ok (.aload_n 0, 1) := by decide +kernel
theorem dX2_loudest_21 : decode cX2_loudest 21 = .ok (.getfield 10, 3) := by decide +kernel
theorem dX2_loudest_24 : decode cX2_loudest 24 = .ok (.iload_n 1, 1) := by decide +kernel
theorem dX2_loudest_25 : decode cX2_loudest 25 = .ok (.iload_n 2, 1) := by decide +kernel
theorem dX2_loudest_26 : decode cX2_loudest 26 = .ok (.invokevirtual 78, 3) := by decide +kernel
theorem dX2_loudest_29 : decode cX2_loudest 29 = .ok (.ireturn, 1) := by decide +kernel
set_option maxRecDepth 20000 in
theorem ggX2_ranked_X1_hasHouse : GoodIn wsX2_ranked wsX1_hasHouse := goodIn_r _ [6, 7, 59, 60, 61, 62, 63, 64, 65, 66, 67, 68, 69, 70, 71, 72, 73, 74, 75, 76, 77] (by decide +kernel) (by decide +kernel)
set_option maxRecDepth 20000 in
theorem gX2_ranked_X1_hasHouse : GoodIn wsX2_ranked (wsV RX2 63 RX1 yX1_hasHouse wsX1_hasHouse) := goodIn_app (goodIn_of _ (by decide +kernel)) ggX2_ranked_X1_hasHouse
set_option maxRecDepth 20000 in
theorem ggX2_ranked_X1_houseOfRank : GoodIn wsX2_ranked wsX1_houseOfRank := goodIn_r _ [11, 7, 12, 13, 14, 15, 5, 16, 17, 18, 19, 20, 21, 22, 23, 24, 25, 26, 27, 28, 29, 30, 31, 32, 33, 34, 35, 36, 37, 38, 39, 40, 41, 42, 43, 44, 45, 46, 47, 48, 49, 50, 51, 52, 53, 54, 55, 56, 59, 60, 61, 62, 63, 64, 65, 66, 67, 68, 69, 70, 71, 72, 73, 74, 75, 76, 77] (by decide +kernel) (by decide +kernel)
set_option maxRecDepth 20000 in
theorem gX2_ranked_X1_houseOfRank : GoodIn wsX2_ranked (wsV RX2 81 RX1 yX1_houseOfRank wsX1_houseOfRank) := goodIn_app (goodIn_of _ (by decide +kernel)) ggX2_ranked_X1_houseOfRank
theorem dX2_ranked_0 : decode cX2_ranked 0 = .ok (.aload_n 0, 1) := by decide +kernel
theorem dX2_ranked_1 : decode cX2_ranked 1 = .ok (.getfield 10, 3) := by decide +kernel
theorem dX2_ranked_4 : decode cX2_ranked 4 = .ok (.iload_n 1, 1) := by decide +kernel
theorem dX2_ranked_5 : decode cX2_ranked 5 = .ok (.invokevirtual 63, 3) := by decide +kernel
theorem dX2_ranked_8 : decode cX2_ranked 8 = .ok (.ifCond .eq 14, 3) := by decide +kernel
theorem dX2_ranked_11 : decode cX2_ranked 11 = .ok (.aload_n 0, 1) := by decide +kernel
theorem dX2_ranked_12 : decode cX2_ranked 12 = .ok (.getfield 10, 3) := by decide +kernel
theorem dX2_ranked_15 : decode cX2_ranked 15 = .ok (.iload_n 1, 1) := by decide +kernel
theorem dX2_ranked_16 : decode cX2_ranked 16 = .ok (.invokevirtual 81, 3) := by decide +kernel
theorem dX2_ranked_19 : decode cX2_ranked 19 = .ok (.goto 4, 3) := by decide +kernel
theorem dX2_ranked_22 : decode cX2_ranked 22 = .ok (.iconst (-1), 1) := by decide +kernel
theorem dX2_ranked_23 : decode cX2_ranked 23 = .ok (.ireturn, 1) := by decide +kernel
set_option maxRecDepth 20000 in
theorem ggX2_needed_X1_hasWall : GoodIn wsX2_needed wsX1_hasWall := goodIn_r _ [6, 7, 58, 59, 60, 61, 62, 63, 64, 65, 66, 67, 68, 69, 70, 71, 72, 73, 74, 75, 76] (by decide +kernel) (by decide +kernel)
set_option maxRecDepth 20000 in
theorem gX2_needed_X1_hasWall : GoodIn wsX2_needed (wsV RX2 84 RX1 yX1_hasWall wsX1_hasWall) := goodIn_app (goodIn_of _ (by decide +kernel)) ggX2_needed_X1_hasWall
set_option maxRecDepth 20000 in
theorem ggX2_needed_X1_leastCut : GoodIn wsX2_needed wsX1_leastCut := goodIn_r _ [11, 12, 13, 14, 15, 5, 16, 17, 18, 19, 20, 21, 22, 23, 24, 25, 26, 27, 28, 29, 30, 31, 32, 33, 34, 35, 36, 37, 38, 39, 40, 41, 42, 43, 44, 45, 7, 46, 47, 48, 49, 50, 51, 52, 53, 54, 55, 58, 59, 60, 61, 62, 63, 64, 65, 66, 67, 68, 69, 70, 71, 72, 73, 74, 75, 76] (by decide +kernel) (by decide +kernel)
set_option maxRecDepth 20000 in
theorem gX2_needed_X1_leastCut : GoodIn wsX2_needed (wsV RX2 87 RX1 yX1_leastCut wsX1_leastCut) := goodIn_app (goodIn_of _ (by decide +kernel)) ggX2_needed_X1_leastCut
theorem dX2_needed_0 : decode cX2_needed 0 = .ok (.aload_n 0, 1) := by decide +kernel
theorem dX2_needed_1 : decode cX2_needed 1 = .ok (.getfield 10, 3) := by decide +kernel
theorem dX2_needed_4 : decode cX2_needed 4 = .ok (.iload_n 1, 1) := by decide +kernel
theorem dX2_needed_5 : decode cX2_needed 5 = .ok (.invokevirtual 84, 3) := by decide +kernel
theorem dX2_needed_8 : decode cX2_needed 8 = .ok (.ifCond .eq 15, 3) := by decide +kernel
theorem dX2_needed_11 : decode cX2_needed 11 = .ok (.aload_n 0, 1) := by decide +kernel
theorem dX2_needed_12 : decode cX2_needed 12 = .ok (.getfield 10, 3) := by decide +kernel
theorem dX2_needed_15 : decode cX2_needed 15 = .ok (.iload_n 1, 1) := by decide +kernel
theorem dX2_needed_16 : decode cX2_needed 16 = .ok (.iload_n 2, 1) := by decide +kernel
theorem dX2_needed_17 : decode cX2_needed 17 = .ok (.invokevirtual 87, 3) := by decide +kernel
theorem dX2_needed_20 : decode cX2_needed 20 = .ok (.goto 4, 3) := by decide +kernel
theorem dX2_needed_23 : decode cX2_needed 23 = .ok (.iconst (-1), 1) := by decide +kernel
theorem dX2_needed_24 : decode cX2_needed 24 = .ok (.ireturn, 1) := by decide +kernel
set_option maxRecDepth 20000 in
theorem ggX2_recut_X1_hasWall : GoodIn wsX2_recut wsX1_hasWall := goodIn_r _ [6, 7, 22, 23, 24, 25, 26, 27, 28, 29, 30, 31, 32, 33, 34, 35, 36, 37, 38, 39, 40] (by decide +kernel) (by decide +kernel)
set_option maxRecDepth 20000 in
theorem gX2_recut_X1_hasWall : GoodIn wsX2_recut (wsV RX2 84 RX1 yX1_hasWall wsX1_hasWall) := goodIn_app (goodIn_of _ (by decide +kernel)) ggX2_recut_X1_hasWall
set_option maxRecDepth 20000 in
theorem ggX2_recut_X2_isCut : GoodIn wsX2_recut wsX2_isCut := goodIn_r _ [11, 12, 13, 10, 14] (by decide +kernel) (by decide +kernel)
set_option maxRecDepth 20000 in
theorem gX2_recut_X2_isCut : GoodIn wsX2_recut (va_wsS RX2 43 yX2_isCut wsX2_isCut) := goodIn_app (goodIn_of _ (by decide +kernel)) ggX2_recut_X2_isCut
set_option maxRecDepth 20000 in
theorem ggX2_recut_X1_changeCut : GoodIn wsX2_recut wsX1_changeCut := goodIn_r _ [18, 19, 22, 23, 24, 25, 26, 27, 28, 29, 30, 31, 32, 33, 34, 35, 36, 37, 38, 39, 40] (by decide +kernel) (by decide +kernel)
set_option maxRecDepth 20000 in
theorem gX2_recut_X1_changeCut : GoodIn wsX2_recut (wsV RX2 90 RX1 yX1_changeCut wsX1_changeCut) := goodIn_app (goodIn_of _ (by decide +kernel)) ggX2_recut_X1_changeCut
theorem dX2_recut_0 : decode cX2_recut 0 = .ok (.aload_n 0, 1) := by decide +kernel
theorem dX2_recut_1 : decode cX2_recut 1 = .ok (.getfield 10, 3) := by decide +kernel
theorem dX2_recut_4 : decode cX2_recut 4 = .ok (.iload_n 1, 1) := by decide +kernel
theorem dX2_recut_5 : decode cX2_recut 5 = .ok (.invokevirtual 84, 3) := by decide +kernel
theorem dX2_recut_8 : decode cX2_recut 8 = .ok (.ifCond .eq 22, 3) := by decide +kernel
theorem dX2_recut_11 : decode cX2_recut 11 = .ok (.iload_n 2, 1) := by decide +kernel
theorem dX2_recut_12 : decode cX2_recut 12 = .ok (.invokestatic 43, 3) := by decide +kernel
theorem dX2_recut_15 : decode cX2_recut 15 = .ok (.ifCond .eq 15, 3) := by decide +kernel
theorem dX2_recut_18 : decode cX2_recut 18 = .ok (.aload_n 0, 1) := by decide +kernel
theorem dX2_recut_19 : decode cX2_recut 19 = .ok (.getfield 10, 3) := by decide +kernel
theorem dX2_recut_22 : decode cX2_recut 22 = .ok (.iload_n 1, 1) := by decide +kernel
theorem dX2_recut_23 : decode cX2_recut 23 = .ok (.iload_n 2, 1) := by decide +kernel
theorem dX2_recut_24 : decode cX2_recut 24 = .ok (.invokevirtual 90, 3) := by decide +kernel
theorem dX2_recut_27 : decode cX2_recut 27 = .ok (.goto 4, 3) := by decide +kernel
theorem dX2_recut_30 : decode cX2_recut 30 = .ok (.iconst (-1), 1) := by decide +kernel
theorem dX2_recut_31 : decode cX2_recut 31 = .ok (.ireturn, 1) := by decide +kernel
set_option maxRecDepth 20000 in
theorem ggX2_lamp_X2_isWithin : GoodIn wsX2_lamp wsX2_isWithin := goodIn_r _ [6] (by decide +kernel) (by decide +kernel)
set_option maxRecDepth 20000 in
theorem gX2_lamp_X2_isWithin : GoodIn wsX2_lamp (va_wsS RX2 35 yX2_isWithin wsX2_isWithin) := goodIn_app (goodIn_of _ (by decide +kernel)) ggX2_lamp_X2_isWithin
set_option maxRecDepth 20000 in
theorem ggX2_lamp_X0_changeLight : GoodIn wsX2_lamp wsX0_changeLight := goodIn_r _ [11, 12, 15, 16, 17, 18] (by decide +kernel) (by decide +kernel)
set_option maxRecDepth 20000 in
theorem gX2_lamp_X0_changeLight : GoodIn wsX2_lamp (wsV RX2 94 RX0 yX0_changeLight wsX0_changeLight) := goodIn_app (goodIn_of _ (by decide +kernel)) ggX2_lamp_X0_changeLight
theorem dX2_lamp_0 : decode cX2_lamp 0 = .ok (.iload_n 1, 1) := by decide +kernel
theorem dX2_lamp_1 : decode cX2_lamp 1 = .ok (.iconst 0, 1) := by decide +kernel
theorem dX2_lamp_2 : decode cX2_lamp 2 = .ok (.sipush 300, 3) := by decide +kernel
theorem dX2_lamp_5 : decode cX2_lamp 5 = .ok (.invokestatic 35, 3) := by decide +kernel
theorem dX2_lamp_8 : decode cX2_lamp 8 = .ok (.ifCond .eq 14, 3) := by decide +kernel
theorem dX2_lamp_11 : decode cX2_lamp 11 = .ok (.iload_n 1, 1) := by decide +kernel
theorem dX2_lamp_12 : decode cX2_lamp 12 = .ok (.bipush 10, 2) := by decide +kernel
theorem dX2_lamp_14 : decode cX2_lamp 14 = .ok (.irem, 1) := by decide +kernel
theorem dX2_lamp_15 : decode cX2_lamp 15 = .ok (.ifCond .ne 7, 3) := by decide +kernel
theorem dX2_lamp_18 : decode cX2_lamp 18 = .ok (.iconst 1, 1) := by decide +kernel
theorem dX2_lamp_19 : decode cX2_lamp 19 = .ok (.goto 4, 3) := by decide +kernel
theorem dX2_lamp_22 : decode cX2_lamp 22 = .ok (.iconst 0, 1) := by decide +kernel
theorem dX2_lamp_23 : decode cX2_lamp 23 = .ok (.istore_n 3, 1) := by decide +kernel
theorem dX2_lamp_24 : decode cX2_lamp 24 = .ok (.iload_n 3, 1) := by decide +kernel
theorem dX2_lamp_25 : decode cX2_lamp 25 = .ok (.ifCond .eq 13, 3) := by decide +kernel
theorem dX2_lamp_28 : decode cX2_lamp 28 = .ok (.iload_n 2, 1) := by decide +kernel
theorem dX2_lamp_29 : decode cX2_lamp 29 = .ok (.iconst 0, 1) := by decide +kernel
theorem dX2_lamp_30 : decode cX2_lamp 30 = .ok (.ldc 93, 2) := by decide +kernel
theorem dX2_lamp_32 : decode cX2_lamp 32 = .ok (.invokestatic 35, 3) := by decide +kernel
theorem dX2_lamp_35 : decode cX2_lamp 35 = .ok (.ifCond .ne 5, 3) := by decide +kernel
theorem dX2_lamp_38 : decode cX2_lamp 38 = .ok (.iconst (-1), 1) := by decide +kernel
theorem dX2_lamp_39 : decode cX2_lamp 39 = .ok (.ireturn, 1) := by decide +kernel
theorem dX2_lamp_40 : decode cX2_lamp 40 = .ok (.aload_n 0, 1) := by decide +kernel
theorem dX2_lamp_41 : decode cX2_lamp 41 = .ok (.getfield 19, 3) := by decide +kernel
theorem dX2_lamp_44 : decode cX2_lamp 44 = .ok (.iload_n 1, 1) := by decide +kernel
theorem dX2_lamp_45 : decode cX2_lamp 45 = .ok (.iload_n 2, 1) := by decide +kernel
theorem dX2_lamp_46 : decode cX2_lamp 46 = .ok (.invokevirtual 94, 3) := by decide +kernel
theorem dX2_lamp_49 : decode cX2_lamp 49 = .ok (.ireturn, 1) := by decide +kernel
set_option maxRecDepth 20000 in
theorem ggX2_shines_X0_lightFrom : GoodIn wsX2_shines wsX0_lightFrom := goodIn_r _ [6, 7, 10, 11, 12, 13] (by decide +kernel) (by decide +kernel)
set_option maxRecDepth 20000 in
theorem gX2_shines_X0_lightFrom : GoodIn wsX2_shines (wsV RX2 97 RX0 yX0_lightFrom wsX0_lightFrom) := goodIn_app (goodIn_of _ (by decide +kernel)) ggX2_shines_X0_lightFrom
theorem dX2_shines_0 : decode cX2_shines 0 = .ok (.iload_n 1, 1) := by decide +kernel
theorem dX2_shines_1 : decode cX2_shines 1 = .ok (.ifCond .lt 14, 3) := by decide +kernel
theorem dX2_shines_4 : decode cX2_shines 4 = .ok (.aload_n 0, 1) := by decide +kernel
theorem dX2_shines_5 : decode cX2_shines 5 = .ok (.getfield 19, 3) := by decide +kernel
theorem dX2_shines_8 : decode cX2_shines 8 = .ok (.iload_n 1, 1) := by decide +kernel
theorem dX2_shines_9 : decode cX2_shines 9 = .ok (.invokevirtual 97, 3) := by decide +kernel
theorem dX2_shines_12 : decode cX2_shines 12 = .ok (.goto 4, 3) := by decide +kernel
theorem dX2_shines_15 : decode cX2_shines 15 = .ok (.iconst (-1), 1) := by decide +kernel
theorem dX2_shines_16 : decode cX2_shines 16 = .ok (.ireturn, 1) := by decide +kernel
set_option maxRecDepth 20000 in
theorem ggX2_road_X2_isWithin : GoodIn wsX2_road wsX2_isWithin := goodIn_r _ [5] (by decide +kernel) (by decide +kernel)
set_option maxRecDepth 20000 in
theorem gX2_road_X2_isWithin : GoodIn wsX2_road (va_wsS RX2 35 yX2_isWithin wsX2_isWithin) := goodIn_app (goodIn_of _ (by decide +kernel)) ggX2_road_X2_isWithin
set_option maxRecDepth 20000 in
theorem ggX2_road_X0_changeLength : GoodIn wsX2_road wsX0_changeLength := goodIn_r _ [10, 11, 14, 15, 16, 17] (by decide +kernel) (by decide +kernel)
set_option maxRecDepth 20000 in
theorem gX2_road_X0_changeLength : GoodIn wsX2_road (wsV RX2 100 RX0 yX0_changeLength wsX0_changeLength) := goodIn_app (goodIn_of _ (by decide +kernel)) ggX2_road_X0_changeLength
theorem dX2_road_0 : decode cX2_road 0 = .ok (.iload_n 1, 1) := by decide +kernel
theorem dX2_road_1 : decode cX2_road 1 = .ok (.iconst 0, 1) := by decide +kernel
theorem dX2_road_2 : decode cX2_road 2 = .ok (.sipush 5000, 3) := by decide +kernel
theorem dX2_road_5 : decode cX2_road 5 = .ok (.invokestatic 35, 3) := by decide +kernel
theorem dX2_road_8 : decode cX2_road 8 = .ok (.ifCond .eq 14, 3) := by decide +kernel
theorem dX2_road_11 : decode cX2_road 11 = .ok (.aload_n 0, 1) := by decide +kernel
theorem dX2_road_12 : decode cX2_road 12 = .ok (.getfield 19, 3) := by decide +kernel
theorem dX2_road_15 : decode cX2_road 15 = .ok (.iload_n 1, 1) := by decide +kernel
theorem dX2_road_16 : decode cX2_road 16 = .ok (.invokevirtual 100, 3) := by decide +kernel
theorem dX2_road_19 : decode cX2_road 19 = .ok (.goto 4, 3) := by decide +kernel
theorem dX2_road_22 : decode cX2_road 22 = .ok (.iconst (-1), 1) := by decide +kernel
theorem dX2_road_23 : decode cX2_road 23 = .ok (.ireturn, 1) := by decide +kernel
set_option maxRecDepth 20000 in
theorem ggX2_dim_X2_isHour : GoodIn wsX2_dim wsX2_isHour := goodIn_r _ [5, 6, 7, 4, 8] (by decide +kernel) (by decide +kernel)
set_option maxRecDepth 20000 in
theorem gX2_dim_X2_isHour : GoodIn wsX2_dim (va_wsS RX2 103 yX2_isHour wsX2_isHour) := goodIn_app (goodIn_of _ (by decide +kernel)) ggX2_dim_X2_isHour
set_option maxRecDepth 20000 in
theorem ggX2_dim_X2_isWithin : GoodIn wsX2_dim wsX2_isWithin := goodIn_r _ [8] (by decide +kernel) (by decide +kernel)
set_option maxRecDepth 20000 in
theorem gX2_dim_X2_isWithin : GoodIn wsX2_dim (va_wsS RX2 35 yX2_isWithin wsX2_isWithin) := goodIn_app (goodIn_of _ (by decide +kernel)) ggX2_dim_X2_isWithin
set_option maxRecDepth 20000 in
theorem ggX2_dim_X0_changePercent : GoodIn wsX2_dim wsX0_changePercent := goodIn_r _ [13, 14, 17, 18, 19, 20] (by decide +kernel) (by decide +kernel)
set_option maxRecDepth 20000 in
theorem gX2_dim_X0_changePercent : GoodIn wsX2_dim (wsV RX2 106 RX0 yX0_changePercent wsX0_changePercent) := goodIn_app (goodIn_of _ (by decide +kernel)) ggX2_dim_X0_changePercent
theorem dX2_dim_0 : decode cX2_dim 0 = .ok (.iload_n 1, 1) := by decide +kernel
theorem dX2_dim_1 : decode cX2_dim 1 = .ok (.invokestatic 103, 3) := by decide +kernel
theorem dX2_dim_4 : decode cX2_dim 4 = .ok (.ifCond .eq 13, 3) := by decide +kernel
theorem dX2_dim_7 : decode cX2_dim 7 = .ok (.iload_n 2, 1) := by decide +kernel
theorem dX2_dim_8 : decode cX2_dim 8 = .ok (.iconst 0, 1) := by decide +kernel
theorem dX2_dim_9 : decode cX2_dim 9 = .ok (.bipush 100, 2) := by decide +kernel
theorem dX2_dim_11 : decode cX2_dim 11 = .ok (.invokestatic 35, 3) := by decide +kernel
theorem dX2_dim_14 : decode cX2_dim 14 = .ok (.ifCond .ne 5, 3) := by decide +kernel
theorem dX2_dim_17 : decode cX2_dim 17 = .ok (.iconst (-1), 1) := by decide +kernel
theorem dX2_dim_18 : decode cX2_dim 18 = .ok (.ireturn, 1) := by decide +kernel
theorem dX2_dim_19 : decode cX2_dim 19 = .ok (.aload_n 0, 1) := by decide +kernel
theorem dX2_dim_20 : decode cX2_dim 20 = .ok (.getfield 19, 3) := by decide +kernel
theorem dX2_dim_23 : decode cX2_dim 23 = .ok (.iload_n 1, 1) := by decide +kernel
theorem dX2_dim_24 : decode cX2_dim 24 = .ok (.iload_n 2, 1) := by decide +kernel
theorem dX2_dim_25 : decode cX2_dim 25 = .ok (.invokevirtual 106, 3) := by decide +kernel
theorem dX2_dim_28 : decode cX2_dim 28 = .ok (.ireturn, 1) := by decide +kernel
set_option maxRecDepth 20000 in
theorem ggX2_at_X0_roadLength : GoodIn wsX2_at wsX0_roadLength := goodIn_r _ [6, 7, 47, 48, 49, 50] (by decide +kernel) (by decide +kernel)
set_option maxRecDepth 20000 in
theorem gX2_at_X0_roadLength : GoodIn wsX2_at (wsV RX2 109 RX0 yX0_roadLength wsX0_roadLength) := goodIn_app (goodIn_of _ (by decide +kernel)) ggX2_at_X0_roadLength
set_option maxRecDepth 20000 in
theorem ggX2_at_X2_isWithin : GoodIn wsX2_at wsX2_isWithin := goodIn_r _ [11] (by decide +kernel) (by decide +kernel)
set_option maxRecDepth 20000 in
theorem gX2_at_X2_isWithin : GoodIn wsX2_at (va_wsS RX2 35 yX2_isWithin wsX2_isWithin) := goodIn_app (goodIn_of _ (by decide +kernel)) ggX2_at_X2_isWithin
set_option maxRecDepth 20000 in
theorem ggX2_at_X2_isSpacing : GoodIn wsX2_at wsX2_isSpacing := goodIn_r _ [14, 8, 9, 10, 11] (by decide +kernel) (by decide +kernel)
set_option maxRecDepth 20000 in
theorem gX2_at_X2_isSpacing : GoodIn wsX2_at (va_wsS RX2 113 yX2_isSpacing wsX2_isSpacing) := goodIn_app (goodIn_of _ (by decide +kernel)) ggX2_at_X2_isSpacing
set_option maxRecDepth 20000 in
theorem ggX2_at_X2_isHour : GoodIn wsX2_at wsX2_isHour := goodIn_r _ [17, 8, 9, 10, 11] (by decide +kernel) (by decide +kernel)
set_option maxRecDepth 20000 in
theorem gX2_at_X2_isHour : GoodIn wsX2_at (va_wsS RX2 103 yX2_isHour wsX2_isHour) := goodIn_app (goodIn_of _ (by decide +kernel)) ggX2_at_X2_isHour
set_option maxRecDepth 20000 in
theorem ggX2_at_X0_dimmedLight : GoodIn wsX2_at wsX0_dimmedLight := goodIn_r _ [21, 22, 23, 24, 25, 5, 26, 7, 27, 28, 29, 30, 31, 32, 33, 34, 35, 36, 37, 38, 39, 40, 41, 42, 43, 44, 47, 48, 49, 50] (by decide +kernel) (by decide +kernel)
set_option maxRecDepth 20000 in
theorem gX2_at_X0_dimmedLight : GoodIn wsX2_at (wsV RX2 116 RX0 yX0_dimmedLight wsX0_dimmedLight) := goodIn_app (goodIn_of _ (by decide +kernel)) ggX2_at_X0_dimmedLight
theorem dX2_at_0 : decode cX2_at 0 = .ok (.iload_n 1, 1) := by decide +kernel
theorem dX2_at_1 : decode cX2_at 1 = .ok (.iconst 0, 1) := by decide +kernel
theorem dX2_at_2 : decode cX2_at 2 = .ok (.aload_n 0, 1) := by decide +kernel
theorem dX2_at_3 : decode cX2_at 3 = .ok (.getfield 19, 3) := by decide +kernel
theorem dX2_at_6 : decode cX2_at 6 = .ok (.invokevirtual 109, 3) := by decide +kernel
theorem dX2_at_9 : decode cX2_at 9 = .ok (.invokestatic 35, 3) := by decide +kernel
theorem dX2_at_12 : decode cX2_at 12 = .ok (.ifCond .eq 17, 3) := by decide +kernel
theorem dX2_at_15 : decode cX2_at 15 = .ok (.iload_n 2, 1) := by decide +kernel
theorem dX2_at_16 : decode cX2_at 16 = .ok (.invokestatic 113, 3) := by decide +kernel
theorem dX2_at_19 : decode cX2_at 19 = .ok (.ifCond .eq 10, 3) := by decide +kernel
theorem dX2_at_22 : decode cX2_at 22 = .ok (.iload_n 3, 1) := by decide +kernel
theorem dX2_at_23 : decode cX2_at 23 = .ok (.invokestatic 103, 3) := by decide +kernel
theorem dX2_at_26 : decode cX2_at 26 = .ok (.ifCond .ne 5, 3) := by decide +kernel
theorem dX2_at_29 : decode cX2_at 29 = .ok (.iconst (-1), 1) := by decide +kernel
theorem dX2_at_30 : decode cX2_at 30 = .ok (.ireturn, 1) := by decide +kernel
theorem dX2_at_31 : decode cX2_at 31 = .ok (.aload_n 0, 1) := by decide +kernel
theorem dX2_at_32 : decode cX2_at 32 = .ok (.getfield 19, 3) := by decide +kernel
theorem dX2_at_35 : decode cX2_at 35 = .ok (.iload_n 1, 1) := by decide +kernel
theorem dX2_at_36 : decode cX2_at 36 = .ok (.iload_n 2, 1) := by decide +kernel
theorem dX2_at_37 : decode cX2_at 37 = .ok (.iload_n 3, 1) := by decide +kernel
theorem dX2_at_38 : decode cX2_at 38 = .ok (.invokevirtual 116, 3) := by decide +kernel
theorem dX2_at_41 : decode cX2_at 41 = .ok (.ireturn, 1) := by decide +kernel
set_option maxRecDepth 20000 in
theorem ggX2_row_X2_isSpacing : GoodIn wsX2_row wsX2_isSpacing := goodIn_r _ [5, 6, 7, 4, 8] (by decide +kernel) (by decide +kernel)
set_option maxRecDepth 20000 in
theorem gX2_row_X2_isSpacing : GoodIn wsX2_row (va_wsS RX2 113 yX2_isSpacing wsX2_isSpacing) := goodIn_app (goodIn_of _ (by decide +kernel)) ggX2_row_X2_isSpacing
set_option maxRecDepth 20000 in
theorem ggX2_row_X0_leastLight : GoodIn wsX2_row wsX0_leastLight := goodIn_r _ [13, 14, 15, 16, 12, 17, 18, 19, 20, 21, 22, 23, 24, 25, 26, 27, 28, 29, 30, 31, 32, 33, 34, 35, 36, 37, 38, 39, 40, 41, 42, 43, 44, 45, 46, 73, 74, 75, 76] (by decide +kernel) (by decide +kernel)
set_option maxRecDepth 20000 in
theorem gX2_row_X0_leastLight : GoodIn wsX2_row (wsV RX2 119 RX0 yX0_leastLight wsX0_leastLight) := goodIn_app (goodIn_of _ (by decide +kernel)) ggX2_row_X0_leastLight
set_option maxRecDepth 20000 in
theorem ggX2_row_X0_meanLight : GoodIn wsX2_row wsX0_meanLight := goodIn_r _ [50, 14, 15, 16, 12, 17, 18, 19, 20, 21, 22, 23, 24, 25, 26, 27, 28, 29, 30, 31, 32, 33, 34, 35, 36, 37, 38, 39, 40, 41, 42, 51, 52, 53, 54, 55, 56, 57, 73, 74, 75, 76] (by decide +kernel) (by decide +kernel)
set_option maxRecDepth 20000 in
theorem gX2_row_X0_meanLight : GoodIn wsX2_row (wsV RX2 122 RX0 yX0_meanLight wsX0_meanLight) := goodIn_app (goodIn_of _ (by decide +kernel)) ggX2_row_X0_meanLight
set_option maxRecDepth 20000 in
theorem ggX2_row_X0_evenness : GoodIn wsX2_row wsX0_evenness := goodIn_r _ [61, 14, 15, 16, 12, 17, 18, 19, 20, 21, 22, 23, 24, 25, 26, 27, 28, 29, 30, 31, 32, 33, 34, 35, 36, 37, 38, 39, 40, 41, 42, 62, 63, 64, 65, 66, 51, 52, 53, 54, 55, 56, 57, 43, 44, 45, 46, 73, 74, 75, 76] (by decide +kernel) (by decide +kernel)
set_option maxRecDepth 20000 in
theorem gX2_row_X0_evenness : GoodIn wsX2_row (wsV RX2 125 RX0 yX0_evenness wsX0_evenness) := goodIn_app (goodIn_of _ (by decide +kernel)) ggX2_row_X0_evenness
set_option maxRecDepth 20000 in
theorem ggX2_row_X0_poles : GoodIn wsX2_row wsX0_poles := goodIn_r _ [70, 23, 73, 74, 75, 76] (by decide +kernel) (by decide +kernel)
set_option maxRecDepth 20000 in
theorem gX2_row_X0_poles : GoodIn wsX2_row (wsV RX2 128 RX0 yX0_poles wsX0_poles) := goodIn_app (goodIn_of _ (by decide +kernel)) ggX2_row_X0_poles
theorem dX2_row_0 : decode cX2_row 0 = .ok (.iload_n 1, 1) := by decide +kernel
theorem dX2_row_1 : decode cX2_row 1 = .ok (.invokestatic 113, 3) := by decide +kernel
theorem dX2_row_4 : decode cX2_row 4 = .ok (.ifCond .ne 5, 3) := by decide +kernel
theorem dX2_row_7 : decode cX2_row 7 = .ok (.iconst (-1), 1) := by decide +kernel
theorem dX2_row_8 : decode cX2_row 8 = .ok (.ireturn, 1) := by decide +kernel
theorem dX2_row_9 : decode cX2_row 9 = .ok (.iload_n 2, 1) := by decide +kernel
theorem dX2_row_10 : decode cX2_row 10 = .ok (.tableswitch 66 0 3 #[30, 39, 48, 57], 30) := by decide +kernel
theorem dX2_row_40 : decode cX2_row 40 = .ok (.aload_n 0, 1) := by decide +kernel
theorem dX2_row_41 : decode cX2_row 41 = .ok (.getfield 19, 3) := by decide +kernel
theorem dX2_row_44 : decode cX2_row 44 = .ok (.iload_n 1, 1) := by decide +kernel
theorem dX2_row_45 : decode cX2_row 45 = .ok (.invokevirtual 119, 3) := by decide +kernel
theorem dX2_row_48 : decode cX2_row 48 = .ok (.ireturn, 1) := by decide +kernel
theorem dX2_row_49 : decode cX2_row 49 = .ok (.aload_n 0, 1) := by decide +kernel
theorem dX2_row_50 : decode cX2_row 50 = .ok (.getfield 19, 3) := by decide +kernel
theorem dX2_row_53 : decode cX2_row 53 = .ok (.iload_n 1, 1) := by decide +kernel
theorem dX2_row_54 : decode cX2_row 54 = .ok (.invokevirtual 122, 3) := by decide +kernel
theorem dX2_row_57 : decode cX2_row 57 = .ok (.ireturn, 1) := by decide +kernel
theorem dX2_row_58 : decode cX2_row 58 = .ok (.aload_n 0, 1) := by decide +kernel
theorem dX2_row_59 : decode cX2_row 59 = .ok (.getfield 19, 3) := by decide +kernel
theorem dX2_row_62 : decode cX2_row 62 = .ok (.iload_n 1, 1) := by decide +kernel
theorem dX2_row_63 : decode cX2_row 63 = .ok (.invokevirtual 125, 3) := by decide +kernel
theorem dX2_row_66 : decode cX2_row 66 = .ok (.ireturn, 1) := by decide +kernel
theorem dX2_row_67 : decode cX2_row 67 = .ok (.aload_n 0, 1) := by decide +kernel
theorem dX2_row_68 : decode cX2_row 68 = .ok (.getfield 19, 3) := by decide +kernel
theorem dX2_row_71 : decode cX2_row 71 = .ok (.iload_n 1, 1) := by decide +kernel
theorem dX2_row_72 : decode cX2_row 72 = .ok (.invokevirtual 128, 3) := by decide +kernel
theorem dX2_row_75 : decode cX2_row 75 = .ok (.ireturn, 1) := by decide +kernel
theorem dX2_row_76 : decode cX2_row 76 = .ok (.iconst (-1), 1) := by decide +kernel
theorem dX2_row_77 : decode cX2_row 77 = .ok (.ireturn, 1) := by decide +kernel
set_option maxRecDepth 20000 in
theorem ggX2_spacing_X0_widestGoodSpacing : GoodIn wsX2_spacing wsX0_widestGoodSpacing := goodIn_r _ [6, 7, 8, 9, 5, 10, 11, 12, 13, 14, 15, 16, 17, 18, 19, 20, 21, 22, 23, 24, 25, 26, 27, 28, 29, 30, 31, 32, 33, 34, 35, 36, 37, 38, 39, 40, 41, 42, 43, 44, 45, 46, 47, 48, 49, 50, 51, 54, 55, 56, 57] (by decide +kernel) (by decide +kernel)
set_option maxRecDepth 20000 in
theorem gX2_spacing_X0_widestGoodSpacing : GoodIn wsX2_spacing (wsV RX2 131 RX0 yX0_widestGoodSpacing wsX0_widestGoodSpacing) := goodIn_app (goodIn_of _ (by decide +kernel)) ggX2_spacing_X0_widestGoodSpacing
theorem dX2_spacing_0 : decode cX2_spacing 0 = .ok (.aload_n 0, 1) := by decide +kernel
theorem dX2_spacing_1 : decode cX2_spacing 1 = .ok (.getfield 19, 3) := by decide +kernel
theorem dX2_spacing_4 : decode cX2_spacing 4 = .ok (.iload_n 1, 1) := by decide +kernel
theorem dX2_spacing_5 : decode cX2_spacing 5 = .ok (.iload_n 2, 1) := by decide +kernel
theorem dX2_spacing_6 : decode cX2_spacing 6 = .ok (.invokevirtual 131, 3) := by decide +kernel
theorem dX2_spacing_9 : decode cX2_spacing 9 = .ok (.ireturn, 1) := by decide +kernel
set_option maxRecDepth 20000 in
theorem ggX2_dark_X2_isSpacing : GoodIn wsX2_dark wsX2_isSpacing := goodIn_r _ [5, 6, 7, 4, 8] (by decide +kernel) (by decide +kernel)
set_option maxRecDepth 20000 in
theorem gX2_dark_X2_isSpacing : GoodIn wsX2_dark (va_wsS RX2 113 yX2_isSpacing wsX2_isSpacing) := goodIn_app (goodIn_of _ (by decide +kernel)) ggX2_dark_X2_isSpacing
set_option maxRecDepth 20000 in
theorem ggX2_dark_X0_hoursBelow : GoodIn wsX2_dark wsX0_hoursBelow := goodIn_r _ [13, 14, 15, 16, 17, 12, 18, 19, 20, 21, 22, 23, 24, 25, 26, 27, 28, 29, 30, 31, 32, 33, 34, 35, 36, 37, 38, 39, 40, 41, 42, 43, 44, 45, 46, 47, 48, 49, 50, 53, 54, 55, 56] (by decide +kernel) (by decide +kernel)
set_option maxRecDepth 20000 in
theorem gX2_dark_X0_hoursBelow : GoodIn wsX2_dark (wsV RX2 134 RX0 yX0_hoursBelow wsX0_hoursBelow) := goodIn_app (goodIn_of _ (by decide +kernel)) ggX2_dark_X0_hoursBelow
theorem dX2_dark_0 : decode cX2_dark 0 = .ok (.iload_n 1, 1) := by decide +kernel
theorem dX2_dark_1 : decode cX2_dark 1 = .ok (.invokestatic 113, 3) := by decide +kernel
theorem dX2_dark_4 : decode cX2_dark 4 = .ok (.ifCond .eq 15, 3) := by decide +kernel
theorem dX2_dark_7 : decode cX2_dark 7 = .ok (.aload_n 0, 1) := by decide +kernel
theorem dX2_dark_8 : decode cX2_dark 8 = .ok (.getfield 19, 3) := by decide +kernel
theorem dX2_dark_11 : decode cX2_dark 11 = .ok (.iload_n 1, 1) := by decide +kernel
theorem dX2_dark_12 : decode cX2_dark 12 = .ok (.iload_n 2, 1) := by decide +kernel
theorem dX2_dark_13 : decode cX2_dark 13 = .ok (.invokevirtual 134, 3) := by decide +kernel
theorem dX2_dark_16 : decode cX2_dark 16 = .ok (.goto 4, 3) := by decide +kernel
theorem dX2_dark_19 : decode cX2_dark 19 = .ok (.iconst (-1), 1) := by decide +kernel
theorem dX2_dark_20 : decode cX2_dark 20 = .ok (.ireturn, 1) := by decide +kernel
set_option maxRecDepth 20000 in
theorem ggX2_drop_X2_isSpacing : GoodIn wsX2_drop wsX2_isSpacing := goodIn_r _ [5, 6, 7, 4, 8] (by decide +kernel) (by decide +kernel)
set_option maxRecDepth 20000 in
theorem gX2_drop_X2_isSpacing : GoodIn wsX2_drop (va_wsS RX2 113 yX2_isSpacing wsX2_isSpacing) := goodIn_app (goodIn_of _ (by decide +kernel)) ggX2_drop_X2_isSpacing
set_option maxRecDepth 20000 in
theorem ggX2_drop_X2_isWire : GoodIn wsX2_drop wsX2_isWire := goodIn_r _ [11, 6, 7, 4, 8] (by decide +kernel) (by decide +kernel)
set_option maxRecDepth 20000 in
theorem gX2_drop_X2_isWire : GoodIn wsX2_drop (va_wsS RX2 137 yX2_isWire wsX2_isWire) := goodIn_app (goodIn_of _ (by decide +kernel)) ggX2_drop_X2_isWire
set_option maxRecDepth 20000 in
theorem ggX2_drop_X0_millivolts : GoodIn wsX2_drop wsX0_millivolts := goodIn_r _ [16, 17, 18, 19, 20, 21, 15, 22, 23, 26, 27, 28, 29] (by decide +kernel) (by decide +kernel)
set_option maxRecDepth 20000 in
theorem gX2_drop_X0_millivolts : GoodIn wsX2_drop (wsV RX2 140 RX0 yX0_millivolts wsX0_millivolts) := goodIn_app (goodIn_of _ (by decide +kernel)) ggX2_drop_X0_millivolts
theorem dX2_drop_0 : decode cX2_drop 0 = .ok (.iload_n 1, 1) := by decide +kernel
theorem dX2_drop_1 : decode cX2_drop 1 = .ok (.invokestatic 113, 3) := by decide +kernel
theorem dX2_drop_4 : decode cX2_drop 4 = .ok (.ifCond .eq 11, 3) := by decide +kernel
theorem dX2_drop_7 : decode cX2_drop 7 = .ok (.iload_n 2, 1) := by decide +kernel
theorem dX2_drop_8 : decode cX2_drop 8 = .ok (.iload_n 3, 1) := by decide +kernel
theorem dX2_drop_9 : decode cX2_drop 9 = .ok (.invokestatic 137, 3) := by decide +kernel
theorem dX2_drop_12 : decode cX2_drop 12 = .ok (.ifCond .ne 5, 3) := by decide +kernel
theorem dX2_drop_15 : decode cX2_drop 15 = .ok (.iconst (-1), 1) := by decide +kernel
theorem dX2_drop_16 : decode cX2_drop 16 = .ok (.ireturn, 1) := by decide +kernel
theorem dX2_drop_17 : decode cX2_drop 17 = .ok (.aload_n 0, 1) := by decide +kernel
theorem dX2_drop_18 : decode cX2_drop 18 = .ok (.getfield 19, 3) := by decide +kernel
theorem dX2_drop_21 : decode cX2_drop 21 = .ok (.iload_n 1, 1) := by decide +kernel
theorem dX2_drop_22 : decode cX2_drop 22 = .ok (.iload_n 2, 1) := by decide +kernel
theorem dX2_drop_23 : decode cX2_drop 23 = .ok (.iload_n 3, 1) := by decide +kernel
theorem dX2_drop_24 : decode cX2_drop 24 = .ok (.invokevirtual 140, 3) := by decide +kernel
theorem dX2_drop_27 : decode cX2_drop 27 = .ok (.ireturn, 1) := by decide +kernel
set_option maxRecDepth 20000 in
theorem ggX2_wired_X2_isWire : GoodIn wsX2_wired wsX2_isWire := goodIn_r _ [5, 6, 7, 4, 8] (by decide +kernel) (by decide +kernel)
set_option maxRecDepth 20000 in
theorem gX2_wired_X2_isWire : GoodIn wsX2_wired (va_wsS RX2 137 yX2_isWire wsX2_isWire) := goodIn_app (goodIn_of _ (by decide +kernel)) ggX2_wired_X2_isWire
set_option maxRecDepth 20000 in
theorem ggX2_wired_X0_widestWiredSpacing : GoodIn wsX2_wired wsX0_widestWiredSpacing := goodIn_r _ [13, 14, 15, 16, 12, 17, 18, 19, 20, 21, 22, 23, 24, 27, 28, 29, 30] (by decide +kernel) (by decide +kernel)
set_option maxRecDepth 20000 in
theorem gX2_wired_X0_widestWiredSpacing : GoodIn wsX2_wired (wsV RX2 143 RX0 yX0_widestWiredSpacing wsX0_widestWiredSpacing) := goodIn_app (goodIn_of _ (by decide +kernel)) ggX2_wired_X0_widestWiredSpacing
theorem dX2_wired_0 : decode cX2_wired 0 = .ok (.iload_n 1, 1) := by decide +kernel
theorem dX2_wired_1 : decode cX2_wired 1 = .ok (.iload_n 2, 1) := by decide +kernel
theorem dX2_wired_2 : decode cX2_wired 2 = .ok (.invokestatic 137, 3) := by decide +kernel
theorem dX2_wired_5 : decode cX2_wired 5 = .ok (.ifCond .eq 16, 3) := by decide +kernel
theorem dX2_wired_8 : decode cX2_wired 8 = .ok (.aload_n 0, 1) := by decide +kernel
theorem dX2_wired_9 : decode cX2_wired 9 = .ok (.getfield 19, 3) := by decide +kernel
theorem dX2_wired_12 : decode cX2_wired 12 = .ok (.iload_n 1, 1) := by decide +kernel
theorem dX2_wired_13 : decode cX2_wired 13 = .ok (.iload_n 2, 1) := by decide +kernel
theorem dX2_wired_14 : decode cX2_wired 14 = .ok (.iload_n 3, 1) := by decide +kernel
theorem dX2_wired_15 : decode cX2_wired 15 = .ok (.invokevirtual 143, 3) := by decide +kernel
theorem dX2_wired_18 : decode cX2_wired 18 = .ok (.goto 4, 3) := by decide +kernel
theorem dX2_wired_21 : decode cX2_wired 21 = .ok (.iconst (-1), 1) := by decide +kernel
theorem dX2_wired_22 : decode cX2_wired 22 = .ok (.ireturn, 1) := by decide +kernel
set_option maxRecDepth 20000 in
theorem ggX2_count_X1_pieceCount : GoodIn wsX2_count wsX1_pieceCount := goodIn_r _ [7, 8, 37, 38, 39, 40, 41, 42, 43, 44, 45, 46, 47, 48, 49, 50, 51, 52, 53, 54, 55] (by decide +kernel) (by decide +kernel)
set_option maxRecDepth 20000 in
theorem gX2_count_X1_pieceCount : GoodIn wsX2_count (wsV RX2 146 RX1 yX1_pieceCount wsX1_pieceCount) := goodIn_app (goodIn_of _ (by decide +kernel)) ggX2_count_X1_pieceCount
set_option maxRecDepth 20000 in
theorem ggX2_count_X1_houseCount : GoodIn wsX2_count wsX1_houseCount := goodIn_r _ [12, 13, 37, 38, 39, 40, 41, 42, 43, 44, 45, 46, 47, 48, 49, 50, 51, 52, 53, 54, 55] (by decide +kernel) (by decide +kernel)
set_option maxRecDepth 20000 in
theorem gX2_count_X1_houseCount : GoodIn wsX2_count (wsV RX2 149 RX1 yX1_houseCount wsX1_houseCount) := goodIn_app (goodIn_of _ (by decide +kernel)) ggX2_count_X1_houseCount
set_option maxRecDepth 20000 in
theorem ggX2_count_X1_wallCount : GoodIn wsX2_count wsX1_wallCount := goodIn_r _ [17, 18, 37, 38, 39, 40, 41, 42, 43, 44, 45, 46, 47, 48, 49, 50, 51, 52, 53, 54, 55] (by decide +kernel) (by decide +kernel)
set_option maxRecDepth 20000 in
theorem gX2_count_X1_wallCount : GoodIn wsX2_count (wsV RX2 152 RX1 yX1_wallCount wsX1_wallCount) := goodIn_app (goodIn_of _ (by decide +kernel)) ggX2_count_X1_wallCount
set_option maxRecDepth 20000 in
theorem ggX2_count_X1_allPeople : GoodIn wsX2_count wsX1_allPeople := goodIn_r _ [22, 13, 23, 37, 38, 39, 40, 41, 42, 43, 44, 45, 46, 47, 48, 49, 50, 51, 52, 53, 54, 55] (by decide +kernel) (by decide +kernel)
set_option maxRecDepth 20000 in
theorem gX2_count_X1_allPeople : GoodIn wsX2_count (wsV RX2 155 RX1 yX1_allPeople wsX1_allPeople) := goodIn_app (goodIn_of _ (by decide +kernel)) ggX2_count_X1_allPeople
set_option maxRecDepth 20000 in
theorem ggX2_count_X0_litDistances : GoodIn wsX2_count wsX0_litDistances := goodIn_r _ [28, 29, 56, 57, 58, 59] (by decide +kernel) (by decide +kernel)
set_option maxRecDepth 20000 in
theorem gX2_count_X0_litDistances : GoodIn wsX2_count (wsV RX2 158 RX0 yX0_litDistances wsX0_litDistances) := goodIn_app (goodIn_of _ (by decide +kernel)) ggX2_count_X0_litDistances
set_option maxRecDepth 20000 in
theorem ggX2_count_X0_roadLength : GoodIn wsX2_count wsX0_roadLength := goodIn_r _ [33, 34, 56, 57, 58, 59] (by decide +kernel) (by decide +kernel)
set_option maxRecDepth 20000 in
theorem gX2_count_X0_roadLength : GoodIn wsX2_count (wsV RX2 109 RX0 yX0_roadLength wsX0_roadLength) := goodIn_app (goodIn_of _ (by decide +kernel)) ggX2_count_X0_roadLength
theorem dX2_count_0 : decode cX2_count 0 = .ok (.iload_n 1, 1) := by decide +kernel
theorem dX2_count_1 : decode cX2_count 1 = .ok (.tableswitch 87 0 5 #[39, 47, 55, 63, 71, 79], 39) := by decide +kernel
theorem dX2_count_40 : decode cX2_count 40 = .ok (.aload_n 0, 1) := by decide +kernel
theorem dX2_count_41 : decode cX2_count 41 = .ok (.getfield 10, 3) := by decide +kernel
theorem dX2_count_44 : decode cX2_count 44 = .ok (.invokevirtual 146, 3) := by decide +kernel
theorem dX2_count_47 : decode cX2_count 47 = .ok (.ireturn, 1) := by decide +kernel
theorem dX2_count_48 : decode cX2_count 48 = .ok (.aload_n 0, 1) := by decide +kernel
theorem dX2_count_49 : decode cX2_count 49 = .ok (.getfield 10, 3) := by decide +kernel
theorem dX2_count_52 : decode cX2_count 52 = .ok (.invokevirtual 149, 3) := by decide +kernel
theorem dX2_count_55 : decode cX2_count 55 = .ok (.ireturn, 1) := by decide +kernel
theorem dX2_count_56 : decode cX2_count 56 = .ok (.aload_n 0, 1) := by decide +kernel
theorem dX2_count_57 : decode cX2_count 57 = .ok (.getfield 10, 3) := by decide +kernel
theorem dX2_count_60 : decode cX2_count 60 = .ok (.invokevirtual 152, 3) := by decide +kernel
theorem dX2_count_63 : decode cX2_count 63 = .ok (.ireturn, 1) := by decide +kernel
theorem dX2_count_64 : decode cX2_count 64 = .ok (.aload_n 0, 1) := by decide +kernel
theorem dX2_count_65 : decode cX2_count 65 = .ok (.getfield 10, 3) := by decide +kernel
theorem dX2_count_68 : decode cX2_count 68 = .ok (.invokevirtual 155, 3) := by decide +kernel
theorem dX2_count_71 : decode cX2_count 71 = .ok (.ireturn, 1) := by decide +kernel
theorem dX2_count_72 : decode cX2_count 72 = .ok (.aload_n 0, 1) := by decide +kernel
theorem dX2_count_73 : decode cX2_count 73 = .ok (.getfield 19, 3) := by decide +kernel
theorem dX2_count_76 : decode cX2_count 76 = .ok (.invokevirtual 158, 3) := by decide +kernel
theorem dX2_count_79 : decode cX2_count 79 = .ok (.ireturn, 1) := by decide +kernel
theorem dX2_count_80 : decode cX2_count 80 = .ok (.aload_n 0, 1) := by decide +kernel
theorem dX2_count_81 : decode cX2_count 81 = .ok (.getfield 19, 3) := by decide +kernel
theorem dX2_count_84 : decode cX2_count 84 = .ok (.invokevirtual 109, 3) := by decide +kernel
theorem dX2_count_87 : decode cX2_count 87 = .ok (.ireturn, 1) := by decide +kernel
theorem dX2_count_88 : decode cX2_count 88 = .ok (.iconst (-1), 1) := by decide +kernel
theorem dX2_count_89 : decode cX2_count 89 = .ok (.ireturn, 1) := by decide +kernel
theorem dX2_isWithin_0 : decode cX2_isWithin 0 = .ok (.iload_n 0, 1) := by decide +kernel
theorem dX2_isWithin_1 : decode cX2_isWithin 1 = .ok (.iload_n 1, 1) := by decide +kernel
theorem dX2_isWithin_2 : decode cX2_isWithin 2 = .ok (.if_icmp .lt 12, 3) := by decide +kernel
theorem dX2_isWithin_5 : decode cX2_isWithin 5 = .ok (.iload_n 0, 1) := by decide +kernel
theorem dX2_isWithin_6 : decode cX2_isWithin 6 = .ok (.iload_n 2, 1) := by decide +kernel
theorem dX2_isWithin_7 : decode cX2_isWithin 7 = .ok (.if_icmp .gt 7, 3) := by decide +kernel
theorem dX2_isWithin_10 : decode cX2_isWithin 10 = .ok (.iconst 1, 1) := by decide +kernel
theorem dX2_isWithin_11 : decode cX2_isWithin 11 = .ok (.goto 4, 3) := by decide +kernel
theorem dX2_isWithin_14 : decode cX2_isWithin 14 = .ok (.iconst 0, 1) := by decide +kernel
theorem dX2_isWithin_15 : decode cX2_isWithin 15 = .ok (.ireturn, 1) := by decide +kernel
set_option maxRecDepth 20000 in
theorem ggX2_isPoint_X2_isWithin : GoodIn wsX2_isPoint wsX2_isWithin := goodIn_r _ [4] (by decide +kernel) (by decide +kernel)
set_option maxRecDepth 20000 in
theorem gX2_isPoint_X2_isWithin : GoodIn wsX2_isPoint (va_wsS RX2 35 yX2_isWithin wsX2_isWithin) := goodIn_app (goodIn_of _ (by decide +kernel)) ggX2_isPoint_X2_isWithin
theorem dX2_isPoint_0 : decode cX2_isPoint 0 = .ok (.iload_n 0, 1) := by decide +kernel
theorem dX2_isPoint_1 : decode cX2_isPoint 1 = .ok (.sipush (-5000), 3) := by decide +kernel
theorem dX2_isPoint_4 : decode cX2_isPoint 4 = .ok (.sipush 5000, 3) := by decide +kernel
theorem dX2_isPoint_7 : decode cX2_isPoint 7 = .ok (.invokestatic 35, 3) := by decide +kernel
theorem dX2_isPoint_10 : decode cX2_isPoint 10 = .ok (.ifCond .eq 20, 3) := by decide +kernel
theorem dX2_isPoint_13 : decode cX2_isPoint 13 = .ok (.iload_n 1, 1) := by decide +kernel
theorem dX2_isPoint_14 : decode cX2_isPoint 14 = .ok (.sipush (-5000), 3) := by decide +kernel
theorem dX2_isPoint_17 : decode cX2_isPoint 17 = .ok (.sipush 5000, 3) := by decide +kernel
theorem dX2_isPoint_20 : decode cX2_isPoint 20 = .ok (.invokestatic 35, 3) := by decide +kernel
theorem dX2_isPoint_23 : decode cX2_isPoint 23 = .ok (.ifCond .eq 7, 3) := by decide +kernel
theorem dX2_isPoint_26 : decode cX2_isPoint 26 = .ok (.iconst 1, 1) := by decide +kernel
theorem dX2_isPoint_27 : decode cX2_isPoint 27 = .ok (.goto 4, 3) := by decide +kernel
theorem dX2_isPoint_30 : decode cX2_isPoint 30 = .ok (.iconst 0, 1) := by decide +kernel
theorem dX2_isPoint_31 : decode cX2_isPoint 31 = .ok (.ireturn, 1) := by decide +kernel
set_option maxRecDepth 20000 in
theorem ggX2_isLevel_X2_isWithin : GoodIn wsX2_isLevel wsX2_isWithin := goodIn_r _ [4] (by decide +kernel) (by decide +kernel)
set_option maxRecDepth 20000 in
theorem gX2_isLevel_X2_isWithin : GoodIn wsX2_isLevel (va_wsS RX2 35 yX2_isWithin wsX2_isWithin) := goodIn_app (goodIn_of _ (by decide +kernel)) ggX2_isLevel_X2_isWithin
theorem dX2_isLevel_0 : decode cX2_isLevel 0 = .ok (.iload_n 0, 1) := by decide +kernel
theorem dX2_isLevel_1 : decode cX2_isLevel 1 = .ok (.iconst 0, 1) := by decide +kernel
theorem dX2_isLevel_2 : decode cX2_isLevel 2 = .ok (.sipush 1200, 3) := by decide +kernel
theorem dX2_isLevel_5 : decode cX2_isLevel 5 = .ok (.invokestatic 35, 3) := by decide +kernel
theorem dX2_isLevel_8 : decode cX2_isLevel 8 = .ok (.ireturn, 1) := by decide +kernel
set_option maxRecDepth 20000 in
theorem ggX2_isCut_X2_isWithin : GoodIn wsX2_isCut wsX2_isWithin := goodIn_r _ [4] (by decide +kernel) (by decide +kernel)
set_option maxRecDepth 20000 in
theorem gX2_isCut_X2_isWithin : GoodIn wsX2_isCut (va_wsS RX2 35 yX2_isWithin wsX2_isWithin) := goodIn_app (goodIn_of _ (by decide +kernel)) ggX2_isCut_X2_isWithin
theorem dX2_isCut_0 : decode cX2_isCut 0 = .ok (.iload_n 0, 1) := by decide +kernel
theorem dX2_isCut_1 : decode cX2_isCut 1 = .ok (.iconst 0, 1) := by decide +kernel
theorem dX2_isCut_2 : decode cX2_isCut 2 = .ok (.sipush 300, 3) := by decide +kernel
theorem dX2_isCut_5 : decode cX2_isCut 5 = .ok (.invokestatic 35, 3) := by decide +kernel
theorem dX2_isCut_8 : decode cX2_isCut 8 = .ok (.ireturn, 1) := by decide +kernel
set_option maxRecDepth 20000 in
theorem ggX2_isPart_X2_isWithin : GoodIn wsX2_isPart wsX2_isWithin := goodIn_r _ [4] (by decide +kernel) (by decide +kernel)
set_option maxRecDepth 20000 in
theorem gX2_isPart_X2_isWithin : GoodIn wsX2_isPart (va_wsS RX2 35 yX2_isWithin wsX2_isWithin) := goodIn_app (goodIn_of _ (by decide +kernel)) ggX2_isPart_X2_isWithin
theorem dX2_isPart_0 : decode cX2_isPart 0 = .ok (.iload_n 0, 1) := by decide +kernel
theorem dX2_isPart_1 : decode cX2_isPart 1 = .ok (.iconst 0, 1) := by decide +kernel
theorem dX2_isPart_2 : decode cX2_isPart 2 = .ok (.iconst 2, 1) := by decide +kernel
theorem dX2_isPart_3 : decode cX2_isPart 3 = .ok (.invokestatic 35, 3) := by decide +kernel
theorem dX2_isPart_6 : decode cX2_isPart 6 = .ok (.ireturn, 1) := by decide +kernel
set_option maxRecDepth 20000 in
theorem ggX2_isHour_X2_isWithin : GoodIn wsX2_isHour wsX2_isWithin := goodIn_r _ [4] (by decide +kernel) (by decide +kernel)
set_option maxRecDepth 20000 in
theorem gX2_isHour_X2_isWithin : GoodIn wsX2_isHour (va_wsS RX2 35 yX2_isWithin wsX2_isWithin) := goodIn_app (goodIn_of _ (by decide +kernel)) ggX2_isHour_X2_isWithin
theorem dX2_isHour_0 : decode cX2_isHour 0 = .ok (.iload_n 0, 1) := by decide +kernel
theorem dX2_isHour_1 : decode cX2_isHour 1 = .ok (.iconst 0, 1) := by decide +kernel
theorem dX2_isHour_2 : decode cX2_isHour 2 = .ok (.bipush 23, 2) := by decide +kernel
theorem dX2_isHour_4 : decode cX2_isHour 4 = .ok (.invokestatic 35, 3) := by decide +kernel
theorem dX2_isHour_7 : decode cX2_isHour 7 = .ok (.ireturn, 1) := by decide +kernel
set_option maxRecDepth 20000 in
theorem ggX2_isSpacing_X2_isWithin : GoodIn wsX2_isSpacing wsX2_isWithin := goodIn_r _ [4] (by decide +kernel) (by decide +kernel)
set_option maxRecDepth 20000 in
theorem gX2_isSpacing_X2_isWithin : GoodIn wsX2_isSpacing (va_wsS RX2 35 yX2_isWithin wsX2_isWithin) := goodIn_app (goodIn_of _ (by decide +kernel)) ggX2_isSpacing_X2_isWithin
theorem dX2_isSpacing_0 : decode cX2_isSpacing 0 = .ok (.iload_n 0, 1) := by decide +kernel
theorem dX2_isSpacing_1 : decode cX2_isSpacing 1 = .ok (.bipush 10, 2) := by decide +kernel
theorem dX2_isSpacing_3 : decode cX2_isSpacing 3 = .ok (.sipush 600, 3) := by decide +kernel
theorem dX2_isSpacing_6 : decode cX2_isSpacing 6 = .ok (.invokestatic 35, 3) := by decide +kernel
theorem dX2_isSpacing_9 : decode cX2_isSpacing 9 = .ok (.ireturn, 1) := by decide +kernel
set_option maxRecDepth 20000 in
theorem ggX2_isWire_X2_isWithin : GoodIn wsX2_isWire wsX2_isWithin := goodIn_r _ [4] (by decide +kernel) (by decide +kernel)
set_option maxRecDepth 20000 in
theorem gX2_isWire_X2_isWithin : GoodIn wsX2_isWire (va_wsS RX2 35 yX2_isWithin wsX2_isWithin) := goodIn_app (goodIn_of _ (by decide +kernel)) ggX2_isWire_X2_isWithin
theorem dX2_isWire_0 : decode cX2_isWire 0 = .ok (.iload_n 0, 1) := by decide +kernel
theorem dX2_isWire_1 : decode cX2_isWire 1 = .ok (.iconst 0, 1) := by decide +kernel
theorem dX2_isWire_2 : decode cX2_isWire 2 = .ok (.sipush 20000, 3) := by decide +kernel
theorem dX2_isWire_5 : decode cX2_isWire 5 = .ok (.invokestatic 35, 3) := by decide +kernel
theorem dX2_isWire_8 : decode cX2_isWire 8 = .ok (.ifCond .eq 18, 3) := by decide +kernel
theorem dX2_isWire_11 : decode cX2_isWire 11 = .ok (.iload_n 1, 1) := by decide +kernel
theorem dX2_isWire_12 : decode cX2_isWire 12 = .ok (.iconst 0, 1) := by decide +kernel
theorem dX2_isWire_13 : decode cX2_isWire 13 = .ok (.sipush 10000, 3) := by decide +kernel
theorem dX2_isWire_16 : decode cX2_isWire 16 = .ok (.invokestatic 35, 3) := by decide +kernel
theorem dX2_isWire_19 : decode cX2_isWire 19 = .ok (.ifCond .eq 7, 3) := by decide +kernel
theorem dX2_isWire_22 : decode cX2_isWire 22 = .ok (.iconst 1, 1) := by decide +kernel
theorem dX2_isWire_23 : decode cX2_isWire 23 = .ok (.goto 4, 3) := by decide +kernel
theorem dX2_isWire_26 : decode cX2_isWire 26 = .ok (.iconst 0, 1) := by decide +kernel
theorem dX2_isWire_27 : decode cX2_isWire 27 = .ok (.ireturn, 1) := by decide +kernel
end
section
theorem dX3_init_0 : decode cX3_init 0 = .ok (.aload_n 0, 1) := by decide +kernel
theorem dX3_init_1 : decode cX3_init 1 = .ok (.invokespecial 1, 3) := by decide +kernel
theorem dX3_init_4 : decode cX3_init 4 = .ok (.aload_n 0, 1) := by decide +kernel
theorem dX3_init_5 : decode cX3_init 5 = .ok (.bipush 12, 2) := by decide +kernel
theorem dX3_init_7 : decode cX3_init 7 = .ok (.newarray .int, 2) := by decide +kernel
theorem dX3_init_9 : decode cX3_init 9 = .ok (.putfield 7, 3) := by decide +kernel
theorem dX3_init_12 : decode cX3_init 12 = .ok (.aload_n 0, 1) := by decide +kernel
theorem dX3_init_13 : decode cX3_init 13 = .ok (.bipush 12, 2) := by decide +kernel
theorem dX3_init_15 : decode cX3_init 15 = .ok (.newarray .int, 2) := by decide +kernel
theorem dX3_init_17 : decode cX3_init 17 = .ok (.putfield 13, 3) := by decide +kernel
theorem dX3_init_20 : decode cX3_init 20 = .ok (.aload_n 0, 1) := by decide +kernel
theorem dX3_init_21 : decode cX3_init 21 = .ok (.bipush 36, 2) := by decide +kernel
theorem dX3_init_23 : decode cX3_init 23 = .ok (.newarray .int, 2) := by decide +kernel
theorem dX3_init_25 : decode cX3_init 25 = .ok (.putfield 16, 3) := by decide +kernel
theorem dX3_init_28 : decode cX3_init 28 = .ok (.aload_n 0, 1) := by decide +kernel
theorem dX3_init_29 : decode cX3_init 29 = .ok (.bipush 20, 2) := by decide +kernel
theorem dX3_init_31 : decode cX3_init 31 = .ok (.newarray .int, 2) := by decide +kernel
theorem dX3_init_33 : decode cX3_init 33 = .ok (.putfield 19, 3) := by decide +kernel
theorem dX3_init_36 : decode cX3_init 36 = .ok (.aload_n 0, 1) := by decide +kernel
theorem dX3_init_37 : decode cX3_init 37 = .ok (.bipush 20, 2) := by decide +kernel
theorem dX3_init_39 : decode cX3_init 39 = .ok (.newarray .int, 2) := by decide +kernel
theorem dX3_init_41 : decode cX3_init 41 = .ok (.putfield 22, 3) := by decide +kernel
theorem dX3_init_44 : decode cX3_init 44 = .ok (.aload_n 0, 1) := by decide +kernel
theorem dX3_init_45 : decode cX3_init 45 = .ok (.bipush 20, 2) := by decide +kernel
theorem dX3_init_47 : decode cX3_init 47 = .ok (.newarray .int, 2) := by decide +kernel
theorem dX3_init_49 : decode cX3_init 49 = .ok (.putfield 25, 3) := by decide +kernel
theorem dX3_init_52 : decode cX3_init 52 = .ok (.aload_n 0, 1) := by decide +kernel
theorem dX3_init_53 : decode cX3_init 53 = .ok (.bipush 32, 2) := by decide +kernel
theorem dX3_init_55 : decode cX3_init 55 = .ok (.newarray .int, 2) := by decide +kernel
theorem dX3_init_57 : decode cX3_init 57 = .ok (.putfield 28, 3) := by decide +kernel
theorem dX3_init_60 : decode cX3_init 60 = .ok (.aload_n 0, 1) := by decide +kernel
theorem dX3_init_61 : decode cX3_init 61 = .ok (.bipush 8, 2) := by decide +kernel
theorem dX3_init_63 : decode cX3_init 63 = .ok (.newarray .int, 2) := by decide +kernel
theorem dX3_init_65 : decode cX3_init 65 = .ok (.putfield 31, 3) := by decide +kernel
theorem dX3_init_68 : decode cX3_init 68 = .ok (.aload_n 0, 1) := by decide +kernel
theorem dX3_init_69 : decode cX3_init 69 = .ok (.bipush 30, 2) := by decide +kernel
theorem dX3_init_71 : decode cX3_init 71 = .ok (.putfield 34, 3) := by decide +kernel
theorem dX3_init_74 : decode cX3_init 74 = .ok (.aload_n 0, 1) := by decide +kernel
theorem dX3_init_75 : decode cX3_init 75 = .ok (.iconst 3, 1) := by decide +kernel
theorem dX3_init_76 : decode cX3_init 76 = .ok (.newarray .int, 2) := by decide +kernel
theorem dX3_init_78 : decode cX3_init 78 = .ok (.putfield 38, 3) := by decide +kernel
theorem dX3_init_81 : decode cX3_init 81 = .ok (.aload_n 0, 1) := by decide +kernel
theorem dX3_init_82 : decode cX3_init 82 = .ok (.bipush 31, 2) := by decide +kernel
theorem dX3_init_84 : decode cX3_init 84 = .ok (.newarray .int, 2) := by decide +kernel
theorem dX3_init_86 : decode cX3_init 86 = .ok (.putfield 41, 3) := by decide +kernel
theorem dX3_init_89 : decode cX3_init 89 = .ok (.aload_n 0, 1) := by decide +kernel
theorem dX3_init_90 : decode cX3_init 90 = .ok (.bipush 24, 2) := by decide +kernel
theorem dX3_init_92 : decode cX3_init 92 = .ok (.newarray .int, 2) := by decide +kernel
theorem dX3_init_94 : decode cX3_init 94 = .ok (.putfield 44, 3) := by decide +kernel
theorem dX3_init_97 : decode cX3_init 97 = .ok (.aload_n 0, 1) := by decide +kernel
theorem dX3_init_98 : decode cX3_init 98 = .ok (.bipush 20, 2) := by decide +kernel
theorem dX3_init_100 : decode cX3_init 100 = .ok (.newarray .int, 2) := by decide +kernel
theorem dX3_init_102 : decode cX3_init 102 = .ok (.putfield 47, 3) := by decide +kernel
theorem dX3_init_105 : decode cX3_init 105 = .ok (.aload_n 0, 1) := by decide +kernel
theorem dX3_init_106 : decode cX3_init 106 = .ok (.getfield 38, 3) := by decide +kernel
theorem dX3_init_109 : decode cX3_init 109 = .ok (.iconst 1, 1) := by decide +kernel
theorem dX3_init_110 : decode cX3_init 110 = .ok (.bipush 50, 2) := by decide +kernel
theorem dX3_init_112 : decode cX3_init 112 = .ok (.iastore, 1) := by decide +kernel
theorem dX3_init_113 : decode cX3_init 113 = .ok (.aload_n 0, 1) := by decide +kernel
theorem dX3_init_114 : decode cX3_init 114 = .ok (.getfield 38, 3) := by decide +kernel
theorem dX3_init_117 : decode cX3_init 117 = .ok (.iconst 2, 1) := by decide +kernel
theorem dX3_init_118 : decode cX3_init 118 = .ok (.bipush 100, 2) := by decide +kernel
theorem dX3_init_120 : decode cX3_init 120 = .ok (.iastore, 1) := by decide +kernel
theorem dX3_init_121 : decode cX3_init 121 = .ok (.iconst 0, 1) := by decide +kernel
theorem dX3_init_122 : decode cX3_init 122 = .ok (.istore_n 1, 1) := by decide +kernel
theorem dX3_init_123 : decode cX3_init 123 = .ok (.iload_n 1, 1) := by decide +kernel
theorem dX3_init_124 : decode cX3_init 124 = .ok (.bipush 24, 2) := by decide +kernel
theorem dX3_init_126 : decode cX3_init 126 = .ok (.if_icmp .ge 17, 3) := by decide +kernel
theorem dX3_init_129 : decode cX3_init 129 = .ok (.aload_n 0, 1) := by decide +kernel
theorem dX3_init_130 : decode cX3_init 130 = .ok (.getfield 44, 3) := by decide +kernel
theorem dX3_init_133 : decode cX3_init 133 = .ok (.iload_n 1, 1) := by decide +kernel
theorem dX3_init_134 : decode cX3_init 134 = .ok (.bipush 100, 2) := by decide +kernel
theorem dX3_init_136 : decode cX3_init 136 = .ok (.iastore, 1) := by decide +kernel
theorem dX3_init_137 : decode cX3_init 137 = .ok (.iinc 1 1, 3) := by decide +kernel
theorem dX3_init_140 : decode cX3_init 140 = .ok (.goto (-17), 3) := by decide +kernel
theorem dX3_init_143 : decode cX3_init 143 = .ok (.return_, 1) := by decide +kernel
theorem dX3_within_0 : decode cX3_within 0 = .ok (.iload_n 0, 1) := by decide +kernel
theorem dX3_within_1 : decode cX3_within 1 = .ok (.iload_n 1, 1) := by decide +kernel
theorem dX3_within_2 : decode cX3_within 2 = .ok (.if_icmp .lt 12, 3) := by decide +kernel
theorem dX3_within_5 : decode cX3_within 5 = .ok (.iload_n 0, 1) := by decide +kernel
theorem dX3_within_6 : decode cX3_within 6 = .ok (.iload_n 2, 1) := by decide +kernel
theorem dX3_within_7 : decode cX3_within 7 = .ok (.if_icmp .gt 7, 3) := by decide +kernel
theorem dX3_within_10 : decode cX3_within 10 = .ok (.iconst 1, 1) := by decide +kernel
theorem dX3_within_11 : decode cX3_within 11 = .ok (.goto 4, 3) := by decide +kernel
theorem dX3_within_14 : decode cX3_within 14 = .ok (.iconst 0, 1) := by decide +kernel
theorem dX3_within_15 : decode cX3_within 15 = .ok (.ireturn, 1) := by decide +kernel
set_option maxRecDepth 20000 in
theorem ggX3_isPoint_X3_within : GoodIn wsX3_isPoint wsX3_within := goodIn_r _ [4] (by decide +kernel) (by decide +kernel)
set_option maxRecDepth 20000 in
theorem gX3_isPoint_X3_within : GoodIn wsX3_isPoint (va_wsS RX3 50 yX3_within wsX3_within) := goodIn_app (goodIn_of _ (by decide +kernel)) ggX3_isPoint_X3_within
theorem dX3_isPoint_0 : decode cX3_isPoint 0 = .ok (.iload_n 0, 1) := by decide +kernel
theorem dX3_isPoint_1 : decode cX3_isPoint 1 = .ok (.sipush (-5000), 3) := by decide +kernel
theorem dX3_isPoint_4 : decode cX3_isPoint 4 = .ok (.sipush 5000, 3) := by decide +kernel
theorem dX3_isPoint_7 : decode cX3_isPoint 7 = .ok (.invokestatic 50, 3) := by decide +kernel
theorem dX3_isPoint_10 : decode cX3_isPoint 10 = .ok (.ifCond .eq 20, 3) := by decide +kernel
theorem dX3_isPoint_13 : decode cX3_isPoint 13 = .ok (.iload_n 1, 1) := by decide +kernel
theorem dX3_isPoint_14 : decode cX3_isPoint 14 = .ok (.sipush (-5000), 3) := by decide +kernel
theorem dX3_isPoint_17 : decode cX3_isPoint 17 = .ok (.sipush 5000, 3) := by decide +kernel
theorem dX3_isPoint_20 : decode cX3_isPoint 20 = .ok (.invokestatic 50, 3) := by decide +kernel
theorem dX3_isPoint_23 : decode cX3_isPoint 23 = .ok (.ifCond .eq 7, 3) := by decide +kernel
theorem dX3_isPoint_26 : decode cX3_isPoint 26 = .ok (.iconst 1, 1) := by decide +kernel
theorem dX3_isPoint_27 : decode cX3_isPoint 27 = .ok (.goto 4, 3) := by decide +kernel
theorem dX3_isPoint_30 : decode cX3_isPoint 30 = .ok (.iconst 0, 1) := by decide +kernel
theorem dX3_isPoint_31 : decode cX3_isPoint 31 = .ok (.ireturn, 1) := by decide +kernel
set_option maxRecDepth 20000 in
theorem ggX3_piece_X3_isPoint : GoodIn wsX3_piece wsX3_isPoint := goodIn_r _ [8, 9, 10, 7, 11] (by decide +kernel) (by decide +kernel)
set_option maxRecDepth 20000 in
theorem gX3_piece_X3_isPoint : GoodIn wsX3_piece (va_wsS RX3 54 yX3_isPoint wsX3_isPoint) := goodIn_app (goodIn_of _ (by decide +kernel)) ggX3_piece_X3_isPoint
set_option maxRecDepth 20000 in
theorem ggX3_piece_X3_within : GoodIn wsX3_piece wsX3_within := goodIn_r _ [11] (by decide +kernel) (by decide +kernel)
set_option maxRecDepth 20000 in
theorem gX3_piece_X3_within : GoodIn wsX3_piece (va_wsS RX3 50 yX3_within wsX3_within) := goodIn_app (goodIn_of _ (by decide +kernel)) ggX3_piece_X3_within
theorem dX3_piece_0 : decode cX3_piece 0 = .ok (.iload_n 1, 1) := by decide +kernel
theorem dX3_piece_1 : decode cX3_piece 1 = .ok (.iload_n 2, 1) := by decide +kernel
theorem dX3_piece_2 : decode cX3_piece 2 = .ok (.invokestatic 54, 3) := by decide +kernel
theorem dX3_piece_5 : decode cX3_piece 5 = .ok (.ifCond .eq 42, 3) := by decide +kernel
theorem dX3_piece_8 : decode cX3_piece 8 = .ok (.iload_n 3, 1) := by decide +kernel
theorem dX3_piece_9 : decode cX3_piece 9 = .ok (.iconst 0, 1) := by decide +kernel
theorem dX3_piece_10 : decode cX3_piece 10 = .ok (.sipush 1200, 3) := by decide +kernel
theorem dX3_piece_13 : decode cX3_piece 13 = .ok (.invokestatic 50, 3) := by decide +kernel
theorem dX3_piece_16 : decode cX3_piece 16 = .ok (.ifCond .eq 31, 3) := by decide +kernel
theorem dX3_piece_19 : decode cX3_piece 19 = .ok (.iload 4, 2) := by decide +kernel
theorem dX3_piece_21 : decode cX3_piece 21 = .ok (.iconst 0, 1) := by decide +kernel
theorem dX3_piece_22 : decode cX3_piece 22 = .ok (.sipush 1200, 3) := by decide +kernel
theorem dX3_piece_25 : decode cX3_piece 25 = .ok (.invokestatic 50, 3) := by decide +kernel
theorem dX3_piece_28 : decode cX3_piece 28 = .ok (.ifCond .eq 19, 3) := by decide +kernel
theorem dX3_piece_31 : decode cX3_piece 31 = .ok (.iload 5, 2) := by decide +kernel
theorem dX3_piece_33 : decode cX3_piece 33 = .ok (.iconst 0, 1) := by decide +kernel
theorem dX3_piece_34 : decode cX3_piece 34 = .ok (.sipush 1200, 3) := by decide +kernel
theorem dX3_piece_37 : decode cX3_piece 37 = .ok (.invokestatic 50, 3) := by decide +kernel
theorem dX3_piece_40 : decode cX3_piece 40 = .ok (.ifCond .eq 7, 3) := by decide +kernel
theorem dX3_piece_43 : decode cX3_piece 43 = .ok (.iconst 1, 1) := by decide +kernel
theorem dX3_piece_44 : decode cX3_piece 44 = .ok (.goto 4, 3) := by decide +kernel
theorem dX3_piece_47 : decode cX3_piece 47 = .ok (.iconst 0, 1) := by decide +kernel
theorem dX3_piece_48 : decode cX3_piece 48 = .ok (.istore 6, 2) := by decide +kernel
theorem dX3_piece_50 : decode cX3_piece 50 = .ok (.iload 6, 2) := by decide +kernel
theorem dX3_piece_52 : decode cX3_piece 52 = .ok (.ifCond .eq 12, 3) := by decide +kernel
theorem dX3_piece_55 : decode cX3_piece 55 = .ok (.aload_n 0, 1) := by decide +kernel
theorem dX3_piece_56 : decode cX3_piece 56 = .ok (.getfield 58, 3) := by decide +kernel
theorem dX3_piece_59 : decode cX3_piece 59 = .ok (.bipush 12, 2) := by decide +kernel
theorem dX3_piece_61 : decode cX3_piece 61 = .ok (.if_icmp .ne 5, 3) := by decide +kernel
theorem dX3_piece_64 : decode cX3_piece 64 = .ok (.iconst (-1), 1) := by decide +kernel
theorem dX3_piece_65 : decode cX3_piece 65 = .ok (.ireturn, 1) := by decide +kernel
theorem dX3_piece_66 : decode cX3_piece 66 = .ok (.aload_n 0, 1) := by decide +kernel
theorem dX3_piece_67 : decode cX3_piece 67 = .ok (.getfield 7, 3) := by decide +kernel
theorem dX3_piece_70 : decode cX3_piece 70 = .ok (.aload_n 0, 1) := by decide +kernel
theorem dX3_piece_71 : decode cX3_piece 71 = .ok (.getfield 58, 3) := by decide +kernel
theorem dX3_piece_74 : decode cX3_piece 74 = .ok (.iload_n 1, 1) := by decide +kernel
theorem dX3_piece_75 : decode cX3_piece 75 = .ok (.iastore, 1) := by decide +kernel
theorem dX3_piece_76 : decode cX3_piece 76 = .ok (.aload_n 0, 1) := by decide +kernel
theorem dX3_piece_77 : decode cX3_piece 77 = .ok (.getfield 13, 3) := by decide +kernel
theorem dX3_piece_80 : decode cX3_piece 80 = .ok (.aload_n 0, 1) := by decide +kernel
theorem dX3_piece_81 : decode cX3_piece 81 = .ok (.getfield 58, 3) := by decide +kernel
theorem dX3_piece_84 : decode cX3_piece 84 = .ok (.iload_n 2, 1) := by decide +kernel
theorem dX3_piece_85 : decode cX3_piece 85 = .ok (.iastore, 1) := by decide +kernel
theorem dX3_piece_86 : decode cX3_piece 86 = .ok (.aload_n 0, 1) := by decide +kernel
theorem dX3_piece_87 : decode cX3_piece 87 = .ok (.getfield 16, 3) := by decide +kernel
theorem dX3_piece_90 : decode cX3_piece 90 = .ok (.iconst 3, 1) := by decide +kernel
theorem dX3_piece_91 : decode cX3_piece 91 = .ok (.aload_n 0, 1) := by decide +kernel
theorem dX3_piece_92 : decode cX3_piece 92 = .ok (.getfield 58, 3) := by decide +kernel
theorem dX3_piece_95 : decode cX3_piece 95 = .ok (.imul, 1) := by decide +kernel
theorem dX3_piece_96 : decode cX3_piece 96 = .ok (.iload_n 3, 1) := by decide +kernel
theorem dX3_piece_97 : decode cX3_piece 97 = .ok (.iastore, 1) := by decide +kernel
theorem dX3_piece_98 : decode cX3_piece 98 = .ok (.aload_n 0, 1) := by decide +kernel
theorem dX3_piece_99 : decode cX3_piece 99 = .ok (.getfield 16, 3) := by decide +kernel
theorem dX3_piece_102 : decode cX3_piece 102 = .ok (.iconst 3, 1) := by decide +kernel
theorem dX3_piece_103 : decode cX3_piece 103 = .ok (.aload_n 0, 1) := by decide +kernel
theorem dX3_piece_104 : decode cX3_piece 104 = .ok (.getfield 58, 3) := by decide +kernel
theorem dX3_piece_107 : decode cX3_piece 107 = .ok (.imul, 1) := by decide +kernel
theorem dX3_piece_108 : decode cX3_piece 108 = .ok (.iconst 1, 1) := by decide +kernel
theorem dX3_piece_109 : decode cX3_piece 109 = .ok (.iadd, 1) := by decide +kernel
theorem dX3_piece_110 : decode cX3_piece 110 = .ok (.iload 4, 2) := by decide +kernel
theorem dX3_piece_112 : decode cX3_piece 112 = .ok (.iastore, 1) := by decide +kernel
theorem dX3_piece_113 : decode cX3_piece 113 = .ok (.aload_n 0, 1) := by decide +kernel
theorem dX3_piece_114 : decode cX3_piece 114 = .ok (.getfield 16, 3) := by decide +kernel
theorem dX3_piece_117 : decode cX3_piece 117 = .ok (.iconst 3, 1) := by decide +kernel
theorem dX3_piece_118 : decode cX3_piece 118 = .ok (.aload_n 0, 1) := by decide +kernel
theorem dX3_piece_119 : decode cX3_piece 119 = .ok (.getfield 58, 3) := by decide +kernel
theorem dX3_piece_122 : decode cX3_piece 122 = .ok (.imul, 1) := by decide +kernel
theorem dX3_piece_123 : decode cX3_piece 123 = .ok (.iconst 2, 1) := by decide +kernel
theorem dX3_piece_124 : decode cX3_piece 124 = .ok (.iadd, 1) := by decide +kernel
theorem dX3_piece_125 : decode cX3_piece 125 = .ok (.iload 5, 2) := by decide +kernel
theorem dX3_piece_127 : decode cX3_piece 127 = .ok (.iastore, 1) := by decide +kernel
theorem dX3_piece_128 : decode cX3_piece 128 = .ok (.aload_n 0, 1) := by decide +kernel
theorem dX3_piece_129 : decode cX3_piece 129 = .ok (.dup, 1) := by decide +kernel
theorem dX3_piece_130 : decode cX3_piece 130 = .ok (.getfield 58, 3) := by decide +kernel
theorem dX3_piece_133 : decode cX3_piece 133 = .ok (.iconst 1, 1) := by decide +kernel
theorem dX3_piece_134 : decode cX3_piece 134 = .ok (.iadd, 1) := by decide +kernel
theorem dX3_piece_135 : decode cX3_piece 135 = .ok (.putfield 58, 3) := by decide +kernel
theorem dX3_piece_138 : decode cX3_piece 138 = .ok (.aload_n 0, 1) := by decide +kernel
theorem dX3_piece_139 : decode cX3_piece 139 = .ok (.getfield 58, 3) := by decide +kernel
theorem dX3_piece_142 : decode cX3_piece 142 = .ok (.iconst 1, 1) := by decide +kernel
theorem dX3_piece_143 : decode cX3_piece 143 = .ok (.isub, 1) := by decide +kernel
theorem dX3_piece_144 : decode cX3_piece 144 = .ok (.ireturn, 1) := by decide +kernel
set_option maxRecDepth 20000 in
theorem ggX3_house_X3_isPoint : GoodIn wsX3_house wsX3_isPoint := goodIn_r _ [8, 9, 10, 7, 11] (by decide +kernel) (by decide +kernel)
set_option maxRecDepth 20000 in
theorem gX3_house_X3_isPoint : GoodIn wsX3_house (va_wsS RX3 54 yX3_isPoint wsX3_isPoint) := goodIn_app (goodIn_of _ (by decide +kernel)) ggX3_house_X3_isPoint
set_option maxRecDepth 20000 in
theorem ggX3_house_X3_within : GoodIn wsX3_house wsX3_within := goodIn_r _ [11] (by decide +kernel) (by decide +kernel)
set_option maxRecDepth 20000 in
theorem gX3_house_X3_within : GoodIn wsX3_house (va_wsS RX3 50 yX3_within wsX3_within) := goodIn_app (goodIn_of _ (by decide +kernel)) ggX3_house_X3_within
theorem dX3_house_0 : decode cX3_house 0 = .ok (.iload_n 1, 1) := by decide +kernel
theorem dX3_house_1 : decode cX3_house 1 = .ok (.iload_n 2, 1) := by decide +kernel
theorem dX3_house_2 : decode cX3_house 2 = .ok (.invokestatic 54, 3) := by decide +kernel
theorem dX3_house_5 : decode cX3_house 5 = .ok (.ifCond .eq 23, 3) := by decide +kernel
theorem dX3_house_8 : decode cX3_house 8 = .ok (.iload_n 3, 1) := by decide +kernel
theorem dX3_house_9 : decode cX3_house 9 = .ok (.iconst 0, 1) := by decide +kernel
theorem dX3_house_10 : decode cX3_house 10 = .ok (.sipush 1000, 3) := by decide +kernel
theorem dX3_house_13 : decode cX3_house 13 = .ok (.invokestatic 50, 3) := by decide +kernel
theorem dX3_house_16 : decode cX3_house 16 = .ok (.ifCond .eq 12, 3) := by decide +kernel
theorem dX3_house_19 : decode cX3_house 19 = .ok (.aload_n 0, 1) := by decide +kernel
theorem dX3_house_20 : decode cX3_house 20 = .ok (.getfield 61, 3) := by decide +kernel
theorem dX3_house_23 : decode cX3_house 23 = .ok (.bipush 20, 2) := by decide +kernel
theorem dX3_house_25 : decode cX3_house 25 = .ok (.if_icmp .ne 5, 3) := by decide +kernel
theorem dX3_house_28 : decode cX3_house 28 = .ok (.iconst (-1), 1) := by decide +kernel
theorem dX3_house_29 : decode cX3_house 29 = .ok (.ireturn, 1) := by decide +kernel
theorem dX3_house_30 : decode cX3_house 30 = .ok (.aload_n 0, 1) := by decide +kernel
theorem dX3_house_31 : decode cX3_house 31 = .ok (.getfield 19, 3) := by decide +kernel
theorem dX3_house_34 : decode cX3_house 34 = .ok (.aload_n 0, 1) := by decide +kernel
theorem dX3_house_35 : decode cX3_house 35 = .ok (.getfield 61, 3) := by decide +kernel
theorem dX3_house_38 : decode cX3_house 38 = .ok (.iload_n 1, 1) := by decide +kernel
theorem dX3_house_39 : decode cX3_house 39 = .ok (.iastore, 1) := by decide +kernel
theorem dX3_house_40 : decode cX3_house 40 = .ok (.aload_n 0, 1) := by decide +kernel
theorem dX3_house_41 : decode cX3_house 41 = .ok (.getfield 22, 3) := by decide +kernel
theorem dX3_house_44 : decode cX3_house 44 = .ok (.aload_n 0, 1) := by decide +kernel
theorem dX3_house_45 : decode cX3_house 45 = .ok (.getfield 61, 3) := by decide +kernel
theorem dX3_house_48 : decode cX3_house 48 = .ok (.iload_n 2, 1) := by decide +kernel
theorem dX3_house_49 : decode cX3_house 49 = .ok (.iastore, 1) := by decide +kernel
theorem dX3_house_50 : decode cX3_house 50 = .ok (.aload_n 0, 1) := by decide +kernel
theorem dX3_house_51 : decode cX3_house 51 = .ok (.getfield 25, 3) := by decide +kernel
theorem dX3_house_54 : decode cX3_house 54 = .ok (.aload_n 0, 1) := by decide +kernel
theorem dX3_house_55 : decode cX3_house 55 = .ok (.getfield 61, 3) := by decide +kernel
theorem dX3_house_58 : decode cX3_house 58 = .ok (.iload_n 3, 1) := by decide +kernel
theorem dX3_house_59 : decode cX3_house 59 = .ok (.iastore, 1) := by decide +kernel
theorem dX3_house_60 : decode cX3_house 60 = .ok (.aload_n 0, 1) := by decide +kernel
theorem dX3_house_61 : decode cX3_house 61 = .ok (.dup, 1) := by decide +kernel
theorem dX3_house_62 : decode cX3_house 62 = .ok (.getfield 61, 3) := by decide +kernel
theorem dX3_house_65 : decode cX3_house 65 = .ok (.iconst 1, 1) := by decide +kernel
theorem dX3_house_66 : decode cX3_house 66 = .ok (.iadd, 1) := by decide +kernel
theorem dX3_house_67 : decode cX3_house 67 = .ok (.putfield 61, 3) := by decide +kernel
theorem dX3_house_70 : decode cX3_house 70 = .ok (.aload_n 0, 1) := by decide +kernel
theorem dX3_house_71 : decode cX3_house 71 = .ok (.getfield 61, 3) := by decide +kernel
theorem dX3_house_74 : decode cX3_house 74 = .ok (.iconst 1, 1) := by decide +kernel
theorem dX3_house_75 : decode cX3_house 75 = .ok (.isub, 1) := by decide +kernel
theorem dX3_house_76 : decode cX3_house 76 = .ok (.ireturn, 1) := by decide +kernel
set_option maxRecDepth 20000 in
theorem ggX3_wall_X3_isPoint : GoodIn wsX3_wall wsX3_isPoint := goodIn_r _ [7, 8, 9, 6, 10] (by decide +kernel) (by decide +kernel)
set_option maxRecDepth 20000 in
theorem gX3_wall_X3_isPoint : GoodIn wsX3_wall (va_wsS RX3 54 yX3_isPoint wsX3_isPoint) := goodIn_app (goodIn_of _ (by decide +kernel)) ggX3_wall_X3_isPoint
set_option maxRecDepth 20000 in
theorem ggX3_wall_X3_within : GoodIn wsX3_wall wsX3_within := goodIn_r _ [10] (by decide +kernel) (by decide +kernel)
set_option maxRecDepth 20000 in
theorem gX3_wall_X3_within : GoodIn wsX3_wall (va_wsS RX3 50 yX3_within wsX3_within) := goodIn_app (goodIn_of _ (by decide +kernel)) ggX3_wall_X3_within
theorem dX3_wall_0 : decode cX3_wall 0 = .ok (.iload_n 1, 1) := by decide +kernel
theorem dX3_wall_1 : decode cX3_wall 1 = .ok (.iload_n 2, 1) := by decide +kernel
theorem dX3_wall_2 : decode cX3_wall 2 = .ok (.invokestatic 54, 3) := by decide +kernel
theorem dX3_wall_5 : decode cX3_wall 5 = .ok (.ifCond .eq 39, 3) := by decide +kernel
theorem dX3_wall_8 : decode cX3_wall 8 = .ok (.iload_n 3, 1) := by decide +kernel
theorem dX3_wall_9 : decode cX3_wall 9 = .ok (.iload 4, 2) := by decide +kernel
theorem dX3_wall_11 : decode cX3_wall 11 = .ok (.invokestatic 54, 3) := by decide +kernel
theorem dX3_wall_14 : decode cX3_wall 14 = .ok (.ifCond .eq 30, 3) := by decide +kernel
theorem dX3_wall_17 : decode cX3_wall 17 = .ok (.iload_n 1, 1) := by decide +kernel
theorem dX3_wall_18 : decode cX3_wall 18 = .ok (.iload_n 3, 1) := by decide +kernel
theorem dX3_wall_19 : decode cX3_wall 19 = .ok (.if_icmp .ne 9, 3) := by decide +kernel
theorem dX3_wall_22 : decode cX3_wall 22 = .ok (.iload_n 2, 1) := by decide +kernel
theorem dX3_wall_23 : decode cX3_wall 23 = .ok (.iload 4, 2) := by decide +kernel
theorem dX3_wall_25 : decode cX3_wall 25 = .ok (.if_icmp .eq 19, 3) := by decide +kernel
theorem dX3_wall_28 : decode cX3_wall 28 = .ok (.iload 5, 2) := by decide +kernel
theorem dX3_wall_30 : decode cX3_wall 30 = .ok (.iconst 0, 1) := by decide +kernel
theorem dX3_wall_31 : decode cX3_wall 31 = .ok (.sipush 300, 3) := by decide +kernel
theorem dX3_wall_34 : decode cX3_wall 34 = .ok (.invokestatic 50, 3) := by decide +kernel
theorem dX3_wall_37 : decode cX3_wall 37 = .ok (.ifCond .eq 7, 3) := by decide +kernel
theorem dX3_wall_40 : decode cX3_wall 40 = .ok (.iconst 1, 1) := by decide +kernel
theorem dX3_wall_41 : decode cX3_wall 41 = .ok (.goto 4, 3) := by decide +kernel
theorem dX3_wall_44 : decode cX3_wall 44 = .ok (.iconst 0, 1) := by decide +kernel
theorem dX3_wall_45 : decode cX3_wall 45 = .ok (.istore 6, 2) := by decide +kernel
theorem dX3_wall_47 : decode cX3_wall 47 = .ok (.iload 6, 2) := by decide +kernel
theorem dX3_wall_49 : decode cX3_wall 49 = .ok (.ifCond .eq 12, 3) := by decide +kernel
theorem dX3_wall_52 : decode cX3_wall 52 = .ok (.aload_n 0, 1) := by decide +kernel
theorem dX3_wall_53 : decode cX3_wall 53 = .ok (.getfield 64, 3) := by decide +kernel
theorem dX3_wall_56 : decode cX3_wall 56 = .ok (.bipush 8, 2) := by decide +kernel
theorem dX3_wall_58 : decode cX3_wall 58 = .ok (.if_icmp .ne 5, 3) := by decide +kernel
theorem dX3_wall_61 : decode cX3_wall 61 = .ok (.iconst (-1), 1) := by decide +kernel
theorem dX3_wall_62 : decode cX3_wall 62 = .ok (.ireturn, 1) := by decide +kernel
theorem dX3_wall_63 : decode cX3_wall 63 = .ok (.aload_n 0, 1) := by decide +kernel
theorem dX3_wall_64 : decode cX3_wall 64 = .ok (.getfield 28, 3) := by decide +kernel
theorem dX3_wall_67 : decode cX3_wall 67 = .ok (.iconst 4, 1) := by decide +kernel
theorem dX3_wall_68 : decode cX3_wall 68 = .ok (.aload_n 0, 1) := by decide +kernel
theorem dX3_wall_69 : decode cX3_wall 69 = .ok (.getfield 64, 3) := by decide +kernel
theorem dX3_wall_72 : decode cX3_wall 72 = .ok (.imul, 1) := by decide +kernel
theorem dX3_wall_73 : decode cX3_wall 73 = .ok (.iload_n 1, 1) := by decide +kernel
theorem dX3_wall_74 : decode cX3_wall 74 = .ok (.iastore, 1) := by decide +kernel
theorem dX3_wall_75 : decode cX3_wall 75 = .ok (.aload_n 0, 1) := by decide +kernel
theorem dX3_wall_76 : decode cX3_wall 76 = .ok (.getfield 28, 3) := by decide +kernel
theorem dX3_wall_79 : decode cX3_wall 79 = .ok (.iconst 4, 1) := by decide +kernel
theorem dX3_wall_80 : decode cX3_wall 80 = .ok (.aload_n 0, 1) := by decide +kernel
theorem dX3_wall_81 : decode cX3_wall 81 = .ok (.getfield 64, 3) := by decide +kernel
theorem dX3_wall_84 : decode cX3_wall 84 = .ok (.imul, 1) := by decide +kernel
theorem dX3_wall_85 : decode cX3_wall 85 = .ok (.iconst 1, 1) := by decide +kernel
theorem dX3_wall_86 : decode cX3_wall 86 = .ok (.iadd, 1) := by decide +kernel
theorem dX3_wall_87 : decode cX3_wall 87 = .ok (.iload_n 2, 1) := by decide +kernel
theorem dX3_wall_88 : decode cX3_wall 88 = .ok (.iastore, 1) := by decide +kernel
theorem dX3_wall_89 : decode cX3_wall 89 = .ok (.aload_n 0, 1) := by decide +kernel
theorem dX3_wall_90 : decode cX3_wall 90 = .ok (.getfield 28, 3) := by decide +kernel
theorem dX3_wall_93 : decode cX3_wall 93 = .ok (.iconst 4, 1) := by decide +kernel
theorem dX3_wall_94 : decode cX3_wall 94 = .ok (.aload_n 0, 1) := by decide +kernel
theorem dX3_wall_95 : decode cX3_wall 95 = .ok (.getfield 64, 3) := by decide +kernel
theorem dX3_wall_98 : decode cX3_wall 98 = .ok (.imul, 1) := by decide +kernel
theorem dX3_wall_99 : decode cX3_wall 99 = .ok (.iconst 2, 1) := by decide +kernel
theorem dX3_wall_100 : decode cX3_wall 100 = .ok (.iadd, 1) := by decide +kernel
theorem dX3_wall_101 : decode cX3_wall 101 = .ok (.iload_n 3, 1) := by decide +kernel
theorem dX3_wall_102 : decode cX3_wall 102 = .ok (.iastore, 1) := by decide +kernel
theorem dX3_wall_103 : decode cX3_wall 103 = .ok (.aload_n 0, 1) := by decide +kernel
theorem dX3_wall_104 : decode cX3_wall 104 = .ok (.getfield 28, 3) := by decide +kernel
theorem dX3_wall_107 : decode cX3_wall 107 = .ok (.iconst 4, 1) := by decide +kernel
theorem dX3_wall_108 : decode cX3_wall 108 = .ok (.aload_n 0, 1) := by decide +kernel
theorem dX3_wall_109 : decode cX3_wall 109 = .ok (.getfield 64, 3) := by decide +kernel
theorem dX3_wall_112 : decode cX3_wall 112 = .ok (.imul, 1) := by decide +kernel
theorem dX3_wall_113 : decode cX3_wall 113 = .ok (.iconst 3, 1) := by decide +kernel
theorem dX3_wall_114 : decode cX3_wall 114 = .ok (.iadd, 1) := by decide +kernel
theorem dX3_wall_115 : decode cX3_wall 115 = .ok (.iload 4, 2) := by decide +kernel
theorem dX3_wall_117 : decode cX3_wall 117 = .ok (.iastore, 1) := by decide +kernel
theorem dX3_wall_118 : decode cX3_wall 118 = .ok (.aload_n 0, 1) := by decide +kernel
theorem dX3_wall_119 : decode cX3_wall 119 = .ok (.getfield 31, 3) := by decide +kernel
theorem dX3_wall_122 : decode cX3_wall 122 = .ok (.aload_n 0, 1) := by decide +kernel
theorem dX3_wall_123 : decode cX3_wall 123 = .ok (.getfield 64, 3) := by decide +kernel
theorem dX3_wall_126 : decode cX3_wall 126 = .ok (.iload 5, 2) := by decide +kernel
theorem dX3_wall_128 : decode cX3_wall 128 = .ok (.iastore, 1) := by decide +kernel
theorem dX3_wall_129 : decode cX3_wall 129 = .ok (.aload_n 0, 1) := by decide +kernel
theorem dX3_wall_130 : decode cX3_wall 130 = .ok (.dup, 1) := by decide +kernel
theorem dX3_wall_131 : decode cX3_wall 131 = .ok (.getfield 64, 3) := by decide +kernel
theorem dX3_wall_134 : decode cX3_wall 134 = .ok (.iconst 1, 1) := by decide +kernel
theorem dX3_wall_135 : decode cX3_wall 135 = .ok (.iadd, 1) := by decide +kernel
theorem dX3_wall_136 : decode cX3_wall 136 = .ok (.putfield 64, 3) := by decide +kernel
theorem dX3_wall_139 : decode cX3_wall 139 = .ok (.aload_n 0, 1) := by decide +kernel
theorem dX3_wall_140 : decode cX3_wall 140 = .ok (.getfield 64, 3) := by decide +kernel
theorem dX3_wall_143 : decode cX3_wall 143 = .ok (.iconst 1, 1) := by decide +kernel
theorem dX3_wall_144 : decode cX3_wall 144 = .ok (.isub, 1) := by decide +kernel
theorem dX3_wall_145 : decode cX3_wall 145 = .ok (.ireturn, 1) := by decide +kernel
set_option maxRecDepth 20000 in
theorem ggX3_fall_X3_within : GoodIn wsX3_fall wsX3_within := goodIn_r _ [5] (by decide +kernel) (by decide +kernel)
set_option maxRecDepth 20000 in
theorem gX3_fall_X3_within : GoodIn wsX3_fall (va_wsS RX3 50 yX3_within wsX3_within) := goodIn_app (goodIn_of _ (by decide +kernel)) ggX3_fall_X3_within
theorem dX3_fall_0 : decode cX3_fall 0 = .ok (.iload_n 1, 1) := by decide +kernel
theorem dX3_fall_1 : decode cX3_fall 1 = .ok (.iconst 0, 1) := by decide +kernel
theorem dX3_fall_2 : decode cX3_fall 2 = .ok (.bipush 60, 2) := by decide +kernel
theorem dX3_fall_4 : decode cX3_fall 4 = .ok (.invokestatic 50, 3) := by decide +kernel
theorem dX3_fall_7 : decode cX3_fall 7 = .ok (.ifCond .ne 5, 3) := by decide +kernel
theorem dX3_fall_10 : decode cX3_fall 10 = .ok (.iconst (-1), 1) := by decide +kernel
theorem dX3_fall_11 : decode cX3_fall 11 = .ok (.ireturn, 1) := by decide +kernel
theorem dX3_fall_12 : decode cX3_fall 12 = .ok (.aload_n 0, 1) := by decide +kernel
theorem dX3_fall_13 : decode cX3_fall 13 = .ok (.getfield 34, 3) := by decide +kernel
theorem dX3_fall_16 : decode cX3_fall 16 = .ok (.istore_n 2, 1) := by decide +kernel
theorem dX3_fall_17 : decode cX3_fall 17 = .ok (.aload_n 0, 1) := by decide +kernel
theorem dX3_fall_18 : decode cX3_fall 18 = .ok (.iload_n 1, 1) := by decide +kernel
theorem dX3_fall_19 : decode cX3_fall 19 = .ok (.putfield 34, 3) := by decide +kernel
theorem dX3_fall_22 : decode cX3_fall 22 = .ok (.iload_n 2, 1) := by decide +kernel
theorem dX3_fall_23 : decode cX3_fall 23 = .ok (.ireturn, 1) := by decide +kernel
set_option maxRecDepth 20000 in
theorem ggX3_malus_X3_within : GoodIn wsX3_malus wsX3_within := goodIn_r _ [5] (by decide +kernel) (by decide +kernel)
set_option maxRecDepth 20000 in
theorem gX3_malus_X3_within : GoodIn wsX3_malus (va_wsS RX3 50 yX3_within wsX3_within) := goodIn_app (goodIn_of _ (by decide +kernel)) ggX3_malus_X3_within
theorem dX3_malus_0 : decode cX3_malus 0 = .ok (.iload_n 1, 1) := by decide +kernel
theorem dX3_malus_1 : decode cX3_malus 1 = .ok (.iconst 0, 1) := by decide +kernel
theorem dX3_malus_2 : decode cX3_malus 2 = .ok (.iconst 2, 1) := by decide +kernel
theorem dX3_malus_3 : decode cX3_malus 3 = .ok (.invokestatic 50, 3) := by decide +kernel
theorem dX3_malus_6 : decode cX3_malus 6 = .ok (.ifCond .eq 14, 3) := by decide +kernel
theorem dX3_malus_9 : decode cX3_malus 9 = .ok (.iload_n 2, 1) := by decide +kernel
theorem dX3_malus_10 : decode cX3_malus 10 = .ok (.iconst 0, 1) := by decide +kernel
theorem dX3_malus_11 : decode cX3_malus 11 = .ok (.sipush 200, 3) := by decide +kernel
theorem dX3_malus_14 : decode cX3_malus 14 = .ok (.invokestatic 50, 3) := by decide +kernel
theorem dX3_malus_17 : decode cX3_malus 17 = .ok (.ifCond .ne 5, 3) := by decide +kernel
theorem dX3_malus_20 : decode cX3_malus 20 = .ok (.iconst (-1), 1) := by decide +kernel
theorem dX3_malus_21 : decode cX3_malus 21 = .ok (.ireturn, 1) := by decide +kernel
theorem dX3_malus_22 : decode cX3_malus 22 = .ok (.aload_n 0, 1) := by decide +kernel
theorem dX3_malus_23 : decode cX3_malus 23 = .ok (.getfield 38, 3) := by decide +kernel
theorem dX3_malus_26 : decode cX3_malus 26 = .ok (.iload_n 1, 1) := by decide +kernel
theorem dX3_malus_27 : decode cX3_malus 27 = .ok (.iaload, 1) := by decide +kernel
theorem dX3_malus_28 : decode cX3_malus 28 = .ok (.istore_n 3, 1) := by decide +kernel
theorem dX3_malus_29 : decode cX3_malus 29 = .ok (.aload_n 0, 1) := by decide +kernel
theorem dX3_malus_30 : decode cX3_malus 30 = .ok (.getfield 38, 3) := by decide +kernel
theorem dX3_malus_33 : decode cX3_malus 33 = .ok (.iload_n 1, 1) := by decide +kernel
theorem dX3_malus_34 : decode cX3_malus 34 = .ok (.iload_n 2, 1) := by decide +kernel
theorem dX3_malus_35 : decode cX3_malus 35 = .ok (.iastore, 1) := by decide +kernel
theorem dX3_malus_36 : decode cX3_malus 36 = .ok (.iload_n 3, 1) := by decide +kernel
theorem dX3_malus_37 : decode cX3_malus 37 = .ok (.ireturn, 1) := by decide +kernel
theorem dX3_side_0 : decode cX3_side 0 = .ok (.lload 4, 2) := by decide +kernel
theorem dX3_side_2 : decode cX3_side 2 = .ok (.lload_n 0, 1) := by decide +kernel
theorem dX3_side_3 : decode cX3_side 3 = .ok (.lsub, 1) := by decide +kernel
theorem dX3_side_4 : decode cX3_side 4 = .ok (.lload 10, 2) := by decide +kernel
theorem dX3_side_6 : decode cX3_side 6 = .ok (.lload_n 2, 1) := by decide +kernel
theorem dX3_side_7 : decode cX3_side 7 = .ok (.lsub, 1) := by decide +kernel
theorem dX3_side_8 : decode cX3_side 8 = .ok (.lmul, 1) := by decide +kernel
theorem dX3_side_9 : decode cX3_side 9 = .ok (.lload 6, 2) := by decide +kernel
theorem dX3_side_11 : decode cX3_side 11 = .ok (.lload_n 2, 1) := by decide +kernel
theorem dX3_side_12 : decode cX3_side 12 = .ok (.lsub, 1) := by decide +kernel
theorem dX3_side_13 : decode cX3_side 13 = .ok (.lload 8, 2) := by decide +kernel
theorem dX3_side_15 : decode cX3_side 15 = .ok (.lload_n 0, 1) := by decide +kernel
theorem dX3_side_16 : decode cX3_side 16 = .ok (.lsub, 1) := by decide +kernel
theorem dX3_side_17 : decode cX3_side 17 = .ok (.lmul, 1) := by decide +kernel
theorem dX3_side_18 : decode cX3_side 18 = .ok (.lsub, 1) := by decide +kernel
theorem dX3_side_19 : decode cX3_side 19 = .ok (.lstore 12, 2) := by decide +kernel
theorem dX3_side_21 : decode cX3_side 21 = .ok (.lload 12, 2) := by decide +kernel
theorem dX3_side_23 : decode cX3_side 23 = .ok (.lconst 0, 1) := by decide +kernel
theorem dX3_side_24 : decode cX3_side 24 = .ok (.lcmp, 1) := by decide +kernel
theorem dX3_side_25 : decode cX3_side 25 = .ok (.ifCond .le 7, 3) := by decide +kernel
theorem dX3_side_28 : decode cX3_side 28 = .ok (.iconst 1, 1) := by decide +kernel
theorem dX3_side_29 : decode cX3_side 29 = .ok (.goto 15, 3) := by decide +kernel
theorem dX3_side_32 : decode cX3_side 32 = .ok (.lload 12, 2) := by decide +kernel
theorem dX3_side_34 : decode cX3_side 34 = .ok (.lconst 0, 1) := by decide +kernel
theorem dX3_side_35 : decode cX3_side 35 = .ok (.lcmp, 1) := by decide +kernel
theorem dX3_side_36 : decode cX3_side 36 = .ok (.ifCond .ge 7, 3) := by decide +kernel
theorem dX3_side_39 : decode cX3_side 39 = .ok (.iconst (-1), 1) := by decide +kernel
theorem dX3_side_40 : decode cX3_side 40 = .ok (.goto 4, 3) := by decide +kernel
theorem dX3_side_43 : decode cX3_side 43 = .ok (.iconst 0, 1) := by decide +kernel
theorem dX3_side_44 : decode cX3_side 44 = .ok (.ireturn, 1) := by decide +kernel
theorem dX3_isBetween_0 : decode cX3_isBetween 0 = .ok (.iload_n 0, 1) := by decide +kernel
theorem dX3_isBetween_1 : decode cX3_isBetween 1 = .ok (.iload_n 2, 1) := by decide +kernel
theorem dX3_isBetween_2 : decode cX3_isBetween 2 = .ok (.if_icmp .ge 23, 3) := by decide +kernel
theorem dX3_isBetween_5 : decode cX3_isBetween 5 = .ok (.iload 4, 2) := by decide +kernel
theorem dX3_isBetween_7 : decode cX3_isBetween 7 = .ok (.iload_n 0, 1) := by decide +kernel
theorem dX3_isBetween_8 : decode cX3_isBetween 8 = .ok (.if_icmp .lt 13, 3) := by decide +kernel
theorem dX3_isBetween_11 : decode cX3_isBetween 11 = .ok (.iload 4, 2) := by decide +kernel
theorem dX3_isBetween_13 : decode cX3_isBetween 13 = .ok (.iload_n 2, 1) := by decide +kernel
theorem dX3_isBetween_14 : decode cX3_isBetween 14 = .ok (.if_icmp .gt 7, 3) := by decide +kernel
theorem dX3_isBetween_17 : decode cX3_isBetween 17 = .ok (.iconst 1, 1) := by decide +kernel
theorem dX3_isBetween_18 : decode cX3_isBetween 18 = .ok (.goto 24, 3) := by decide +kernel
theorem dX3_isBetween_21 : decode cX3_isBetween 21 = .ok (.iconst 0, 1) := by decide +kernel
theorem dX3_isBetween_22 : decode cX3_isBetween 22 = .ok (.goto 20, 3) := by decide +kernel
theorem dX3_isBetween_25 : decode cX3_isBetween 25 = .ok (.iload 4, 2) := by decide +kernel
theorem dX3_isBetween_27 : decode cX3_isBetween 27 = .ok (.iload_n 2, 1) := by decide +kernel
theorem dX3_isBetween_28 : decode cX3_isBetween 28 = .ok (.if_icmp .lt 13, 3) := by decide +kernel
theorem dX3_isBetween_31 : decode cX3_isBetween 31 = .ok (.iload 4, 2) := by decide +kernel
theorem dX3_isBetween_33 : decode cX3_isBetween 33 = .ok (.iload_n 0, 1) := by decide +kernel
theorem dX3_isBetween_34 : decode cX3_isBetween 34 = .ok (.if_icmp .gt 7, 3) := by decide +kernel
theorem dX3_isBetween_37 : decode cX3_isBetween 37 = .ok (.iconst 1, 1) := by decide +kernel
theorem dX3_isBetween_38 : decode cX3_isBetween 38 = .ok (.goto 4, 3) := by decide +kernel
theorem dX3_isBetween_41 : decode cX3_isBetween 41 = .ok (.iconst 0, 1) := by decide +kernel
theorem dX3_isBetween_42 : decode cX3_isBetween 42 = .ok (.istore 6, 2) := by decide +kernel
theorem dX3_isBetween_44 : decode cX3_isBetween 44 = .ok (.iload_n 1, 1) := by decide +kernel
theorem dX3_isBetween_45 : decode cX3_isBetween 45 = .ok (.iload_n 3, 1) := by decide +kernel
theorem dX3_isBetween_46 : decode cX3_isBetween 46 = .ok (.if_icmp .ge 23, 3) := by decide +kernel
theorem dX3_isBetween_49 : decode cX3_isBetween 49 = .ok (.iload 5, 2) := by decide +kernel
theorem dX3_isBetween_51 : decode cX3_isBetween 51 = .ok (.iload_n 1, 1) := by decide +kernel
theorem dX3_isBetween_52 : decode cX3_isBetween 52 = .ok (.if_icmp .lt 13, 3) := by decide +kernel
theorem dX3_isBetween_55 : decode cX3_isBetween 55 = .ok (.iload 5, 2) := by decide +kernel
theorem dX3_isBetween_57 : decode cX3_isBetween 57 = .ok (.iload_n 3, 1) := by decide +kernel
theorem dX3_isBetween_58 : decode cX3_isBetween 58 = .ok (.if_icmp .gt 7, 3) := by decide +kernel
theorem dX3_isBetween_61 : decode cX3_isBetween 61 = .ok (.iconst 1, 1) := by decide +kernel
theorem dX3_isBetween_62 : decode cX3_isBetween 62 = .ok (.goto 24, 3) := by decide +kernel
theorem dX3_isBetween_65 : decode cX3_isBetween 65 = .ok (.iconst 0, 1) := by decide +kernel
theorem dX3_isBetween_66 : decode cX3_isBetween 66 = .ok (.goto 20, 3) := by decide +kernel
theorem dX3_isBetween_69 : decode cX3_isBetween 69 = .ok (.iload 5, 2) := by decide +kernel
theorem dX3_isBetween_71 : decode cX3_isBetween 71 = .ok (.iload_n 3, 1) := by decide +kernel
theorem dX3_isBetween_72 : decode cX3_isBetween 72 = .ok (.if_icmp .lt 13, 3) := by decide +kernel
theorem dX3_isBetween_75 : decode cX3_isBetween 75 = .ok (.iload 5, 2) := by decide +kernel
theorem dX3_isBetween_77 : decode cX3_isBetween 77 = .ok (.iload_n 1, 1) := by decide +kernel
theorem dX3_isBetween_78 : decode cX3_isBetween 78 = .ok (.if_icmp .gt 7, 3) := by decide +kernel
theorem dX3_isBetween_81 : decode cX3_isBetween 81 = .ok (.iconst 1, 1) := by decide +kernel
theorem dX3_isBetween_82 : decode cX3_isBetween 82 = .ok (.goto 4, 3) := by decide +kernel
theorem dX3_isBetween_85 : decode cX3_isBetween 85 = .ok (.iconst 0, 1) := by decide +kernel
theorem dX3_isBetween_86 : decode cX3_isBetween 86 = .ok (.istore 7, 2) := by decide +kernel
theorem dX3_isBetween_88 : decode cX3_isBetween 88 = .ok (.iload 6, 2) := by decide +kernel
theorem dX3_isBetween_90 : decode cX3_isBetween 90 = .ok (.ifCond .eq 12, 3) := by decide +kernel
theorem dX3_isBetween_93 : decode cX3_isBetween 93 = .ok (.iload 7, 2) := by decide +kernel
theorem dX3_isBetween_95 : decode cX3_isBetween 95 = .ok (.ifCond .eq 7, 3) := by decide +kernel
theorem dX3_isBetween_98 : decode cX3_isBetween 98 = .ok (.iconst 1, 1) := by decide +kernel
theorem dX3_isBetween_99 : decode cX3_isBetween 99 = .ok (.goto 4, 3) := by decide +kernel
theorem dX3_isBetween_102 : decode cX3_isBetween 102 = .ok (.iconst 0, 1) := by decide +kernel
theorem dX3_isBetween_103 : decode cX3_isBetween 103 = .ok (.ireturn, 1) := by decide +kernel
set_option maxRecDepth 20000 in
theorem ggX3_crosses_X3_side : GoodIn wsX3_crosses wsX3_side := goodIn_r _ [5] (by decide +kernel) (by decide +kernel)
set_option maxRecDepth 20000 in
theorem gX3_crosses_X3_side : GoodIn wsX3_crosses (va_wsS RX3 67 yX3_side wsX3_side) := goodIn_app (goodIn_of _ (by decide +kernel)) ggX3_crosses_X3_side
set_option maxRecDepth 20000 in
theorem ggX3_crosses_X3_isBetween : GoodIn wsX3_crosses wsX3_isBetween := goodIn_r _ [8] (by decide +kernel) (by decide +kernel)
set_option maxRecDepth 20000 in
theorem gX3_crosses_X3_isBetween : GoodIn wsX3_crosses (va_wsS RX3 71 yX3_isBetween wsX3_isBetween) := goodIn_app (goodIn_of _ (by decide +kernel)) ggX3_crosses_X3_isBetween
theorem dX3_crosses_0 : decode cX3_crosses 0 = .ok (.aload_n 0, 1) := by decide +kernel
theorem dX3_crosses_1 : decode cX3_crosses 1 = .ok (.getfield 28, 3) := by decide +kernel
theorem dX3_crosses_4 : decode cX3_crosses 4 = .ok (.iconst 4, 1) := by decide +kernel
theorem dX3_crosses_5 : decode cX3_crosses 5 = .ok (.iload_n 1, 1) := by decide +kernel
theorem dX3_crosses_6 : decode cX3_crosses 6 = .ok (.imul, 1) := by decide +kernel
theorem dX3_crosses_7 : decode cX3_crosses 7 = .ok (.iaload, 1) := by decide +kernel
theorem dX3_crosses_8 : decode cX3_crosses 8 = .ok (.istore 6, 2) := by decide +kernel
theorem dX3_crosses_10 : decode cX3_crosses 10 = .ok (.aload_n 0, 1) := by decide +kernel
theorem dX3_crosses_11 : decode cX3_crosses 11 = .ok (.getfield 28, 3) := by decide +kernel
theorem dX3_crosses_14 : decode cX3_crosses 14 = .ok (.iconst 4, 1) := by decide +kernel
theorem dX3_crosses_15 : decode cX3_crosses 15 = .ok (.iload_n 1, 1) := by decide +kernel
theorem dX3_crosses_16 : decode cX3_crosses 16 = .ok (.imul, 1) := by decide +kernel
theorem dX3_crosses_17 : decode cX3_crosses 17 = .ok (.iconst 1, 1) := by decide +kernel
theorem dX3_crosses_18 : decode cX3_crosses 18 = .ok (.iadd, 1) := by decide +kernel
theorem dX3_crosses_19 : decode cX3_crosses 19 = .ok (.iaload, 1) := by decide +kernel
theorem dX3_crosses_20 : decode cX3_crosses 20 = .ok (.istore 7, 2) := by decide +kernel
theorem dX3_crosses_22 : decode cX3_crosses 22 = .ok (.aload_n 0, 1) := by decide +kernel
theorem dX3_crosses_23 : decode cX3_crosses 23 = .ok (.getfield 28, 3) := by decide +kernel
theorem dX3_crosses_26 : decode cX3_crosses 26 = .ok (.iconst 4, 1) := by decide +kernel
theorem dX3_crosses_27 : decode cX3_crosses 27 = .ok (.iload_n 1, 1) := by decide +kernel
theorem dX3_crosses_28 : decode cX3_crosses 28 = .ok (.imul, 1) := by decide +kernel
theorem dX3_crosses_29 : decode cX3_crosses 29 = .ok (.iconst 2, 1) := by decide +kernel
theorem dX3_crosses_30 : decode cX3_crosses 30 = .ok (.iadd, 1) := by decide +kernel
theorem dX3_crosses_31 : decode cX3_crosses 31 = .ok (.iaload, 1) := by decide +kernel
theorem dX3_crosses_32 : decode cX3_crosses 32 = .ok (.istore 8, 2) := by decide +kernel
theorem dX3_crosses_34 : decode cX3_crosses 34 = .ok (.aload_n 0, 1) := by decide +kernel
theorem dX3_crosses_35 : decode cX3_crosses 35 = .ok (.getfield 28, 3) := by decide +kernel
theorem dX3_crosses_38 : decode cX3_crosses 38 = .ok (.iconst 4, 1) := by decide +kernel
theorem dX3_crosses_39 : decode cX3_crosses 39 = .ok (.iload_n 1, 1) := by decide +kernel
theorem dX3_crosses_40 : decode cX3_crosses 40 = .ok (.imul, 1) := by decide +kernel
theorem dX3_crosses_41 : decode cX3_crosses 41 = .ok (.iconst 3, 1) := by decide +kernel
theorem dX3_crosses_42 : decode cX3_crosses 42 = .ok (.iadd, 1) := by decide +kernel
theorem dX3_crosses_43 : decode cX3_crosses 43 = .ok (.iaload, 1) := by decide +kernel
theorem dX3_crosses_44 : decode cX3_crosses 44 = .ok (.istore 9, 2) := by decide +kernel
theorem dX3_crosses_46 : decode cX3_crosses 46 = .ok (.iload 6, 2) := by decide +kernel
theorem dX3_crosses_48 : decode cX3_crosses 48 = .ok (.i2l, 1) := by decide +kernel
theorem dX3_crosses_49 : decode cX3_crosses 49 = .ok (.iload 7, 2) := by decide +kernel
theorem dX3_crosses_51 : decode cX3_crosses 51 = .ok (.i2l, 1) := by decide +kernel
theorem dX3_crosses_52 : decode cX3_crosses 52 = .ok (.iload 8, 2) := by decide +kernel
theorem dX3_crosses_54 : decode cX3_crosses 54 = .ok (.i2l, 1) := by decide +kernel
theorem dX3_crosses_55 : decode cX3_crosses 55 = .ok (.iload 9, 2) := by decide +kernel
theorem dX3_crosses_57 : decode cX3_crosses 57 = .ok (.i2l, 1) := by decide +kernel
theorem dX3_crosses_58 : decode cX3_crosses 58 = .ok (.iload_n 2, 1) := by decide +kernel
theorem dX3_crosses_59 : decode cX3_crosses 59 = .ok (.i2l, 1) := by decide +kernel
theorem dX3_crosses_60 : decode cX3_crosses 60 = .ok (.iload_n 3, 1) := by decide +kernel
theorem dX3_crosses_61 : decode cX3_crosses 61 = .ok (.i2l, 1) := by decide +kernel
theorem dX3_crosses_62 : decode cX3_crosses 62 = .ok (.invokestatic 67, 3) := by decide +kernel
theorem dX3_crosses_65 : decode cX3_crosses 65 = .ok (.istore 10, 2) := by decide +kernel
theorem dX3_crosses_67 : decode cX3_crosses 67 = .ok (.iload 6, 2) := by decide +kernel
theorem dX3_crosses_69 : decode cX3_crosses 69 = .ok (.i2l, 1) := by decide +kernel
theorem dX3_crosses_70 : decode cX3_crosses 70 = .ok (.iload 7, 2) := by decide +kernel
theorem dX3_crosses_72 : decode cX3_crosses 72 = .ok (.i2l, 1) := by decide +kernel
theorem dX3_crosses_73 : decode cX3_crosses 73 = .ok (.iload 8, 2) := by decide +kernel
theorem dX3_crosses_75 : decode cX3_crosses 75 = .ok (.i2l, 1) := by decide +kernel
theorem dX3_crosses_76 : decode cX3_crosses 76 = .ok (.iload 9, 2) := by decide +kernel
theorem dX3_crosses_78 : decode cX3_crosses 78 = .ok (.i2l, 1) := by decide +kernel
theorem dX3_crosses_79 : decode cX3_crosses 79 = .ok (.iload 4, 2) := by decide +kernel
theorem dX3_crosses_81 : decode cX3_crosses 81 = .ok (.i2l, 1) := by decide +kernel
theorem dX3_crosses_82 : decode cX3_crosses 82 = .ok (.iload 5, 2) := by decide +kernel
theorem dX3_crosses_84 : decode cX3_crosses 84 = .ok (.i2l, 1) := by decide +kernel
theorem dX3_crosses_85 : decode cX3_crosses 85 = .ok (.invokestatic 67, 3) := by decide +kernel
theorem dX3_crosses_88 : decode cX3_crosses 88 = .ok (.istore 11, 2) := by decide +kernel
theorem dX3_crosses_90 : decode cX3_crosses 90 = .ok (.iload_n 2, 1) := by decide +kernel
theorem dX3_crosses_91 : decode cX3_crosses 91 = .ok (.i2l, 1) := by decide +kernel
theorem dX3_crosses_92 : decode cX3_crosses 92 = .ok (.iload_n 3, 1) := by decide +kernel
theorem dX3_crosses_93 : decode cX3_crosses 93 = .ok (.i2l, 1) := by decide +kernel
theorem dX3_crosses_94 : decode cX3_crosses 94 = .ok (.iload 4, 2) := by decide +kernel
theorem dX3_crosses_96 : decode cX3_crosses 96 = .ok (.i2l, 1) := by decide +kernel
theorem dX3_crosses_97 : decode cX3_crosses 97 = .ok (.iload 5, 2) := by decide +kernel
theorem dX3_crosses_99 : decode cX3_crosses 99 = .ok (.i2l, 1) := by decide +kernel
theorem dX3_crosses_100 : decode cX3_crosses 100 = .ok (.iload 6, 2) := by decide +kernel
theorem dX3_crosses_102 : decode cX3_crosses 102 = .ok (.i2l, 1) := by decide +kernel
theorem dX3_crosses_103 : decode cX3_crosses 103 = .ok (.iload 7, 2) := by decide +kernel
theorem dX3_crosses_105 : decode cX3_crosses 105 = .ok (.i2l, 1) := by decide +kernel
theorem dX3_crosses_106 : decode cX3_crosses 106 = .ok (.invokestatic 67, 3) := by decide +kernel
theorem dX3_crosses_109 : decode cX3_crosses 109 = .ok (.istore 12, 2) := by decide +kernel
theorem dX3_crosses_111 : decode cX3_crosses 111 = .ok (.iload_n 2, 1) := by decide +kernel
theorem dX3_crosses_112 : decode cX3_crosses 112 = .ok (.i2l, 1) := by decide +kernel
theorem dX3_crosses_113 : decode cX3_crosses 113 = .ok (.iload_n 3, 1) := by decide +kernel
theorem dX3_crosses_114 : decode cX3_crosses 114 = .ok (.i2l, 1) := by decide +kernel
theorem dX3_crosses_115 : decode cX3_crosses 115 = .ok (.iload 4, 2) := by decide +kernel
theorem dX3_crosses_117 : decode cX3_crosses 117 = .ok (.i2l, 1) := by decide +kernel
theorem dX3_crosses_118 : decode cX3_crosses 118 = .ok (.iload 5, 2) := by decide +kernel
theorem dX3_crosses_120 : decode cX3_crosses 120 = .ok (.i2l, 1) := by decide +kernel
theorem dX3_crosses_121 : decode cX3_crosses 121 = .ok (.iload 8, 2) := by decide +kernel
theorem dX3_crosses_123 : decode cX3_crosses 123 = .ok (.i2l, 1) := by decide +kernel
theorem dX3_crosses_124 : decode cX3_crosses 124 = .ok (.iload 9, 2) := by decide +kernel
theorem dX3_crosses_126 : decode cX3_crosses 126 = .ok (.i2l, 1) := by decide +kernel
theorem dX3_crosses_127 : decode cX3_crosses 127 = .ok (.invokestatic 67, 3) := by decide +kernel
theorem dX3_crosses_130 : decode cX3_crosses 130 = .ok (.istore 13, 2) := by decide +kernel
theorem dX3_crosses_132 : decode cX3_crosses 132 = .ok (.iload_n 2, 1) := by decide +kernel
theorem dX3_crosses_133 : decode cX3_crosses 133 = .ok (.iload 4, 2) := by decide +kernel
theorem dX3_crosses_135 : decode cX3_crosses 135 = .ok (.if_icmp .ne 9, 3) := by decide +kernel
theorem dX3_crosses_138 : decode cX3_crosses 138 = .ok (.iload_n 3, 1) := by decide +kernel
theorem dX3_crosses_139 : decode cX3_crosses 139 = .ok (.iload 5, 2) := by decide +kernel
theorem dX3_crosses_141 : decode cX3_crosses 141 = .ok (.if_icmp .eq 7, 3) := by decide +kernel
theorem dX3_crosses_144 : decode cX3_crosses 144 = .ok (.iconst 1, 1) := by decide +kernel
theorem dX3_crosses_145 : decode cX3_crosses 145 = .ok (.goto 4, 3) := by decide +kernel
theorem dX3_crosses_148 : decode cX3_crosses 148 = .ok (.iconst 0, 1) := by decide +kernel
theorem dX3_crosses_149 : decode cX3_crosses 149 = .ok (.istore 14, 2) := by decide +kernel
theorem dX3_crosses_151 : decode cX3_crosses 151 = .ok (.iload 14, 2) := by decide +kernel
theorem dX3_crosses_153 : decode cX3_crosses 153 = .ok (.ifCond .eq 21, 3) := by decide +kernel
theorem dX3_crosses_156 : decode cX3_crosses 156 = .ok (.iload 10, 2) := by decide +kernel
theorem dX3_crosses_158 : decode cX3_crosses 158 = .ok (.iload 11, 2) := by decide +kernel
theorem dX3_crosses_160 : decode cX3_crosses 160 = .ok (.imul, 1) := by decide +kernel
theorem dX3_crosses_161 : decode cX3_crosses 161 = .ok (.ifCond .ge 13, 3) := by decide +kernel
theorem dX3_crosses_164 : decode cX3_crosses 164 = .ok (.iload 12, 2) := by decide +kernel
theorem dX3_crosses_166 : decode cX3_crosses 166 = .ok (.iload 13, 2) := by decide +kernel
theorem dX3_crosses_168 : decode cX3_crosses 168 = .ok (.imul, 1) := by decide +kernel
theorem dX3_crosses_169 : decode cX3_crosses 169 = .ok (.ifCond .ge 5, 3) := by decide +kernel
theorem dX3_crosses_172 : decode cX3_crosses 172 = .ok (.iconst 1, 1) := by decide +kernel
theorem dX3_crosses_173 : decode cX3_crosses 173 = .ok (.ireturn, 1) := by decide +kernel
theorem dX3_crosses_174 : decode cX3_crosses 174 = .ok (.iload 10, 2) := by decide +kernel
theorem dX3_crosses_176 : decode cX3_crosses 176 = .ok (.ifCond .ne 19, 3) := by decide +kernel
theorem dX3_crosses_179 : decode cX3_crosses 179 = .ok (.iload 6, 2) := by decide +kernel
theorem dX3_crosses_181 : decode cX3_crosses 181 = .ok (.iload 7, 2) := by decide +kernel
theorem dX3_crosses_183 : decode cX3_crosses 183 = .ok (.iload 8, 2) := by decide +kernel
theorem dX3_crosses_185 : decode cX3_crosses 185 = .ok (.iload 9, 2) := by decide +kernel
theorem dX3_crosses_187 : decode cX3_crosses 187 = .ok (.iload_n 2, 1) := by decide +kernel
theorem dX3_crosses_188 : decode cX3_crosses 188 = .ok (.iload_n 3, 1) := by decide +kernel
theorem dX3_crosses_189 : decode cX3_crosses 189 = .ok (.invokestatic 71, 3) := by decide +kernel
theorem dX3_crosses_192 : decode cX3_crosses 192 = .ok (.ifCond .ne 26, 3) := by decide +kernel
theorem dX3_crosses_195 : decode cX3_crosses 195 = .ok (.iload 11, 2) := by decide +kernel
theorem dX3_crosses_197 : decode cX3_crosses 197 = .ok (.ifCond .ne 25, 3) := by decide +kernel
theorem dX3_crosses_200 : decode cX3_crosses 200 = .ok (.iload 6, 2) := by decide +kernel
theorem dX3_crosses_202 : decode cX3_crosses 202 = .ok (.iload 7, 2) := by decide +kernel
theorem dX3_crosses_204 : decode cX3_crosses 204 = .ok (.iload 8, 2) := by decide +kernel
theorem dX3_crosses_206 : decode cX3_crosses 206 = .ok (.iload 9, 2) := by decide +kernel
theorem dX3_crosses_208 : decode cX3_crosses 208 = .ok (.iload 4, 2) := by decide +kernel
theorem dX3_crosses_210 : decode cX3_crosses 210 = .ok (.iload 5, 2) := by decide +kernel
theorem dX3_crosses_212 : decode cX3_crosses 212 = .ok (.invokestatic 71, 3) := by decide +kernel
theorem dX3_crosses_215 : decode cX3_crosses 215 = .ok (.ifCond .eq 7, 3) := by decide +kernel
theorem dX3_crosses_218 : decode cX3_crosses 218 = .ok (.iconst 1, 1) := by decide +kernel
theorem dX3_crosses_219 : decode cX3_crosses 219 = .ok (.goto 4, 3) := by decide +kernel
theorem dX3_crosses_222 : decode cX3_crosses 222 = .ok (.iconst 0, 1) := by decide +kernel
theorem dX3_crosses_223 : decode cX3_crosses 223 = .ok (.istore 15, 2) := by decide +kernel
theorem dX3_crosses_225 : decode cX3_crosses 225 = .ok (.iload 15, 2) := by decide +kernel
theorem dX3_crosses_227 : decode cX3_crosses 227 = .ok (.ifCond .ne 50, 3) := by decide +kernel
theorem dX3_crosses_230 : decode cX3_crosses 230 = .ok (.iload 14, 2) := by decide +kernel
theorem dX3_crosses_232 : decode cX3_crosses 232 = .ok (.ifCond .eq 49, 3) := by decide +kernel
theorem dX3_crosses_235 : decode cX3_crosses 235 = .ok (.iload 12, 2) := by decide +kernel
theorem dX3_crosses_237 : decode cX3_crosses 237 = .ok (.ifCond .ne 19, 3) := by decide +kernel
theorem dX3_crosses_240 : decode cX3_crosses 240 = .ok (.iload_n 2, 1) := by decide +kernel
theorem dX3_crosses_241 : decode cX3_crosses 241 = .ok (.iload_n 3, 1) := by decide +kernel
theorem dX3_crosses_242 : decode cX3_crosses 242 = .ok (.iload 4, 2) := by decide +kernel
theorem dX3_crosses_244 : decode cX3_crosses 244 = .ok (.iload 5, 2) := by decide +kernel
theorem dX3_crosses_246 : decode cX3_crosses 246 = .ok (.iload 6, 2) := by decide +kernel
theorem dX3_crosses_248 : decode cX3_crosses 248 = .ok (.iload 7, 2) := by decide +kernel
theorem dX3_crosses_250 : decode cX3_crosses 250 = .ok (.invokestatic 71, 3) := by decide +kernel
theorem dX3_crosses_253 : decode cX3_crosses 253 = .ok (.ifCond .ne 24, 3) := by decide +kernel
theorem dX3_crosses_256 : decode cX3_crosses 256 = .ok (.iload 13, 2) := by decide +kernel
theorem dX3_crosses_258 : decode cX3_crosses 258 = .ok (.ifCond .ne 23, 3) := by decide +kernel
theorem dX3_crosses_261 : decode cX3_crosses 261 = .ok (.iload_n 2, 1) := by decide +kernel
theorem dX3_crosses_262 : decode cX3_crosses 262 = .ok (.iload_n 3, 1) := by decide +kernel
theorem dX3_crosses_263 : decode cX3_crosses 263 = .ok (.iload 4, 2) := by decide +kernel
theorem dX3_crosses_265 : decode cX3_crosses 265 = .ok (.iload 5, 2) := by decide +kernel
theorem dX3_crosses_267 : decode cX3_crosses 267 = .ok (.iload 8, 2) := by decide +kernel
theorem dX3_crosses_269 : decode cX3_crosses 269 = .ok (.iload 9, 2) := by decide +kernel
theorem dX3_crosses_271 : decode cX3_crosses 271 = .ok (.invokestatic 71, 3) := by decide +kernel
theorem dX3_crosses_274 : decode cX3_crosses 274 = .ok (.ifCond .eq 7, 3) := by decide +kernel
theorem dX3_crosses_277 : decode cX3_crosses 277 = .ok (.iconst 1, 1) := by decide +kernel
theorem dX3_crosses_278 : decode cX3_crosses 278 = .ok (.goto 4, 3) := by decide +kernel
theorem dX3_crosses_281 : decode cX3_crosses 281 = .ok (.iconst 0, 1) := by decide +kernel
theorem dX3_crosses_282 : decode cX3_crosses 282 = .ok (.ireturn, 1) := by decide +kernel
set_option maxRecDepth 20000 in
theorem ggX3_givesIn_X3_crosses : GoodIn wsX3_givesIn wsX3_crosses := goodIn_r _ [15, 16, 17, 18, 14, 19, 20, 21, 22, 23, 24, 25, 26, 27, 28, 29, 30, 31, 32, 33, 34, 35, 36, 37, 38, 39] (by decide +kernel) (by decide +kernel)
set_option maxRecDepth 20000 in
theorem gX3_givesIn_X3_crosses : GoodIn wsX3_givesIn (wsV RX3 79 RX3 yX3_crosses wsX3_crosses) := goodIn_app (goodIn_of _ (by decide +kernel)) ggX3_givesIn_X3_crosses
theorem dX3_givesIn_0 : decode cX3_givesIn 0 = .ok (.aload_n 0, 1) := by decide +kernel
theorem dX3_givesIn_1 : decode cX3_givesIn 1 = .ok (.getfield 16, 3) := by decide +kernel
theorem dX3_givesIn_4 : decode cX3_givesIn 4 = .ok (.iconst 3, 1) := by decide +kernel
theorem dX3_givesIn_5 : decode cX3_givesIn 5 = .ok (.iload_n 1, 1) := by decide +kernel
theorem dX3_givesIn_6 : decode cX3_givesIn 6 = .ok (.imul, 1) := by decide +kernel
theorem dX3_givesIn_7 : decode cX3_givesIn 7 = .ok (.iload_n 3, 1) := by decide +kernel
theorem dX3_givesIn_8 : decode cX3_givesIn 8 = .ok (.iadd, 1) := by decide +kernel
theorem dX3_givesIn_9 : decode cX3_givesIn 9 = .ok (.iaload, 1) := by decide +kernel
theorem dX3_givesIn_10 : decode cX3_givesIn 10 = .ok (.istore 4, 2) := by decide +kernel
theorem dX3_givesIn_12 : decode cX3_givesIn 12 = .ok (.iload 4, 2) := by decide +kernel
theorem dX3_givesIn_14 : decode cX3_givesIn 14 = .ok (.ifCond .ne 5, 3) := by decide +kernel
theorem dX3_givesIn_17 : decode cX3_givesIn 17 = .ok (.iconst 0, 1) := by decide +kernel
theorem dX3_givesIn_18 : decode cX3_givesIn 18 = .ok (.ireturn, 1) := by decide +kernel
theorem dX3_givesIn_19 : decode cX3_givesIn 19 = .ok (.aload_n 0, 1) := by decide +kernel
theorem dX3_givesIn_20 : decode cX3_givesIn 20 = .ok (.getfield 7, 3) := by decide +kernel
theorem dX3_givesIn_23 : decode cX3_givesIn 23 = .ok (.iload_n 1, 1) := by decide +kernel
theorem dX3_givesIn_24 : decode cX3_givesIn 24 = .ok (.iaload, 1) := by decide +kernel
theorem dX3_givesIn_25 : decode cX3_givesIn 25 = .ok (.aload_n 0, 1) := by decide +kernel
theorem dX3_givesIn_26 : decode cX3_givesIn 26 = .ok (.getfield 19, 3) := by decide +kernel
theorem dX3_givesIn_29 : decode cX3_givesIn 29 = .ok (.iload_n 2, 1) := by decide +kernel
theorem dX3_givesIn_30 : decode cX3_givesIn 30 = .ok (.iaload, 1) := by decide +kernel
theorem dX3_givesIn_31 : decode cX3_givesIn 31 = .ok (.isub, 1) := by decide +kernel
theorem dX3_givesIn_32 : decode cX3_givesIn 32 = .ok (.i2l, 1) := by decide +kernel
theorem dX3_givesIn_33 : decode cX3_givesIn 33 = .ok (.lstore 5, 2) := by decide +kernel
theorem dX3_givesIn_35 : decode cX3_givesIn 35 = .ok (.aload_n 0, 1) := by decide +kernel
theorem dX3_givesIn_36 : decode cX3_givesIn 36 = .ok (.getfield 13, 3) := by decide +kernel
theorem dX3_givesIn_39 : decode cX3_givesIn 39 = .ok (.iload_n 1, 1) := by decide +kernel
theorem dX3_givesIn_40 : decode cX3_givesIn 40 = .ok (.iaload, 1) := by decide +kernel
theorem dX3_givesIn_41 : decode cX3_givesIn 41 = .ok (.aload_n 0, 1) := by decide +kernel
theorem dX3_givesIn_42 : decode cX3_givesIn 42 = .ok (.getfield 22, 3) := by decide +kernel
theorem dX3_givesIn_45 : decode cX3_givesIn 45 = .ok (.iload_n 2, 1) := by decide +kernel
theorem dX3_givesIn_46 : decode cX3_givesIn 46 = .ok (.iaload, 1) := by decide +kernel
theorem dX3_givesIn_47 : decode cX3_givesIn 47 = .ok (.isub, 1) := by decide +kernel
theorem dX3_givesIn_48 : decode cX3_givesIn 48 = .ok (.i2l, 1) := by decide +kernel
theorem dX3_givesIn_49 : decode cX3_givesIn 49 = .ok (.lstore 7, 2) := by decide +kernel
theorem dX3_givesIn_51 : decode cX3_givesIn 51 = .ok (.lload 5, 2) := by decide +kernel
theorem dX3_givesIn_53 : decode cX3_givesIn 53 = .ok (.lload 5, 2) := by decide +kernel
theorem dX3_givesIn_55 : decode cX3_givesIn 55 = .ok (.lmul, 1) := by decide +kernel
theorem dX3_givesIn_56 : decode cX3_givesIn 56 = .ok (.lload 7, 2) := by decide +kernel
theorem dX3_givesIn_58 : decode cX3_givesIn 58 = .ok (.lload 7, 2) := by decide +kernel
theorem dX3_givesIn_60 : decode cX3_givesIn 60 = .ok (.lmul, 1) := by decide +kernel
theorem dX3_givesIn_61 : decode cX3_givesIn 61 = .ok (.ladd, 1) := by decide +kernel
theorem dX3_givesIn_62 : decode cX3_givesIn 62 = .ok (.lstore 9, 2) := by decide +kernel
theorem dX3_givesIn_64 : decode cX3_givesIn 64 = .ok (.ldc2_w 75, 3) := by decide +kernel
theorem dX3_givesIn_67 : decode cX3_givesIn 67 = .ok (.lstore 11, 2) := by decide +kernel
theorem dX3_givesIn_69 : decode cX3_givesIn 69 = .ok (.lload 9, 2) := by decide +kernel
theorem dX3_givesIn_71 : decode cX3_givesIn 71 = .ok (.lload 11, 2) := by decide +kernel
theorem dX3_givesIn_73 : decode cX3_givesIn 73 = .ok (.lcmp, 1) := by decide +kernel
theorem dX3_givesIn_74 : decode cX3_givesIn 74 = .ok (.ifCond .lt 23, 3) := by decide +kernel
theorem dX3_givesIn_77 : decode cX3_givesIn 77 = .ok (.iload 4, 2) := by decide +kernel
theorem dX3_givesIn_79 : decode cX3_givesIn 79 = .ok (.aload_n 0, 1) := by decide +kernel
theorem dX3_givesIn_80 : decode cX3_givesIn 80 = .ok (.getfield 34, 3) := by decide +kernel
theorem dX3_givesIn_83 : decode cX3_givesIn 83 = .ok (.isub, 1) := by decide +kernel
theorem dX3_givesIn_84 : decode cX3_givesIn 84 = .ok (.istore 4, 2) := by decide +kernel
theorem dX3_givesIn_86 : decode cX3_givesIn 86 = .ok (.ldc2_w 77, 3) := by decide +kernel
theorem dX3_givesIn_89 : decode cX3_givesIn 89 = .ok (.lload 11, 2) := by decide +kernel
theorem dX3_givesIn_91 : decode cX3_givesIn 91 = .ok (.lmul, 1) := by decide +kernel
theorem dX3_givesIn_92 : decode cX3_givesIn 92 = .ok (.lstore 11, 2) := by decide +kernel
theorem dX3_givesIn_94 : decode cX3_givesIn 94 = .ok (.goto (-25), 3) := by decide +kernel
theorem dX3_givesIn_97 : decode cX3_givesIn 97 = .ok (.iconst 0, 1) := by decide +kernel
theorem dX3_givesIn_98 : decode cX3_givesIn 98 = .ok (.istore 11, 2) := by decide +kernel
theorem dX3_givesIn_100 : decode cX3_givesIn 100 = .ok (.iconst 0, 1) := by decide +kernel
theorem dX3_givesIn_101 : decode cX3_givesIn 101 = .ok (.istore 12, 2) := by decide +kernel
theorem dX3_givesIn_103 : decode cX3_givesIn 103 = .ok (.iload 12, 2) := by decide +kernel
theorem dX3_givesIn_105 : decode cX3_givesIn 105 = .ok (.aload_n 0, 1) := by decide +kernel
theorem dX3_givesIn_106 : decode cX3_givesIn 106 = .ok (.getfield 64, 3) := by decide +kernel
theorem dX3_givesIn_109 : decode cX3_givesIn 109 = .ok (.if_icmp .ge 80, 3) := by decide +kernel
theorem dX3_givesIn_112 : decode cX3_givesIn 112 = .ok (.aload_n 0, 1) := by decide +kernel
theorem dX3_givesIn_113 : decode cX3_givesIn 113 = .ok (.getfield 31, 3) := by decide +kernel
theorem dX3_givesIn_116 : decode cX3_givesIn 116 = .ok (.iload 12, 2) := by decide +kernel
theorem dX3_givesIn_118 : decode cX3_givesIn 118 = .ok (.iaload, 1) := by decide +kernel
theorem dX3_givesIn_119 : decode cX3_givesIn 119 = .ok (.iload 11, 2) := by decide +kernel
theorem dX3_givesIn_121 : decode cX3_givesIn 121 = .ok (.if_icmp .le 40, 3) := by decide +kernel
theorem dX3_givesIn_124 : decode cX3_givesIn 124 = .ok (.aload_n 0, 1) := by decide +kernel
theorem dX3_givesIn_125 : decode cX3_givesIn 125 = .ok (.iload 12, 2) := by decide +kernel
theorem dX3_givesIn_127 : decode cX3_givesIn 127 = .ok (.aload_n 0, 1) := by decide +kernel
theorem dX3_givesIn_128 : decode cX3_givesIn 128 = .ok (.getfield 7, 3) := by decide +kernel
theorem dX3_givesIn_131 : decode cX3_givesIn 131 = .ok (.iload_n 1, 1) := by decide +kernel
theorem dX3_givesIn_132 : decode cX3_givesIn 132 = .ok (.iaload, 1) := by decide +kernel
theorem dX3_givesIn_133 : decode cX3_givesIn 133 = .ok (.aload_n 0, 1) := by decide +kernel
theorem dX3_givesIn_134 : decode cX3_givesIn 134 = .ok (.getfield 13, 3) := by decide +kernel
theorem dX3_givesIn_137 : decode cX3_givesIn 137 = .ok (.iload_n 1, 1) := by decide +kernel
theorem dX3_givesIn_138 : decode cX3_givesIn 138 = .ok (.iaload, 1) := by decide +kernel
theorem dX3_givesIn_139 : decode cX3_givesIn 139 = .ok (.aload_n 0, 1) := by decide +kernel
theorem dX3_givesIn_140 : decode cX3_givesIn 140 = .ok (.getfield 19, 3) := by decide +kernel
theorem dX3_givesIn_143 : decode cX3_givesIn 143 = .ok (.iload_n 2, 1) := by decide +kernel
theorem dX3_givesIn_144 : decode cX3_givesIn 144 = .ok (.iaload, 1) := by decide +kernel
theorem dX3_givesIn_145 : decode cX3_givesIn 145 = .ok (.aload_n 0, 1) := by decide +kernel
theorem dX3_givesIn_146 : decode cX3_givesIn 146 = .ok (.getfield 22, 3) := by decide +kernel
theorem dX3_givesIn_149 : decode cX3_givesIn 149 = .ok (.iload_n 2, 1) := by decide +kernel
theorem dX3_givesIn_150 : decode cX3_givesIn 150 = .ok (.iaload, 1) := by decide +kernel
theorem dX3_givesIn_151 : decode cX3_givesIn 151 = .ok (.invokevirtual 79, 3) := by decide +kernel
theorem dX3_givesIn_154 : decode cX3_givesIn 154 = .ok (.ifCond .eq 7, 3) := by decide +kernel
theorem dX3_givesIn_157 : decode cX3_givesIn 157 = .ok (.iconst 1, 1) := by decide +kernel
theorem dX3_givesIn_158 : decode cX3_givesIn 158 = .ok (.goto 4, 3) := by decide +kernel
theorem dX3_givesIn_161 : decode cX3_givesIn 161 = .ok (.iconst 0, 1) := by decide +kernel
theorem dX3_givesIn_162 : decode cX3_givesIn 162 = .ok (.istore 13, 2) := by decide +kernel
theorem dX3_givesIn_164 : decode cX3_givesIn 164 = .ok (.iload 13, 2) := by decide +kernel
theorem dX3_givesIn_166 : decode cX3_givesIn 166 = .ok (.ifCond .eq 13, 3) := by decide +kernel
theorem dX3_givesIn_169 : decode cX3_givesIn 169 = .ok (.aload_n 0, 1) := by decide +kernel
theorem dX3_givesIn_170 : decode cX3_givesIn 170 = .ok (.getfield 31, 3) := by decide +kernel
theorem dX3_givesIn_173 : decode cX3_givesIn 173 = .ok (.iload 12, 2) := by decide +kernel
theorem dX3_givesIn_175 : decode cX3_givesIn 175 = .ok (.iaload, 1) := by decide +kernel
theorem dX3_givesIn_176 : decode cX3_givesIn 176 = .ok (.goto 5, 3) := by decide +kernel
theorem dX3_givesIn_179 : decode cX3_givesIn 179 = .ok (.iload 11, 2) := by decide +kernel
theorem dX3_givesIn_181 : decode cX3_givesIn 181 = .ok (.istore 11, 2) := by decide +kernel
theorem dX3_givesIn_183 : decode cX3_givesIn 183 = .ok (.iinc 12 1, 3) := by decide +kernel
theorem dX3_givesIn_186 : decode cX3_givesIn 186 = .ok (.goto (-83), 3) := by decide +kernel
theorem dX3_givesIn_189 : decode cX3_givesIn 189 = .ok (.iload 4, 2) := by decide +kernel
theorem dX3_givesIn_191 : decode cX3_givesIn 191 = .ok (.iload 11, 2) := by decide +kernel
theorem dX3_givesIn_193 : decode cX3_givesIn 193 = .ok (.isub, 1) := by decide +kernel
theorem dX3_givesIn_194 : decode cX3_givesIn 194 = .ok (.istore 4, 2) := by decide +kernel
theorem dX3_givesIn_196 : decode cX3_givesIn 196 = .ok (.iload 4, 2) := by decide +kernel
theorem dX3_givesIn_198 : decode cX3_givesIn 198 = .ok (.ifCond .ge 7, 3) := by decide +kernel
theorem dX3_givesIn_201 : decode cX3_givesIn 201 = .ok (.iconst 0, 1) := by decide +kernel
theorem dX3_givesIn_202 : decode cX3_givesIn 202 = .ok (.goto 5, 3) := by decide +kernel
theorem dX3_givesIn_205 : decode cX3_givesIn 205 = .ok (.iload 4, 2) := by decide +kernel
theorem dX3_givesIn_207 : decode cX3_givesIn 207 = .ok (.ireturn, 1) := by decide +kernel
theorem dX3_join_0 : decode cX3_join 0 = .ok (.iload_n 0, 1) := by decide +kernel
theorem dX3_join_1 : decode cX3_join 1 = .ok (.iload_n 1, 1) := by decide +kernel
theorem dX3_join_2 : decode cX3_join 2 = .ok (.if_icmp .le 7, 3) := by decide +kernel
theorem dX3_join_5 : decode cX3_join 5 = .ok (.iload_n 0, 1) := by decide +kernel
theorem dX3_join_6 : decode cX3_join 6 = .ok (.goto 4, 3) := by decide +kernel
theorem dX3_join_9 : decode cX3_join 9 = .ok (.iload_n 1, 1) := by decide +kernel
theorem dX3_join_10 : decode cX3_join 10 = .ok (.istore_n 2, 1) := by decide +kernel
theorem dX3_join_11 : decode cX3_join 11 = .ok (.iload_n 0, 1) := by decide +kernel
theorem dX3_join_12 : decode cX3_join 12 = .ok (.iload_n 1, 1) := by decide +kernel
theorem dX3_join_13 : decode cX3_join 13 = .ok (.if_icmp .le 9, 3) := by decide +kernel
theorem dX3_join_16 : decode cX3_join 16 = .ok (.iload_n 0, 1) := by decide +kernel
theorem dX3_join_17 : decode cX3_join 17 = .ok (.iload_n 1, 1) := by decide +kernel
theorem dX3_join_18 : decode cX3_join 18 = .ok (.isub, 1) := by decide +kernel
theorem dX3_join_19 : decode cX3_join 19 = .ok (.goto 6, 3) := by decide +kernel
theorem dX3_join_22 : decode cX3_join 22 = .ok (.iload_n 1, 1) := by decide +kernel
theorem dX3_join_23 : decode cX3_join 23 = .ok (.iload_n 0, 1) := by decide +kernel
theorem dX3_join_24 : decode cX3_join 24 = .ok (.isub, 1) := by decide +kernel
theorem dX3_join_25 : decode cX3_join 25 = .ok (.istore_n 3, 1) := by decide +kernel
theorem dX3_join_26 : decode cX3_join 26 = .ok (.iload_n 2, 1) := by decide +kernel
theorem dX3_join_27 : decode cX3_join 27 = .ok (.iload_n 3, 1) := by decide +kernel
theorem dX3_join_28 : decode cX3_join 28 = .ok (.bipush 15, 2) := by decide +kernel
theorem dX3_join_30 : decode cX3_join 30 = .ok (.if_icmp .ge 8, 3) := by decide +kernel
theorem dX3_join_33 : decode cX3_join 33 = .ok (.bipush 30, 2) := by decide +kernel
theorem dX3_join_35 : decode cX3_join 35 = .ok (.goto 26, 3) := by decide +kernel
theorem dX3_join_38 : decode cX3_join 38 = .ok (.iload_n 3, 1) := by decide +kernel
theorem dX3_join_39 : decode cX3_join 39 = .ok (.bipush 35, 2) := by decide +kernel
theorem dX3_join_41 : decode cX3_join 41 = .ok (.if_icmp .ge 8, 3) := by decide +kernel
theorem dX3_join_44 : decode cX3_join 44 = .ok (.bipush 20, 2) := by decide +kernel
theorem dX3_join_46 : decode cX3_join 46 = .ok (.goto 15, 3) := by decide +kernel
theorem dX3_join_49 : decode cX3_join 49 = .ok (.iload_n 3, 1) := by decide +kernel
theorem dX3_join_50 : decode cX3_join 50 = .ok (.bipush 95, 2) := by decide +kernel
theorem dX3_join_52 : decode cX3_join 52 = .ok (.if_icmp .ge 8, 3) := by decide +kernel
theorem dX3_join_55 : decode cX3_join 55 = .ok (.bipush 10, 2) := by decide +kernel
theorem dX3_join_57 : decode cX3_join 57 = .ok (.goto 4, 3) := by decide +kernel
theorem dX3_join_60 : decode cX3_join 60 = .ok (.iconst 0, 1) := by decide +kernel
theorem dX3_join_61 : decode cX3_join 61 = .ok (.iadd, 1) := by decide +kernel
theorem dX3_join_62 : decode cX3_join 62 = .ok (.ireturn, 1) := by decide +kernel
set_option maxRecDepth 20000 in
theorem ggX3_levelIn_X3_givesIn : GoodIn wsX3_levelIn wsX3_givesIn := goodIn_r _ [6, 7, 8, 9, 10, 11, 12, 13, 14, 15, 16, 17, 18, 19, 5, 20, 21, 22, 23, 24, 25, 26, 27, 31, 32, 33, 34, 35, 36, 37, 38, 39, 40, 41, 42, 43, 44, 45, 46, 47] (by decide +kernel) (by decide +kernel)
set_option maxRecDepth 20000 in
theorem gX3_levelIn_X3_givesIn : GoodIn wsX3_levelIn (wsV RX3 83 RX3 yX3_givesIn wsX3_givesIn) := goodIn_app (goodIn_of _ (by decide +kernel)) ggX3_levelIn_X3_givesIn
set_option maxRecDepth 20000 in
theorem ggX3_levelIn_X3_join : GoodIn wsX3_levelIn wsX3_join := goodIn_r _ [30] (by decide +kernel) (by decide +kernel)
set_option maxRecDepth 20000 in
theorem gX3_levelIn_X3_join : GoodIn wsX3_levelIn (va_wsS RX3 87 yX3_join wsX3_join) := goodIn_app (goodIn_of _ (by decide +kernel)) ggX3_levelIn_X3_join
theorem dX3_levelIn_0 : decode cX3_levelIn 0 = .ok (.iconst 0, 1) := by decide +kernel
theorem dX3_levelIn_1 : decode cX3_levelIn 1 = .ok (.istore_n 3, 1) := by decide +kernel
theorem dX3_levelIn_2 : decode cX3_levelIn 2 = .ok (.iconst 0, 1) := by decide +kernel
theorem dX3_levelIn_3 : decode cX3_levelIn 3 = .ok (.istore 4, 2) := by decide +kernel
theorem dX3_levelIn_5 : decode cX3_levelIn 5 = .ok (.iload 4, 2) := by decide +kernel
theorem dX3_levelIn_7 : decode cX3_levelIn 7 = .ok (.aload_n 0, 1) := by decide +kernel
theorem dX3_levelIn_8 : decode cX3_levelIn 8 = .ok (.getfield 58, 3) := by decide +kernel
theorem dX3_levelIn_11 : decode cX3_levelIn 11 = .ok (.if_icmp .ge 44, 3) := by decide +kernel
theorem dX3_levelIn_14 : decode cX3_levelIn 14 = .ok (.aload_n 0, 1) := by decide +kernel
theorem dX3_levelIn_15 : decode cX3_levelIn 15 = .ok (.iload 4, 2) := by decide +kernel
theorem dX3_levelIn_17 : decode cX3_levelIn 17 = .ok (.iload_n 1, 1) := by decide +kernel
theorem dX3_levelIn_18 : decode cX3_levelIn 18 = .ok (.iload_n 2, 1) := by decide +kernel
theorem dX3_levelIn_19 : decode cX3_levelIn 19 = .ok (.invokevirtual 83, 3) := by decide +kernel
theorem dX3_levelIn_22 : decode cX3_levelIn 22 = .ok (.istore 5, 2) := by decide +kernel
theorem dX3_levelIn_24 : decode cX3_levelIn 24 = .ok (.iload 5, 2) := by decide +kernel
theorem dX3_levelIn_26 : decode cX3_levelIn 26 = .ok (.ifCond .ne 7, 3) := by decide +kernel
theorem dX3_levelIn_29 : decode cX3_levelIn 29 = .ok (.iload_n 3, 1) := by decide +kernel
theorem dX3_levelIn_30 : decode cX3_levelIn 30 = .ok (.goto 18, 3) := by decide +kernel
theorem dX3_levelIn_33 : decode cX3_levelIn 33 = .ok (.iload_n 3, 1) := by decide +kernel
theorem dX3_levelIn_34 : decode cX3_levelIn 34 = .ok (.ifCond .ne 8, 3) := by decide +kernel
theorem dX3_levelIn_37 : decode cX3_levelIn 37 = .ok (.iload 5, 2) := by decide +kernel
theorem dX3_levelIn_39 : decode cX3_levelIn 39 = .ok (.goto 9, 3) := by decide +kernel
theorem dX3_levelIn_42 : decode cX3_levelIn 42 = .ok (.iload_n 3, 1) := by decide +kernel
theorem dX3_levelIn_43 : decode cX3_levelIn 43 = .ok (.iload 5, 2) := by decide +kernel
theorem dX3_levelIn_45 : decode cX3_levelIn 45 = .ok (.invokestatic 87, 3) := by decide +kernel
theorem dX3_levelIn_48 : decode cX3_levelIn 48 = .ok (.istore_n 3, 1) := by decide +kernel
theorem dX3_levelIn_49 : decode cX3_levelIn 49 = .ok (.iinc 4 1, 3) := by decide +kernel
theorem dX3_levelIn_52 : decode cX3_levelIn 52 = .ok (.goto (-47), 3) := by decide +kernel
theorem dX3_levelIn_55 : decode cX3_levelIn 55 = .ok (.iload_n 3, 1) := by decide +kernel
theorem dX3_levelIn_56 : decode cX3_levelIn 56 = .ok (.ireturn, 1) := by decide +kernel
set_option maxRecDepth 20000 in
theorem ggX3_allDay_X3_levelIn : GoodIn wsX3_allDay wsX3_levelIn := goodIn_r _ [6, 7, 8, 9, 10, 5, 11, 12, 13, 14, 15, 16, 17, 18, 19, 20, 21, 22, 23, 24, 25, 26, 27, 28, 29, 30, 31, 32, 33, 34, 35, 36, 37, 38, 39, 40, 41, 42, 43, 44, 45, 46, 47, 48, 49, 50, 51, 52] (by decide +kernel) (by decide +kernel)
set_option maxRecDepth 20000 in
theorem gX3_allDay_X3_levelIn : GoodIn wsX3_allDay (wsV RX3 91 RX3 yX3_levelIn wsX3_levelIn) := goodIn_app (goodIn_of _ (by decide +kernel)) ggX3_allDay_X3_levelIn
theorem dX3_allDay_0 : decode cX3_allDay 0 = .ok (.iconst 0, 1) := by decide +kernel
theorem dX3_allDay_1 : decode cX3_allDay 1 = .ok (.istore_n 2, 1) := by decide +kernel
theorem dX3_allDay_2 : decode cX3_allDay 2 = .ok (.iconst 0, 1) := by decide +kernel
theorem dX3_allDay_3 : decode cX3_allDay 3 = .ok (.istore_n 3, 1) := by decide +kernel
theorem dX3_allDay_4 : decode cX3_allDay 4 = .ok (.iload_n 3, 1) := by decide +kernel
theorem dX3_allDay_5 : decode cX3_allDay 5 = .ok (.iconst 3, 1) := by decide +kernel
theorem dX3_allDay_6 : decode cX3_allDay 6 = .ok (.if_icmp .ge 49, 3) := by decide +kernel
theorem dX3_allDay_9 : decode cX3_allDay 9 = .ok (.aload_n 0, 1) := by decide +kernel
theorem dX3_allDay_10 : decode cX3_allDay 10 = .ok (.iload_n 1, 1) := by decide +kernel
theorem dX3_allDay_11 : decode cX3_allDay 11 = .ok (.iload_n 3, 1) := by decide +kernel
theorem dX3_allDay_12 : decode cX3_allDay 12 = .ok (.invokevirtual 91, 3) := by decide +kernel
theorem dX3_allDay_15 : decode cX3_allDay 15 = .ok (.istore 4, 2) := by decide +kernel
theorem dX3_allDay_17 : decode cX3_allDay 17 = .ok (.iload 4, 2) := by decide +kernel
theorem dX3_allDay_19 : decode cX3_allDay 19 = .ok (.ifCond .le 28, 3) := by decide +kernel
theorem dX3_allDay_22 : decode cX3_allDay 22 = .ok (.iload 4, 2) := by decide +kernel
theorem dX3_allDay_24 : decode cX3_allDay 24 = .ok (.aload_n 0, 1) := by decide +kernel
theorem dX3_allDay_25 : decode cX3_allDay 25 = .ok (.getfield 38, 3) := by decide +kernel
theorem dX3_allDay_28 : decode cX3_allDay 28 = .ok (.iload_n 3, 1) := by decide +kernel
theorem dX3_allDay_29 : decode cX3_allDay 29 = .ok (.iaload, 1) := by decide +kernel
theorem dX3_allDay_30 : decode cX3_allDay 30 = .ok (.iadd, 1) := by decide +kernel
theorem dX3_allDay_31 : decode cX3_allDay 31 = .ok (.iload_n 2, 1) := by decide +kernel
theorem dX3_allDay_32 : decode cX3_allDay 32 = .ok (.if_icmp .le 15, 3) := by decide +kernel
theorem dX3_allDay_35 : decode cX3_allDay 35 = .ok (.iload 4, 2) := by decide +kernel
theorem dX3_allDay_37 : decode cX3_allDay 37 = .ok (.aload_n 0, 1) := by decide +kernel
theorem dX3_allDay_38 : decode cX3_allDay 38 = .ok (.getfield 38, 3) := by decide +kernel
theorem dX3_allDay_41 : decode cX3_allDay 41 = .ok (.iload_n 3, 1) := by decide +kernel
theorem dX3_allDay_42 : decode cX3_allDay 42 = .ok (.iaload, 1) := by decide +kernel
theorem dX3_allDay_43 : decode cX3_allDay 43 = .ok (.iadd, 1) := by decide +kernel
theorem dX3_allDay_44 : decode cX3_allDay 44 = .ok (.goto 4, 3) := by decide +kernel
theorem dX3_allDay_47 : decode cX3_allDay 47 = .ok (.iload_n 2, 1) := by decide +kernel
theorem dX3_allDay_48 : decode cX3_allDay 48 = .ok (.istore_n 2, 1) := by decide +kernel
theorem dX3_allDay_49 : decode cX3_allDay 49 = .ok (.iinc 3 1, 3) := by decide +kernel
theorem dX3_allDay_52 : decode cX3_allDay 52 = .ok (.goto (-48), 3) := by decide +kernel
theorem dX3_allDay_55 : decode cX3_allDay 55 = .ok (.iload_n 2, 1) := by decide +kernel
theorem dX3_allDay_56 : decode cX3_allDay 56 = .ok (.ireturn, 1) := by decide +kernel
theorem dX3_isHouse_0 : decode cX3_isHouse 0 = .ok (.iload_n 1, 1) := by decide +kernel
theorem dX3_isHouse_1 : decode cX3_isHouse 1 = .ok (.ifCond .lt 15, 3) := by decide +kernel
theorem dX3_isHouse_4 : decode cX3_isHouse 4 = .ok (.iload_n 1, 1) := by decide +kernel
theorem dX3_isHouse_5 : decode cX3_isHouse 5 = .ok (.aload_n 0, 1) := by decide +kernel
theorem dX3_isHouse_6 : decode cX3_isHouse 6 = .ok (.getfield 61, 3) := by decide +kernel
theorem dX3_isHouse_9 : decode cX3_isHouse 9 = .ok (.if_icmp .ge 7, 3) := by decide +kernel
theorem dX3_isHouse_12 : decode cX3_isHouse 12 = .ok (.iconst 1, 1) := by decide +kernel
theorem dX3_isHouse_13 : decode cX3_isHouse 13 = .ok (.goto 4, 3) := by decide +kernel
theorem dX3_isHouse_16 : decode cX3_isHouse 16 = .ok (.iconst 0, 1) := by decide +kernel
theorem dX3_isHouse_17 : decode cX3_isHouse 17 = .ok (.ireturn, 1) := by decide +kernel
set_option maxRecDepth 20000 in
theorem ggX3_gives_X3_within : GoodIn wsX3_gives wsX3_within := goodIn_r _ [5] (by decide +kernel) (by decide +kernel)
set_option maxRecDepth 20000 in
theorem gX3_gives_X3_within : GoodIn wsX3_gives (va_wsS RX3 50 yX3_within wsX3_within) := goodIn_app (goodIn_of _ (by decide +kernel)) ggX3_gives_X3_within
set_option maxRecDepth 20000 in
theorem ggX3_gives_X3_isHouse : GoodIn wsX3_gives wsX3_isHouse := goodIn_r _ [9, 10, 36, 37, 38, 39, 40, 41, 42, 43, 44, 45, 46, 47, 48, 49, 50, 51, 52] (by decide +kernel) (by decide +kernel)
set_option maxRecDepth 20000 in
theorem gX3_gives_X3_isHouse : GoodIn wsX3_gives (wsV RX3 94 RX3 yX3_isHouse wsX3_isHouse) := goodIn_app (goodIn_of _ (by decide +kernel)) ggX3_gives_X3_isHouse
set_option maxRecDepth 20000 in
theorem ggX3_gives_X3_givesIn : GoodIn wsX3_gives wsX3_givesIn := goodIn_r _ [14, 15, 16, 17, 18, 19, 20, 21, 22, 23, 24, 25, 26, 27, 4, 28, 29, 30, 31, 32, 33, 34, 35, 36, 37, 38, 39, 40, 41, 42, 43, 44, 45, 46, 47, 48, 49, 50, 51, 52] (by decide +kernel) (by decide +kernel)
set_option maxRecDepth 20000 in
theorem gX3_gives_X3_givesIn : GoodIn wsX3_gives (wsV RX3 83 RX3 yX3_givesIn wsX3_givesIn) := goodIn_app (goodIn_of _ (by decide +kernel)) ggX3_gives_X3_givesIn
theorem dX3_gives_0 : decode cX3_gives 0 = .ok (.iload_n 1, 1) := by decide +kernel
theorem dX3_gives_1 : decode cX3_gives 1 = .ok (.iconst 0, 1) := by decide +kernel
theorem dX3_gives_2 : decode cX3_gives 2 = .ok (.aload_n 0, 1) := by decide +kernel
theorem dX3_gives_3 : decode cX3_gives 3 = .ok (.getfield 58, 3) := by decide +kernel
theorem dX3_gives_6 : decode cX3_gives 6 = .ok (.iconst 1, 1) := by decide +kernel
theorem dX3_gives_7 : decode cX3_gives 7 = .ok (.isub, 1) := by decide +kernel
theorem dX3_gives_8 : decode cX3_gives 8 = .ok (.invokestatic 50, 3) := by decide +kernel
theorem dX3_gives_11 : decode cX3_gives 11 = .ok (.ifCond .eq 30, 3) := by decide +kernel
theorem dX3_gives_14 : decode cX3_gives 14 = .ok (.aload_n 0, 1) := by decide +kernel
theorem dX3_gives_15 : decode cX3_gives 15 = .ok (.iload_n 2, 1) := by decide +kernel
theorem dX3_gives_16 : decode cX3_gives 16 = .ok (.invokevirtual 94, 3) := by decide +kernel
theorem dX3_gives_19 : decode cX3_gives 19 = .ok (.ifCond .eq 22, 3) := by decide +kernel
theorem dX3_gives_22 : decode cX3_gives 22 = .ok (.iload_n 3, 1) := by decide +kernel
theorem dX3_gives_23 : decode cX3_gives 23 = .ok (.iconst 0, 1) := by decide +kernel
theorem dX3_gives_24 : decode cX3_gives 24 = .ok (.iconst 2, 1) := by decide +kernel
theorem dX3_gives_25 : decode cX3_gives 25 = .ok (.invokestatic 50, 3) := by decide +kernel
theorem dX3_gives_28 : decode cX3_gives 28 = .ok (.ifCond .eq 13, 3) := by decide +kernel
theorem dX3_gives_31 : decode cX3_gives 31 = .ok (.aload_n 0, 1) := by decide +kernel
theorem dX3_gives_32 : decode cX3_gives 32 = .ok (.iload_n 1, 1) := by decide +kernel
theorem dX3_gives_33 : decode cX3_gives 33 = .ok (.iload_n 2, 1) := by decide +kernel
theorem dX3_gives_34 : decode cX3_gives 34 = .ok (.iload_n 3, 1) := by decide +kernel
theorem dX3_gives_35 : decode cX3_gives 35 = .ok (.invokevirtual 83, 3) := by decide +kernel
theorem dX3_gives_38 : decode cX3_gives 38 = .ok (.goto 4, 3) := by decide +kernel
theorem dX3_gives_41 : decode cX3_gives 41 = .ok (.iconst (-1), 1) := by decide +kernel
theorem dX3_gives_42 : decode cX3_gives 42 = .ok (.ireturn, 1) := by decide +kernel
set_option maxRecDepth 20000 in
theorem ggX3_level_X3_isHouse : GoodIn wsX3_level wsX3_isHouse := goodIn_r _ [5, 6, 48, 49, 50, 51, 52, 53, 54, 55, 56, 57, 58, 59, 60, 61, 62, 63, 64] (by decide +kernel) (by decide +kernel)
set_option maxRecDepth 20000 in
theorem gX3_level_X3_isHouse : GoodIn wsX3_level (wsV RX3 94 RX3 yX3_isHouse wsX3_isHouse) := goodIn_app (goodIn_of _ (by decide +kernel)) ggX3_level_X3_isHouse
set_option maxRecDepth 20000 in
theorem ggX3_level_X3_within : GoodIn wsX3_level wsX3_within := goodIn_r _ [9] (by decide +kernel) (by decide +kernel)
set_option maxRecDepth 20000 in
theorem gX3_level_X3_within : GoodIn wsX3_level (va_wsS RX3 50 yX3_within wsX3_within) := goodIn_app (goodIn_of _ (by decide +kernel)) ggX3_level_X3_within
set_option maxRecDepth 20000 in
theorem ggX3_level_X3_allDay : GoodIn wsX3_level wsX3_allDay := goodIn_r _ [13, 14, 15, 16, 17, 4, 18, 19, 20, 21, 22, 23, 24, 25, 26, 27, 28, 29, 30, 31, 32, 33, 34, 35, 36, 37, 38, 39, 40, 41, 42, 43, 44, 45, 46, 47, 48, 49, 50, 51, 52, 53, 54, 55, 56, 57, 58, 59, 60, 61, 62, 63, 64] (by decide +kernel) (by decide +kernel)
set_option maxRecDepth 20000 in
theorem gX3_level_X3_allDay : GoodIn wsX3_level (wsV RX3 98 RX3 yX3_allDay wsX3_allDay) := goodIn_app (goodIn_of _ (by decide +kernel)) ggX3_level_X3_allDay
set_option maxRecDepth 20000 in
theorem ggX3_level_X3_levelIn : GoodIn wsX3_level wsX3_levelIn := goodIn_r _ [18, 19, 20, 21, 22, 4, 23, 24, 25, 26, 27, 28, 29, 30, 31, 32, 33, 34, 35, 36, 37, 38, 39, 40, 41, 42, 43, 44, 45, 46, 47, 48, 49, 50, 51, 52, 53, 54, 55, 56, 57, 58, 59, 60, 61, 62, 63, 64] (by decide +kernel) (by decide +kernel)
set_option maxRecDepth 20000 in
theorem gX3_level_X3_levelIn : GoodIn wsX3_level (wsV RX3 91 RX3 yX3_levelIn wsX3_levelIn) := goodIn_app (goodIn_of _ (by decide +kernel)) ggX3_level_X3_levelIn
theorem dX3_level_0 : decode cX3_level 0 = .ok (.aload_n 0, 1) := by decide +kernel
theorem dX3_level_1 : decode cX3_level 1 = .ok (.iload_n 1, 1) := by decide +kernel
theorem dX3_level_2 : decode cX3_level 2 = .ok (.invokevirtual 94, 3) := by decide +kernel
theorem dX3_level_5 : decode cX3_level 5 = .ok (.ifCond .eq 12, 3) := by decide +kernel
theorem dX3_level_8 : decode cX3_level 8 = .ok (.iload_n 2, 1) := by decide +kernel
theorem dX3_level_9 : decode cX3_level 9 = .ok (.iconst 0, 1) := by decide +kernel
theorem dX3_level_10 : decode cX3_level 10 = .ok (.iconst 3, 1) := by decide +kernel
theorem dX3_level_11 : decode cX3_level 11 = .ok (.invokestatic 50, 3) := by decide +kernel
theorem dX3_level_14 : decode cX3_level 14 = .ok (.ifCond .ne 5, 3) := by decide +kernel
theorem dX3_level_17 : decode cX3_level 17 = .ok (.iconst (-1), 1) := by decide +kernel
theorem dX3_level_18 : decode cX3_level 18 = .ok (.ireturn, 1) := by decide +kernel
theorem dX3_level_19 : decode cX3_level 19 = .ok (.iload_n 2, 1) := by decide +kernel
theorem dX3_level_20 : decode cX3_level 20 = .ok (.iconst 3, 1) := by decide +kernel
theorem dX3_level_21 : decode cX3_level 21 = .ok (.if_icmp .ne 11, 3) := by decide +kernel
theorem dX3_level_24 : decode cX3_level 24 = .ok (.aload_n 0, 1) := by decide +kernel
theorem dX3_level_25 : decode cX3_level 25 = .ok (.iload_n 1, 1) := by decide +kernel
theorem dX3_level_26 : decode cX3_level 26 = .ok (.invokevirtual 98, 3) := by decide +kernel
theorem dX3_level_29 : decode cX3_level 29 = .ok (.goto 9, 3) := by decide +kernel
theorem dX3_level_32 : decode cX3_level 32 = .ok (.aload_n 0, 1) := by decide +kernel
theorem dX3_level_33 : decode cX3_level 33 = .ok (.iload_n 1, 1) := by decide +kernel
theorem dX3_level_34 : decode cX3_level 34 = .ok (.iload_n 2, 1) := by decide +kernel
theorem dX3_level_35 : decode cX3_level 35 = .ok (.invokevirtual 91, 3) := by decide +kernel
theorem dX3_level_38 : decode cX3_level 38 = .ok (.ireturn, 1) := by decide +kernel
set_option maxRecDepth 20000 in
theorem ggX3_people_X3_allDay : GoodIn wsX3_people wsX3_allDay := goodIn_r _ [7, 8, 9, 10, 11, 6, 12, 13, 14, 15, 16, 17, 18, 19, 20, 21, 22, 23, 24, 25, 26, 27, 28, 29, 30, 31, 32, 33, 34, 35, 36, 37, 38, 39, 40, 41, 42, 43, 44, 45, 46, 47, 48, 49, 50, 51, 52, 53, 54, 55, 56, 57, 58] (by decide +kernel) (by decide +kernel)
set_option maxRecDepth 20000 in
theorem gX3_people_X3_allDay : GoodIn wsX3_people (wsV RX3 98 RX3 yX3_allDay wsX3_allDay) := goodIn_app (goodIn_of _ (by decide +kernel)) ggX3_people_X3_allDay
theorem dX3_people_0 : decode cX3_people 0 = .ok (.iconst 0, 1) := by decide +kernel
theorem dX3_people_1 : decode cX3_people 1 = .ok (.istore_n 2, 1) := by decide +kernel
theorem dX3_people_2 : decode cX3_people 2 = .ok (.iconst 0, 1) := by decide +kernel
theorem dX3_people_3 : decode cX3_people 3 = .ok (.istore_n 3, 1) := by decide +kernel
theorem dX3_people_4 : decode cX3_people 4 = .ok (.iload_n 3, 1) := by decide +kernel
theorem dX3_people_5 : decode cX3_people 5 = .ok (.aload_n 0, 1) := by decide +kernel
theorem dX3_people_6 : decode cX3_people 6 = .ok (.getfield 61, 3) := by decide +kernel
theorem dX3_people_9 : decode cX3_people 9 = .ok (.if_icmp .ge 31, 3) := by decide +kernel
theorem dX3_people_12 : decode cX3_people 12 = .ok (.iload_n 2, 1) := by decide +kernel
theorem dX3_people_13 : decode cX3_people 13 = .ok (.aload_n 0, 1) := by decide +kernel
theorem dX3_people_14 : decode cX3_people 14 = .ok (.iload_n 3, 1) := by decide +kernel
theorem dX3_people_15 : decode cX3_people 15 = .ok (.invokevirtual 98, 3) := by decide +kernel
theorem dX3_people_18 : decode cX3_people 18 = .ok (.iload_n 1, 1) := by decide +kernel
theorem dX3_people_19 : decode cX3_people 19 = .ok (.if_icmp .le 12, 3) := by decide +kernel
theorem dX3_people_22 : decode cX3_people 22 = .ok (.aload_n 0, 1) := by decide +kernel
theorem dX3_people_23 : decode cX3_people 23 = .ok (.getfield 25, 3) := by decide +kernel
theorem dX3_people_26 : decode cX3_people 26 = .ok (.iload_n 3, 1) := by decide +kernel
theorem dX3_people_27 : decode cX3_people 27 = .ok (.iaload, 1) := by decide +kernel
theorem dX3_people_28 : decode cX3_people 28 = .ok (.goto 4, 3) := by decide +kernel
theorem dX3_people_31 : decode cX3_people 31 = .ok (.iconst 0, 1) := by decide +kernel
theorem dX3_people_32 : decode cX3_people 32 = .ok (.iadd, 1) := by decide +kernel
theorem dX3_people_33 : decode cX3_people 33 = .ok (.istore_n 2, 1) := by decide +kernel
theorem dX3_people_34 : decode cX3_people 34 = .ok (.iinc 3 1, 3) := by decide +kernel
theorem dX3_people_37 : decode cX3_people 37 = .ok (.goto (-33), 3) := by decide +kernel
theorem dX3_people_40 : decode cX3_people 40 = .ok (.iload_n 2, 1) := by decide +kernel
theorem dX3_people_41 : decode cX3_people 41 = .ok (.ireturn, 1) := by decide +kernel
set_option maxRecDepth 20000 in
theorem ggX3_loudest_X3_isHouse : GoodIn wsX3_loudest wsX3_isHouse := goodIn_r _ [6, 7, 36, 37, 38, 39, 40, 41, 42, 43, 44, 45, 46, 47, 48, 49, 50, 51, 52] (by decide +kernel) (by decide +kernel)
set_option maxRecDepth 20000 in
theorem gX3_loudest_X3_isHouse : GoodIn wsX3_loudest (wsV RX3 94 RX3 yX3_isHouse wsX3_isHouse) := goodIn_app (goodIn_of _ (by decide +kernel)) ggX3_loudest_X3_isHouse
set_option maxRecDepth 20000 in
theorem ggX3_loudest_X3_within : GoodIn wsX3_loudest wsX3_within := goodIn_r _ [10] (by decide +kernel) (by decide +kernel)
set_option maxRecDepth 20000 in
theorem gX3_loudest_X3_within : GoodIn wsX3_loudest (va_wsS RX3 50 yX3_within wsX3_within) := goodIn_app (goodIn_of _ (by decide +kernel)) ggX3_loudest_X3_within
set_option maxRecDepth 20000 in
theorem ggX3_loudest_X3_givesIn : GoodIn wsX3_loudest wsX3_givesIn := goodIn_r _ [14, 15, 16, 17, 18, 19, 20, 21, 22, 23, 24, 25, 26, 27, 5, 28, 29, 30, 31, 32, 33, 34, 35, 36, 37, 38, 39, 40, 41, 42, 43, 44, 45, 46, 47, 48, 49, 50, 51, 52] (by decide +kernel) (by decide +kernel)
set_option maxRecDepth 20000 in
theorem gX3_loudest_X3_givesIn : GoodIn wsX3_loudest (wsV RX3 83 RX3 yX3_givesIn wsX3_givesIn) := goodIn_app (goodIn_of _ (by decide +kernel)) ggX3_loudest_X3_givesIn
theorem dX3_loudest_0 : decode cX3_loudest 0 = .ok (.iconst (-1), 1) := by decide +kernel
theorem dX3_loudest_1 : decode cX3_loudest 1 = .ok (.istore_n 3, 1) := by decide +kernel
theorem dX3_loudest_2 : decode cX3_loudest 2 = .ok (.iconst 0, 1) := by decide +kernel
theorem dX3_loudest_3 : decode cX3_loudest 3 = .ok (.istore 4, 2) := by decide +kernel
theorem dX3_loudest_5 : decode cX3_loudest 5 = .ok (.iconst 0, 1) := by decide +kernel
theorem dX3_loudest_6 : decode cX3_loudest 6 = .ok (.istore 5, 2) := by decide +kernel
theorem dX3_loudest_8 : decode cX3_loudest 8 = .ok (.iload 5, 2) := by decide +kernel
theorem dX3_loudest_10 : decode cX3_loudest 10 = .ok (.aload_n 0, 1) := by decide +kernel
theorem dX3_loudest_11 : decode cX3_loudest 11 = .ok (.getfield 58, 3) := by decide +kernel
theorem dX3_loudest_14 : decode cX3_loudest 14 = .ok (.if_icmp .ge 66, 3) := by decide +kernel
theorem dX3_loudest_17 : decode cX3_loudest 17 = .ok (.aload_n 0, 1) := by decide +kernel
theorem dX3_loudest_18 : decode cX3_loudest 18 = .ok (.iload_n 1, 1) := by decide +kernel
theorem dX3_loudest_19 : decode cX3_loudest 19 = .ok (.invokevirtual 94, 3) := by decide +kernel
theorem dX3_loudest_22 : decode cX3_loudest 22 = .ok (.ifCond .eq 58, 3) := by decide +kernel
theorem dX3_loudest_25 : decode cX3_loudest 25 = .ok (.iload_n 2, 1) := by decide +kernel
theorem dX3_loudest_26 : decode cX3_loudest 26 = .ok (.iconst 0, 1) := by decide +kernel
theorem dX3_loudest_27 : decode cX3_loudest 27 = .ok (.iconst 2, 1) := by decide +kernel
theorem dX3_loudest_28 : decode cX3_loudest 28 = .ok (.invokestatic 50, 3) := by decide +kernel
theorem dX3_loudest_31 : decode cX3_loudest 31 = .ok (.ifCond .eq 49, 3) := by decide +kernel
theorem dX3_loudest_34 : decode cX3_loudest 34 = .ok (.aload_n 0, 1) := by decide +kernel
theorem dX3_loudest_35 : decode cX3_loudest 35 = .ok (.iload 5, 2) := by decide +kernel
theorem dX3_loudest_37 : decode cX3_loudest 37 = .ok (.iload_n 1, 1) := by decide +kernel
theorem dX3_loudest_38 : decode cX3_loudest 38 = .ok (.iload_n 2, 1) := by decide +kernel
theorem dX3_loudest_39 : decode cX3_loudest 39 = .ok (.invokevirtual 83, 3) := by decide +kernel
theorem dX3_loudest_42 : decode cX3_loudest 42 = .ok (.istore 6, 2) := by decide +kernel
theorem dX3_loudest_44 : decode cX3_loudest 44 = .ok (.iload 6, 2) := by decide +kernel
theorem dX3_loudest_46 : decode cX3_loudest 46 = .ok (.iload 4, 2) := by decide +kernel
theorem dX3_loudest_48 : decode cX3_loudest 48 = .ok (.if_icmp .le 8, 3) := by decide +kernel
theorem dX3_loudest_51 : decode cX3_loudest 51 = .ok (.iload 5, 2) := by decide +kernel
theorem dX3_loudest_53 : decode cX3_loudest 53 = .ok (.goto 4, 3) := by decide +kernel
theorem dX3_loudest_56 : decode cX3_loudest 56 = .ok (.iload_n 3, 1) := by decide +kernel
theorem dX3_loudest_57 : decode cX3_loudest 57 = .ok (.istore_n 3, 1) := by decide +kernel
theorem dX3_loudest_58 : decode cX3_loudest 58 = .ok (.iload 6, 2) := by decide +kernel
theorem dX3_loudest_60 : decode cX3_loudest 60 = .ok (.iload 4, 2) := by decide +kernel
theorem dX3_loudest_62 : decode cX3_loudest 62 = .ok (.if_icmp .le 8, 3) := by decide +kernel
theorem dX3_loudest_65 : decode cX3_loudest 65 = .ok (.iload 6, 2) := by decide +kernel
theorem dX3_loudest_67 : decode cX3_loudest 67 = .ok (.goto 5, 3) := by decide +kernel
theorem dX3_loudest_70 : decode cX3_loudest 70 = .ok (.iload 4, 2) := by decide +kernel
theorem dX3_loudest_72 : decode cX3_loudest 72 = .ok (.istore 4, 2) := by decide +kernel
theorem dX3_loudest_74 : decode cX3_loudest 74 = .ok (.iinc 5 1, 3) := by decide +kernel
theorem dX3_loudest_77 : decode cX3_loudest 77 = .ok (.goto (-69), 3) := by decide +kernel
theorem dX3_loudest_80 : decode cX3_loudest 80 = .ok (.iload_n 3, 1) := by decide +kernel
theorem dX3_loudest_81 : decode cX3_loudest 81 = .ok (.ireturn, 1) := by decide +kernel
set_option maxRecDepth 20000 in
theorem ggX3_ranked_X3_allDay : GoodIn wsX3_ranked wsX3_allDay := goodIn_r _ [7, 8, 9, 10, 11, 6, 12, 13, 14, 15, 16, 17, 18, 19, 20, 21, 22, 23, 24, 25, 26, 27, 28, 29, 30, 31, 32, 33, 34, 35, 36, 37, 38, 39, 40, 41, 42, 43, 44, 45, 46, 47, 48, 49, 50, 51, 52, 53, 54, 55, 56, 57, 58] (by decide +kernel) (by decide +kernel)
set_option maxRecDepth 20000 in
theorem gX3_ranked_X3_allDay : GoodIn wsX3_ranked (wsV RX3 98 RX3 yX3_allDay wsX3_allDay) := goodIn_app (goodIn_of _ (by decide +kernel)) ggX3_ranked_X3_allDay
theorem dX3_ranked_0 : decode cX3_ranked 0 = .ok (.iconst 0, 1) := by decide +kernel
theorem dX3_ranked_1 : decode cX3_ranked 1 = .ok (.istore_n 2, 1) := by decide +kernel
theorem dX3_ranked_2 : decode cX3_ranked 2 = .ok (.iload_n 2, 1) := by decide +kernel
theorem dX3_ranked_3 : decode cX3_ranked 3 = .ok (.aload_n 0, 1) := by decide +kernel
theorem dX3_ranked_4 : decode cX3_ranked 4 = .ok (.getfield 61, 3) := by decide +kernel
theorem dX3_ranked_7 : decode cX3_ranked 7 = .ok (.if_icmp .ge 20, 3) := by decide +kernel
theorem dX3_ranked_10 : decode cX3_ranked 10 = .ok (.aload_n 0, 1) := by decide +kernel
theorem dX3_ranked_11 : decode cX3_ranked 11 = .ok (.getfield 47, 3) := by decide +kernel
theorem dX3_ranked_14 : decode cX3_ranked 14 = .ok (.iload_n 2, 1) := by decide +kernel
theorem dX3_ranked_15 : decode cX3_ranked 15 = .ok (.aload_n 0, 1) := by decide +kernel
theorem dX3_ranked_16 : decode cX3_ranked 16 = .ok (.iload_n 2, 1) := by decide +kernel
theorem dX3_ranked_17 : decode cX3_ranked 17 = .ok (.invokevirtual 98, 3) := by decide +kernel
theorem dX3_ranked_20 : decode cX3_ranked 20 = .ok (.iastore, 1) := by decide +kernel
theorem dX3_ranked_21 : decode cX3_ranked 21 = .ok (.iinc 2 1, 3) := by decide +kernel
theorem dX3_ranked_24 : decode cX3_ranked 24 = .ok (.goto (-22), 3) := by decide +kernel
theorem dX3_ranked_27 : decode cX3_ranked 27 = .ok (.iconst 0, 1) := by decide +kernel
theorem dX3_ranked_28 : decode cX3_ranked 28 = .ok (.istore_n 2, 1) := by decide +kernel
theorem dX3_ranked_29 : decode cX3_ranked 29 = .ok (.iload_n 2, 1) := by decide +kernel
theorem dX3_ranked_30 : decode cX3_ranked 30 = .ok (.aload_n 0, 1) := by decide +kernel
theorem dX3_ranked_31 : decode cX3_ranked 31 = .ok (.getfield 61, 3) := by decide +kernel
theorem dX3_ranked_34 : decode cX3_ranked 34 = .ok (.if_icmp .ge 82, 3) := by decide +kernel
theorem dX3_ranked_37 : decode cX3_ranked 37 = .ok (.iconst 0, 1) := by decide +kernel
theorem dX3_ranked_38 : decode cX3_ranked 38 = .ok (.istore_n 3, 1) := by decide +kernel
theorem dX3_ranked_39 : decode cX3_ranked 39 = .ok (.iconst 0, 1) := by decide +kernel
theorem dX3_ranked_40 : decode cX3_ranked 40 = .ok (.istore 4, 2) := by decide +kernel
theorem dX3_ranked_42 : decode cX3_ranked 42 = .ok (.iload 4, 2) := by decide +kernel
theorem dX3_ranked_44 : decode cX3_ranked 44 = .ok (.aload_n 0, 1) := by decide +kernel
theorem dX3_ranked_45 : decode cX3_ranked 45 = .ok (.getfield 61, 3) := by decide +kernel
theorem dX3_ranked_48 : decode cX3_ranked 48 = .ok (.if_icmp .ge 55, 3) := by decide +kernel
theorem dX3_ranked_51 : decode cX3_ranked 51 = .ok (.iload_n 3, 1) := by decide +kernel
theorem dX3_ranked_52 : decode cX3_ranked 52 = .ok (.aload_n 0, 1) := by decide +kernel
theorem dX3_ranked_53 : decode cX3_ranked 53 = .ok (.getfield 47, 3) := by decide +kernel
theorem dX3_ranked_56 : decode cX3_ranked 56 = .ok (.iload 4, 2) := by decide +kernel
theorem dX3_ranked_58 : decode cX3_ranked 58 = .ok (.iaload, 1) := by decide +kernel
theorem dX3_ranked_59 : decode cX3_ranked 59 = .ok (.aload_n 0, 1) := by decide +kernel
theorem dX3_ranked_60 : decode cX3_ranked 60 = .ok (.getfield 47, 3) := by decide +kernel
theorem dX3_ranked_63 : decode cX3_ranked 63 = .ok (.iload_n 2, 1) := by decide +kernel
theorem dX3_ranked_64 : decode cX3_ranked 64 = .ok (.iaload, 1) := by decide +kernel
theorem dX3_ranked_65 : decode cX3_ranked 65 = .ok (.if_icmp .gt 25, 3) := by decide +kernel
theorem dX3_ranked_68 : decode cX3_ranked 68 = .ok (.aload_n 0, 1) := by decide +kernel
theorem dX3_ranked_69 : decode cX3_ranked 69 = .ok (.getfield 47, 3) := by decide +kernel
theorem dX3_ranked_72 : decode cX3_ranked 72 = .ok (.iload 4, 2) := by decide +kernel
theorem dX3_ranked_74 : decode cX3_ranked 74 = .ok (.iaload, 1) := by decide +kernel
theorem dX3_ranked_75 : decode cX3_ranked 75 = .ok (.aload_n 0, 1) := by decide +kernel
theorem dX3_ranked_76 : decode cX3_ranked 76 = .ok (.getfield 47, 3) := by decide +kernel
theorem dX3_ranked_79 : decode cX3_ranked 79 = .ok (.iload_n 2, 1) := by decide +kernel
theorem dX3_ranked_80 : decode cX3_ranked 80 = .ok (.iaload, 1) := by decide +kernel
theorem dX3_ranked_81 : decode cX3_ranked 81 = .ok (.if_icmp .ne 13, 3) := by decide +kernel
theorem dX3_ranked_84 : decode cX3_ranked 84 = .ok (.iload 4, 2) := by decide +kernel
theorem dX3_ranked_86 : decode cX3_ranked 86 = .ok (.iload_n 2, 1) := by decide +kernel
theorem dX3_ranked_87 : decode cX3_ranked 87 = .ok (.if_icmp .ge 7, 3) := by decide +kernel
theorem dX3_ranked_90 : decode cX3_ranked 90 = .ok (.iconst 1, 1) := by decide +kernel
theorem dX3_ranked_91 : decode cX3_ranked 91 = .ok (.goto 4, 3) := by decide +kernel
theorem dX3_ranked_94 : decode cX3_ranked 94 = .ok (.iconst 0, 1) := by decide +kernel
theorem dX3_ranked_95 : decode cX3_ranked 95 = .ok (.iadd, 1) := by decide +kernel
theorem dX3_ranked_96 : decode cX3_ranked 96 = .ok (.istore_n 3, 1) := by decide +kernel
theorem dX3_ranked_97 : decode cX3_ranked 97 = .ok (.iinc 4 1, 3) := by decide +kernel
theorem dX3_ranked_100 : decode cX3_ranked 100 = .ok (.goto (-58), 3) := by decide +kernel
theorem dX3_ranked_103 : decode cX3_ranked 103 = .ok (.iload_n 3, 1) := by decide +kernel
theorem dX3_ranked_104 : decode cX3_ranked 104 = .ok (.iload_n 1, 1) := by decide +kernel
theorem dX3_ranked_105 : decode cX3_ranked 105 = .ok (.if_icmp .ne 5, 3) := by decide +kernel
theorem dX3_ranked_108 : decode cX3_ranked 108 = .ok (.iload_n 2, 1) := by decide +kernel
theorem dX3_ranked_109 : decode cX3_ranked 109 = .ok (.ireturn, 1) := by decide +kernel
theorem dX3_ranked_110 : decode cX3_ranked 110 = .ok (.iinc 2 1, 3) := by decide +kernel
theorem dX3_ranked_113 : decode cX3_ranked 113 = .ok (.goto (-84), 3) := by decide +kernel
theorem dX3_ranked_116 : decode cX3_ranked 116 = .ok (.iconst (-1), 1) := by decide +kernel
theorem dX3_ranked_117 : decode cX3_ranked 117 = .ok (.ireturn, 1) := by decide +kernel
set_option maxRecDepth 20000 in
theorem ggX3_isQuiet_X3_allDay : GoodIn wsX3_isQuiet wsX3_allDay := goodIn_r _ [6, 7, 8, 9, 10, 5, 11, 12, 13, 14, 15, 16, 17, 18, 19, 20, 21, 22, 23, 24, 25, 26, 27, 28, 29, 30, 31, 32, 33, 34, 35, 36, 37, 38, 39, 40, 41, 42, 43, 44, 45, 46, 47, 48, 49, 50, 51, 52, 53, 54, 55, 56, 57] (by decide +kernel) (by decide +kernel)
set_option maxRecDepth 20000 in
theorem gX3_isQuiet_X3_allDay : GoodIn wsX3_isQuiet (wsV RX3 98 RX3 yX3_allDay wsX3_allDay) := goodIn_app (goodIn_of _ (by decide +kernel)) ggX3_isQuiet_X3_allDay
theorem dX3_isQuiet_0 : decode cX3_isQuiet 0 = .ok (.iconst 1, 1) := by decide +kernel
theorem dX3_isQuiet_1 : decode cX3_isQuiet 1 = .ok (.istore_n 2, 1) := by decide +kernel
theorem dX3_isQuiet_2 : decode cX3_isQuiet 2 = .ok (.iconst 0, 1) := by decide +kernel
theorem dX3_isQuiet_3 : decode cX3_isQuiet 3 = .ok (.istore_n 3, 1) := by decide +kernel
theorem dX3_isQuiet_4 : decode cX3_isQuiet 4 = .ok (.iload_n 3, 1) := by decide +kernel
theorem dX3_isQuiet_5 : decode cX3_isQuiet 5 = .ok (.aload_n 0, 1) := by decide +kernel
theorem dX3_isQuiet_6 : decode cX3_isQuiet 6 = .ok (.getfield 61, 3) := by decide +kernel
theorem dX3_isQuiet_9 : decode cX3_isQuiet 9 = .ok (.if_icmp .ge 28, 3) := by decide +kernel
theorem dX3_isQuiet_12 : decode cX3_isQuiet 12 = .ok (.iload_n 2, 1) := by decide +kernel
theorem dX3_isQuiet_13 : decode cX3_isQuiet 13 = .ok (.ifCond .eq 24, 3) := by decide +kernel
theorem dX3_isQuiet_16 : decode cX3_isQuiet 16 = .ok (.aload_n 0, 1) := by decide +kernel
theorem dX3_isQuiet_17 : decode cX3_isQuiet 17 = .ok (.iload_n 3, 1) := by decide +kernel
theorem dX3_isQuiet_18 : decode cX3_isQuiet 18 = .ok (.invokevirtual 98, 3) := by decide +kernel
theorem dX3_isQuiet_21 : decode cX3_isQuiet 21 = .ok (.iload_n 1, 1) := by decide +kernel
theorem dX3_isQuiet_22 : decode cX3_isQuiet 22 = .ok (.if_icmp .gt 7, 3) := by decide +kernel
theorem dX3_isQuiet_25 : decode cX3_isQuiet 25 = .ok (.iconst 1, 1) := by decide +kernel
theorem dX3_isQuiet_26 : decode cX3_isQuiet 26 = .ok (.goto 4, 3) := by decide +kernel
theorem dX3_isQuiet_29 : decode cX3_isQuiet 29 = .ok (.iconst 0, 1) := by decide +kernel
theorem dX3_isQuiet_30 : decode cX3_isQuiet 30 = .ok (.istore_n 2, 1) := by decide +kernel
theorem dX3_isQuiet_31 : decode cX3_isQuiet 31 = .ok (.iinc 3 1, 3) := by decide +kernel
theorem dX3_isQuiet_34 : decode cX3_isQuiet 34 = .ok (.goto (-30), 3) := by decide +kernel
theorem dX3_isQuiet_37 : decode cX3_isQuiet 37 = .ok (.iload_n 2, 1) := by decide +kernel
theorem dX3_isQuiet_38 : decode cX3_isQuiet 38 = .ok (.ireturn, 1) := by decide +kernel
theorem dX3_isWall_0 : decode cX3_isWall 0 = .ok (.iload_n 1, 1) := by decide +kernel
theorem dX3_isWall_1 : decode cX3_isWall 1 = .ok (.ifCond .lt 15, 3) := by decide +kernel
theorem dX3_isWall_4 : decode cX3_isWall 4 = .ok (.iload_n 1, 1) := by decide +kernel
theorem dX3_isWall_5 : decode cX3_isWall 5 = .ok (.aload_n 0, 1) := by decide +kernel
theorem dX3_isWall_6 : decode cX3_isWall 6 = .ok (.getfield 64, 3) := by decide +kernel
theorem dX3_isWall_9 : decode cX3_isWall 9 = .ok (.if_icmp .ge 7, 3) := by decide +kernel
theorem dX3_isWall_12 : decode cX3_isWall 12 = .ok (.iconst 1, 1) := by decide +kernel
theorem dX3_isWall_13 : decode cX3_isWall 13 = .ok (.goto 4, 3) := by decide +kernel
theorem dX3_isWall_16 : decode cX3_isWall 16 = .ok (.iconst 0, 1) := by decide +kernel
theorem dX3_isWall_17 : decode cX3_isWall 17 = .ok (.ireturn, 1) := by decide +kernel
set_option maxRecDepth 20000 in
theorem ggX3_needed_X3_isWall : GoodIn wsX3_needed wsX3_isWall := goodIn_r _ [6, 7, 49, 50, 51, 52, 53, 54, 55, 56, 57, 58, 59, 60, 61, 62, 63, 64, 65] (by decide +kernel) (by decide +kernel)
set_option maxRecDepth 20000 in
theorem gX3_needed_X3_isWall : GoodIn wsX3_needed (wsV RX3 102 RX3 yX3_isWall wsX3_isWall) := goodIn_app (goodIn_of _ (by decide +kernel)) ggX3_needed_X3_isWall
set_option maxRecDepth 20000 in
theorem ggX3_needed_X3_isQuiet : GoodIn wsX3_needed wsX3_isQuiet := goodIn_r _ [11, 12, 13, 14, 15, 5, 16, 17, 18, 19, 20, 21, 22, 23, 24, 25, 26, 27, 28, 29, 30, 31, 32, 33, 34, 7, 1, 35, 36, 37, 38, 39, 40, 41, 42, 43, 44, 45, 46, 47, 48, 49, 50, 51, 52, 53, 54, 55, 56, 57, 58, 59, 60, 61, 62, 63, 64, 65] (by decide +kernel) (by decide +kernel)
set_option maxRecDepth 20000 in
theorem gX3_needed_X3_isQuiet : GoodIn wsX3_needed (wsV RX3 105 RX3 yX3_isQuiet wsX3_isQuiet) := goodIn_app (goodIn_of _ (by decide +kernel)) ggX3_needed_X3_isQuiet
theorem dX3_needed_0 : decode cX3_needed 0 = .ok (.aload_n 0, 1) := by decide +kernel
theorem dX3_needed_1 : decode cX3_needed 1 = .ok (.iload_n 1, 1) := by decide +kernel
theorem dX3_needed_2 : decode cX3_needed 2 = .ok (.invokevirtual 102, 3) := by decide +kernel
theorem dX3_needed_5 : decode cX3_needed 5 = .ok (.ifCond .ne 5, 3) := by decide +kernel
theorem dX3_needed_8 : decode cX3_needed 8 = .ok (.iconst (-1), 1) := by decide +kernel
theorem dX3_needed_9 : decode cX3_needed 9 = .ok (.ireturn, 1) := by decide +kernel
theorem dX3_needed_10 : decode cX3_needed 10 = .ok (.aload_n 0, 1) := by decide +kernel
theorem dX3_needed_11 : decode cX3_needed 11 = .ok (.getfield 31, 3) := by decide +kernel
theorem dX3_needed_14 : decode cX3_needed 14 = .ok (.iload_n 1, 1) := by decide +kernel
theorem dX3_needed_15 : decode cX3_needed 15 = .ok (.iaload, 1) := by decide +kernel
theorem dX3_needed_16 : decode cX3_needed 16 = .ok (.istore_n 3, 1) := by decide +kernel
theorem dX3_needed_17 : decode cX3_needed 17 = .ok (.iconst (-1), 1) := by decide +kernel
theorem dX3_needed_18 : decode cX3_needed 18 = .ok (.istore 4, 2) := by decide +kernel
theorem dX3_needed_20 : decode cX3_needed 20 = .ok (.iconst 0, 1) := by decide +kernel
theorem dX3_needed_21 : decode cX3_needed 21 = .ok (.istore 5, 2) := by decide +kernel
theorem dX3_needed_23 : decode cX3_needed 23 = .ok (.iload 5, 2) := by decide +kernel
theorem dX3_needed_25 : decode cX3_needed 25 = .ok (.sipush 300, 3) := by decide +kernel
theorem dX3_needed_28 : decode cX3_needed 28 = .ok (.if_icmp .gt 38, 3) := by decide +kernel
theorem dX3_needed_31 : decode cX3_needed 31 = .ok (.iload 4, 2) := by decide +kernel
theorem dX3_needed_33 : decode cX3_needed 33 = .ok (.ifCond .ge 33, 3) := by decide +kernel
theorem dX3_needed_36 : decode cX3_needed 36 = .ok (.aload_n 0, 1) := by decide +kernel
theorem dX3_needed_37 : decode cX3_needed 37 = .ok (.getfield 31, 3) := by decide +kernel
theorem dX3_needed_40 : decode cX3_needed 40 = .ok (.iload_n 1, 1) := by decide +kernel
theorem dX3_needed_41 : decode cX3_needed 41 = .ok (.iload 5, 2) := by decide +kernel
theorem dX3_needed_43 : decode cX3_needed 43 = .ok (.iastore, 1) := by decide +kernel
theorem dX3_needed_44 : decode cX3_needed 44 = .ok (.aload_n 0, 1) := by decide +kernel
theorem dX3_needed_45 : decode cX3_needed 45 = .ok (.iload_n 2, 1) := by decide +kernel
theorem dX3_needed_46 : decode cX3_needed 46 = .ok (.invokevirtual 105, 3) := by decide +kernel
theorem dX3_needed_49 : decode cX3_needed 49 = .ok (.ifCond .eq 8, 3) := by decide +kernel
theorem dX3_needed_52 : decode cX3_needed 52 = .ok (.iload 5, 2) := by decide +kernel
theorem dX3_needed_54 : decode cX3_needed 54 = .ok (.goto 4, 3) := by decide +kernel
theorem dX3_needed_57 : decode cX3_needed 57 = .ok (.iconst (-1), 1) := by decide +kernel
theorem dX3_needed_58 : decode cX3_needed 58 = .ok (.istore 4, 2) := by decide +kernel
theorem dX3_needed_60 : decode cX3_needed 60 = .ok (.iinc 5 5, 3) := by decide +kernel
theorem dX3_needed_63 : decode cX3_needed 63 = .ok (.goto (-40), 3) := by decide +kernel
theorem dX3_needed_66 : decode cX3_needed 66 = .ok (.aload_n 0, 1) := by decide +kernel
theorem dX3_needed_67 : decode cX3_needed 67 = .ok (.getfield 31, 3) := by decide +kernel
theorem dX3_needed_70 : decode cX3_needed 70 = .ok (.iload_n 1, 1) := by decide +kernel
theorem dX3_needed_71 : decode cX3_needed 71 = .ok (.iload_n 3, 1) := by decide +kernel
theorem dX3_needed_72 : decode cX3_needed 72 = .ok (.iastore, 1) := by decide +kernel
theorem dX3_needed_73 : decode cX3_needed 73 = .ok (.iload 4, 2) := by decide +kernel
theorem dX3_needed_75 : decode cX3_needed 75 = .ok (.ireturn, 1) := by decide +kernel
set_option maxRecDepth 20000 in
theorem ggX3_recut_X3_isWall : GoodIn wsX3_recut wsX3_isWall := goodIn_r _ [6, 7, 11, 12, 13, 14, 15, 16, 17, 18, 19, 20, 21, 22, 23, 24, 25, 26, 27] (by decide +kernel) (by decide +kernel)
set_option maxRecDepth 20000 in
theorem gX3_recut_X3_isWall : GoodIn wsX3_recut (wsV RX3 102 RX3 yX3_isWall wsX3_isWall) := goodIn_app (goodIn_of _ (by decide +kernel)) ggX3_recut_X3_isWall
set_option maxRecDepth 20000 in
theorem ggX3_recut_X3_within : GoodIn wsX3_recut wsX3_within := goodIn_r _ [10] (by decide +kernel) (by decide +kernel)
set_option maxRecDepth 20000 in
theorem gX3_recut_X3_within : GoodIn wsX3_recut (va_wsS RX3 50 yX3_within wsX3_within) := goodIn_app (goodIn_of _ (by decide +kernel)) ggX3_recut_X3_within
theorem dX3_recut_0 : decode cX3_recut 0 = .ok (.aload_n 0, 1) := by decide +kernel
theorem dX3_recut_1 : decode cX3_recut 1 = .ok (.iload_n 1, 1) := by decide +kernel
theorem dX3_recut_2 : decode cX3_recut 2 = .ok (.invokevirtual 102, 3) := by decide +kernel
theorem dX3_recut_5 : decode cX3_recut 5 = .ok (.ifCond .eq 14, 3) := by decide +kernel
theorem dX3_recut_8 : decode cX3_recut 8 = .ok (.iload_n 2, 1) := by decide +kernel
theorem dX3_recut_9 : decode cX3_recut 9 = .ok (.iconst 0, 1) := by decide +kernel
theorem dX3_recut_10 : decode cX3_recut 10 = .ok (.sipush 300, 3) := by decide +kernel
theorem dX3_recut_13 : decode cX3_recut 13 = .ok (.invokestatic 50, 3) := by decide +kernel
theorem dX3_recut_16 : decode cX3_recut 16 = .ok (.ifCond .ne 5, 3) := by decide +kernel
theorem dX3_recut_19 : decode cX3_recut 19 = .ok (.iconst (-1), 1) := by decide +kernel
theorem dX3_recut_20 : decode cX3_recut 20 = .ok (.ireturn, 1) := by decide +kernel
theorem dX3_recut_21 : decode cX3_recut 21 = .ok (.aload_n 0, 1) := by decide +kernel
theorem dX3_recut_22 : decode cX3_recut 22 = .ok (.getfield 31, 3) := by decide +kernel
theorem dX3_recut_25 : decode cX3_recut 25 = .ok (.iload_n 1, 1) := by decide +kernel
theorem dX3_recut_26 : decode cX3_recut 26 = .ok (.iaload, 1) := by decide +kernel
theorem dX3_recut_27 : decode cX3_recut 27 = .ok (.istore_n 3, 1) := by decide +kernel
theorem dX3_recut_28 : decode cX3_recut 28 = .ok (.aload_n 0, 1) := by decide +kernel
theorem dX3_recut_29 : decode cX3_recut 29 = .ok (.getfield 31, 3) := by decide +kernel
theorem dX3_recut_32 : decode cX3_recut 32 = .ok (.iload_n 1, 1) := by decide +kernel
theorem dX3_recut_33 : decode cX3_recut 33 = .ok (.iload_n 2, 1) := by decide +kernel
theorem dX3_recut_34 : decode cX3_recut 34 = .ok (.iastore, 1) := by decide +kernel
theorem dX3_recut_35 : decode cX3_recut 35 = .ok (.iload_n 3, 1) := by decide +kernel
theorem dX3_recut_36 : decode cX3_recut 36 = .ok (.ireturn, 1) := by decide +kernel
set_option maxRecDepth 20000 in
theorem ggX3_lamp_X3_within : GoodIn wsX3_lamp wsX3_within := goodIn_r _ [6] (by decide +kernel) (by decide +kernel)
set_option maxRecDepth 20000 in
theorem gX3_lamp_X3_within : GoodIn wsX3_lamp (va_wsS RX3 50 yX3_within wsX3_within) := goodIn_app (goodIn_of _ (by decide +kernel)) ggX3_lamp_X3_within
theorem dX3_lamp_0 : decode cX3_lamp 0 = .ok (.iload_n 1, 1) := by decide +kernel
theorem dX3_lamp_1 : decode cX3_lamp 1 = .ok (.iconst 0, 1) := by decide +kernel
theorem dX3_lamp_2 : decode cX3_lamp 2 = .ok (.sipush 300, 3) := by decide +kernel
theorem dX3_lamp_5 : decode cX3_lamp 5 = .ok (.invokestatic 50, 3) := by decide +kernel
theorem dX3_lamp_8 : decode cX3_lamp 8 = .ok (.ifCond .eq 20, 3) := by decide +kernel
theorem dX3_lamp_11 : decode cX3_lamp 11 = .ok (.iload_n 1, 1) := by decide +kernel
theorem dX3_lamp_12 : decode cX3_lamp 12 = .ok (.bipush 10, 2) := by decide +kernel
theorem dX3_lamp_14 : decode cX3_lamp 14 = .ok (.irem, 1) := by decide +kernel
theorem dX3_lamp_15 : decode cX3_lamp 15 = .ok (.ifCond .ne 13, 3) := by decide +kernel
theorem dX3_lamp_18 : decode cX3_lamp 18 = .ok (.iload_n 2, 1) := by decide +kernel
theorem dX3_lamp_19 : decode cX3_lamp 19 = .ok (.iconst 0, 1) := by decide +kernel
theorem dX3_lamp_20 : decode cX3_lamp 20 = .ok (.ldc 108, 2) := by decide +kernel
theorem dX3_lamp_22 : decode cX3_lamp 22 = .ok (.invokestatic 50, 3) := by decide +kernel
theorem dX3_lamp_25 : decode cX3_lamp 25 = .ok (.ifCond .ne 5, 3) := by decide +kernel
theorem dX3_lamp_28 : decode cX3_lamp 28 = .ok (.iconst (-1), 1) := by decide +kernel
theorem dX3_lamp_29 : decode cX3_lamp 29 = .ok (.ireturn, 1) := by decide +kernel
theorem dX3_lamp_30 : decode cX3_lamp 30 = .ok (.aload_n 0, 1) := by decide +kernel
theorem dX3_lamp_31 : decode cX3_lamp 31 = .ok (.getfield 41, 3) := by decide +kernel
theorem dX3_lamp_34 : decode cX3_lamp 34 = .ok (.iload_n 1, 1) := by decide +kernel
theorem dX3_lamp_35 : decode cX3_lamp 35 = .ok (.bipush 10, 2) := by decide +kernel
theorem dX3_lamp_37 : decode cX3_lamp 37 = .ok (.idiv, 1) := by decide +kernel
theorem dX3_lamp_38 : decode cX3_lamp 38 = .ok (.iaload, 1) := by decide +kernel
theorem dX3_lamp_39 : decode cX3_lamp 39 = .ok (.istore_n 3, 1) := by decide +kernel
theorem dX3_lamp_40 : decode cX3_lamp 40 = .ok (.aload_n 0, 1) := by decide +kernel
theorem dX3_lamp_41 : decode cX3_lamp 41 = .ok (.getfield 41, 3) := by decide +kernel
theorem dX3_lamp_44 : decode cX3_lamp 44 = .ok (.iload_n 1, 1) := by decide +kernel
theorem dX3_lamp_45 : decode cX3_lamp 45 = .ok (.bipush 10, 2) := by decide +kernel
theorem dX3_lamp_47 : decode cX3_lamp 47 = .ok (.idiv, 1) := by decide +kernel
theorem dX3_lamp_48 : decode cX3_lamp 48 = .ok (.iload_n 2, 1) := by decide +kernel
theorem dX3_lamp_49 : decode cX3_lamp 49 = .ok (.iastore, 1) := by decide +kernel
theorem dX3_lamp_50 : decode cX3_lamp 50 = .ok (.iload_n 3, 1) := by decide +kernel
theorem dX3_lamp_51 : decode cX3_lamp 51 = .ok (.ireturn, 1) := by decide +kernel
theorem dX3_lightAt_0 : decode cX3_lightAt 0 = .ok (.iload_n 1, 1) := by decide +kernel
theorem dX3_lightAt_1 : decode cX3_lightAt 1 = .ok (.sipush 300, 3) := by decide +kernel
theorem dX3_lightAt_4 : decode cX3_lightAt 4 = .ok (.if_icmp .le 5, 3) := by decide +kernel
theorem dX3_lightAt_7 : decode cX3_lightAt 7 = .ok (.iconst 0, 1) := by decide +kernel
theorem dX3_lightAt_8 : decode cX3_lightAt 8 = .ok (.ireturn, 1) := by decide +kernel
theorem dX3_lightAt_9 : decode cX3_lightAt 9 = .ok (.iload_n 1, 1) := by decide +kernel
theorem dX3_lightAt_10 : decode cX3_lightAt 10 = .ok (.bipush 10, 2) := by decide +kernel
theorem dX3_lightAt_12 : decode cX3_lightAt 12 = .ok (.idiv, 1) := by decide +kernel
theorem dX3_lightAt_13 : decode cX3_lightAt 13 = .ok (.istore_n 2, 1) := by decide +kernel
theorem dX3_lightAt_14 : decode cX3_lightAt 14 = .ok (.iload_n 1, 1) := by decide +kernel
theorem dX3_lightAt_15 : decode cX3_lightAt 15 = .ok (.bipush 10, 2) := by decide +kernel
theorem dX3_lightAt_17 : decode cX3_lightAt 17 = .ok (.irem, 1) := by decide +kernel
theorem dX3_lightAt_18 : decode cX3_lightAt 18 = .ok (.istore_n 3, 1) := by decide +kernel
theorem dX3_lightAt_19 : decode cX3_lightAt 19 = .ok (.iload_n 3, 1) := by decide +kernel
theorem dX3_lightAt_20 : decode cX3_lightAt 20 = .ok (.ifCond .ne 12, 3) := by decide +kernel
theorem dX3_lightAt_23 : decode cX3_lightAt 23 = .ok (.aload_n 0, 1) := by decide +kernel
theorem dX3_lightAt_24 : decode cX3_lightAt 24 = .ok (.getfield 41, 3) := by decide +kernel
theorem dX3_lightAt_27 : decode cX3_lightAt 27 = .ok (.iload_n 2, 1) := by decide +kernel
theorem dX3_lightAt_28 : decode cX3_lightAt 28 = .ok (.iaload, 1) := by decide +kernel
theorem dX3_lightAt_29 : decode cX3_lightAt 29 = .ok (.goto 28, 3) := by decide +kernel
theorem dX3_lightAt_32 : decode cX3_lightAt 32 = .ok (.aload_n 0, 1) := by decide +kernel
theorem dX3_lightAt_33 : decode cX3_lightAt 33 = .ok (.getfield 41, 3) := by decide +kernel
theorem dX3_lightAt_36 : decode cX3_lightAt 36 = .ok (.iload_n 2, 1) := by decide +kernel
theorem dX3_lightAt_37 : decode cX3_lightAt 37 = .ok (.iaload, 1) := by decide +kernel
theorem dX3_lightAt_38 : decode cX3_lightAt 38 = .ok (.bipush 10, 2) := by decide +kernel
theorem dX3_lightAt_40 : decode cX3_lightAt 40 = .ok (.iload_n 3, 1) := by decide +kernel
theorem dX3_lightAt_41 : decode cX3_lightAt 41 = .ok (.isub, 1) := by decide +kernel
theorem dX3_lightAt_42 : decode cX3_lightAt 42 = .ok (.imul, 1) := by decide +kernel
theorem dX3_lightAt_43 : decode cX3_lightAt 43 = .ok (.aload_n 0, 1) := by decide +kernel
theorem dX3_lightAt_44 : decode cX3_lightAt 44 = .ok (.getfield 41, 3) := by decide +kernel
theorem dX3_lightAt_47 : decode cX3_lightAt 47 = .ok (.iload_n 2, 1) := by decide +kernel
theorem dX3_lightAt_48 : decode cX3_lightAt 48 = .ok (.iconst 1, 1) := by decide +kernel
theorem dX3_lightAt_49 : decode cX3_lightAt 49 = .ok (.iadd, 1) := by decide +kernel
theorem dX3_lightAt_50 : decode cX3_lightAt 50 = .ok (.iaload, 1) := by decide +kernel
theorem dX3_lightAt_51 : decode cX3_lightAt 51 = .ok (.iload_n 3, 1) := by decide +kernel
theorem dX3_lightAt_52 : decode cX3_lightAt 52 = .ok (.imul, 1) := by decide +kernel
theorem dX3_lightAt_53 : decode cX3_lightAt 53 = .ok (.iadd, 1) := by decide +kernel
theorem dX3_lightAt_54 : decode cX3_lightAt 54 = .ok (.bipush 10, 2) := by decide +kernel
theorem dX3_lightAt_56 : decode cX3_lightAt 56 = .ok (.idiv, 1) := by decide +kernel
theorem dX3_lightAt_57 : decode cX3_lightAt 57 = .ok (.ireturn, 1) := by decide +kernel
set_option maxRecDepth 20000 in
theorem ggX3_shines_X3_lightAt : GoodIn wsX3_shines wsX3_lightAt := goodIn_r _ [5, 6, 7, 8, 9, 10, 11, 12, 13, 14, 15, 16, 17, 18, 19, 20, 21, 22, 23] (by decide +kernel) (by decide +kernel)
set_option maxRecDepth 20000 in
theorem gX3_shines_X3_lightAt : GoodIn wsX3_shines (wsV RX3 109 RX3 yX3_lightAt wsX3_lightAt) := goodIn_app (goodIn_of _ (by decide +kernel)) ggX3_shines_X3_lightAt
theorem dX3_shines_0 : decode cX3_shines 0 = .ok (.iload_n 1, 1) := by decide +kernel
theorem dX3_shines_1 : decode cX3_shines 1 = .ok (.ifCond .ge 7, 3) := by decide +kernel
theorem dX3_shines_4 : decode cX3_shines 4 = .ok (.iconst (-1), 1) := by decide +kernel
theorem dX3_shines_5 : decode cX3_shines 5 = .ok (.goto 8, 3) := by decide +kernel
theorem dX3_shines_8 : decode cX3_shines 8 = .ok (.aload_n 0, 1) := by decide +kernel
theorem dX3_shines_9 : decode cX3_shines 9 = .ok (.iload_n 1, 1) := by decide +kernel
theorem dX3_shines_10 : decode cX3_shines 10 = .ok (.invokevirtual 109, 3) := by decide +kernel
theorem dX3_shines_13 : decode cX3_shines 13 = .ok (.ireturn, 1) := by decide +kernel
set_option maxRecDepth 20000 in
theorem ggX3_road_X3_within : GoodIn wsX3_road wsX3_within := goodIn_r _ [5] (by decide +kernel) (by decide +kernel)
set_option maxRecDepth 20000 in
theorem gX3_road_X3_within : GoodIn wsX3_road (va_wsS RX3 50 yX3_within wsX3_within) := goodIn_app (goodIn_of _ (by decide +kernel)) ggX3_road_X3_within
theorem dX3_road_0 : decode cX3_road 0 = .ok (.iload_n 1, 1) := by decide +kernel
theorem dX3_road_1 : decode cX3_road 1 = .ok (.iconst 0, 1) := by decide +kernel
theorem dX3_road_2 : decode cX3_road 2 = .ok (.sipush 5000, 3) := by decide +kernel
theorem dX3_road_5 : decode cX3_road 5 = .ok (.invokestatic 50, 3) := by decide +kernel
theorem dX3_road_8 : decode cX3_road 8 = .ok (.ifCond .ne 5, 3) := by decide +kernel
theorem dX3_road_11 : decode cX3_road 11 = .ok (.iconst (-1), 1) := by decide +kernel
theorem dX3_road_12 : decode cX3_road 12 = .ok (.ireturn, 1) := by decide +kernel
theorem dX3_road_13 : decode cX3_road 13 = .ok (.aload_n 0, 1) := by decide +kernel
theorem dX3_road_14 : decode cX3_road 14 = .ok (.getfield 112, 3) := by decide +kernel
theorem dX3_road_17 : decode cX3_road 17 = .ok (.istore_n 2, 1) := by decide +kernel
theorem dX3_road_18 : decode cX3_road 18 = .ok (.aload_n 0, 1) := by decide +kernel
theorem dX3_road_19 : decode cX3_road 19 = .ok (.iload_n 1, 1) := by decide +kernel
theorem dX3_road_20 : decode cX3_road 20 = .ok (.putfield 112, 3) := by decide +kernel
theorem dX3_road_23 : decode cX3_road 23 = .ok (.iload_n 2, 1) := by decide +kernel
theorem dX3_road_24 : decode cX3_road 24 = .ok (.ireturn, 1) := by decide +kernel
set_option maxRecDepth 20000 in
theorem ggX3_dim_X3_within : GoodIn wsX3_dim wsX3_within := goodIn_r _ [5] (by decide +kernel) (by decide +kernel)
set_option maxRecDepth 20000 in
theorem gX3_dim_X3_within : GoodIn wsX3_dim (va_wsS RX3 50 yX3_within wsX3_within) := goodIn_app (goodIn_of _ (by decide +kernel)) ggX3_dim_X3_within
theorem dX3_dim_0 : decode cX3_dim 0 = .ok (.iload_n 1, 1) := by decide +kernel
theorem dX3_dim_1 : decode cX3_dim 1 = .ok (.iconst 0, 1) := by decide +kernel
theorem dX3_dim_2 : decode cX3_dim 2 = .ok (.bipush 23, 2) := by decide +kernel
theorem dX3_dim_4 : decode cX3_dim 4 = .ok (.invokestatic 50, 3) := by decide +kernel
theorem dX3_dim_7 : decode cX3_dim 7 = .ok (.ifCond .eq 13, 3) := by decide +kernel
theorem dX3_dim_10 : decode cX3_dim 10 = .ok (.iload_n 2, 1) := by decide +kernel
theorem dX3_dim_11 : decode cX3_dim 11 = .ok (.iconst 0, 1) := by decide +kernel
theorem dX3_dim_12 : decode cX3_dim 12 = .ok (.bipush 100, 2) := by decide +kernel
theorem dX3_dim_14 : decode cX3_dim 14 = .ok (.invokestatic 50, 3) := by decide +kernel
theorem dX3_dim_17 : decode cX3_dim 17 = .ok (.ifCond .ne 5, 3) := by decide +kernel
theorem dX3_dim_20 : decode cX3_dim 20 = .ok (.iconst (-1), 1) := by decide +kernel
theorem dX3_dim_21 : decode cX3_dim 21 = .ok (.ireturn, 1) := by decide +kernel
theorem dX3_dim_22 : decode cX3_dim 22 = .ok (.aload_n 0, 1) := by decide +kernel
theorem dX3_dim_23 : decode cX3_dim 23 = .ok (.getfield 44, 3) := by decide +kernel
theorem dX3_dim_26 : decode cX3_dim 26 = .ok (.iload_n 1, 1) := by decide +kernel
theorem dX3_dim_27 : decode cX3_dim 27 = .ok (.iaload, 1) := by decide +kernel
theorem dX3_dim_28 : decode cX3_dim 28 = .ok (.istore_n 3, 1) := by decide +kernel
theorem dX3_dim_29 : decode cX3_dim 29 = .ok (.aload_n 0, 1) := by decide +kernel
theorem dX3_dim_30 : decode cX3_dim 30 = .ok (.getfield 44, 3) := by decide +kernel
theorem dX3_dim_33 : decode cX3_dim 33 = .ok (.iload_n 1, 1) := by decide +kernel
theorem dX3_dim_34 : decode cX3_dim 34 = .ok (.iload_n 2, 1) := by decide +kernel
theorem dX3_dim_35 : decode cX3_dim 35 = .ok (.iastore, 1) := by decide +kernel
theorem dX3_dim_36 : decode cX3_dim 36 = .ok (.iload_n 3, 1) := by decide +kernel
theorem dX3_dim_37 : decode cX3_dim 37 = .ok (.ireturn, 1) := by decide +kernel
set_option maxRecDepth 20000 in
theorem ggX3_sumAt_X3_lightAt : GoodIn wsX3_sumAt wsX3_lightAt := goodIn_r _ [6, 7, 8, 9, 10, 11, 12, 13, 14, 15, 16, 17, 18, 19, 20, 21, 22, 23, 24] (by decide +kernel) (by decide +kernel)
set_option maxRecDepth 20000 in
theorem gX3_sumAt_X3_lightAt : GoodIn wsX3_sumAt (wsV RX3 109 RX3 yX3_lightAt wsX3_lightAt) := goodIn_app (goodIn_of _ (by decide +kernel)) ggX3_sumAt_X3_lightAt
theorem dX3_sumAt_0 : decode cX3_sumAt 0 = .ok (.iconst 0, 1) := by decide +kernel
theorem dX3_sumAt_1 : decode cX3_sumAt 1 = .ok (.istore_n 3, 1) := by decide +kernel
theorem dX3_sumAt_2 : decode cX3_sumAt 2 = .ok (.iconst 0, 1) := by decide +kernel
theorem dX3_sumAt_3 : decode cX3_sumAt 3 = .ok (.istore 4, 2) := by decide +kernel
theorem dX3_sumAt_5 : decode cX3_sumAt 5 = .ok (.iload 4, 2) := by decide +kernel
theorem dX3_sumAt_7 : decode cX3_sumAt 7 = .ok (.aload_n 0, 1) := by decide +kernel
theorem dX3_sumAt_8 : decode cX3_sumAt 8 = .ok (.getfield 112, 3) := by decide +kernel
theorem dX3_sumAt_11 : decode cX3_sumAt 11 = .ok (.if_icmp .gt 36, 3) := by decide +kernel
theorem dX3_sumAt_14 : decode cX3_sumAt 14 = .ok (.iload_n 3, 1) := by decide +kernel
theorem dX3_sumAt_15 : decode cX3_sumAt 15 = .ok (.aload_n 0, 1) := by decide +kernel
theorem dX3_sumAt_16 : decode cX3_sumAt 16 = .ok (.iload 4, 2) := by decide +kernel
theorem dX3_sumAt_18 : decode cX3_sumAt 18 = .ok (.iload_n 1, 1) := by decide +kernel
theorem dX3_sumAt_19 : decode cX3_sumAt 19 = .ok (.if_icmp .ge 10, 3) := by decide +kernel
theorem dX3_sumAt_22 : decode cX3_sumAt 22 = .ok (.iload_n 1, 1) := by decide +kernel
theorem dX3_sumAt_23 : decode cX3_sumAt 23 = .ok (.iload 4, 2) := by decide +kernel
theorem dX3_sumAt_25 : decode cX3_sumAt 25 = .ok (.isub, 1) := by decide +kernel
theorem dX3_sumAt_26 : decode cX3_sumAt 26 = .ok (.goto 7, 3) := by decide +kernel
theorem dX3_sumAt_29 : decode cX3_sumAt 29 = .ok (.iload 4, 2) := by decide +kernel
theorem dX3_sumAt_31 : decode cX3_sumAt 31 = .ok (.iload_n 1, 1) := by decide +kernel
theorem dX3_sumAt_32 : decode cX3_sumAt 32 = .ok (.isub, 1) := by decide +kernel
theorem dX3_sumAt_33 : decode cX3_sumAt 33 = .ok (.invokevirtual 109, 3) := by decide +kernel
theorem dX3_sumAt_36 : decode cX3_sumAt 36 = .ok (.iadd, 1) := by decide +kernel
theorem dX3_sumAt_37 : decode cX3_sumAt 37 = .ok (.istore_n 3, 1) := by decide +kernel
theorem dX3_sumAt_38 : decode cX3_sumAt 38 = .ok (.iload 4, 2) := by decide +kernel
theorem dX3_sumAt_40 : decode cX3_sumAt 40 = .ok (.iload_n 2, 1) := by decide +kernel
theorem dX3_sumAt_41 : decode cX3_sumAt 41 = .ok (.iadd, 1) := by decide +kernel
theorem dX3_sumAt_42 : decode cX3_sumAt 42 = .ok (.istore 4, 2) := by decide +kernel
theorem dX3_sumAt_44 : decode cX3_sumAt 44 = .ok (.goto (-39), 3) := by decide +kernel
theorem dX3_sumAt_47 : decode cX3_sumAt 47 = .ok (.iload_n 3, 1) := by decide +kernel
theorem dX3_sumAt_48 : decode cX3_sumAt 48 = .ok (.ireturn, 1) := by decide +kernel
set_option maxRecDepth 20000 in
theorem ggX3_isSpacing_X3_within : GoodIn wsX3_isSpacing wsX3_within := goodIn_r _ [4] (by decide +kernel) (by decide +kernel)
set_option maxRecDepth 20000 in
theorem gX3_isSpacing_X3_within : GoodIn wsX3_isSpacing (va_wsS RX3 50 yX3_within wsX3_within) := goodIn_app (goodIn_of _ (by decide +kernel)) ggX3_isSpacing_X3_within
theorem dX3_isSpacing_0 : decode cX3_isSpacing 0 = .ok (.iload_n 0, 1) := by decide +kernel
theorem dX3_isSpacing_1 : decode cX3_isSpacing 1 = .ok (.bipush 10, 2) := by decide +kernel
theorem dX3_isSpacing_3 : decode cX3_isSpacing 3 = .ok (.sipush 600, 3) := by decide +kernel
theorem dX3_isSpacing_6 : decode cX3_isSpacing 6 = .ok (.invokestatic 50, 3) := by decide +kernel
theorem dX3_isSpacing_9 : decode cX3_isSpacing 9 = .ok (.ireturn, 1) := by decide +kernel
set_option maxRecDepth 20000 in
theorem ggX3_at_X3_within : GoodIn wsX3_at wsX3_within := goodIn_r _ [7] (by decide +kernel) (by decide +kernel)
set_option maxRecDepth 20000 in
theorem gX3_at_X3_within : GoodIn wsX3_at (va_wsS RX3 50 yX3_within wsX3_within) := goodIn_app (goodIn_of _ (by decide +kernel)) ggX3_at_X3_within
set_option maxRecDepth 20000 in
theorem ggX3_at_X3_isSpacing : GoodIn wsX3_at wsX3_isSpacing := goodIn_r _ [10, 4, 5, 6, 7] (by decide +kernel) (by decide +kernel)
set_option maxRecDepth 20000 in
theorem gX3_at_X3_isSpacing : GoodIn wsX3_at (va_wsS RX3 115 yX3_isSpacing wsX3_isSpacing) := goodIn_app (goodIn_of _ (by decide +kernel)) ggX3_at_X3_isSpacing
set_option maxRecDepth 20000 in
theorem ggX3_at_X3_sumAt : GoodIn wsX3_at wsX3_sumAt := goodIn_r _ [14, 1, 15, 16, 17, 6, 18, 19, 20, 21, 22, 23, 24, 25, 26, 27, 28, 29, 30, 31, 32, 33, 34, 35, 36] (by decide +kernel) (by decide +kernel)
set_option maxRecDepth 20000 in
theorem gX3_at_X3_sumAt : GoodIn wsX3_at (wsV RX3 118 RX3 yX3_sumAt wsX3_sumAt) := goodIn_app (goodIn_of _ (by decide +kernel)) ggX3_at_X3_sumAt
theorem dX3_at_0 : decode cX3_at 0 = .ok (.iload_n 1, 1) := by decide +kernel
theorem dX3_at_1 : decode cX3_at 1 = .ok (.iconst 0, 1) := by decide +kernel
theorem dX3_at_2 : decode cX3_at 2 = .ok (.aload_n 0, 1) := by decide +kernel
theorem dX3_at_3 : decode cX3_at 3 = .ok (.getfield 112, 3) := by decide +kernel
theorem dX3_at_6 : decode cX3_at 6 = .ok (.invokestatic 50, 3) := by decide +kernel
theorem dX3_at_9 : decode cX3_at 9 = .ok (.ifCond .eq 24, 3) := by decide +kernel
theorem dX3_at_12 : decode cX3_at 12 = .ok (.iload_n 2, 1) := by decide +kernel
theorem dX3_at_13 : decode cX3_at 13 = .ok (.invokestatic 115, 3) := by decide +kernel
theorem dX3_at_16 : decode cX3_at 16 = .ok (.ifCond .eq 17, 3) := by decide +kernel
theorem dX3_at_19 : decode cX3_at 19 = .ok (.iload_n 3, 1) := by decide +kernel
theorem dX3_at_20 : decode cX3_at 20 = .ok (.iconst 0, 1) := by decide +kernel
theorem dX3_at_21 : decode cX3_at 21 = .ok (.bipush 23, 2) := by decide +kernel
theorem dX3_at_23 : decode cX3_at 23 = .ok (.invokestatic 50, 3) := by decide +kernel
theorem dX3_at_26 : decode cX3_at 26 = .ok (.ifCond .eq 7, 3) := by decide +kernel
theorem dX3_at_29 : decode cX3_at 29 = .ok (.iconst 1, 1) := by decide +kernel
theorem dX3_at_30 : decode cX3_at 30 = .ok (.goto 4, 3) := by decide +kernel
theorem dX3_at_33 : decode cX3_at 33 = .ok (.iconst 0, 1) := by decide +kernel
theorem dX3_at_34 : decode cX3_at 34 = .ok (.istore 4, 2) := by decide +kernel
theorem dX3_at_36 : decode cX3_at 36 = .ok (.iload 4, 2) := by decide +kernel
theorem dX3_at_38 : decode cX3_at 38 = .ok (.ifCond .eq 26, 3) := by decide +kernel
theorem dX3_at_41 : decode cX3_at 41 = .ok (.aload_n 0, 1) := by decide +kernel
theorem dX3_at_42 : decode cX3_at 42 = .ok (.iload_n 1, 1) := by decide +kernel
theorem dX3_at_43 : decode cX3_at 43 = .ok (.iload_n 2, 1) := by decide +kernel
theorem dX3_at_44 : decode cX3_at 44 = .ok (.invokevirtual 118, 3) := by decide +kernel
theorem dX3_at_47 : decode cX3_at 47 = .ok (.i2l, 1) := by decide +kernel
theorem dX3_at_48 : decode cX3_at 48 = .ok (.aload_n 0, 1) := by decide +kernel
theorem dX3_at_49 : decode cX3_at 49 = .ok (.getfield 44, 3) := by decide +kernel
theorem dX3_at_52 : decode cX3_at 52 = .ok (.iload_n 3, 1) := by decide +kernel
theorem dX3_at_53 : decode cX3_at 53 = .ok (.iaload, 1) := by decide +kernel
theorem dX3_at_54 : decode cX3_at 54 = .ok (.i2l, 1) := by decide +kernel
theorem dX3_at_55 : decode cX3_at 55 = .ok (.lmul, 1) := by decide +kernel
theorem dX3_at_56 : decode cX3_at 56 = .ok (.ldc2_w 121, 3) := by decide +kernel
theorem dX3_at_59 : decode cX3_at 59 = .ok (.ldiv, 1) := by decide +kernel
theorem dX3_at_60 : decode cX3_at 60 = .ok (.l2i, 1) := by decide +kernel
theorem dX3_at_61 : decode cX3_at 61 = .ok (.goto 4, 3) := by decide +kernel
theorem dX3_at_64 : decode cX3_at 64 = .ok (.iconst (-1), 1) := by decide +kernel
theorem dX3_at_65 : decode cX3_at 65 = .ok (.ireturn, 1) := by decide +kernel
set_option maxRecDepth 20000 in
theorem ggX3_meanOf_X3_sumAt : GoodIn wsX3_meanOf wsX3_sumAt := goodIn_r _ [7, 1, 8, 9, 10, 6, 11, 12, 13, 14, 15, 16, 17, 18, 19, 20, 21, 22, 23, 24, 25, 26, 27, 28, 29] (by decide +kernel) (by decide +kernel)
set_option maxRecDepth 20000 in
theorem gX3_meanOf_X3_sumAt : GoodIn wsX3_meanOf (wsV RX3 118 RX3 yX3_sumAt wsX3_sumAt) := goodIn_app (goodIn_of _ (by decide +kernel)) ggX3_meanOf_X3_sumAt
theorem dX3_meanOf_0 : decode cX3_meanOf 0 = .ok (.lconst 0, 1) := by decide +kernel
theorem dX3_meanOf_1 : decode cX3_meanOf 1 = .ok (.lstore_n 3, 1) := by decide +kernel
theorem dX3_meanOf_2 : decode cX3_meanOf 2 = .ok (.iconst 0, 1) := by decide +kernel
theorem dX3_meanOf_3 : decode cX3_meanOf 3 = .ok (.istore 5, 2) := by decide +kernel
theorem dX3_meanOf_5 : decode cX3_meanOf 5 = .ok (.iload 5, 2) := by decide +kernel
theorem dX3_meanOf_7 : decode cX3_meanOf 7 = .ok (.aload_n 0, 1) := by decide +kernel
theorem dX3_meanOf_8 : decode cX3_meanOf 8 = .ok (.getfield 112, 3) := by decide +kernel
theorem dX3_meanOf_11 : decode cX3_meanOf 11 = .ok (.if_icmp .gt 27, 3) := by decide +kernel
theorem dX3_meanOf_14 : decode cX3_meanOf 14 = .ok (.lload_n 3, 1) := by decide +kernel
theorem dX3_meanOf_15 : decode cX3_meanOf 15 = .ok (.aload_n 0, 1) := by decide +kernel
theorem dX3_meanOf_16 : decode cX3_meanOf 16 = .ok (.iload 5, 2) := by decide +kernel
theorem dX3_meanOf_18 : decode cX3_meanOf 18 = .ok (.iload_n 1, 1) := by decide +kernel
theorem dX3_meanOf_19 : decode cX3_meanOf 19 = .ok (.invokevirtual 118, 3) := by decide +kernel
theorem dX3_meanOf_22 : decode cX3_meanOf 22 = .ok (.i2l, 1) := by decide +kernel
theorem dX3_meanOf_23 : decode cX3_meanOf 23 = .ok (.iload_n 2, 1) := by decide +kernel
theorem dX3_meanOf_24 : decode cX3_meanOf 24 = .ok (.i2l, 1) := by decide +kernel
theorem dX3_meanOf_25 : decode cX3_meanOf 25 = .ok (.lmul, 1) := by decide +kernel
theorem dX3_meanOf_26 : decode cX3_meanOf 26 = .ok (.ldc2_w 121, 3) := by decide +kernel
theorem dX3_meanOf_29 : decode cX3_meanOf 29 = .ok (.ldiv, 1) := by decide +kernel
theorem dX3_meanOf_30 : decode cX3_meanOf 30 = .ok (.ladd, 1) := by decide +kernel
theorem dX3_meanOf_31 : decode cX3_meanOf 31 = .ok (.lstore_n 3, 1) := by decide +kernel
theorem dX3_meanOf_32 : decode cX3_meanOf 32 = .ok (.iinc 5 10, 3) := by decide +kernel
theorem dX3_meanOf_35 : decode cX3_meanOf 35 = .ok (.goto (-30), 3) := by decide +kernel
theorem dX3_meanOf_38 : decode cX3_meanOf 38 = .ok (.lload_n 3, 1) := by decide +kernel
theorem dX3_meanOf_39 : decode cX3_meanOf 39 = .ok (.aload_n 0, 1) := by decide +kernel
theorem dX3_meanOf_40 : decode cX3_meanOf 40 = .ok (.getfield 112, 3) := by decide +kernel
theorem dX3_meanOf_43 : decode cX3_meanOf 43 = .ok (.bipush 10, 2) := by decide +kernel
theorem dX3_meanOf_45 : decode cX3_meanOf 45 = .ok (.idiv, 1) := by decide +kernel
theorem dX3_meanOf_46 : decode cX3_meanOf 46 = .ok (.iconst 1, 1) := by decide +kernel
theorem dX3_meanOf_47 : decode cX3_meanOf 47 = .ok (.iadd, 1) := by decide +kernel
theorem dX3_meanOf_48 : decode cX3_meanOf 48 = .ok (.i2l, 1) := by decide +kernel
theorem dX3_meanOf_49 : decode cX3_meanOf 49 = .ok (.ldiv, 1) := by decide +kernel
theorem dX3_meanOf_50 : decode cX3_meanOf 50 = .ok (.l2i, 1) := by decide +kernel
theorem dX3_meanOf_51 : decode cX3_meanOf 51 = .ok (.ireturn, 1) := by decide +kernel
set_option maxRecDepth 20000 in
theorem ggX3_leastOf_X3_sumAt : GoodIn wsX3_leastOf wsX3_sumAt := goodIn_r _ [6, 1, 7, 8, 9, 5, 10, 11, 12, 13, 14, 15, 16, 17, 18, 19, 20, 21, 22, 23, 24, 25, 26, 27, 28] (by decide +kernel) (by decide +kernel)
set_option maxRecDepth 20000 in
theorem gX3_leastOf_X3_sumAt : GoodIn wsX3_leastOf (wsV RX3 118 RX3 yX3_sumAt wsX3_sumAt) := goodIn_app (goodIn_of _ (by decide +kernel)) ggX3_leastOf_X3_sumAt
theorem dX3_leastOf_0 : decode cX3_leastOf 0 = .ok (.aload_n 0, 1) := by decide +kernel
theorem dX3_leastOf_1 : decode cX3_leastOf 1 = .ok (.iconst 0, 1) := by decide +kernel
theorem dX3_leastOf_2 : decode cX3_leastOf 2 = .ok (.iload_n 1, 1) := by decide +kernel
theorem dX3_leastOf_3 : decode cX3_leastOf 3 = .ok (.invokevirtual 118, 3) := by decide +kernel
theorem dX3_leastOf_6 : decode cX3_leastOf 6 = .ok (.istore_n 2, 1) := by decide +kernel
theorem dX3_leastOf_7 : decode cX3_leastOf 7 = .ok (.bipush 10, 2) := by decide +kernel
theorem dX3_leastOf_9 : decode cX3_leastOf 9 = .ok (.istore_n 3, 1) := by decide +kernel
theorem dX3_leastOf_10 : decode cX3_leastOf 10 = .ok (.iload_n 3, 1) := by decide +kernel
theorem dX3_leastOf_11 : decode cX3_leastOf 11 = .ok (.aload_n 0, 1) := by decide +kernel
theorem dX3_leastOf_12 : decode cX3_leastOf 12 = .ok (.getfield 112, 3) := by decide +kernel
theorem dX3_leastOf_15 : decode cX3_leastOf 15 = .ok (.if_icmp .gt 30, 3) := by decide +kernel
theorem dX3_leastOf_18 : decode cX3_leastOf 18 = .ok (.aload_n 0, 1) := by decide +kernel
theorem dX3_leastOf_19 : decode cX3_leastOf 19 = .ok (.iload_n 3, 1) := by decide +kernel
theorem dX3_leastOf_20 : decode cX3_leastOf 20 = .ok (.iload_n 1, 1) := by decide +kernel
theorem dX3_leastOf_21 : decode cX3_leastOf 21 = .ok (.invokevirtual 118, 3) := by decide +kernel
theorem dX3_leastOf_24 : decode cX3_leastOf 24 = .ok (.istore 4, 2) := by decide +kernel
theorem dX3_leastOf_26 : decode cX3_leastOf 26 = .ok (.iload 4, 2) := by decide +kernel
theorem dX3_leastOf_28 : decode cX3_leastOf 28 = .ok (.iload_n 2, 1) := by decide +kernel
theorem dX3_leastOf_29 : decode cX3_leastOf 29 = .ok (.if_icmp .ge 8, 3) := by decide +kernel
theorem dX3_leastOf_32 : decode cX3_leastOf 32 = .ok (.iload 4, 2) := by decide +kernel
theorem dX3_leastOf_34 : decode cX3_leastOf 34 = .ok (.goto 4, 3) := by decide +kernel
theorem dX3_leastOf_37 : decode cX3_leastOf 37 = .ok (.iload_n 2, 1) := by decide +kernel
theorem dX3_leastOf_38 : decode cX3_leastOf 38 = .ok (.istore_n 2, 1) := by decide +kernel
theorem dX3_leastOf_39 : decode cX3_leastOf 39 = .ok (.iinc 3 10, 3) := by decide +kernel
theorem dX3_leastOf_42 : decode cX3_leastOf 42 = .ok (.goto (-32), 3) := by decide +kernel
theorem dX3_leastOf_45 : decode cX3_leastOf 45 = .ok (.iload_n 2, 1) := by decide +kernel
theorem dX3_leastOf_46 : decode cX3_leastOf 46 = .ok (.ireturn, 1) := by decide +kernel
set_option maxRecDepth 20000 in
theorem ggX3_evenness_X3_meanOf : GoodIn wsX3_evenness wsX3_meanOf := goodIn_r _ [6, 7, 8, 9, 10, 11, 5, 12, 13, 14, 15, 16, 17, 22, 23, 24, 25, 26, 27, 28, 29, 30, 31, 32, 33, 34, 35, 36, 37, 38] (by decide +kernel) (by decide +kernel)
set_option maxRecDepth 20000 in
theorem gX3_evenness_X3_meanOf : GoodIn wsX3_evenness (wsV RX3 123 RX3 yX3_meanOf wsX3_meanOf) := goodIn_app (goodIn_of _ (by decide +kernel)) ggX3_evenness_X3_meanOf
set_option maxRecDepth 20000 in
theorem ggX3_evenness_X3_leastOf : GoodIn wsX3_evenness wsX3_leastOf := goodIn_r _ [21, 7, 9, 10, 11, 5, 12, 13, 14, 15, 16, 17, 22, 23, 24, 25, 26, 27, 28, 29, 30, 31, 32, 33, 34, 35, 36, 37, 38] (by decide +kernel) (by decide +kernel)
set_option maxRecDepth 20000 in
theorem gX3_evenness_X3_leastOf : GoodIn wsX3_evenness (wsV RX3 128 RX3 yX3_leastOf wsX3_leastOf) := goodIn_app (goodIn_of _ (by decide +kernel)) ggX3_evenness_X3_leastOf
theorem dX3_evenness_0 : decode cX3_evenness 0 = .ok (.aload_n 0, 1) := by decide +kernel
theorem dX3_evenness_1 : decode cX3_evenness 1 = .ok (.iload_n 1, 1) := by decide +kernel
theorem dX3_evenness_2 : decode cX3_evenness 2 = .ok (.bipush 100, 2) := by decide +kernel
theorem dX3_evenness_4 : decode cX3_evenness 4 = .ok (.invokevirtual 123, 3) := by decide +kernel
theorem dX3_evenness_7 : decode cX3_evenness 7 = .ok (.istore_n 2, 1) := by decide +kernel
theorem dX3_evenness_8 : decode cX3_evenness 8 = .ok (.iload_n 2, 1) := by decide +kernel
theorem dX3_evenness_9 : decode cX3_evenness 9 = .ok (.ifCond .ne 7, 3) := by decide +kernel
theorem dX3_evenness_12 : decode cX3_evenness 12 = .ok (.iconst 0, 1) := by decide +kernel
theorem dX3_evenness_13 : decode cX3_evenness 13 = .ok (.goto 17, 3) := by decide +kernel
theorem dX3_evenness_16 : decode cX3_evenness 16 = .ok (.ldc2_w 126, 3) := by decide +kernel
theorem dX3_evenness_19 : decode cX3_evenness 19 = .ok (.aload_n 0, 1) := by decide +kernel
theorem dX3_evenness_20 : decode cX3_evenness 20 = .ok (.iload_n 1, 1) := by decide +kernel
theorem dX3_evenness_21 : decode cX3_evenness 21 = .ok (.invokevirtual 128, 3) := by decide +kernel
theorem dX3_evenness_24 : decode cX3_evenness 24 = .ok (.i2l, 1) := by decide +kernel
theorem dX3_evenness_25 : decode cX3_evenness 25 = .ok (.lmul, 1) := by decide +kernel
theorem dX3_evenness_26 : decode cX3_evenness 26 = .ok (.iload_n 2, 1) := by decide +kernel
theorem dX3_evenness_27 : decode cX3_evenness 27 = .ok (.i2l, 1) := by decide +kernel
theorem dX3_evenness_28 : decode cX3_evenness 28 = .ok (.ldiv, 1) := by decide +kernel
theorem dX3_evenness_29 : decode cX3_evenness 29 = .ok (.l2i, 1) := by decide +kernel
theorem dX3_evenness_30 : decode cX3_evenness 30 = .ok (.ireturn, 1) := by decide +kernel
theorem dX3_poles_0 : decode cX3_poles 0 = .ok (.aload_n 0, 1) := by decide +kernel
theorem dX3_poles_1 : decode cX3_poles 1 = .ok (.getfield 112, 3) := by decide +kernel
theorem dX3_poles_4 : decode cX3_poles 4 = .ok (.iload_n 1, 1) := by decide +kernel
theorem dX3_poles_5 : decode cX3_poles 5 = .ok (.idiv, 1) := by decide +kernel
theorem dX3_poles_6 : decode cX3_poles 6 = .ok (.iconst 1, 1) := by decide +kernel
theorem dX3_poles_7 : decode cX3_poles 7 = .ok (.iadd, 1) := by decide +kernel
theorem dX3_poles_8 : decode cX3_poles 8 = .ok (.ireturn, 1) := by decide +kernel
set_option maxRecDepth 20000 in
theorem ggX3_row_X3_isSpacing : GoodIn wsX3_row wsX3_isSpacing := goodIn_r _ [4, 5, 6, 3, 7] (by decide +kernel) (by decide +kernel)
set_option maxRecDepth 20000 in
theorem gX3_row_X3_isSpacing : GoodIn wsX3_row (va_wsS RX3 115 yX3_isSpacing wsX3_isSpacing) := goodIn_app (goodIn_of _ (by decide +kernel)) ggX3_row_X3_isSpacing
set_option maxRecDepth 20000 in
theorem ggX3_row_X3_within : GoodIn wsX3_row wsX3_within := goodIn_r _ [7] (by decide +kernel) (by decide +kernel)
set_option maxRecDepth 20000 in
theorem gX3_row_X3_within : GoodIn wsX3_row (va_wsS RX3 50 yX3_within wsX3_within) := goodIn_app (goodIn_of _ (by decide +kernel)) ggX3_row_X3_within
set_option maxRecDepth 20000 in
theorem ggX3_row_X3_leastOf : GoodIn wsX3_row wsX3_leastOf := goodIn_r _ [11, 12, 13, 14, 15, 3, 16, 17, 18, 19, 20, 21, 36, 37, 38, 39, 40, 41, 42, 43, 44, 45, 46, 47, 48, 49, 50, 51, 52] (by decide +kernel) (by decide +kernel)
set_option maxRecDepth 20000 in
theorem gX3_row_X3_leastOf : GoodIn wsX3_row (wsV RX3 128 RX3 yX3_leastOf wsX3_leastOf) := goodIn_app (goodIn_of _ (by decide +kernel)) ggX3_row_X3_leastOf
set_option maxRecDepth 20000 in
theorem ggX3_row_X3_meanOf : GoodIn wsX3_row wsX3_meanOf := goodIn_r _ [25, 12, 26, 13, 14, 15, 3, 16, 17, 18, 19, 20, 21, 36, 37, 38, 39, 40, 41, 42, 43, 44, 45, 46, 47, 48, 49, 50, 51, 52] (by decide +kernel) (by decide +kernel)
set_option maxRecDepth 20000 in
theorem gX3_row_X3_meanOf : GoodIn wsX3_row (wsV RX3 123 RX3 yX3_meanOf wsX3_meanOf) := goodIn_app (goodIn_of _ (by decide +kernel)) ggX3_row_X3_meanOf
set_option maxRecDepth 20000 in
theorem ggX3_row_X3_evenness : GoodIn wsX3_row wsX3_evenness := goodIn_r _ [30, 31, 22, 23, 24, 3, 25, 12, 26, 13, 14, 15, 16, 17, 18, 19, 20, 21, 8, 9, 10, 11, 36, 37, 38, 39, 40, 41, 42, 43, 44, 45, 46, 47, 48, 49, 50, 51, 52] (by decide +kernel) (by decide +kernel)
set_option maxRecDepth 20000 in
theorem gX3_row_X3_evenness : GoodIn wsX3_row (wsV RX3 131 RX3 yX3_evenness wsX3_evenness) := goodIn_app (goodIn_of _ (by decide +kernel)) ggX3_row_X3_evenness
set_option maxRecDepth 20000 in
theorem ggX3_row_X3_poles : GoodIn wsX3_row wsX3_poles := goodIn_r _ [35, 12, 36, 37, 38, 39, 40, 41, 42, 43, 44, 45, 46, 47, 48, 49, 50, 51, 52] (by decide +kernel) (by decide +kernel)
set_option maxRecDepth 20000 in
theorem gX3_row_X3_poles : GoodIn wsX3_row (wsV RX3 134 RX3 yX3_poles wsX3_poles) := goodIn_app (goodIn_of _ (by decide +kernel)) ggX3_row_X3_poles
theorem dX3_row_0 : decode cX3_row 0 = .ok (.iload_n 1, 1) := by decide +kernel
theorem dX3_row_1 : decode cX3_row 1 = .ok (.invokestatic 115, 3) := by decide +kernel
theorem dX3_row_4 : decode cX3_row 4 = .ok (.ifCond .eq 12, 3) := by decide +kernel
theorem dX3_row_7 : decode cX3_row 7 = .ok (.iload_n 2, 1) := by decide +kernel
theorem dX3_row_8 : decode cX3_row 8 = .ok (.iconst 0, 1) := by decide +kernel
theorem dX3_row_9 : decode cX3_row 9 = .ok (.iconst 3, 1) := by decide +kernel
theorem dX3_row_10 : decode cX3_row 10 = .ok (.invokestatic 50, 3) := by decide +kernel
theorem dX3_row_13 : decode cX3_row 13 = .ok (.ifCond .ne 5, 3) := by decide +kernel
theorem dX3_row_16 : decode cX3_row 16 = .ok (.iconst (-1), 1) := by decide +kernel
theorem dX3_row_17 : decode cX3_row 17 = .ok (.ireturn, 1) := by decide +kernel
theorem dX3_row_18 : decode cX3_row 18 = .ok (.iload_n 2, 1) := by decide +kernel
theorem dX3_row_19 : decode cX3_row 19 = .ok (.ifCond .ne 11, 3) := by decide +kernel
theorem dX3_row_22 : decode cX3_row 22 = .ok (.aload_n 0, 1) := by decide +kernel
theorem dX3_row_23 : decode cX3_row 23 = .ok (.iload_n 1, 1) := by decide +kernel
theorem dX3_row_24 : decode cX3_row 24 = .ok (.invokevirtual 128, 3) := by decide +kernel
theorem dX3_row_27 : decode cX3_row 27 = .ok (.goto 36, 3) := by decide +kernel
theorem dX3_row_30 : decode cX3_row 30 = .ok (.iload_n 2, 1) := by decide +kernel
theorem dX3_row_31 : decode cX3_row 31 = .ok (.iconst 1, 1) := by decide +kernel
theorem dX3_row_32 : decode cX3_row 32 = .ok (.if_icmp .ne 13, 3) := by decide +kernel
theorem dX3_row_35 : decode cX3_row 35 = .ok (.aload_n 0, 1) := by decide +kernel
theorem dX3_row_36 : decode cX3_row 36 = .ok (.iload_n 1, 1) := by decide +kernel
theorem dX3_row_37 : decode cX3_row 37 = .ok (.bipush 100, 2) := by decide +kernel
theorem dX3_row_39 : decode cX3_row 39 = .ok (.invokevirtual 123, 3) := by decide +kernel
theorem dX3_row_42 : decode cX3_row 42 = .ok (.goto 21, 3) := by decide +kernel
theorem dX3_row_45 : decode cX3_row 45 = .ok (.iload_n 2, 1) := by decide +kernel
theorem dX3_row_46 : decode cX3_row 46 = .ok (.iconst 2, 1) := by decide +kernel
theorem dX3_row_47 : decode cX3_row 47 = .ok (.if_icmp .ne 11, 3) := by decide +kernel
theorem dX3_row_50 : decode cX3_row 50 = .ok (.aload_n 0, 1) := by decide +kernel
theorem dX3_row_51 : decode cX3_row 51 = .ok (.iload_n 1, 1) := by decide +kernel
theorem dX3_row_52 : decode cX3_row 52 = .ok (.invokevirtual 131, 3) := by decide +kernel
theorem dX3_row_55 : decode cX3_row 55 = .ok (.goto 8, 3) := by decide +kernel
theorem dX3_row_58 : decode cX3_row 58 = .ok (.aload_n 0, 1) := by decide +kernel
theorem dX3_row_59 : decode cX3_row 59 = .ok (.iload_n 1, 1) := by decide +kernel
theorem dX3_row_60 : decode cX3_row 60 = .ok (.invokevirtual 134, 3) := by decide +kernel
theorem dX3_row_63 : decode cX3_row 63 = .ok (.ireturn, 1) := by decide +kernel
set_option maxRecDepth 20000 in
theorem ggX3_spacing_X3_meanOf : GoodIn wsX3_spacing wsX3_meanOf := goodIn_r _ [5, 6, 7, 8, 9, 10, 4, 11, 12, 13, 14, 15, 16, 26, 27, 28, 29, 30, 31, 32, 33, 34, 35, 36, 37, 38, 39, 40, 41, 42] (by decide +kernel) (by decide +kernel)
set_option maxRecDepth 20000 in
theorem gX3_spacing_X3_meanOf : GoodIn wsX3_spacing (wsV RX3 123 RX3 yX3_meanOf wsX3_meanOf) := goodIn_app (goodIn_of _ (by decide +kernel)) ggX3_spacing_X3_meanOf
set_option maxRecDepth 20000 in
theorem ggX3_spacing_X3_evenness : GoodIn wsX3_spacing wsX3_evenness := goodIn_r _ [20, 21, 1, 2, 3, 4, 5, 6, 7, 8, 9, 10, 11, 12, 13, 14, 15, 16, 22, 23, 24, 25, 26, 27, 28, 29, 30, 31, 32, 33, 34, 35, 36, 37, 38, 39, 40, 41, 42] (by decide +kernel) (by decide +kernel)
set_option maxRecDepth 20000 in
theorem gX3_spacing_X3_evenness : GoodIn wsX3_spacing (wsV RX3 131 RX3 yX3_evenness wsX3_evenness) := goodIn_app (goodIn_of _ (by decide +kernel)) ggX3_spacing_X3_evenness
theorem dX3_spacing_0 : decode cX3_spacing 0 = .ok (.sipush 600, 3) := by decide +kernel
theorem dX3_spacing_3 : decode cX3_spacing 3 = .ok (.istore_n 3, 1) := by decide +kernel
theorem dX3_spacing_4 : decode cX3_spacing 4 = .ok (.iload_n 3, 1) := by decide +kernel
theorem dX3_spacing_5 : decode cX3_spacing 5 = .ok (.ifCond .le 31, 3) := by decide +kernel
theorem dX3_spacing_8 : decode cX3_spacing 8 = .ok (.aload_n 0, 1) := by decide +kernel
theorem dX3_spacing_9 : decode cX3_spacing 9 = .ok (.iload_n 3, 1) := by decide +kernel
theorem dX3_spacing_10 : decode cX3_spacing 10 = .ok (.bipush 100, 2) := by decide +kernel
theorem dX3_spacing_12 : decode cX3_spacing 12 = .ok (.invokevirtual 123, 3) := by decide +kernel
theorem dX3_spacing_15 : decode cX3_spacing 15 = .ok (.iload_n 1, 1) := by decide +kernel
theorem dX3_spacing_16 : decode cX3_spacing 16 = .ok (.if_icmp .lt 14, 3) := by decide +kernel
theorem dX3_spacing_19 : decode cX3_spacing 19 = .ok (.aload_n 0, 1) := by decide +kernel
theorem dX3_spacing_20 : decode cX3_spacing 20 = .ok (.iload_n 3, 1) := by decide +kernel
theorem dX3_spacing_21 : decode cX3_spacing 21 = .ok (.invokevirtual 131, 3) := by decide +kernel
theorem dX3_spacing_24 : decode cX3_spacing 24 = .ok (.iload_n 2, 1) := by decide +kernel
theorem dX3_spacing_25 : decode cX3_spacing 25 = .ok (.if_icmp .lt 5, 3) := by decide +kernel
theorem dX3_spacing_28 : decode cX3_spacing 28 = .ok (.iload_n 3, 1) := by decide +kernel
theorem dX3_spacing_29 : decode cX3_spacing 29 = .ok (.ireturn, 1) := by decide +kernel
theorem dX3_spacing_30 : decode cX3_spacing 30 = .ok (.iinc 3 (-10), 3) := by decide +kernel
theorem dX3_spacing_33 : decode cX3_spacing 33 = .ok (.goto (-29), 3) := by decide +kernel
theorem dX3_spacing_36 : decode cX3_spacing 36 = .ok (.iconst (-1), 1) := by decide +kernel
theorem dX3_spacing_37 : decode cX3_spacing 37 = .ok (.ireturn, 1) := by decide +kernel
set_option maxRecDepth 20000 in
theorem ggX3_dark_X3_isSpacing : GoodIn wsX3_dark wsX3_isSpacing := goodIn_r _ [5, 6, 7, 4, 8] (by decide +kernel) (by decide +kernel)
set_option maxRecDepth 20000 in
theorem gX3_dark_X3_isSpacing : GoodIn wsX3_dark (va_wsS RX3 115 yX3_isSpacing wsX3_isSpacing) := goodIn_app (goodIn_of _ (by decide +kernel)) ggX3_dark_X3_isSpacing
set_option maxRecDepth 20000 in
theorem ggX3_dark_X3_meanOf : GoodIn wsX3_dark wsX3_meanOf := goodIn_r _ [12, 13, 14, 15, 16, 17, 4, 18, 19, 20, 21, 22, 23, 24, 25, 26, 27, 28, 29, 30, 31, 32, 33, 34, 35, 36, 37, 38, 39, 40] (by decide +kernel) (by decide +kernel)
set_option maxRecDepth 20000 in
theorem gX3_dark_X3_meanOf : GoodIn wsX3_dark (wsV RX3 123 RX3 yX3_meanOf wsX3_meanOf) := goodIn_app (goodIn_of _ (by decide +kernel)) ggX3_dark_X3_meanOf
theorem dX3_dark_0 : decode cX3_dark 0 = .ok (.iload_n 1, 1) := by decide +kernel
theorem dX3_dark_1 : decode cX3_dark 1 = .ok (.invokestatic 115, 3) := by decide +kernel
theorem dX3_dark_4 : decode cX3_dark 4 = .ok (.ifCond .ne 5, 3) := by decide +kernel
theorem dX3_dark_7 : decode cX3_dark 7 = .ok (.iconst (-1), 1) := by decide +kernel
theorem dX3_dark_8 : decode cX3_dark 8 = .ok (.ireturn, 1) := by decide +kernel
theorem dX3_dark_9 : decode cX3_dark 9 = .ok (.iconst 0, 1) := by decide +kernel
theorem dX3_dark_10 : decode cX3_dark 10 = .ok (.istore_n 3, 1) := by decide +kernel
theorem dX3_dark_11 : decode cX3_dark 11 = .ok (.iconst 0, 1) := by decide +kernel
theorem dX3_dark_12 : decode cX3_dark 12 = .ok (.istore 4, 2) := by decide +kernel
theorem dX3_dark_14 : decode cX3_dark 14 = .ok (.iload 4, 2) := by decide +kernel
theorem dX3_dark_16 : decode cX3_dark 16 = .ok (.bipush 24, 2) := by decide +kernel
theorem dX3_dark_18 : decode cX3_dark 18 = .ok (.if_icmp .ge 33, 3) := by decide +kernel
theorem dX3_dark_21 : decode cX3_dark 21 = .ok (.iload_n 3, 1) := by decide +kernel
theorem dX3_dark_22 : decode cX3_dark 22 = .ok (.aload_n 0, 1) := by decide +kernel
theorem dX3_dark_23 : decode cX3_dark 23 = .ok (.iload_n 1, 1) := by decide +kernel
theorem dX3_dark_24 : decode cX3_dark 24 = .ok (.aload_n 0, 1) := by decide +kernel
theorem dX3_dark_25 : decode cX3_dark 25 = .ok (.getfield 44, 3) := by decide +kernel
theorem dX3_dark_28 : decode cX3_dark 28 = .ok (.iload 4, 2) := by decide +kernel
theorem dX3_dark_30 : decode cX3_dark 30 = .ok (.iaload, 1) := by decide +kernel
theorem dX3_dark_31 : decode cX3_dark 31 = .ok (.invokevirtual 123, 3) := by decide +kernel
theorem dX3_dark_34 : decode cX3_dark 34 = .ok (.iload_n 2, 1) := by decide +kernel
theorem dX3_dark_35 : decode cX3_dark 35 = .ok (.if_icmp .ge 7, 3) := by decide +kernel
theorem dX3_dark_38 : decode cX3_dark 38 = .ok (.iconst 1, 1) := by decide +kernel
theorem dX3_dark_39 : decode cX3_dark 39 = .ok (.goto 4, 3) := by decide +kernel
theorem dX3_dark_42 : decode cX3_dark 42 = .ok (.iconst 0, 1) := by decide +kernel
theorem dX3_dark_43 : decode cX3_dark 43 = .ok (.iadd, 1) := by decide +kernel
theorem dX3_dark_44 : decode cX3_dark 44 = .ok (.istore_n 3, 1) := by decide +kernel
theorem dX3_dark_45 : decode cX3_dark 45 = .ok (.iinc 4 1, 3) := by decide +kernel
theorem dX3_dark_48 : decode cX3_dark 48 = .ok (.goto (-34), 3) := by decide +kernel
theorem dX3_dark_51 : decode cX3_dark 51 = .ok (.iload_n 3, 1) := by decide +kernel
theorem dX3_dark_52 : decode cX3_dark 52 = .ok (.ireturn, 1) := by decide +kernel
set_option maxRecDepth 20000 in
theorem ggX3_dropOf_X3_poles : GoodIn wsX3_dropOf wsX3_poles := goodIn_r _ [6, 7, 8, 9, 10, 11, 12, 13, 14, 15, 16, 17, 18, 19, 20, 21, 22, 23, 24] (by decide +kernel) (by decide +kernel)
set_option maxRecDepth 20000 in
theorem gX3_dropOf_X3_poles : GoodIn wsX3_dropOf (wsV RX3 134 RX3 yX3_poles wsX3_poles) := goodIn_app (goodIn_of _ (by decide +kernel)) ggX3_dropOf_X3_poles
theorem dX3_dropOf_0 : decode cX3_dropOf 0 = .ok (.lconst 0, 1) := by decide +kernel
theorem dX3_dropOf_1 : decode cX3_dropOf 1 = .ok (.lstore 4, 2) := by decide +kernel
theorem dX3_dropOf_3 : decode cX3_dropOf 3 = .ok (.aload_n 0, 1) := by decide +kernel
theorem dX3_dropOf_4 : decode cX3_dropOf 4 = .ok (.iload_n 1, 1) := by decide +kernel
theorem dX3_dropOf_5 : decode cX3_dropOf 5 = .ok (.invokevirtual 134, 3) := by decide +kernel
theorem dX3_dropOf_8 : decode cX3_dropOf 8 = .ok (.iconst 1, 1) := by decide +kernel
theorem dX3_dropOf_9 : decode cX3_dropOf 9 = .ok (.isub, 1) := by decide +kernel
theorem dX3_dropOf_10 : decode cX3_dropOf 10 = .ok (.istore 6, 2) := by decide +kernel
theorem dX3_dropOf_12 : decode cX3_dropOf 12 = .ok (.iload 6, 2) := by decide +kernel
theorem dX3_dropOf_14 : decode cX3_dropOf 14 = .ok (.ifCond .le 26, 3) := by decide +kernel
theorem dX3_dropOf_17 : decode cX3_dropOf 17 = .ok (.lload 4, 2) := by decide +kernel
theorem dX3_dropOf_19 : decode cX3_dropOf 19 = .ok (.iload_n 2, 1) := by decide +kernel
theorem dX3_dropOf_20 : decode cX3_dropOf 20 = .ok (.i2l, 1) := by decide +kernel
theorem dX3_dropOf_21 : decode cX3_dropOf 21 = .ok (.iload 6, 2) := by decide +kernel
theorem dX3_dropOf_23 : decode cX3_dropOf 23 = .ok (.i2l, 1) := by decide +kernel
theorem dX3_dropOf_24 : decode cX3_dropOf 24 = .ok (.lmul, 1) := by decide +kernel
theorem dX3_dropOf_25 : decode cX3_dropOf 25 = .ok (.iload_n 3, 1) := by decide +kernel
theorem dX3_dropOf_26 : decode cX3_dropOf 26 = .ok (.i2l, 1) := by decide +kernel
theorem dX3_dropOf_27 : decode cX3_dropOf 27 = .ok (.lmul, 1) := by decide +kernel
theorem dX3_dropOf_28 : decode cX3_dropOf 28 = .ok (.iload_n 1, 1) := by decide +kernel
theorem dX3_dropOf_29 : decode cX3_dropOf 29 = .ok (.i2l, 1) := by decide +kernel
theorem dX3_dropOf_30 : decode cX3_dropOf 30 = .ok (.lmul, 1) := by decide +kernel
theorem dX3_dropOf_31 : decode cX3_dropOf 31 = .ok (.ladd, 1) := by decide +kernel
theorem dX3_dropOf_32 : decode cX3_dropOf 32 = .ok (.lstore 4, 2) := by decide +kernel
theorem dX3_dropOf_34 : decode cX3_dropOf 34 = .ok (.iinc 6 (-1), 3) := by decide +kernel
theorem dX3_dropOf_37 : decode cX3_dropOf 37 = .ok (.goto (-25), 3) := by decide +kernel
theorem dX3_dropOf_40 : decode cX3_dropOf 40 = .ok (.lload 4, 2) := by decide +kernel
theorem dX3_dropOf_42 : decode cX3_dropOf 42 = .ok (.ldc2_w 137, 3) := by decide +kernel
theorem dX3_dropOf_45 : decode cX3_dropOf 45 = .ok (.ldiv, 1) := by decide +kernel
theorem dX3_dropOf_46 : decode cX3_dropOf 46 = .ok (.lreturn, 1) := by decide +kernel
set_option maxRecDepth 20000 in
theorem ggX3_isWire_X3_within : GoodIn wsX3_isWire wsX3_within := goodIn_r _ [4] (by decide +kernel) (by decide +kernel)
set_option maxRecDepth 20000 in
theorem gX3_isWire_X3_within : GoodIn wsX3_isWire (va_wsS RX3 50 yX3_within wsX3_within) := goodIn_app (goodIn_of _ (by decide +kernel)) ggX3_isWire_X3_within
theorem dX3_isWire_0 : decode cX3_isWire 0 = .ok (.iload_n 0, 1) := by decide +kernel
theorem dX3_isWire_1 : decode cX3_isWire 1 = .ok (.iconst 0, 1) := by decide +kernel
theorem dX3_isWire_2 : decode cX3_isWire 2 = .ok (.sipush 20000, 3) := by decide +kernel
theorem dX3_isWire_5 : decode cX3_isWire 5 = .ok (.invokestatic 50, 3) := by decide +kernel
theorem dX3_isWire_8 : decode cX3_isWire 8 = .ok (.ifCond .eq 18, 3) := by decide +kernel
theorem dX3_isWire_11 : decode cX3_isWire 11 = .ok (.iload_n 1, 1) := by decide +kernel
theorem dX3_isWire_12 : decode cX3_isWire 12 = .ok (.iconst 0, 1) := by decide +kernel
theorem dX3_isWire_13 : decode cX3_isWire 13 = .ok (.sipush 10000, 3) := by decide +kernel
theorem dX3_isWire_16 : decode cX3_isWire 16 = .ok (.invokestatic 50, 3) := by decide +kernel
theorem dX3_isWire_19 : decode cX3_isWire 19 = .ok (.ifCond .eq 7, 3) := by decide +kernel
theorem dX3_isWire_22 : decode cX3_isWire 22 = .ok (.iconst 1, 1) := by decide +kernel
theorem dX3_isWire_23 : decode cX3_isWire 23 = .ok (.goto 4, 3) := by decide +kernel
theorem dX3_isWire_26 : decode cX3_isWire 26 = .ok (.iconst 0, 1) := by decide +kernel
theorem dX3_isWire_27 : decode cX3_isWire 27 = .ok (.ireturn, 1) := by decide +kernel
set_option maxRecDepth 20000 in
theorem ggX3_drop_X3_isSpacing : GoodIn wsX3_drop wsX3_isSpacing := goodIn_r _ [4, 5, 6, 3, 7] (by decide +kernel) (by decide +kernel)
set_option maxRecDepth 20000 in
theorem gX3_drop_X3_isSpacing : GoodIn wsX3_drop (va_wsS RX3 115 yX3_isSpacing wsX3_isSpacing) := goodIn_app (goodIn_of _ (by decide +kernel)) ggX3_drop_X3_isSpacing
set_option maxRecDepth 20000 in
theorem ggX3_drop_X3_isWire : GoodIn wsX3_drop wsX3_isWire := goodIn_r _ [10, 5, 6, 3, 7] (by decide +kernel) (by decide +kernel)
set_option maxRecDepth 20000 in
theorem gX3_drop_X3_isWire : GoodIn wsX3_drop (va_wsS RX3 139 yX3_isWire wsX3_isWire) := goodIn_app (goodIn_of _ (by decide +kernel)) ggX3_drop_X3_isWire
set_option maxRecDepth 20000 in
theorem ggX3_drop_X3_dropOf : GoodIn wsX3_drop wsX3_dropOf := goodIn_r _ [14, 15, 16, 17, 18, 3, 19, 20, 21, 22, 23, 24, 25, 26, 27, 28, 29, 30, 31, 32, 33, 34, 35, 36, 37] (by decide +kernel) (by decide +kernel)
set_option maxRecDepth 20000 in
theorem gX3_drop_X3_dropOf : GoodIn wsX3_drop (wsV RX3 142 RX3 yX3_dropOf wsX3_dropOf) := goodIn_app (goodIn_of _ (by decide +kernel)) ggX3_drop_X3_dropOf
theorem dX3_drop_0 : decode cX3_drop 0 = .ok (.iload_n 1, 1) := by decide +kernel
theorem dX3_drop_1 : decode cX3_drop 1 = .ok (.invokestatic 115, 3) := by decide +kernel
theorem dX3_drop_4 : decode cX3_drop 4 = .ok (.ifCond .eq 22, 3) := by decide +kernel
theorem dX3_drop_7 : decode cX3_drop 7 = .ok (.iload_n 2, 1) := by decide +kernel
theorem dX3_drop_8 : decode cX3_drop 8 = .ok (.iload_n 3, 1) := by decide +kernel
theorem dX3_drop_9 : decode cX3_drop 9 = .ok (.invokestatic 139, 3) := by decide +kernel
theorem dX3_drop_12 : decode cX3_drop 12 = .ok (.ifCond .eq 14, 3) := by decide +kernel
theorem dX3_drop_15 : decode cX3_drop 15 = .ok (.aload_n 0, 1) := by decide +kernel
theorem dX3_drop_16 : decode cX3_drop 16 = .ok (.iload_n 1, 1) := by decide +kernel
theorem dX3_drop_17 : decode cX3_drop 17 = .ok (.iload_n 2, 1) := by decide +kernel
theorem dX3_drop_18 : decode cX3_drop 18 = .ok (.iload_n 3, 1) := by decide +kernel
theorem dX3_drop_19 : decode cX3_drop 19 = .ok (.invokevirtual 142, 3) := by decide +kernel
theorem dX3_drop_22 : decode cX3_drop 22 = .ok (.l2i, 1) := by decide +kernel
theorem dX3_drop_23 : decode cX3_drop 23 = .ok (.goto 4, 3) := by decide +kernel
theorem dX3_drop_26 : decode cX3_drop 26 = .ok (.iconst (-1), 1) := by decide +kernel
theorem dX3_drop_27 : decode cX3_drop 27 = .ok (.ireturn, 1) := by decide +kernel
set_option maxRecDepth 20000 in
theorem ggX3_wired_X3_isWire : GoodIn wsX3_wired wsX3_isWire := goodIn_r _ [4, 5, 6, 3, 7] (by decide +kernel) (by decide +kernel)
set_option maxRecDepth 20000 in
theorem gX3_wired_X3_isWire : GoodIn wsX3_wired (va_wsS RX3 139 yX3_isWire wsX3_isWire) := goodIn_app (goodIn_of _ (by decide +kernel)) ggX3_wired_X3_isWire
set_option maxRecDepth 20000 in
theorem ggX3_wired_X3_dropOf : GoodIn wsX3_wired wsX3_dropOf := goodIn_r _ [11, 12, 13, 14, 15, 3, 16, 17, 18, 19, 20, 21, 22, 23, 24, 25, 26, 27, 28, 29, 30, 31, 32, 33, 34] (by decide +kernel) (by decide +kernel)
set_option maxRecDepth 20000 in
theorem gX3_wired_X3_dropOf : GoodIn wsX3_wired (wsV RX3 142 RX3 yX3_dropOf wsX3_dropOf) := goodIn_app (goodIn_of _ (by decide +kernel)) ggX3_wired_X3_dropOf
theorem dX3_wired_0 : decode cX3_wired 0 = .ok (.sipush 600, 3) := by decide +kernel
theorem dX3_wired_3 : decode cX3_wired 3 = .ok (.istore 4, 2) := by decide +kernel
theorem dX3_wired_5 : decode cX3_wired 5 = .ok (.iload 4, 2) := by decide +kernel
theorem dX3_wired_7 : decode cX3_wired 7 = .ok (.ifCond .le 34, 3) := by decide +kernel
theorem dX3_wired_10 : decode cX3_wired 10 = .ok (.iload_n 1, 1) := by decide +kernel
theorem dX3_wired_11 : decode cX3_wired 11 = .ok (.iload_n 2, 1) := by decide +kernel
theorem dX3_wired_12 : decode cX3_wired 12 = .ok (.invokestatic 139, 3) := by decide +kernel
theorem dX3_wired_15 : decode cX3_wired 15 = .ok (.ifCond .eq 26, 3) := by decide +kernel
theorem dX3_wired_18 : decode cX3_wired 18 = .ok (.aload_n 0, 1) := by decide +kernel
theorem dX3_wired_19 : decode cX3_wired 19 = .ok (.iload 4, 2) := by decide +kernel
theorem dX3_wired_21 : decode cX3_wired 21 = .ok (.iload_n 1, 1) := by decide +kernel
theorem dX3_wired_22 : decode cX3_wired 22 = .ok (.iload_n 2, 1) := by decide +kernel
theorem dX3_wired_23 : decode cX3_wired 23 = .ok (.invokevirtual 142, 3) := by decide +kernel
theorem dX3_wired_26 : decode cX3_wired 26 = .ok (.iload_n 3, 1) := by decide +kernel
theorem dX3_wired_27 : decode cX3_wired 27 = .ok (.i2l, 1) := by decide +kernel
theorem dX3_wired_28 : decode cX3_wired 28 = .ok (.lcmp, 1) := by decide +kernel
theorem dX3_wired_29 : decode cX3_wired 29 = .ok (.ifCond .gt 6, 3) := by decide +kernel
theorem dX3_wired_32 : decode cX3_wired 32 = .ok (.iload 4, 2) := by decide +kernel
theorem dX3_wired_34 : decode cX3_wired 34 = .ok (.ireturn, 1) := by decide +kernel
theorem dX3_wired_35 : decode cX3_wired 35 = .ok (.iinc 4 (-10), 3) := by decide +kernel
theorem dX3_wired_38 : decode cX3_wired 38 = .ok (.goto (-33), 3) := by decide +kernel
theorem dX3_wired_41 : decode cX3_wired 41 = .ok (.iconst (-1), 1) := by decide +kernel
theorem dX3_wired_42 : decode cX3_wired 42 = .ok (.ireturn, 1) := by decide +kernel
theorem dX3_count_0 : decode cX3_count 0 = .ok (.iconst 0, 1) := by decide +kernel
theorem dX3_count_1 : decode cX3_count 1 = .ok (.istore_n 2, 1) := by decide +kernel
theorem dX3_count_2 : decode cX3_count 2 = .ok (.iload_n 1, 1) := by decide +kernel
theorem dX3_count_3 : decode cX3_count 3 = .ok (.tableswitch 117 0 5 #[37, 42, 47, 52, 79, 112], 37) := by decide +kernel
theorem dX3_count_40 : decode cX3_count 40 = .ok (.aload_n 0, 1) := by decide +kernel
theorem dX3_count_41 : decode cX3_count 41 = .ok (.getfield 58, 3) := by decide +kernel
theorem dX3_count_44 : decode cX3_count 44 = .ok (.ireturn, 1) := by decide +kernel
theorem dX3_count_45 : decode cX3_count 45 = .ok (.aload_n 0, 1) := by decide +kernel
theorem dX3_count_46 : decode cX3_count 46 = .ok (.getfield 61, 3) := by decide +kernel
theorem dX3_count_49 : decode cX3_count 49 = .ok (.ireturn, 1) := by decide +kernel
theorem dX3_count_50 : decode cX3_count 50 = .ok (.aload_n 0, 1) := by decide +kernel
theorem dX3_count_51 : decode cX3_count 51 = .ok (.getfield 64, 3) := by decide +kernel
theorem dX3_count_54 : decode cX3_count 54 = .ok (.ireturn, 1) := by decide +kernel
theorem dX3_count_55 : decode cX3_count 55 = .ok (.iconst 0, 1) := by decide +kernel
theorem dX3_count_56 : decode cX3_count 56 = .ok (.istore_n 3, 1) := by decide +kernel
theorem dX3_count_57 : decode cX3_count 57 = .ok (.iload_n 3, 1) := by decide +kernel
theorem dX3_count_58 : decode cX3_count 58 = .ok (.aload_n 0, 1) := by decide +kernel
theorem dX3_count_59 : decode cX3_count 59 = .ok (.getfield 61, 3) := by decide +kernel
theorem dX3_count_62 : decode cX3_count 62 = .ok (.if_icmp .ge 18, 3) := by decide +kernel
theorem dX3_count_65 : decode cX3_count 65 = .ok (.iload_n 2, 1) := by decide +kernel
theorem dX3_count_66 : decode cX3_count 66 = .ok (.aload_n 0, 1) := by decide +kernel
theorem dX3_count_67 : decode cX3_count 67 = .ok (.getfield 25, 3) := by decide +kernel
theorem dX3_count_70 : decode cX3_count 70 = .ok (.iload_n 3, 1) := by decide +kernel
theorem dX3_count_71 : decode cX3_count 71 = .ok (.iaload, 1) := by decide +kernel
theorem dX3_count_72 : decode cX3_count 72 = .ok (.iadd, 1) := by decide +kernel
theorem dX3_count_73 : decode cX3_count 73 = .ok (.istore_n 2, 1) := by decide +kernel
theorem dX3_count_74 : decode cX3_count 74 = .ok (.iinc 3 1, 3) := by decide +kernel
theorem dX3_count_77 : decode cX3_count 77 = .ok (.goto (-20), 3) := by decide +kernel
theorem dX3_count_80 : decode cX3_count 80 = .ok (.iload_n 2, 1) := by decide +kernel
theorem dX3_count_81 : decode cX3_count 81 = .ok (.ireturn, 1) := by decide +kernel
theorem dX3_count_82 : decode cX3_count 82 = .ok (.iconst 0, 1) := by decide +kernel
theorem dX3_count_83 : decode cX3_count 83 = .ok (.istore_n 3, 1) := by decide +kernel
theorem dX3_count_84 : decode cX3_count 84 = .ok (.iload_n 3, 1) := by decide +kernel
theorem dX3_count_85 : decode cX3_count 85 = .ok (.bipush 31, 2) := by decide +kernel
theorem dX3_count_87 : decode cX3_count 87 = .ok (.if_icmp .ge 26, 3) := by decide +kernel
theorem dX3_count_90 : decode cX3_count 90 = .ok (.iload_n 2, 1) := by decide +kernel
theorem dX3_count_91 : decode cX3_count 91 = .ok (.aload_n 0, 1) := by decide +kernel
theorem dX3_count_92 : decode cX3_count 92 = .ok (.getfield 41, 3) := by decide +kernel
theorem dX3_count_95 : decode cX3_count 95 = .ok (.iload_n 3, 1) := by decide +kernel
theorem dX3_count_96 : decode cX3_count 96 = .ok (.iaload, 1) := by decide +kernel
theorem dX3_count_97 : decode cX3_count 97 = .ok (.ifCond .le 7, 3) := by decide +kernel
theorem dX3_count_100 : decode cX3_count 100 = .ok (.iconst 1, 1) := by decide +kernel
theorem dX3_count_101 : decode cX3_count 101 = .ok (.goto 4, 3) := by decide +kernel
theorem dX3_count_104 : decode cX3_count 104 = .ok (.iconst 0, 1) := by decide +kernel
theorem dX3_count_105 : decode cX3_count 105 = .ok (.iadd, 1) := by decide +kernel
theorem dX3_count_106 : decode cX3_count 106 = .ok (.istore_n 2, 1) := by decide +kernel
theorem dX3_count_107 : decode cX3_count 107 = .ok (.iinc 3 1, 3) := by decide +kernel
theorem dX3_count_110 : decode cX3_count 110 = .ok (.goto (-26), 3) := by decide +kernel
theorem dX3_count_113 : decode cX3_count 113 = .ok (.iload_n 2, 1) := by decide +kernel
theorem dX3_count_114 : decode cX3_count 114 = .ok (.ireturn, 1) := by decide +kernel
theorem dX3_count_115 : decode cX3_count 115 = .ok (.aload_n 0, 1) := by decide +kernel
theorem dX3_count_116 : decode cX3_count 116 = .ok (.getfield 112, 3) := by decide +kernel
theorem dX3_count_119 : decode cX3_count 119 = .ok (.ireturn, 1) := by decide +kernel
theorem dX3_count_120 : decode cX3_count 120 = .ok (.iconst (-1), 1) := by decide +kernel
theorem dX3_count_121 : decode cX3_count 121 = .ok (.ireturn, 1) := by decide +kernel
end
section
set_option maxRecDepth 20000 in
theorem ggL_law_X2_init : GoodIn wsL_law wsX2_init := goodIn_r _ [8, 9, 10, 11, 12, 13, 14, 15, 16, 17, 18, 19, 20, 21, 22, 23, 24, 25, 26, 27, 28, 29, 30, 31, 32, 33, 34, 35, 36, 37, 38, 39, 40, 41, 42, 43, 44, 45, 46, 47, 620, 621, 622, 623, 624, 625, 626, 627, 628, 629, 630, 631, 632, 633, 634, 635, 636, 637, 638, 601, 602, 639, 640, 641, 642] (by decide +kernel) (by decide +kernel)
set_option maxRecDepth 20000 in
theorem gL_law_X2_init : GoodIn wsL_law (wsX2_init) := ggL_law_X2_init
set_option maxRecDepth 20000 in
theorem ggL_law_X3_init : GoodIn wsL_law wsX3_init := goodIn_r _ [50, 51, 10, 11, 24, 52, 53, 54, 55, 56, 57, 58, 59, 60, 61, 62, 63, 64, 603, 604, 605, 606, 607, 608, 609, 610, 611, 612, 613, 614, 615, 616, 617, 618, 619] (by decide +kernel) (by decide +kernel)
set_option maxRecDepth 20000 in
theorem gL_law_X3_init : GoodIn wsL_law (wsX3_init) := ggL_law_X3_init
set_option maxRecDepth 20000 in
theorem ggL_law_X2_piece : GoodIn wsL_law wsX2_piece := goodIn_r _ [68, 15, 69, 70, 2, 71, 72, 73, 74, 75, 76, 77, 78, 79, 80, 14, 81, 82, 25, 26, 27, 83, 84, 85, 86, 87, 28, 29, 37, 88, 89, 90, 91, 92, 93, 94, 95, 96, 97, 98, 38, 99, 100, 101, 102, 31, 32, 33, 34, 103, 104, 105, 106, 107, 108, 109, 110, 111, 112, 113, 114, 115, 116, 117, 118, 601, 602, 620, 621, 622, 623, 624, 625, 626, 627, 628, 629, 630, 631, 632, 633, 634, 635, 636, 637, 638] (by decide +kernel) (by decide +kernel)
set_option maxRecDepth 20000 in
theorem gL_law_X2_piece : GoodIn wsL_law (wsV RL 13 RX2 yX2_piece wsX2_piece) := goodIn_app (goodIn_of _ (by decide +kernel)) ggL_law_X2_piece
set_option maxRecDepth 20000 in
theorem ggL_law_X3_piece : GoodIn wsL_law wsX3_piece := goodIn_r _ [122, 123, 52, 53, 54, 124, 125, 5, 126, 127, 128, 129, 603, 604, 605, 606, 607, 608, 609, 610, 611, 612, 613, 614, 615, 616, 617, 618, 619] (by decide +kernel) (by decide +kernel)
set_option maxRecDepth 20000 in
theorem gL_law_X3_piece : GoodIn wsL_law (wsV RL 17 RX3 yX3_piece wsX3_piece) := goodIn_app (goodIn_of _ (by decide +kernel)) ggL_law_X3_piece
set_option maxRecDepth 20000 in
theorem ggL_law_X2_house : GoodIn wsL_law wsX2_house := goodIn_r _ [133, 15, 69, 70, 2, 71, 72, 73, 74, 134, 135, 136, 14, 137, 83, 28, 29, 30, 82, 84, 85, 86, 87, 25, 26, 37, 88, 89, 90, 91, 92, 93, 94, 95, 96, 97, 98, 38, 99, 100, 101, 102, 31, 32, 33, 34, 103, 104, 105, 106, 107, 108, 109, 110, 111, 112, 113, 114, 115, 116, 117, 118, 601, 602, 620, 621, 622, 623, 624, 625, 626, 627, 628, 629, 630, 631, 632, 633, 634, 635, 636, 637, 638] (by decide +kernel) (by decide +kernel)
set_option maxRecDepth 20000 in
theorem gL_law_X2_house : GoodIn wsL_law (wsV RL 18 RX2 yX2_house wsX2_house) := goodIn_app (goodIn_of _ (by decide +kernel)) ggL_law_X2_house
set_option maxRecDepth 20000 in
theorem ggL_law_X3_house : GoodIn wsL_law wsX3_house := goodIn_r _ [141, 142, 55, 56, 57, 124, 125, 5, 126, 127, 128, 129, 603, 604, 605, 606, 607, 608, 609, 610, 611, 612, 613, 614, 615, 616, 617, 618, 619] (by decide +kernel) (by decide +kernel)
set_option maxRecDepth 20000 in
theorem gL_law_X3_house : GoodIn wsL_law (wsV RL 22 RX3 yX3_house wsX3_house) := goodIn_app (goodIn_of _ (by decide +kernel)) ggL_law_X3_house
set_option maxRecDepth 20000 in
theorem ggL_law_X2_wall : GoodIn wsL_law wsX2_wall := goodIn_r _ [146, 15, 69, 70, 2, 71, 72, 73, 74, 147, 148, 149, 150, 151, 152, 14, 153, 88, 31, 32, 33, 34, 35, 82, 83, 95, 96, 97, 98, 38, 99, 100, 101, 102, 25, 26, 28, 29, 103, 104, 105, 106, 107, 108, 109, 110, 111, 112, 113, 114, 115, 116, 117, 118, 89, 90, 91, 601, 602, 620, 621, 622, 623, 624, 625, 626, 627, 628, 629, 630, 631, 632, 633, 634, 635, 636, 637, 638] (by decide +kernel) (by decide +kernel)
set_option maxRecDepth 20000 in
theorem gL_law_X2_wall : GoodIn wsL_law (wsV RL 23 RX2 yX2_wall wsX2_wall) := goodIn_app (goodIn_of _ (by decide +kernel)) ggL_law_X2_wall
set_option maxRecDepth 20000 in
theorem ggL_law_X3_wall : GoodIn wsL_law wsX3_wall := goodIn_r _ [157, 158, 58, 59, 124, 125, 5, 126, 127, 128, 129, 603, 604, 605, 606, 607, 608, 609, 610, 611, 612, 613, 614, 615, 616, 617, 618, 619] (by decide +kernel) (by decide +kernel)
set_option maxRecDepth 20000 in
theorem gL_law_X3_wall : GoodIn wsL_law (wsV RL 26 RX3 yX3_wall wsX3_wall) := goodIn_app (goodIn_of _ (by decide +kernel)) ggL_law_X3_wall
set_option maxRecDepth 20000 in
theorem ggL_law_X2_fall : GoodIn wsL_law wsX2_fall := goodIn_r _ [162, 15, 72, 73, 2, 74, 163, 164, 165, 14, 166, 40, 601, 602, 620, 621, 622, 623, 624, 625, 626, 627, 628, 629, 630, 631, 632, 633, 634, 635, 636, 637, 638] (by decide +kernel) (by decide +kernel)
set_option maxRecDepth 20000 in
theorem gL_law_X2_fall : GoodIn wsL_law (wsV RL 27 RX2 yX2_fall wsX2_fall) := goodIn_app (goodIn_of _ (by decide +kernel)) ggL_law_X2_fall
set_option maxRecDepth 20000 in
theorem ggL_law_X3_fall : GoodIn wsL_law wsX3_fall := goodIn_r _ [170, 60, 127, 128, 5, 129, 603, 604, 605, 606, 607, 608, 609, 610, 611, 612, 613, 614, 615, 616, 617, 618, 619] (by decide +kernel) (by decide +kernel)
set_option maxRecDepth 20000 in
theorem gL_law_X3_fall : GoodIn wsL_law (wsV RL 31 RX3 yX3_fall wsX3_fall) := goodIn_app (goodIn_of _ (by decide +kernel)) ggL_law_X3_fall
set_option maxRecDepth 20000 in
theorem ggL_law_X2_malus : GoodIn wsL_law wsX2_malus := goodIn_r _ [174, 15, 175, 176, 2, 177, 72, 73, 74, 178, 179, 180, 14, 181, 36, 601, 602, 620, 621, 622, 623, 624, 625, 626, 627, 628, 629, 630, 631, 632, 633, 634, 635, 636, 637, 638] (by decide +kernel) (by decide +kernel)
set_option maxRecDepth 20000 in
theorem gL_law_X2_malus : GoodIn wsL_law (wsV RL 32 RX2 yX2_malus wsX2_malus) := goodIn_app (goodIn_of _ (by decide +kernel)) ggL_law_X2_malus
set_option maxRecDepth 20000 in
theorem ggL_law_X3_malus : GoodIn wsL_law wsX3_malus := goodIn_r _ [185, 61, 127, 128, 5, 129, 603, 604, 605, 606, 607, 608, 609, 610, 611, 612, 613, 614, 615, 616, 617, 618, 619] (by decide +kernel) (by decide +kernel)
set_option maxRecDepth 20000 in
theorem gL_law_X3_malus : GoodIn wsL_law (wsV RL 36 RX3 yX3_malus wsX3_malus) := goodIn_app (goodIn_of _ (by decide +kernel)) ggL_law_X3_malus
set_option maxRecDepth 20000 in
theorem ggL_law_X2_gives : GoodIn wsL_law wsX2_gives := goodIn_r _ [189, 15, 190, 191, 192, 14, 193, 82, 194, 195, 196, 197, 83, 175, 176, 2, 177, 72, 73, 74, 198, 199, 200, 201, 27, 40, 37, 106, 107, 108, 109, 89, 90, 91, 202, 203, 204, 205, 88, 38, 35, 601, 602, 620, 621, 622, 623, 624, 625, 626, 627, 628, 629, 630, 631, 632, 633, 634, 635, 636, 637, 638] (by decide +kernel) (by decide +kernel)
set_option maxRecDepth 20000 in
theorem gL_law_X2_gives : GoodIn wsL_law (wsV RL 37 RX2 yX2_gives wsX2_gives) := goodIn_app (goodIn_of _ (by decide +kernel)) ggL_law_X2_gives
set_option maxRecDepth 20000 in
theorem ggL_law_X3_gives : GoodIn wsL_law wsX3_gives := goodIn_r _ [209, 123, 127, 128, 5, 129, 210, 211, 212, 213, 142, 214, 215, 216, 217, 54, 52, 55, 53, 56, 218, 60, 219, 158, 59, 220, 221, 222, 223, 58, 224, 225, 226, 227, 228, 229, 603, 604, 605, 606, 607, 608, 609, 610, 611, 612, 613, 614, 615, 616, 617, 618, 619] (by decide +kernel) (by decide +kernel)
set_option maxRecDepth 20000 in
theorem gL_law_X3_gives : GoodIn wsL_law (wsV RL 40 RX3 yX3_gives wsX3_gives) := goodIn_app (goodIn_of _ (by decide +kernel)) ggL_law_X3_gives
set_option maxRecDepth 20000 in
theorem ggL_law_X2_level : GoodIn wsL_law wsX2_level := goodIn_r _ [233, 15, 194, 195, 196, 14, 197, 83, 234, 235, 236, 237, 36, 106, 107, 108, 109, 238, 239, 240, 241, 82, 242, 199, 200, 201, 27, 40, 37, 89, 90, 91, 202, 203, 204, 205, 88, 38, 35, 243, 244, 245, 246, 247, 248, 249, 250, 251, 175, 176, 2, 177, 72, 73, 74, 252, 601, 602, 620, 621, 622, 623, 624, 625, 626, 627, 628, 629, 630, 631, 632, 633, 634, 635, 636, 637, 638] (by decide +kernel) (by decide +kernel)
set_option maxRecDepth 20000 in
theorem gL_law_X2_level : GoodIn wsL_law (wsV RL 41 RX2 yX2_level wsX2_level) := goodIn_app (goodIn_of _ (by decide +kernel)) ggL_law_X2_level
set_option maxRecDepth 20000 in
theorem ggL_law_X3_level : GoodIn wsL_law wsX3_level := goodIn_r _ [256, 210, 211, 212, 5, 213, 142, 127, 128, 129, 257, 258, 259, 260, 61, 261, 262, 263, 264, 123, 214, 215, 216, 217, 54, 52, 55, 53, 56, 218, 60, 219, 158, 59, 220, 221, 222, 223, 58, 224, 225, 226, 227, 228, 229, 265, 266, 267, 603, 604, 605, 606, 607, 608, 609, 610, 611, 612, 613, 614, 615, 616, 617, 618, 619] (by decide +kernel) (by decide +kernel)
set_option maxRecDepth 20000 in
theorem gL_law_X3_level : GoodIn wsL_law (wsV RL 44 RX3 yX3_level wsX3_level) := goodIn_app (goodIn_of _ (by decide +kernel)) ggL_law_X3_level
set_option maxRecDepth 20000 in
theorem ggL_law_X2_people : GoodIn wsL_law wsX2_people := goodIn_r _ [271, 15, 272, 273, 274, 14, 275, 83, 30, 276, 235, 236, 237, 36, 106, 107, 108, 109, 238, 239, 240, 241, 82, 242, 199, 200, 201, 27, 40, 37, 89, 90, 91, 202, 203, 204, 205, 88, 38, 35, 243, 244, 245, 246, 247, 248, 249, 250, 251, 601, 602, 620, 621, 622, 623, 624, 625, 626, 627, 628, 629, 630, 631, 632, 633, 634, 635, 636, 637, 638] (by decide +kernel) (by decide +kernel)
set_option maxRecDepth 20000 in
theorem gL_law_X2_people : GoodIn wsL_law (wsV RL 45 RX2 yX2_people wsX2_people) := goodIn_app (goodIn_of _ (by decide +kernel)) ggL_law_X2_people
set_option maxRecDepth 20000 in
theorem ggL_law_X3_people : GoodIn wsL_law wsX3_people := goodIn_r _ [280, 142, 57, 257, 258, 259, 5, 260, 61, 261, 262, 263, 264, 123, 214, 215, 216, 217, 54, 52, 55, 53, 56, 218, 60, 219, 158, 59, 220, 221, 222, 223, 58, 224, 225, 226, 227, 228, 229, 265, 266, 267, 603, 604, 605, 606, 607, 608, 609, 610, 611, 612, 613, 614, 615, 616, 617, 618, 619] (by decide +kernel) (by decide +kernel)
set_option maxRecDepth 20000 in
theorem gL_law_X3_people : GoodIn wsL_law (wsV RL 48 RX3 yX3_people wsX3_people) := goodIn_app (goodIn_of _ (by decide +kernel)) ggL_law_X3_people
set_option maxRecDepth 20000 in
theorem ggL_law_X2_loudest : GoodIn wsL_law wsX2_loudest := goodIn_r _ [284, 15, 194, 195, 196, 14, 197, 83, 175, 176, 2, 177, 72, 73, 74, 285, 286, 287, 288, 82, 242, 199, 200, 201, 27, 40, 37, 106, 107, 108, 109, 89, 90, 91, 202, 203, 204, 205, 88, 38, 35, 601, 602, 620, 621, 622, 623, 624, 625, 626, 627, 628, 629, 630, 631, 632, 633, 634, 635, 636, 637, 638] (by decide +kernel) (by decide +kernel)
set_option maxRecDepth 20000 in
theorem gL_law_X2_loudest : GoodIn wsL_law (wsV RL 49 RX2 yX2_loudest wsX2_loudest) := goodIn_app (goodIn_of _ (by decide +kernel)) ggL_law_X2_loudest
set_option maxRecDepth 20000 in
theorem ggL_law_X3_loudest : GoodIn wsL_law wsX3_loudest := goodIn_r _ [292, 123, 210, 211, 212, 5, 213, 142, 127, 128, 129, 214, 215, 216, 217, 54, 52, 55, 53, 56, 218, 60, 219, 158, 59, 220, 221, 222, 223, 58, 224, 225, 226, 227, 228, 229, 603, 604, 605, 606, 607, 608, 609, 610, 611, 612, 613, 614, 615, 616, 617, 618, 619] (by decide +kernel) (by decide +kernel)
set_option maxRecDepth 20000 in
theorem gL_law_X3_loudest : GoodIn wsL_law (wsV RL 52 RX3 yX3_loudest wsX3_loudest) := goodIn_app (goodIn_of _ (by decide +kernel)) ggL_law_X3_loudest
set_option maxRecDepth 20000 in
theorem ggL_law_X2_ranked : GoodIn wsL_law wsX2_ranked := goodIn_r _ [296, 15, 194, 195, 196, 14, 197, 83, 297, 298, 299, 300, 39, 276, 235, 236, 237, 36, 106, 107, 108, 109, 238, 239, 240, 241, 82, 242, 199, 200, 201, 27, 40, 37, 89, 90, 91, 202, 203, 204, 205, 88, 38, 35, 243, 244, 245, 246, 247, 248, 249, 250, 251, 301, 302, 303, 304, 601, 602, 620, 621, 622, 623, 624, 625, 626, 627, 628, 629, 630, 631, 632, 633, 634, 635, 636, 637, 638] (by decide +kernel) (by decide +kernel)
set_option maxRecDepth 20000 in
theorem gL_law_X2_ranked : GoodIn wsL_law (wsV RL 53 RX2 yX2_ranked wsX2_ranked) := goodIn_app (goodIn_of _ (by decide +kernel)) ggL_law_X2_ranked
set_option maxRecDepth 20000 in
theorem ggL_law_X3_ranked : GoodIn wsL_law wsX3_ranked := goodIn_r _ [308, 142, 64, 257, 258, 259, 5, 260, 61, 261, 262, 263, 264, 123, 214, 215, 216, 217, 54, 52, 55, 53, 56, 218, 60, 219, 158, 59, 220, 221, 222, 223, 58, 224, 225, 226, 227, 228, 229, 265, 266, 267, 603, 604, 605, 606, 607, 608, 609, 610, 611, 612, 613, 614, 615, 616, 617, 618, 619] (by decide +kernel) (by decide +kernel)
set_option maxRecDepth 20000 in
theorem gL_law_X3_ranked : GoodIn wsL_law (wsV RL 56 RX3 yX3_ranked wsX3_ranked) := goodIn_app (goodIn_of _ (by decide +kernel)) ggL_law_X3_ranked
set_option maxRecDepth 20000 in
theorem ggL_law_X2_needed : GoodIn wsL_law wsX2_needed := goodIn_r _ [312, 15, 313, 314, 315, 14, 316, 88, 317, 318, 319, 320, 35, 321, 322, 323, 324, 83, 276, 235, 236, 237, 36, 106, 107, 108, 109, 238, 239, 240, 241, 82, 242, 199, 200, 201, 27, 40, 37, 89, 90, 91, 202, 203, 204, 205, 38, 243, 244, 245, 246, 247, 248, 249, 250, 251, 601, 602, 620, 621, 622, 623, 624, 625, 626, 627, 628, 629, 630, 631, 632, 633, 634, 635, 636, 637, 638] (by decide +kernel) (by decide +kernel)
set_option maxRecDepth 20000 in
theorem gL_law_X2_needed : GoodIn wsL_law (wsV RL 57 RX2 yX2_needed wsX2_needed) := goodIn_app (goodIn_of _ (by decide +kernel)) ggL_law_X2_needed
set_option maxRecDepth 20000 in
theorem ggL_law_X3_needed : GoodIn wsL_law wsX3_needed := goodIn_r _ [328, 59, 329, 330, 331, 5, 332, 158, 333, 334, 335, 336, 142, 257, 258, 259, 260, 61, 261, 262, 263, 264, 123, 214, 215, 216, 217, 54, 52, 55, 53, 56, 218, 60, 219, 220, 221, 222, 223, 58, 224, 225, 226, 227, 228, 229, 265, 266, 267, 603, 604, 605, 606, 607, 608, 609, 610, 611, 612, 613, 614, 615, 616, 617, 618, 619] (by decide +kernel) (by decide +kernel)
set_option maxRecDepth 20000 in
theorem gL_law_X3_needed : GoodIn wsL_law (wsV RL 60 RX3 yX3_needed wsX3_needed) := goodIn_app (goodIn_of _ (by decide +kernel)) ggL_law_X3_needed
set_option maxRecDepth 20000 in
theorem ggL_law_X2_recut : GoodIn wsL_law wsX2_recut := goodIn_r _ [340, 15, 313, 314, 315, 14, 316, 88, 147, 148, 2, 149, 72, 73, 74, 341, 342, 343, 344, 35, 601, 602, 620, 621, 622, 623, 624, 625, 626, 627, 628, 629, 630, 631, 632, 633, 634, 635, 636, 637, 638] (by decide +kernel) (by decide +kernel)
set_option maxRecDepth 20000 in
theorem gL_law_X2_recut : GoodIn wsL_law (wsV RL 61 RX2 yX2_recut wsX2_recut) := goodIn_app (goodIn_of _ (by decide +kernel)) ggL_law_X2_recut
set_option maxRecDepth 20000 in
theorem ggL_law_X3_recut : GoodIn wsL_law wsX3_recut := goodIn_r _ [348, 59, 329, 330, 331, 5, 332, 158, 127, 128, 129, 603, 604, 605, 606, 607, 608, 609, 610, 611, 612, 613, 614, 615, 616, 617, 618, 619] (by decide +kernel) (by decide +kernel)
set_option maxRecDepth 20000 in
theorem gL_law_X3_recut : GoodIn wsL_law (wsV RL 64 RX3 yX3_recut wsX3_recut) := goodIn_app (goodIn_of _ (by decide +kernel)) ggL_law_X3_recut
set_option maxRecDepth 20000 in
theorem ggL_law_X2_lamp : GoodIn wsL_law wsX2_lamp := goodIn_r _ [352, 353, 19, 72, 73, 2, 74, 354, 355, 356, 18, 357, 45, 601, 602, 639, 640, 641, 642] (by decide +kernel) (by decide +kernel)
set_option maxRecDepth 20000 in
theorem gL_law_X2_lamp : GoodIn wsL_law (wsV RL 65 RX2 yX2_lamp wsX2_lamp) := goodIn_app (goodIn_of _ (by decide +kernel)) ggL_law_X2_lamp
set_option maxRecDepth 20000 in
theorem ggL_law_X3_lamp : GoodIn wsL_law wsX3_lamp := goodIn_r _ [361, 362, 62, 127, 128, 5, 129, 603, 604, 605, 606, 607, 608, 609, 610, 611, 612, 613, 614, 615, 616, 617, 618, 619] (by decide +kernel) (by decide +kernel)
set_option maxRecDepth 20000 in
theorem gL_law_X3_lamp : GoodIn wsL_law (wsV RL 68 RX3 yX3_lamp wsX3_lamp) := goodIn_app (goodIn_of _ (by decide +kernel)) ggL_law_X3_lamp
set_option maxRecDepth 20000 in
theorem ggL_law_X2_shines : GoodIn wsL_law wsX2_shines := goodIn_r _ [366, 19, 367, 368, 369, 18, 370, 45, 601, 602, 639, 640, 641, 642] (by decide +kernel) (by decide +kernel)
set_option maxRecDepth 20000 in
theorem gL_law_X2_shines : GoodIn wsL_law (wsV RL 69 RX2 yX2_shines wsX2_shines) := goodIn_app (goodIn_of _ (by decide +kernel)) ggL_law_X2_shines
set_option maxRecDepth 20000 in
theorem ggL_law_X3_shines : GoodIn wsL_law wsX3_shines := goodIn_r _ [374, 375, 376, 377, 5, 378, 62, 603, 604, 605, 606, 607, 608, 609, 610, 611, 612, 613, 614, 615, 616, 617, 618, 619] (by decide +kernel) (by decide +kernel)
set_option maxRecDepth 20000 in
theorem gL_law_X3_shines : GoodIn wsL_law (wsV RL 72 RX3 yX3_shines wsX3_shines) := goodIn_app (goodIn_of _ (by decide +kernel)) ggL_law_X3_shines
set_option maxRecDepth 20000 in
theorem ggL_law_X2_road : GoodIn wsL_law wsX2_road := goodIn_r _ [382, 19, 72, 73, 2, 74, 383, 384, 385, 18, 386, 387, 601, 602, 639, 640, 641, 642] (by decide +kernel) (by decide +kernel)
set_option maxRecDepth 20000 in
theorem gL_law_X2_road : GoodIn wsL_law (wsV RL 73 RX2 yX2_road wsX2_road) := goodIn_app (goodIn_of _ (by decide +kernel)) ggL_law_X2_road
set_option maxRecDepth 20000 in
theorem ggL_law_X3_road : GoodIn wsL_law wsX3_road := goodIn_r _ [391, 392, 127, 128, 5, 129, 603, 604, 605, 606, 607, 608, 609, 610, 611, 612, 613, 614, 615, 616, 617, 618, 619] (by decide +kernel) (by decide +kernel)
set_option maxRecDepth 20000 in
theorem gL_law_X3_road : GoodIn wsL_law (wsV RL 76 RX3 yX3_road wsX3_road) := goodIn_app (goodIn_of _ (by decide +kernel)) ggL_law_X3_road
set_option maxRecDepth 20000 in
theorem ggL_law_X2_dim : GoodIn wsL_law wsX2_dim := goodIn_r _ [396, 19, 397, 398, 2, 399, 72, 73, 74, 400, 401, 402, 18, 403, 46, 601, 602, 639, 640, 641, 642] (by decide +kernel) (by decide +kernel)
set_option maxRecDepth 20000 in
theorem gL_law_X2_dim : GoodIn wsL_law (wsV RL 77 RX2 yX2_dim wsX2_dim) := goodIn_app (goodIn_of _ (by decide +kernel)) ggL_law_X2_dim
set_option maxRecDepth 20000 in
theorem ggL_law_X3_dim : GoodIn wsL_law wsX3_dim := goodIn_r _ [407, 63, 127, 128, 5, 129, 603, 604, 605, 606, 607, 608, 609, 610, 611, 612, 613, 614, 615, 616, 617, 618, 619] (by decide +kernel) (by decide +kernel)
set_option maxRecDepth 20000 in
theorem gL_law_X3_dim : GoodIn wsL_law (wsV RL 80 RX3 yX3_dim wsX3_dim) := goodIn_app (goodIn_of _ (by decide +kernel)) ggL_law_X3_dim
set_option maxRecDepth 20000 in
theorem ggL_law_X2_at : GoodIn wsL_law wsX2_at := goodIn_r _ [411, 19, 412, 413, 414, 18, 415, 387, 72, 73, 2, 74, 416, 417, 418, 397, 398, 399, 419, 420, 421, 422, 46, 423, 424, 425, 426, 427, 111, 108, 112, 428, 247, 248, 429, 430, 431, 432, 368, 369, 370, 45, 433, 434, 435, 601, 602, 639, 640, 641, 642] (by decide +kernel) (by decide +kernel)
set_option maxRecDepth 20000 in
theorem gL_law_X2_at : GoodIn wsL_law (wsV RL 81 RX2 yX2_at wsX2_at) := goodIn_app (goodIn_of _ (by decide +kernel)) ggL_law_X2_at
set_option maxRecDepth 20000 in
theorem ggL_law_X3_at : GoodIn wsL_law wsX3_at := goodIn_r _ [439, 392, 63, 440, 127, 128, 5, 129, 441, 442, 443, 444, 445, 446, 447, 375, 376, 377, 378, 62, 603, 604, 605, 606, 607, 608, 609, 610, 611, 612, 613, 614, 615, 616, 617, 618, 619] (by decide +kernel) (by decide +kernel)
set_option maxRecDepth 20000 in
theorem gL_law_X3_at : GoodIn wsL_law (wsV RL 84 RX3 yX3_at wsX3_at) := goodIn_app (goodIn_of _ (by decide +kernel)) ggL_law_X3_at
set_option maxRecDepth 20000 in
theorem ggL_law_X2_row : GoodIn wsL_law wsX2_row := goodIn_r _ [451, 19, 416, 417, 2, 418, 72, 73, 74, 452, 453, 454, 18, 455, 456, 457, 458, 459, 47, 460, 461, 462, 463, 387, 423, 424, 425, 426, 427, 111, 108, 112, 428, 247, 248, 429, 430, 431, 432, 368, 369, 370, 45, 464, 465, 466, 467, 468, 469, 470, 471, 472, 473, 474, 475, 433, 434, 435, 476, 477, 478, 479, 480, 481, 482, 483, 484, 485, 486, 487, 488, 601, 602, 639, 640, 641, 642] (by decide +kernel) (by decide +kernel)
set_option maxRecDepth 20000 in
theorem gL_law_X2_row : GoodIn wsL_law (wsV RL 85 RX2 yX2_row wsX2_row) := goodIn_app (goodIn_of _ (by decide +kernel)) ggL_law_X2_row
set_option maxRecDepth 20000 in
theorem ggL_law_X3_row : GoodIn wsL_law wsX3_row := goodIn_r _ [492, 441, 442, 5, 443, 127, 128, 129, 493, 494, 495, 496, 392, 444, 445, 446, 447, 375, 376, 377, 378, 62, 497, 498, 499, 500, 440, 501, 502, 503, 504, 505, 506, 507, 508, 509, 603, 604, 605, 606, 607, 608, 609, 610, 611, 612, 613, 614, 615, 616, 617, 618, 619] (by decide +kernel) (by decide +kernel)
set_option maxRecDepth 20000 in
theorem gL_law_X3_row : GoodIn wsL_law (wsV RL 88 RX3 yX3_row wsX3_row) := goodIn_app (goodIn_of _ (by decide +kernel)) ggL_law_X3_row
set_option maxRecDepth 20000 in
theorem ggL_law_X2_spacing : GoodIn wsL_law wsX2_spacing := goodIn_r _ [513, 19, 514, 515, 516, 18, 517, 456, 457, 458, 459, 47, 460, 461, 462, 463, 387, 423, 424, 425, 426, 427, 111, 108, 112, 428, 247, 248, 429, 430, 431, 432, 368, 369, 370, 45, 472, 473, 474, 475, 433, 434, 435, 480, 481, 482, 483, 484, 464, 465, 466, 467, 601, 602, 639, 640, 641, 642] (by decide +kernel) (by decide +kernel)
set_option maxRecDepth 20000 in
theorem gL_law_X2_spacing : GoodIn wsL_law (wsV RL 89 RX2 yX2_spacing wsX2_spacing) := goodIn_app (goodIn_of _ (by decide +kernel)) ggL_law_X2_spacing
set_option maxRecDepth 20000 in
theorem ggL_law_X3_spacing : GoodIn wsL_law wsX3_spacing := goodIn_r _ [521, 497, 498, 499, 5, 500, 392, 440, 444, 445, 446, 447, 375, 376, 377, 378, 62, 501, 502, 503, 504, 505, 493, 494, 495, 496, 603, 604, 605, 606, 607, 608, 609, 610, 611, 612, 613, 614, 615, 616, 617, 618, 619] (by decide +kernel) (by decide +kernel)
set_option maxRecDepth 20000 in
theorem gL_law_X3_spacing : GoodIn wsL_law (wsV RL 92 RX3 yX3_spacing wsX3_spacing) := goodIn_app (goodIn_of _ (by decide +kernel)) ggL_law_X3_spacing
set_option maxRecDepth 20000 in
theorem ggL_law_X2_dark : GoodIn wsL_law wsX2_dark := goodIn_r _ [525, 19, 416, 417, 2, 418, 72, 73, 74, 526, 527, 528, 18, 529, 46, 456, 457, 458, 459, 47, 460, 461, 462, 463, 387, 423, 424, 425, 426, 427, 111, 108, 112, 428, 247, 248, 429, 430, 431, 432, 368, 369, 370, 45, 472, 473, 474, 475, 433, 434, 435, 601, 602, 639, 640, 641, 642] (by decide +kernel) (by decide +kernel)
set_option maxRecDepth 20000 in
theorem gL_law_X2_dark : GoodIn wsL_law (wsV RL 93 RX2 yX2_dark wsX2_dark) := goodIn_app (goodIn_of _ (by decide +kernel)) ggL_law_X2_dark
set_option maxRecDepth 20000 in
theorem ggL_law_X3_dark : GoodIn wsL_law wsX3_dark := goodIn_r _ [533, 63, 441, 442, 5, 443, 127, 128, 129, 497, 498, 499, 500, 392, 440, 444, 445, 446, 447, 375, 376, 377, 378, 62, 603, 604, 605, 606, 607, 608, 609, 610, 611, 612, 613, 614, 615, 616, 617, 618, 619] (by decide +kernel) (by decide +kernel)
set_option maxRecDepth 20000 in
theorem gL_law_X3_dark : GoodIn wsL_law (wsV RL 96 RX3 yX3_dark wsX3_dark) := goodIn_app (goodIn_of _ (by decide +kernel)) ggL_law_X3_dark
set_option maxRecDepth 20000 in
theorem ggL_law_X2_drop : GoodIn wsL_law wsX2_drop := goodIn_r _ [537, 19, 416, 417, 2, 418, 72, 73, 74, 538, 539, 540, 541, 542, 543, 18, 544, 545, 546, 547, 486, 487, 488, 387, 601, 602, 639, 640, 641, 642] (by decide +kernel) (by decide +kernel)
set_option maxRecDepth 20000 in
theorem gL_law_X2_drop : GoodIn wsL_law (wsV RL 97 RX2 yX2_drop wsX2_drop) := goodIn_app (goodIn_of _ (by decide +kernel)) ggL_law_X2_drop
set_option maxRecDepth 20000 in
theorem ggL_law_X3_drop : GoodIn wsL_law wsX3_drop := goodIn_r _ [551, 441, 442, 5, 443, 127, 128, 129, 552, 553, 554, 555, 556, 557, 558, 559, 506, 507, 508, 509, 392, 603, 604, 605, 606, 607, 608, 609, 610, 611, 612, 613, 614, 615, 616, 617, 618, 619] (by decide +kernel) (by decide +kernel)
set_option maxRecDepth 20000 in
theorem gL_law_X3_drop : GoodIn wsL_law (wsV RL 100 RX3 yX3_drop wsX3_drop) := goodIn_app (goodIn_of _ (by decide +kernel)) ggL_law_X3_drop
set_option maxRecDepth 20000 in
theorem ggL_law_X2_wired : GoodIn wsL_law wsX2_wired := goodIn_r _ [563, 19, 538, 539, 2, 540, 72, 73, 74, 564, 565, 566, 18, 567, 568, 542, 543, 544, 545, 546, 547, 486, 487, 488, 387, 601, 602, 639, 640, 641, 642] (by decide +kernel) (by decide +kernel)
set_option maxRecDepth 20000 in
theorem gL_law_X2_wired : GoodIn wsL_law (wsV RL 101 RX2 yX2_wired wsX2_wired) := goodIn_app (goodIn_of _ (by decide +kernel)) ggL_law_X2_wired
set_option maxRecDepth 20000 in
theorem ggL_law_X3_wired : GoodIn wsL_law wsX3_wired := goodIn_r _ [572, 552, 553, 5, 554, 127, 128, 129, 555, 556, 557, 558, 559, 506, 507, 508, 509, 392, 603, 604, 605, 606, 607, 608, 609, 610, 611, 612, 613, 614, 615, 616, 617, 618, 619] (by decide +kernel) (by decide +kernel)
set_option maxRecDepth 20000 in
theorem gL_law_X3_wired : GoodIn wsL_law (wsV RL 104 RX3 yX3_wired wsX3_wired) := goodIn_app (goodIn_of _ (by decide +kernel)) ggL_law_X3_wired
set_option maxRecDepth 20000 in
theorem ggL_law_X2_count : GoodIn wsL_law wsX2_count := goodIn_r _ [576, 15, 19, 577, 578, 579, 14, 580, 82, 581, 582, 583, 584, 83, 585, 586, 587, 588, 88, 589, 590, 591, 592, 30, 593, 594, 595, 18, 596, 45, 412, 413, 414, 415, 387, 601, 602, 620, 621, 622, 623, 624, 625, 626, 627, 628, 629, 630, 631, 632, 633, 634, 635, 636, 637, 638, 639, 640, 641, 642] (by decide +kernel) (by decide +kernel)
set_option maxRecDepth 20000 in
theorem gL_law_X2_count : GoodIn wsL_law (wsV RL 105 RX2 yX2_count wsX2_count) := goodIn_app (goodIn_of _ (by decide +kernel)) ggL_law_X2_count
set_option maxRecDepth 20000 in
theorem ggL_law_X3_count : GoodIn wsL_law wsX3_count := goodIn_r _ [600, 123, 142, 158, 57, 62, 392, 603, 604, 605, 606, 607, 608, 609, 610, 611, 612, 613, 614, 615, 616, 617, 618, 619] (by decide +kernel) (by decide +kernel)
set_option maxRecDepth 20000 in
theorem gL_law_X3_count : GoodIn wsL_law (wsV RL 108 RX3 yX3_count wsX3_count) := goodIn_app (goodIn_of _ (by decide +kernel)) ggL_law_X3_count
theorem dL_law_0 : decode cL_law 0 = .ok (.new 7, 3) := by decide +kernel
theorem dL_law_3 : decode cL_law 3 = .ok (.dup, 1) := by decide +kernel
theorem dL_law_4 : decode cL_law 4 = .ok (.invokespecial 9, 3) := by decide +kernel
theorem dL_law_7 : decode cL_law 7 = .ok (.astore_n 1, 1) := by decide +kernel
theorem dL_law_8 : decode cL_law 8 = .ok (.new 10, 3) := by decide +kernel
theorem dL_law_11 : decode cL_law 11 = .ok (.dup, 1) := by decide +kernel
theorem dL_law_12 : decode cL_law 12 = .ok (.invokespecial 12, 3) := by decide +kernel
theorem dL_law_15 : decode cL_law 15 = .ok (.astore_n 2, 1) := by decide +kernel
theorem dL_law_16 : decode cL_law 16 = .ok (.iconst 0, 1) := by decide +kernel
theorem dL_law_17 : decode cL_law 17 = .ok (.istore_n 3, 1) := by decide +kernel
theorem dL_law_18 : decode cL_law 18 = .ok (.iload_n 3, 1) := by decide +kernel
theorem dL_law_19 : decode cL_law 19 = .ok (.aload_n 0, 1) := by decide +kernel
theorem dL_law_20 : decode cL_law 20 = .ok (.arraylength, 1) := by decide +kernel
theorem dL_law_21 : decode cL_law 21 = .ok (.bipush 6, 2) := by decide +kernel
theorem dL_law_23 : decode cL_law 23 = .ok (.isub, 1) := by decide +kernel
theorem dL_law_24 : decode cL_law 24 = .ok (.if_icmp .gt 931, 3) := by decide +kernel
theorem dL_law_27 : decode cL_law 27 = .ok (.aload_n 0, 1) := by decide +kernel
theorem dL_law_28 : decode cL_law 28 = .ok (.iload_n 3, 1) := by decide +kernel
theorem dL_law_29 : decode cL_law 29 = .ok (.iaload, 1) := by decide +kernel
theorem dL_law_30 : decode cL_law 30 = .ok (.bipush 31, 2) := by decide +kernel
theorem dL_law_32 : decode cL_law 32 = .ok (.iand, 1) := by decide +kernel
theorem dL_law_33 : decode cL_law 33 = .ok (.tableswitch 916 0 22 #[107, 170, 213, 276, 299, 332, 375, 408, 431, 464, 487, 520, 553, 586, 609, 632, 665, 708, 741, 774, 807, 850, 893], 107) := by decide +kernel
theorem dL_law_140 : decode cL_law 140 = .ok (.aload_n 1, 1) := by decide +kernel
theorem dL_law_141 : decode cL_law 141 = .ok (.aload_n 0, 1) := by decide +kernel
theorem dL_law_142 : decode cL_law 142 = .ok (.iload_n 3, 1) := by decide +kernel
theorem dL_law_143 : decode cL_law 143 = .ok (.iconst 1, 1) := by decide +kernel
theorem dL_law_144 : decode cL_law 144 = .ok (.iadd, 1) := by decide +kernel
theorem dL_law_145 : decode cL_law 145 = .ok (.iaload, 1) := by decide +kernel
theorem dL_law_146 : decode cL_law 146 = .ok (.aload_n 0, 1) := by decide +kernel
theorem dL_law_147 : decode cL_law 147 = .ok (.iload_n 3, 1) := by decide +kernel
theorem dL_law_148 : decode cL_law 148 = .ok (.iconst 2, 1) := by decide +kernel
theorem dL_law_149 : decode cL_law 149 = .ok (.iadd, 1) := by decide +kernel
theorem dL_law_150 : decode cL_law 150 = .ok (.iaload, 1) := by decide +kernel
theorem dL_law_151 : decode cL_law 151 = .ok (.aload_n 0, 1) := by decide +kernel
theorem dL_law_152 : decode cL_law 152 = .ok (.iload_n 3, 1) := by decide +kernel
theorem dL_law_153 : decode cL_law 153 = .ok (.iconst 3, 1) := by decide +kernel
theorem dL_law_154 : decode cL_law 154 = .ok (.iadd, 1) := by decide +kernel
theorem dL_law_155 : decode cL_law 155 = .ok (.iaload, 1) := by decide +kernel
theorem dL_law_156 : decode cL_law 156 = .ok (.aload_n 0, 1) := by decide +kernel
theorem dL_law_157 : decode cL_law 157 = .ok (.iload_n 3, 1) := by decide +kernel
theorem dL_law_158 : decode cL_law 158 = .ok (.iconst 4, 1) := by decide +kernel
theorem dL_law_159 : decode cL_law 159 = .ok (.iadd, 1) := by decide +kernel
theorem dL_law_160 : decode cL_law 160 = .ok (.iaload, 1) := by decide +kernel
theorem dL_law_161 : decode cL_law 161 = .ok (.aload_n 0, 1) := by decide +kernel
theorem dL_law_162 : decode cL_law 162 = .ok (.iload_n 3, 1) := by decide +kernel
theorem dL_law_163 : decode cL_law 163 = .ok (.iconst 5, 1) := by decide +kernel
theorem dL_law_164 : decode cL_law 164 = .ok (.iadd, 1) := by decide +kernel
theorem dL_law_165 : decode cL_law 165 = .ok (.iaload, 1) := by decide +kernel
theorem dL_law_166 : decode cL_law 166 = .ok (.invokevirtual 13, 3) := by decide +kernel
theorem dL_law_169 : decode cL_law 169 = .ok (.aload_n 2, 1) := by decide +kernel
theorem dL_law_170 : decode cL_law 170 = .ok (.aload_n 0, 1) := by decide +kernel
theorem dL_law_171 : decode cL_law 171 = .ok (.iload_n 3, 1) := by decide +kernel
theorem dL_law_172 : decode cL_law 172 = .ok (.iconst 1, 1) := by decide +kernel
theorem dL_law_173 : decode cL_law 173 = .ok (.iadd, 1) := by decide +kernel
theorem dL_law_174 : decode cL_law 174 = .ok (.iaload, 1) := by decide +kernel
theorem dL_law_175 : decode cL_law 175 = .ok (.aload_n 0, 1) := by decide +kernel
theorem dL_law_176 : decode cL_law 176 = .ok (.iload_n 3, 1) := by decide +kernel
theorem dL_law_177 : decode cL_law 177 = .ok (.iconst 2, 1) := by decide +kernel
theorem dL_law_178 : decode cL_law 178 = .ok (.iadd, 1) := by decide +kernel
theorem dL_law_179 : decode cL_law 179 = .ok (.iaload, 1) := by decide +kernel
theorem dL_law_180 : decode cL_law 180 = .ok (.aload_n 0, 1) := by decide +kernel
theorem dL_law_181 : decode cL_law 181 = .ok (.iload_n 3, 1) := by decide +kernel
theorem dL_law_182 : decode cL_law 182 = .ok (.iconst 3, 1) := by decide +kernel
theorem dL_law_183 : decode cL_law 183 = .ok (.iadd, 1) := by decide +kernel
theorem dL_law_184 : decode cL_law 184 = .ok (.iaload, 1) := by decide +kernel
theorem dL_law_185 : decode cL_law 185 = .ok (.aload_n 0, 1) := by decide +kernel
theorem dL_law_186 : decode cL_law 186 = .ok (.iload_n 3, 1) := by decide +kernel
theorem dL_law_187 : decode cL_law 187 = .ok (.iconst 4, 1) := by decide +kernel
theorem dL_law_188 : decode cL_law 188 = .ok (.iadd, 1) := by decide +kernel
theorem dL_law_189 : decode cL_law 189 = .ok (.iaload, 1) := by decide +kernel
theorem dL_law_190 : decode cL_law 190 = .ok (.aload_n 0, 1) := by decide +kernel
theorem dL_law_191 : decode cL_law 191 = .ok (.iload_n 3, 1) := by decide +kernel
theorem dL_law_192 : decode cL_law 192 = .ok (.iconst 5, 1) := by decide +kernel
theorem dL_law_193 : decode cL_law 193 = .ok (.iadd, 1) := by decide +kernel
theorem dL_law_194 : decode cL_law 194 = .ok (.iaload, 1) := by decide +kernel
theorem dL_law_195 : decode cL_law 195 = .ok (.invokevirtual 17, 3) := by decide +kernel
theorem dL_law_198 : decode cL_law 198 = .ok (.if_icmp .eq 751, 3) := by decide +kernel
theorem dL_law_201 : decode cL_law 201 = .ok (.iconst 0, 1) := by decide +kernel
theorem dL_law_202 : decode cL_law 202 = .ok (.ireturn, 1) := by decide +kernel
theorem dL_law_203 : decode cL_law 203 = .ok (.aload_n 1, 1) := by decide +kernel
theorem dL_law_204 : decode cL_law 204 = .ok (.aload_n 0, 1) := by decide +kernel
theorem dL_law_205 : decode cL_law 205 = .ok (.iload_n 3, 1) := by decide +kernel
theorem dL_law_206 : decode cL_law 206 = .ok (.iconst 1, 1) := by decide +kernel
theorem dL_law_207 : decode cL_law 207 = .ok (.iadd, 1) := by decide +kernel
theorem dL_law_208 : decode cL_law 208 = .ok (.iaload, 1) := by decide +kernel
theorem dL_law_209 : decode cL_law 209 = .ok (.aload_n 0, 1) := by decide +kernel
theorem dL_law_210 : decode cL_law 210 = .ok (.iload_n 3, 1) := by decide +kernel
theorem dL_law_211 : decode cL_law 211 = .ok (.iconst 2, 1) := by decide +kernel
theorem dL_law_212 : decode cL_law 212 = .ok (.iadd, 1) := by decide +kernel
theorem dL_law_213 : decode cL_law 213 = .ok (.iaload, 1) := by decide +kernel
theorem dL_law_214 : decode cL_law 214 = .ok (.aload_n 0, 1) := by decide +kernel
theorem dL_law_215 : decode cL_law 215 = .ok (.iload_n 3, 1) := by decide +kernel
theorem dL_law_216 : decode cL_law 216 = .ok (.iconst 3, 1) := by decide +kernel
theorem dL_law_217 : decode cL_law 217 = .ok (.iadd, 1) := by decide +kernel
theorem dL_law_218 : decode cL_law 218 = .ok (.iaload, 1) := by decide +kernel
theorem dL_law_219 : decode cL_law 219 = .ok (.invokevirtual 18, 3) := by decide +kernel
theorem dL_law_222 : decode cL_law 222 = .ok (.aload_n 2, 1) := by decide +kernel
theorem dL_law_223 : decode cL_law 223 = .ok (.aload_n 0, 1) := by decide +kernel
theorem dL_law_224 : decode cL_law 224 = .ok (.iload_n 3, 1) := by decide +kernel
theorem dL_law_225 : decode cL_law 225 = .ok (.iconst 1, 1) := by decide +kernel
theorem dL_law_226 : decode cL_law 226 = .ok (.iadd, 1) := by decide +kernel
theorem dL_law_227 : decode cL_law 227 = .ok (.iaload, 1) := by decide +kernel
theorem dL_law_228 : decode cL_law 228 = .ok (.aload_n 0, 1) := by decide +kernel
theorem dL_law_229 : decode cL_law 229 = .ok (.iload_n 3, 1) := by decide +kernel
theorem dL_law_230 : decode cL_law 230 = .ok (.iconst 2, 1) := by decide +kernel
theorem dL_law_231 : decode cL_law 231 = .ok (.iadd, 1) := by decide +kernel
theorem dL_law_232 : decode cL_law 232 = .ok (.iaload, 1) := by decide +kernel
theorem dL_law_233 : decode cL_law 233 = .ok (.aload_n 0, 1) := by decide +kernel
theorem dL_law_234 : decode cL_law 234 = .ok (.iload_n 3, 1) := by decide +kernel
theorem dL_law_235 : decode cL_law 235 = .ok (.iconst 3, 1) := by decide +kernel
theorem dL_law_236 : decode cL_law 236 = .ok (.iadd, 1) := by decide +kernel
theorem dL_law_237 : decode cL_law 237 = .ok (.iaload, 1) := by decide +kernel
theorem dL_law_238 : decode cL_law 238 = .ok (.invokevirtual 22, 3) := by decide +kernel
theorem dL_law_241 : decode cL_law 241 = .ok (.if_icmp .eq 708, 3) := by decide +kernel
theorem dL_law_244 : decode cL_law 244 = .ok (.iconst 0, 1) := by decide +kernel
theorem dL_law_245 : decode cL_law 245 = .ok (.ireturn, 1) := by decide +kernel
theorem dL_law_246 : decode cL_law 246 = .ok (.aload_n 1, 1) := by decide +kernel
theorem dL_law_247 : decode cL_law 247 = .ok (.aload_n 0, 1) := by decide +kernel
theorem dL_law_248 : decode cL_law 248 = .ok (.iload_n 3, 1) := by decide +kernel
theorem dL_law_249 : decode cL_law 249 = .ok (.iconst 1, 1) := by decide +kernel
theorem dL_law_250 : decode cL_law 250 = .ok (.iadd, 1) := by decide +kernel
theorem dL_law_251 : decode cL_law 251 = .ok (.iaload, 1) := by decide +kernel
theorem dL_law_252 : decode cL_law 252 = .ok (.aload_n 0, 1) := by decide +kernel
theorem dL_law_253 : decode cL_law 253 = .ok (.iload_n 3, 1) := by decide +kernel
theorem dL_law_254 : decode cL_law 254 = .ok (.iconst 2, 1) := by decide +kernel
theorem dL_law_255 : decode cL_law 255 = .ok (.iadd, 1) := by decide +kernel
theorem dL_law_256 : decode cL_law 256 = .ok (.iaload, 1) := by decide +kernel
theorem dL_law_257 : decode cL_law 257 = .ok (.aload_n 0, 1) := by decide +kernel
theorem dL_law_258 : decode cL_law 258 = .ok (.iload_n 3, 1) := by decide +kernel
theorem dL_law_259 : decode cL_law 259 = .ok (.iconst 3, 1) := by decide +kernel
theorem dL_law_260 : decode cL_law 260 = .ok (.iadd, 1) := by decide +kernel
theorem dL_law_261 : decode cL_law 261 = .ok (.iaload, 1) := by decide +kernel
theorem dL_law_262 : decode cL_law 262 = .ok (.aload_n 0, 1) := by decide +kernel
theorem dL_law_263 : decode cL_law 263 = .ok (.iload_n 3, 1) := by decide +kernel
theorem dL_law_264 : decode cL_law 264 = .ok (.iconst 4, 1) := by decide +kernel
theorem dL_law_265 : decode cL_law 265 = .ok (.iadd, 1) := by decide +kernel
theorem dL_law_266 : decode cL_law 266 = .ok (.iaload, 1) := by decide +kernel
theorem dL_law_267 : decode cL_law 267 = .ok (.aload_n 0, 1) := by decide +kernel
theorem dL_law_268 : decode cL_law 268 = .ok (.iload_n 3, 1) := by decide +kernel
theorem dL_law_269 : decode cL_law 269 = .ok (.iconst 5, 1) := by decide +kernel
theorem dL_law_270 : decode cL_law 270 = .ok (.iadd, 1) := by decide +kernel
theorem dL_law_271 : decode cL_law 271 = .ok (.iaload, 1) := by decide +kernel
theorem dL_law_272 : decode cL_law 272 = .ok (.invokevirtual 23, 3) := by decide +kernel
theorem dL_law_275 : decode cL_law 275 = .ok (.aload_n 2, 1) := by decide +kernel
theorem dL_law_276 : decode cL_law 276 = .ok (.aload_n 0, 1) := by decide +kernel
theorem dL_law_277 : decode cL_law 277 = .ok (.iload_n 3, 1) := by decide +kernel
theorem dL_law_278 : decode cL_law 278 = .ok (.iconst 1, 1) := by decide +kernel
theorem dL_law_279 : decode cL_law 279 = .ok (.iadd, 1) := by decide +kernel
theorem dL_law_280 : decode cL_law 280 = .ok (.iaload, 1) := by decide +kernel
theorem dL_law_281 : decode cL_law 281 = .ok (.aload_n 0, 1) := by decide +kernel
theorem dL_law_282 : decode cL_law 282 = .ok (.iload_n 3, 1) := by decide +kernel
theorem dL_law_283 : decode cL_law 283 = .ok (.iconst 2, 1) := by decide +kernel
theorem dL_law_284 : decode cL_law 284 = .ok (.iadd, 1) := by decide +kernel
theorem dL_law_285 : decode cL_law 285 = .ok (.iaload, 1) := by decide +kernel
theorem dL_law_286 : decode cL_law 286 = .ok (.aload_n 0, 1) := by decide +kernel
theorem dL_law_287 : decode cL_law 287 = .ok (.iload_n 3, 1) := by decide +kernel
theorem dL_law_288 : decode cL_law 288 = .ok (.iconst 3, 1) := by decide +kernel
theorem dL_law_289 : decode cL_law 289 = .ok (.iadd, 1) := by decide +kernel
theorem dL_law_290 : decode cL_law 290 = .ok (.iaload, 1) := by decide +kernel
theorem dL_law_291 : decode cL_law 291 = .ok (.aload_n 0, 1) := by decide +kernel
theorem dL_law_292 : decode cL_law 292 = .ok (.iload_n 3, 1) := by decide +kernel
theorem dL_law_293 : decode cL_law 293 = .ok (.iconst 4, 1) := by decide +kernel
theorem dL_law_294 : decode cL_law 294 = .ok (.iadd, 1) := by decide +kernel
theorem dL_law_295 : decode cL_law 295 = .ok (.iaload, 1) := by decide +kernel
theorem dL_law_296 : decode cL_law 296 = .ok (.aload_n 0, 1) := by decide +kernel
theorem dL_law_297 : decode cL_law 297 = .ok (.iload_n 3, 1) := by decide +kernel
theorem dL_law_298 : decode cL_law 298 = .ok (.iconst 5, 1) := by decide +kernel
theorem dL_law_299 : decode cL_law 299 = .ok (.iadd, 1) := by decide +kernel
theorem dL_law_300 : decode cL_law 300 = .ok (.iaload, 1) := by decide +kernel
theorem dL_law_301 : decode cL_law 301 = .ok (.invokevirtual 26, 3) := by decide +kernel
theorem dL_law_304 : decode cL_law 304 = .ok (.if_icmp .eq 645, 3) := by decide +kernel
theorem dL_law_307 : decode cL_law 307 = .ok (.iconst 0, 1) := by decide +kernel
theorem dL_law_308 : decode cL_law 308 = .ok (.ireturn, 1) := by decide +kernel
theorem dL_law_309 : decode cL_law 309 = .ok (.aload_n 1, 1) := by decide +kernel
theorem dL_law_310 : decode cL_law 310 = .ok (.aload_n 0, 1) := by decide +kernel
theorem dL_law_311 : decode cL_law 311 = .ok (.iload_n 3, 1) := by decide +kernel
theorem dL_law_312 : decode cL_law 312 = .ok (.iconst 1, 1) := by decide +kernel
theorem dL_law_313 : decode cL_law 313 = .ok (.iadd, 1) := by decide +kernel
theorem dL_law_314 : decode cL_law 314 = .ok (.iaload, 1) := by decide +kernel
theorem dL_law_315 : decode cL_law 315 = .ok (.invokevirtual 27, 3) := by decide +kernel
theorem dL_law_318 : decode cL_law 318 = .ok (.aload_n 2, 1) := by decide +kernel
theorem dL_law_319 : decode cL_law 319 = .ok (.aload_n 0, 1) := by decide +kernel
theorem dL_law_320 : decode cL_law 320 = .ok (.iload_n 3, 1) := by decide +kernel
theorem dL_law_321 : decode cL_law 321 = .ok (.iconst 1, 1) := by decide +kernel
theorem dL_law_322 : decode cL_law 322 = .ok (.iadd, 1) := by decide +kernel
theorem dL_law_323 : decode cL_law 323 = .ok (.iaload, 1) := by decide +kernel
theorem dL_law_324 : decode cL_law 324 = .ok (.invokevirtual 31, 3) := by decide +kernel
theorem dL_law_327 : decode cL_law 327 = .ok (.if_icmp .eq 622, 3) := by decide +kernel
theorem dL_law_330 : decode cL_law 330 = .ok (.iconst 0, 1) := by decide +kernel
theorem dL_law_331 : decode cL_law 331 = .ok (.ireturn, 1) := by decide +kernel
theorem dL_law_332 : decode cL_law 332 = .ok (.aload_n 1, 1) := by decide +kernel
theorem dL_law_333 : decode cL_law 333 = .ok (.aload_n 0, 1) := by decide +kernel
theorem dL_law_334 : decode cL_law 334 = .ok (.iload_n 3, 1) := by decide +kernel
theorem dL_law_335 : decode cL_law 335 = .ok (.iconst 1, 1) := by decide +kernel
theorem dL_law_336 : decode cL_law 336 = .ok (.iadd, 1) := by decide +kernel
theorem dL_law_337 : decode cL_law 337 = .ok (.iaload, 1) := by decide +kernel
theorem dL_law_338 : decode cL_law 338 = .ok (.aload_n 0, 1) := by decide +kernel
theorem dL_law_339 : decode cL_law 339 = .ok (.iload_n 3, 1) := by decide +kernel
theorem dL_law_340 : decode cL_law 340 = .ok (.iconst 2, 1) := by decide +kernel
theorem dL_law_341 : decode cL_law 341 = .ok (.iadd, 1) := by decide +kernel
theorem dL_law_342 : decode cL_law 342 = .ok (.iaload, 1) := by decide +kernel
theorem dL_law_343 : decode cL_law 343 = .ok (.invokevirtual 32, 3) := by decide +kernel
theorem dL_law_346 : decode cL_law 346 = .ok (.aload_n 2, 1) := by decide +kernel
theorem dL_law_347 : decode cL_law 347 = .ok (.aload_n 0, 1) := by decide +kernel
theorem dL_law_348 : decode cL_law 348 = .ok (.iload_n 3, 1) := by decide +kernel
theorem dL_law_349 : decode cL_law 349 = .ok (.iconst 1, 1) := by decide +kernel
theorem dL_law_350 : decode cL_law 350 = .ok (.iadd, 1) := by decide +kernel
theorem dL_law_351 : decode cL_law 351 = .ok (.iaload, 1) := by decide +kernel
theorem dL_law_352 : decode cL_law 352 = .ok (.aload_n 0, 1) := by decide +kernel
theorem dL_law_353 : decode cL_law 353 = .ok (.iload_n 3, 1) := by decide +kernel
theorem dL_law_354 : decode cL_law 354 = .ok (.iconst 2, 1) := by decide +kernel
theorem dL_law_355 : decode cL_law 355 = .ok (.iadd, 1) := by decide +kernel
theorem dL_law_356 : decode cL_law 356 = .ok (.iaload, 1) := by decide +kernel
theorem dL_law_357 : decode cL_law 357 = .ok (.invokevirtual 36, 3) := by decide +kernel
theorem dL_law_360 : decode cL_law 360 = .ok (.if_icmp .eq 589, 3) := by decide +kernel
theorem dL_law_363 : decode cL_law 363 = .ok (.iconst 0, 1) := by decide +kernel
theorem dL_law_364 : decode cL_law 364 = .ok (.ireturn, 1) := by decide +kernel
theorem dL_law_365 : decode cL_law 365 = .ok (.aload_n 1, 1) := by decide +kernel
theorem dL_law_366 : decode cL_law 366 = .ok (.aload_n 0, 1) := by decide +kernel
theorem dL_law_367 : decode cL_law 367 = .ok (.iload_n 3, 1) := by decide +kernel
theorem dL_law_368 : decode cL_law 368 = .ok (.iconst 1, 1) := by decide +kernel
theorem dL_law_369 : decode cL_law 369 = .ok (.iadd, 1) := by decide +kernel
theorem dL_law_370 : decode cL_law 370 = .ok (.iaload, 1) := by decide +kernel
theorem dL_law_371 : decode cL_law 371 = .ok (.aload_n 0, 1) := by decide +kernel
theorem dL_law_372 : decode cL_law 372 = .ok (.iload_n 3, 1) := by decide +kernel
theorem dL_law_373 : decode cL_law 373 = .ok (.iconst 2, 1) := by decide +kernel
theorem dL_law_374 : decode cL_law 374 = .ok (.iadd, 1) := by decide +kernel
theorem dL_law_375 : decode cL_law 375 = .ok (.iaload, 1) := by decide +kernel
theorem dL_law_376 : decode cL_law 376 = .ok (.aload_n 0, 1) := by decide +kernel
theorem dL_law_377 : decode cL_law 377 = .ok (.iload_n 3, 1) := by decide +kernel
theorem dL_law_378 : decode cL_law 378 = .ok (.iconst 3, 1) := by decide +kernel
theorem dL_law_379 : decode cL_law 379 = .ok (.iadd, 1) := by decide +kernel
theorem dL_law_380 : decode cL_law 380 = .ok (.iaload, 1) := by decide +kernel
theorem dL_law_381 : decode cL_law 381 = .ok (.invokevirtual 37, 3) := by decide +kernel
theorem dL_law_384 : decode cL_law 384 = .ok (.aload_n 2, 1) := by decide +kernel
theorem dL_law_385 : decode cL_law 385 = .ok (.aload_n 0, 1) := by decide +kernel
theorem dL_law_386 : decode cL_law 386 = .ok (.iload_n 3, 1) := by decide +kernel
theorem dL_law_387 : decode cL_law 387 = .ok (.iconst 1, 1) := by decide +kernel
theorem dL_law_388 : decode cL_law 388 = .ok (.iadd, 1) := by decide +kernel
theorem dL_law_389 : decode cL_law 389 = .ok (.iaload, 1) := by decide +kernel
theorem dL_law_390 : decode cL_law 390 = .ok (.aload_n 0, 1) := by decide +kernel
theorem dL_law_391 : decode cL_law 391 = .ok (.iload_n 3, 1) := by decide +kernel
theorem dL_law_392 : decode cL_law 392 = .ok (.iconst 2, 1) := by decide +kernel
theorem dL_law_393 : decode cL_law 393 = .ok (.iadd, 1) := by decide +kernel
theorem dL_law_394 : decode cL_law 394 = .ok (.iaload, 1) := by decide +kernel
theorem dL_law_395 : decode cL_law 395 = .ok (.aload_n 0, 1) := by decide +kernel
theorem dL_law_396 : decode cL_law 396 = .ok (.iload_n 3, 1) := by decide +kernel
theorem dL_law_397 : decode cL_law 397 = .ok (.iconst 3, 1) := by decide +kernel
theorem dL_law_398 : decode cL_law 398 = .ok (.iadd, 1) := by decide +kernel
theorem dL_law_399 : decode cL_law 399 = .ok (.iaload, 1) := by decide +kernel
theorem dL_law_400 : decode cL_law 400 = .ok (.invokevirtual 40, 3) := by decide +kernel
theorem dL_law_403 : decode cL_law 403 = .ok (.if_icmp .eq 546, 3) := by decide +kernel
theorem dL_law_406 : decode cL_law 406 = .ok (.iconst 0, 1) := by decide +kernel
theorem dL_law_407 : decode cL_law 407 = .ok (.ireturn, 1) := by decide +kernel
theorem dL_law_408 : decode cL_law 408 = .ok (.aload_n 1, 1) := by decide +kernel
theorem dL_law_409 : decode cL_law 409 = .ok (.aload_n 0, 1) := by decide +kernel
theorem dL_law_410 : decode cL_law 410 = .ok (.iload_n 3, 1) := by decide +kernel
theorem dL_law_411 : decode cL_law 411 = .ok (.iconst 1, 1) := by decide +kernel
theorem dL_law_412 : decode cL_law 412 = .ok (.iadd, 1) := by decide +kernel
theorem dL_law_413 : decode cL_law 413 = .ok (.iaload, 1) := by decide +kernel
theorem dL_law_414 : decode cL_law 414 = .ok (.aload_n 0, 1) := by decide +kernel
theorem dL_law_415 : decode cL_law 415 = .ok (.iload_n 3, 1) := by decide +kernel
theorem dL_law_416 : decode cL_law 416 = .ok (.iconst 2, 1) := by decide +kernel
theorem dL_law_417 : decode cL_law 417 = .ok (.iadd, 1) := by decide +kernel
theorem dL_law_418 : decode cL_law 418 = .ok (.iaload, 1) := by decide +kernel
theorem dL_law_419 : decode cL_law 419 = .ok (.invokevirtual 41, 3) := by decide +kernel
theorem dL_law_422 : decode cL_law 422 = .ok (.aload_n 2, 1) := by decide +kernel
theorem dL_law_423 : decode cL_law 423 = .ok (.aload_n 0, 1) := by decide +kernel
theorem dL_law_424 : decode cL_law 424 = .ok (.iload_n 3, 1) := by decide +kernel
theorem dL_law_425 : decode cL_law 425 = .ok (.iconst 1, 1) := by decide +kernel
theorem dL_law_426 : decode cL_law 426 = .ok (.iadd, 1) := by decide +kernel
theorem dL_law_427 : decode cL_law 427 = .ok (.iaload, 1) := by decide +kernel
theorem dL_law_428 : decode cL_law 428 = .ok (.aload_n 0, 1) := by decide +kernel
theorem dL_law_429 : decode cL_law 429 = .ok (.iload_n 3, 1) := by decide +kernel
theorem dL_law_430 : decode cL_law 430 = .ok (.iconst 2, 1) := by decide +kernel
theorem dL_law_431 : decode cL_law 431 = .ok (.iadd, 1) := by decide +kernel
theorem dL_law_432 : decode cL_law 432 = .ok (.iaload, 1) := by decide +kernel
theorem dL_law_433 : decode cL_law 433 = .ok (.invokevirtual 44, 3) := by decide +kernel
theorem dL_law_436 : decode cL_law 436 = .ok (.if_icmp .eq 513, 3) := by decide +kernel
theorem dL_law_439 : decode cL_law 439 = .ok (.iconst 0, 1) := by decide +kernel
theorem dL_law_440 : decode cL_law 440 = .ok (.ireturn, 1) := by decide +kernel
theorem dL_law_441 : decode cL_law 441 = .ok (.aload_n 1, 1) := by decide +kernel
theorem dL_law_442 : decode cL_law 442 = .ok (.aload_n 0, 1) := by decide +kernel
theorem dL_law_443 : decode cL_law 443 = .ok (.iload_n 3, 1) := by decide +kernel
theorem dL_law_444 : decode cL_law 444 = .ok (.iconst 1, 1) := by decide +kernel
theorem dL_law_445 : decode cL_law 445 = .ok (.iadd, 1) := by decide +kernel
theorem dL_law_446 : decode cL_law 446 = .ok (.iaload, 1) := by decide +kernel
theorem dL_law_447 : decode cL_law 447 = .ok (.invokevirtual 45, 3) := by decide +kernel
theorem dL_law_450 : decode cL_law 450 = .ok (.aload_n 2, 1) := by decide +kernel
theorem dL_law_451 : decode cL_law 451 = .ok (.aload_n 0, 1) := by decide +kernel
theorem dL_law_452 : decode cL_law 452 = .ok (.iload_n 3, 1) := by decide +kernel
theorem dL_law_453 : decode cL_law 453 = .ok (.iconst 1, 1) := by decide +kernel
theorem dL_law_454 : decode cL_law 454 = .ok (.iadd, 1) := by decide +kernel
theorem dL_law_455 : decode cL_law 455 = .ok (.iaload, 1) := by decide +kernel
theorem dL_law_456 : decode cL_law 456 = .ok (.invokevirtual 48, 3) := by decide +kernel
theorem dL_law_459 : decode cL_law 459 = .ok (.if_icmp .eq 490, 3) := by decide +kernel
theorem dL_law_462 : decode cL_law 462 = .ok (.iconst 0, 1) := by decide +kernel
theorem dL_law_463 : decode cL_law 463 = .ok (.ireturn, 1) := by decide +kernel
theorem dL_law_464 : decode cL_law 464 = .ok (.aload_n 1, 1) := by decide +kernel
theorem dL_law_465 : decode cL_law 465 = .ok (.aload_n 0, 1) := by decide +kernel
theorem dL_law_466 : decode cL_law 466 = .ok (.iload_n 3, 1) := by decide +kernel
theorem dL_law_467 : decode cL_law 467 = .ok (.iconst 1, 1) := by decide +kernel
theorem dL_law_468 : decode cL_law 468 = .ok (.iadd, 1) := by decide +kernel
theorem dL_law_469 : decode cL_law 469 = .ok (.iaload, 1) := by decide +kernel
theorem dL_law_470 : decode cL_law 470 = .ok (.aload_n 0, 1) := by decide +kernel
theorem dL_law_471 : decode cL_law 471 = .ok (.iload_n 3, 1) := by decide +kernel
theorem dL_law_472 : decode cL_law 472 = .ok (.iconst 2, 1) := by decide +kernel
theorem dL_law_473 : decode cL_law 473 = .ok (.iadd, 1) := by decide +kernel
theorem dL_law_474 : decode cL_law 474 = .ok (.iaload, 1) := by decide +kernel
theorem dL_law_475 : decode cL_law 475 = .ok (.invokevirtual 49, 3) := by decide +kernel
theorem dL_law_478 : decode cL_law 478 = .ok (.aload_n 2, 1) := by decide +kernel
theorem dL_law_479 : decode cL_law 479 = .ok (.aload_n 0, 1) := by decide +kernel
theorem dL_law_480 : decode cL_law 480 = .ok (.iload_n 3, 1) := by decide +kernel
theorem dL_law_481 : decode cL_law 481 = .ok (.iconst 1, 1) := by decide +kernel
theorem dL_law_482 : decode cL_law 482 = .ok (.iadd, 1) := by decide +kernel
theorem dL_law_483 : decode cL_law 483 = .ok (.iaload, 1) := by decide +kernel
theorem dL_law_484 : decode cL_law 484 = .ok (.aload_n 0, 1) := by decide +kernel
theorem dL_law_485 : decode cL_law 485 = .ok (.iload_n 3, 1) := by decide +kernel
theorem dL_law_486 : decode cL_law 486 = .ok (.iconst 2, 1) := by decide +kernel
theorem dL_law_487 : decode cL_law 487 = .ok (.iadd, 1) := by decide +kernel
theorem dL_law_488 : decode cL_law 488 = .ok (.iaload, 1) := by decide +kernel
theorem dL_law_489 : decode cL_law 489 = .ok (.invokevirtual 52, 3) := by decide +kernel
theorem dL_law_492 : decode cL_law 492 = .ok (.if_icmp .eq 457, 3) := by decide +kernel
theorem dL_law_495 : decode cL_law 495 = .ok (.iconst 0, 1) := by decide +kernel
theorem dL_law_496 : decode cL_law 496 = .ok (.ireturn, 1) := by decide +kernel
theorem dL_law_497 : decode cL_law 497 = .ok (.aload_n 1, 1) := by decide +kernel
theorem dL_law_498 : decode cL_law 498 = .ok (.aload_n 0, 1) := by decide +kernel
theorem dL_law_499 : decode cL_law 499 = .ok (.iload_n 3, 1) := by decide +kernel
theorem dL_law_500 : decode cL_law 500 = .ok (.iconst 1, 1) := by decide +kernel
theorem dL_law_501 : decode cL_law 501 = .ok (.iadd, 1) := by decide +kernel
theorem dL_law_502 : decode cL_law 502 = .ok (.iaload, 1) := by decide +kernel
theorem dL_law_503 : decode cL_law 503 = .ok (.invokevirtual 53, 3) := by decide +kernel
theorem dL_law_506 : decode cL_law 506 = .ok (.aload_n 2, 1) := by decide +kernel
theorem dL_law_507 : decode cL_law 507 = .ok (.aload_n 0, 1) := by decide +kernel
theorem dL_law_508 : decode cL_law 508 = .ok (.iload_n 3, 1) := by decide +kernel
theorem dL_law_509 : decode cL_law 509 = .ok (.iconst 1, 1) := by decide +kernel
theorem dL_law_510 : decode cL_law 510 = .ok (.iadd, 1) := by decide +kernel
theorem dL_law_511 : decode cL_law 511 = .ok (.iaload, 1) := by decide +kernel
theorem dL_law_512 : decode cL_law 512 = .ok (.invokevirtual 56, 3) := by decide +kernel
theorem dL_law_515 : decode cL_law 515 = .ok (.if_icmp .eq 434, 3) := by decide +kernel
theorem dL_law_518 : decode cL_law 518 = .ok (.iconst 0, 1) := by decide +kernel
theorem dL_law_519 : decode cL_law 519 = .ok (.ireturn, 1) := by decide +kernel
theorem dL_law_520 : decode cL_law 520 = .ok (.aload_n 1, 1) := by decide +kernel
theorem dL_law_521 : decode cL_law 521 = .ok (.aload_n 0, 1) := by decide +kernel
theorem dL_law_522 : decode cL_law 522 = .ok (.iload_n 3, 1) := by decide +kernel
theorem dL_law_523 : decode cL_law 523 = .ok (.iconst 1, 1) := by decide +kernel
theorem dL_law_524 : decode cL_law 524 = .ok (.iadd, 1) := by decide +kernel
theorem dL_law_525 : decode cL_law 525 = .ok (.iaload, 1) := by decide +kernel
theorem dL_law_526 : decode cL_law 526 = .ok (.aload_n 0, 1) := by decide +kernel
theorem dL_law_527 : decode cL_law 527 = .ok (.iload_n 3, 1) := by decide +kernel
theorem dL_law_528 : decode cL_law 528 = .ok (.iconst 2, 1) := by decide +kernel
theorem dL_law_529 : decode cL_law 529 = .ok (.iadd, 1) := by decide +kernel
theorem dL_law_530 : decode cL_law 530 = .ok (.iaload, 1) := by decide +kernel
theorem dL_law_531 : decode cL_law 531 = .ok (.invokevirtual 57, 3) := by decide +kernel
theorem dL_law_534 : decode cL_law 534 = .ok (.aload_n 2, 1) := by decide +kernel
theorem dL_law_535 : decode cL_law 535 = .ok (.aload_n 0, 1) := by decide +kernel
theorem dL_law_536 : decode cL_law 536 = .ok (.iload_n 3, 1) := by decide +kernel
theorem dL_law_537 : decode cL_law 537 = .ok (.iconst 1, 1) := by decide +kernel
theorem dL_law_538 : decode cL_law 538 = .ok (.iadd, 1) := by decide +kernel
theorem dL_law_539 : decode cL_law 539 = .ok (.iaload, 1) := by decide +kernel
theorem dL_law_540 : decode cL_law 540 = .ok (.aload_n 0, 1) := by decide +kernel
theorem dL_law_541 : decode cL_law 541 = .ok (.iload_n 3, 1) := by decide +kernel
theorem dL_law_542 : decode cL_law 542 = .ok (.iconst 2, 1) := by decide +kernel
theorem dL_law_543 : decode cL_law 543 = .ok (.iadd, 1) := by decide +kernel
theorem dL_law_544 : decode cL_law 544 = .ok (.iaload, 1) := by decide +kernel
theorem dL_law_545 : decode cL_law 545 = .ok (.invokevirtual 60, 3) := by decide +kernel
theorem dL_law_548 : decode cL_law 548 = .ok (.if_icmp .eq 401, 3) := by decide +kernel
theorem dL_law_551 : decode cL_law 551 = .ok (.iconst 0, 1) := by decide +kernel
theorem dL_law_552 : decode cL_law 552 = .ok (.ireturn, 1) := by decide +kernel
theorem dL_law_553 : decode cL_law 553 = .ok (.aload_n 1, 1) := by decide +kernel
theorem dL_law_554 : decode cL_law 554 = .ok (.aload_n 0, 1) := by decide +kernel
theorem dL_law_555 : decode cL_law 555 = .ok (.iload_n 3, 1) := by decide +kernel
theorem dL_law_556 : decode cL_law 556 = .ok (.iconst 1, 1) := by decide +kernel
theorem dL_law_557 : decode cL_law 557 = .ok (.iadd, 1) := by decide +kernel
theorem dL_law_558 : decode cL_law 558 = .ok (.iaload, 1) := by decide +kernel
theorem dL_law_559 : decode cL_law 559 = .ok (.aload_n 0, 1) := by decide +kernel
theorem dL_law_560 : decode cL_law 560 = .ok (.iload_n 3, 1) := by decide +kernel
theorem dL_law_561 : decode cL_law 561 = .ok (.iconst 2, 1) := by decide +kernel
theorem dL_law_562 : decode cL_law 562 = .ok (.iadd, 1) := by decide +kernel
theorem dL_law_563 : decode cL_law 563 = .ok (.iaload, 1) := by decide +kernel
theorem dL_law_564 : decode cL_law 564 = .ok (.invokevirtual 61, 3) := by decide +kernel
theorem dL_law_567 : decode cL_law 567 = .ok (.aload_n 2, 1) := by decide +kernel
theorem dL_law_568 : decode cL_law 568 = .ok (.aload_n 0, 1) := by decide +kernel
theorem dL_law_569 : decode cL_law 569 = .ok (.iload_n 3, 1) := by decide +kernel
theorem dL_law_570 : decode cL_law 570 = .ok (.iconst 1, 1) := by decide +kernel
theorem dL_law_571 : decode cL_law 571 = .ok (.iadd, 1) := by decide +kernel
theorem dL_law_572 : decode cL_law 572 = .ok (.iaload, 1) := by decide +kernel
theorem dL_law_573 : decode cL_law 573 = .ok (.aload_n 0, 1) := by decide +kernel
theorem dL_law_574 : decode cL_law 574 = .ok (.iload_n 3, 1) := by decide +kernel
theorem dL_law_575 : decode cL_law 575 = .ok (.iconst 2, 1) := by decide +kernel
theorem dL_law_576 : decode cL_law 576 = .ok (.iadd, 1) := by decide +kernel
theorem dL_law_577 : decode cL_law 577 = .ok (.iaload, 1) := by decide +kernel
theorem dL_law_578 : decode cL_law 578 = .ok (.invokevirtual 64, 3) := by decide +kernel
theorem dL_law_581 : decode cL_law 581 = .ok (.if_icmp .eq 368, 3) := by decide +kernel
theorem dL_law_584 : decode cL_law 584 = .ok (.iconst 0, 1) := by decide +kernel
theorem dL_law_585 : decode cL_law 585 = .ok (.ireturn, 1) := by decide +kernel
theorem dL_law_586 : decode cL_law 586 = .ok (.aload_n 1, 1) := by decide +kernel
theorem dL_law_587 : decode cL_law 587 = .ok (.aload_n 0, 1) := by decide +kernel
theorem dL_law_588 : decode cL_law 588 = .ok (.iload_n 3, 1) := by decide +kernel
theorem dL_law_589 : decode cL_law 589 = .ok (.iconst 1, 1) := by decide +kernel
theorem dL_law_590 : decode cL_law 590 = .ok (.iadd, 1) := by decide +kernel
theorem dL_law_591 : decode cL_law 591 = .ok (.iaload, 1) := by decide +kernel
theorem dL_law_592 : decode cL_law 592 = .ok (.aload_n 0, 1) := by decide +kernel
theorem dL_law_593 : decode cL_law 593 = .ok (.iload_n 3, 1) := by decide +kernel
theorem dL_law_594 : decode cL_law 594 = .ok (.iconst 2, 1) := by decide +kernel
theorem dL_law_595 : decode cL_law 595 = .ok (.iadd, 1) := by decide +kernel
theorem dL_law_596 : decode cL_law 596 = .ok (.iaload, 1) := by decide +kernel
theorem dL_law_597 : decode cL_law 597 = .ok (.invokevirtual 65, 3) := by decide +kernel
theorem dL_law_600 : decode cL_law 600 = .ok (.aload_n 2, 1) := by decide +kernel
theorem dL_law_601 : decode cL_law 601 = .ok (.aload_n 0, 1) := by decide +kernel
theorem dL_law_602 : decode cL_law 602 = .ok (.iload_n 3, 1) := by decide +kernel
theorem dL_law_603 : decode cL_law 603 = .ok (.iconst 1, 1) := by decide +kernel
theorem dL_law_604 : decode cL_law 604 = .ok (.iadd, 1) := by decide +kernel
theorem dL_law_605 : decode cL_law 605 = .ok (.iaload, 1) := by decide +kernel
theorem dL_law_606 : decode cL_law 606 = .ok (.aload_n 0, 1) := by decide +kernel
theorem dL_law_607 : decode cL_law 607 = .ok (.iload_n 3, 1) := by decide +kernel
theorem dL_law_608 : decode cL_law 608 = .ok (.iconst 2, 1) := by decide +kernel
theorem dL_law_609 : decode cL_law 609 = .ok (.iadd, 1) := by decide +kernel
theorem dL_law_610 : decode cL_law 610 = .ok (.iaload, 1) := by decide +kernel
theorem dL_law_611 : decode cL_law 611 = .ok (.invokevirtual 68, 3) := by decide +kernel
theorem dL_law_614 : decode cL_law 614 = .ok (.if_icmp .eq 335, 3) := by decide +kernel
theorem dL_law_617 : decode cL_law 617 = .ok (.iconst 0, 1) := by decide +kernel
theorem dL_law_618 : decode cL_law 618 = .ok (.ireturn, 1) := by decide +kernel
theorem dL_law_619 : decode cL_law 619 = .ok (.aload_n 1, 1) := by decide +kernel
theorem dL_law_620 : decode cL_law 620 = .ok (.aload_n 0, 1) := by decide +kernel
theorem dL_law_621 : decode cL_law 621 = .ok (.iload_n 3, 1) := by decide +kernel
theorem dL_law_622 : decode cL_law 622 = .ok (.iconst 1, 1) := by decide +kernel
theorem dL_law_623 : decode cL_law 623 = .ok (.iadd, 1) := by decide +kernel
theorem dL_law_624 : decode cL_law 624 = .ok (.iaload, 1) := by decide +kernel
theorem dL_law_625 : decode cL_law 625 = .ok (.invokevirtual 69, 3) := by decide +kernel
theorem dL_law_628 : decode cL_law 628 = .ok (.aload_n 2, 1) := by decide +kernel
theorem dL_law_629 : decode cL_law 629 = .ok (.aload_n 0, 1) := by decide +kernel
theorem dL_law_630 : decode cL_law 630 = .ok (.iload_n 3, 1) := by decide +kernel
theorem dL_law_631 : decode cL_law 631 = .ok (.iconst 1, 1) := by decide +kernel
theorem dL_law_632 : decode cL_law 632 = .ok (.iadd, 1) := by decide +kernel
theorem dL_law_633 : decode cL_law 633 = .ok (.iaload, 1) := by decide +kernel
theorem dL_law_634 : decode cL_law 634 = .ok (.invokevirtual 72, 3) := by decide +kernel
theorem dL_law_637 : decode cL_law 637 = .ok (.if_icmp .eq 312, 3) := by decide +kernel
theorem dL_law_640 : decode cL_law 640 = .ok (.iconst 0, 1) := by decide +kernel
theorem dL_law_641 : decode cL_law 641 = .ok (.ireturn, 1) := by decide +kernel
theorem dL_law_642 : decode cL_law 642 = .ok (.aload_n 1, 1) := by decide +kernel
theorem dL_law_643 : decode cL_law 643 = .ok (.aload_n 0, 1) := by decide +kernel
theorem dL_law_644 : decode cL_law 644 = .ok (.iload_n 3, 1) := by decide +kernel
theorem dL_law_645 : decode cL_law 645 = .ok (.iconst 1, 1) := by decide +kernel
theorem dL_law_646 : decode cL_law 646 = .ok (.iadd, 1) := by decide +kernel
theorem dL_law_647 : decode cL_law 647 = .ok (.iaload, 1) := by decide +kernel
theorem dL_law_648 : decode cL_law 648 = .ok (.invokevirtual 73, 3) := by decide +kernel
theorem dL_law_651 : decode cL_law 651 = .ok (.aload_n 2, 1) := by decide +kernel
theorem dL_law_652 : decode cL_law 652 = .ok (.aload_n 0, 1) := by decide +kernel
theorem dL_law_653 : decode cL_law 653 = .ok (.iload_n 3, 1) := by decide +kernel
theorem dL_law_654 : decode cL_law 654 = .ok (.iconst 1, 1) := by decide +kernel
theorem dL_law_655 : decode cL_law 655 = .ok (.iadd, 1) := by decide +kernel
theorem dL_law_656 : decode cL_law 656 = .ok (.iaload, 1) := by decide +kernel
theorem dL_law_657 : decode cL_law 657 = .ok (.invokevirtual 76, 3) := by decide +kernel
theorem dL_law_660 : decode cL_law 660 = .ok (.if_icmp .eq 289, 3) := by decide +kernel
theorem dL_law_663 : decode cL_law 663 = .ok (.iconst 0, 1) := by decide +kernel
theorem dL_law_664 : decode cL_law 664 = .ok (.ireturn, 1) := by decide +kernel
theorem dL_law_665 : decode cL_law 665 = .ok (.aload_n 1, 1) := by decide +kernel
theorem dL_law_666 : decode cL_law 666 = .ok (.aload_n 0, 1) := by decide +kernel
theorem dL_law_667 : decode cL_law 667 = .ok (.iload_n 3, 1) := by decide +kernel
theorem dL_law_668 : decode cL_law 668 = .ok (.iconst 1, 1) := by decide +kernel
theorem dL_law_669 : decode cL_law 669 = .ok (.iadd, 1) := by decide +kernel
theorem dL_law_670 : decode cL_law 670 = .ok (.iaload, 1) := by decide +kernel
theorem dL_law_671 : decode cL_law 671 = .ok (.aload_n 0, 1) := by decide +kernel
theorem dL_law_672 : decode cL_law 672 = .ok (.iload_n 3, 1) := by decide +kernel
theorem dL_law_673 : decode cL_law 673 = .ok (.iconst 2, 1) := by decide +kernel
theorem dL_law_674 : decode cL_law 674 = .ok (.iadd, 1) := by decide +kernel
theorem dL_law_675 : decode cL_law 675 = .ok (.iaload, 1) := by decide +kernel
theorem dL_law_676 : decode cL_law 676 = .ok (.invokevirtual 77, 3) := by decide +kernel
theorem dL_law_679 : decode cL_law 679 = .ok (.aload_n 2, 1) := by decide +kernel
theorem dL_law_680 : decode cL_law 680 = .ok (.aload_n 0, 1) := by decide +kernel
theorem dL_law_681 : decode cL_law 681 = .ok (.iload_n 3, 1) := by decide +kernel
theorem dL_law_682 : decode cL_law 682 = .ok (.iconst 1, 1) := by decide +kernel
theorem dL_law_683 : decode cL_law 683 = .ok (.iadd, 1) := by decide +kernel
theorem dL_law_684 : decode cL_law 684 = .ok (.iaload, 1) := by decide +kernel
theorem dL_law_685 : decode cL_law 685 = .ok (.aload_n 0, 1) := by decide +kernel
theorem dL_law_686 : decode cL_law 686 = .ok (.iload_n 3, 1) := by decide +kernel
theorem dL_law_687 : decode cL_law 687 = .ok (.iconst 2, 1) := by decide +kernel
theorem dL_law_688 : decode cL_law 688 = .ok (.iadd, 1) := by decide +kernel
theorem dL_law_689 : decode cL_law 689 = .ok (.iaload, 1) := by decide +kernel
theorem dL_law_690 : decode cL_law 690 = .ok (.invokevirtual 80, 3) := by decide +kernel
theorem dL_law_693 : decode cL_law 693 = .ok (.if_icmp .eq 256, 3) := by decide +kernel
theorem dL_law_696 : decode cL_law 696 = .ok (.iconst 0, 1) := by decide +kernel
theorem dL_law_697 : decode cL_law 697 = .ok (.ireturn, 1) := by decide +kernel
theorem dL_law_698 : decode cL_law 698 = .ok (.aload_n 1, 1) := by decide +kernel
theorem dL_law_699 : decode cL_law 699 = .ok (.aload_n 0, 1) := by decide +kernel
theorem dL_law_700 : decode cL_law 700 = .ok (.iload_n 3, 1) := by decide +kernel
theorem dL_law_701 : decode cL_law 701 = .ok (.iconst 1, 1) := by decide +kernel
theorem dL_law_702 : decode cL_law 702 = .ok (.iadd, 1) := by decide +kernel
theorem dL_law_703 : decode cL_law 703 = .ok (.iaload, 1) := by decide +kernel
theorem dL_law_704 : decode cL_law 704 = .ok (.aload_n 0, 1) := by decide +kernel
theorem dL_law_705 : decode cL_law 705 = .ok (.iload_n 3, 1) := by decide +kernel
theorem dL_law_706 : decode cL_law 706 = .ok (.iconst 2, 1) := by decide +kernel
theorem dL_law_707 : decode cL_law 707 = .ok (.iadd, 1) := by decide +kernel
theorem dL_law_708 : decode cL_law 708 = .ok (.iaload, 1) := by decide +kernel
theorem dL_law_709 : decode cL_law 709 = .ok (.aload_n 0, 1) := by decide +kernel
theorem dL_law_710 : decode cL_law 710 = .ok (.iload_n 3, 1) := by decide +kernel
theorem dL_law_711 : decode cL_law 711 = .ok (.iconst 3, 1) := by decide +kernel
theorem dL_law_712 : decode cL_law 712 = .ok (.iadd, 1) := by decide +kernel
theorem dL_law_713 : decode cL_law 713 = .ok (.iaload, 1) := by decide +kernel
theorem dL_law_714 : decode cL_law 714 = .ok (.invokevirtual 81, 3) := by decide +kernel
theorem dL_law_717 : decode cL_law 717 = .ok (.aload_n 2, 1) := by decide +kernel
theorem dL_law_718 : decode cL_law 718 = .ok (.aload_n 0, 1) := by decide +kernel
theorem dL_law_719 : decode cL_law 719 = .ok (.iload_n 3, 1) := by decide +kernel
theorem dL_law_720 : decode cL_law 720 = .ok (.iconst 1, 1) := by decide +kernel
theorem dL_law_721 : decode cL_law 721 = .ok (.iadd, 1) := by decide +kernel
theorem dL_law_722 : decode cL_law 722 = .ok (.iaload, 1) := by decide +kernel
theorem dL_law_723 : decode cL_law 723 = .ok (.aload_n 0, 1) := by decide +kernel
theorem dL_law_724 : decode cL_law 724 = .ok (.iload_n 3, 1) := by decide +kernel
theorem dL_law_725 : decode cL_law 725 = .ok (.iconst 2, 1) := by decide +kernel
theorem dL_law_726 : decode cL_law 726 = .ok (.iadd, 1) := by decide +kernel
theorem dL_law_727 : decode cL_law 727 = .ok (.iaload, 1) := by decide +kernel
theorem dL_law_728 : decode cL_law 728 = .ok (.aload_n 0, 1) := by decide +kernel
theorem dL_law_729 : decode cL_law 729 = .ok (.iload_n 3, 1) := by decide +kernel
theorem dL_law_730 : decode cL_law 730 = .ok (.iconst 3, 1) := by decide +kernel
theorem dL_law_731 : decode cL_law 731 = .ok (.iadd, 1) := by decide +kernel
theorem dL_law_732 : decode cL_law 732 = .ok (.iaload, 1) := by decide +kernel
theorem dL_law_733 : decode cL_law 733 = .ok (.invokevirtual 84, 3) := by decide +kernel
theorem dL_law_736 : decode cL_law 736 = .ok (.if_icmp .eq 213, 3) := by decide +kernel
theorem dL_law_739 : decode cL_law 739 = .ok (.iconst 0, 1) := by decide +kernel
theorem dL_law_740 : decode cL_law 740 = .ok (.ireturn, 1) := by decide +kernel
theorem dL_law_741 : decode cL_law 741 = .ok (.aload_n 1, 1) := by decide +kernel
theorem dL_law_742 : decode cL_law 742 = .ok (.aload_n 0, 1) := by decide +kernel
theorem dL_law_743 : decode cL_law 743 = .ok (.iload_n 3, 1) := by decide +kernel
theorem dL_law_744 : decode cL_law 744 = .ok (.iconst 1, 1) := by decide +kernel
theorem dL_law_745 : decode cL_law 745 = .ok (.iadd, 1) := by decide +kernel
theorem dL_law_746 : decode cL_law 746 = .ok (.iaload, 1) := by decide +kernel
theorem dL_law_747 : decode cL_law 747 = .ok (.aload_n 0, 1) := by decide +kernel
theorem dL_law_748 : decode cL_law 748 = .ok (.iload_n 3, 1) := by decide +kernel
theorem dL_law_749 : decode cL_law 749 = .ok (.iconst 2, 1) := by decide +kernel
theorem dL_law_750 : decode cL_law 750 = .ok (.iadd, 1) := by decide +kernel
theorem dL_law_751 : decode cL_law 751 = .ok (.iaload, 1) := by decide +kernel
theorem dL_law_752 : decode cL_law 752 = .ok (.invokevirtual 85, 3) := by decide +kernel
theorem dL_law_755 : decode cL_law 755 = .ok (.aload_n 2, 1) := by decide +kernel
theorem dL_law_756 : decode cL_law 756 = .ok (.aload_n 0, 1) := by decide +kernel
theorem dL_law_757 : decode cL_law 757 = .ok (.iload_n 3, 1) := by decide +kernel
theorem dL_law_758 : decode cL_law 758 = .ok (.iconst 1, 1) := by decide +kernel
theorem dL_law_759 : decode cL_law 759 = .ok (.iadd, 1) := by decide +kernel
theorem dL_law_760 : decode cL_law 760 = .ok (.iaload, 1) := by decide +kernel
theorem dL_law_761 : decode cL_law 761 = .ok (.aload_n 0, 1) := by decide +kernel
theorem dL_law_762 : decode cL_law 762 = .ok (.iload_n 3, 1) := by decide +kernel
theorem dL_law_763 : decode cL_law 763 = .ok (.iconst 2, 1) := by decide +kernel
theorem dL_law_764 : decode cL_law 764 = .ok (.iadd, 1) := by decide +kernel
theorem dL_law_765 : decode cL_law 765 = .ok (.iaload, 1) := by decide +kernel
theorem dL_law_766 : decode cL_law 766 = .ok (.invokevirtual 88, 3) := by decide +kernel
theorem dL_law_769 : decode cL_law 769 = .ok (.if_icmp .eq 180, 3) := by decide +kernel
theorem dL_law_772 : decode cL_law 772 = .ok (.iconst 0, 1) := by decide +kernel
theorem dL_law_773 : decode cL_law 773 = .ok (.ireturn, 1) := by decide +kernel
theorem dL_law_774 : decode cL_law 774 = .ok (.aload_n 1, 1) := by decide +kernel
theorem dL_law_775 : decode cL_law 775 = .ok (.aload_n 0, 1) := by decide +kernel
theorem dL_law_776 : decode cL_law 776 = .ok (.iload_n 3, 1) := by decide +kernel
theorem dL_law_777 : decode cL_law 777 = .ok (.iconst 1, 1) := by decide +kernel
theorem dL_law_778 : decode cL_law 778 = .ok (.iadd, 1) := by decide +kernel
theorem dL_law_779 : decode cL_law 779 = .ok (.iaload, 1) := by decide +kernel
theorem dL_law_780 : decode cL_law 780 = .ok (.aload_n 0, 1) := by decide +kernel
theorem dL_law_781 : decode cL_law 781 = .ok (.iload_n 3, 1) := by decide +kernel
theorem dL_law_782 : decode cL_law 782 = .ok (.iconst 2, 1) := by decide +kernel
theorem dL_law_783 : decode cL_law 783 = .ok (.iadd, 1) := by decide +kernel
theorem dL_law_784 : decode cL_law 784 = .ok (.iaload, 1) := by decide +kernel
theorem dL_law_785 : decode cL_law 785 = .ok (.invokevirtual 89, 3) := by decide +kernel
theorem dL_law_788 : decode cL_law 788 = .ok (.aload_n 2, 1) := by decide +kernel
theorem dL_law_789 : decode cL_law 789 = .ok (.aload_n 0, 1) := by decide +kernel
theorem dL_law_790 : decode cL_law 790 = .ok (.iload_n 3, 1) := by decide +kernel
theorem dL_law_791 : decode cL_law 791 = .ok (.iconst 1, 1) := by decide +kernel
theorem dL_law_792 : decode cL_law 792 = .ok (.iadd, 1) := by decide +kernel
theorem dL_law_793 : decode cL_law 793 = .ok (.iaload, 1) := by decide +kernel
theorem dL_law_794 : decode cL_law 794 = .ok (.aload_n 0, 1) := by decide +kernel
theorem dL_law_795 : decode cL_law 795 = .ok (.iload_n 3, 1) := by decide +kernel
theorem dL_law_796 : decode cL_law 796 = .ok (.iconst 2, 1) := by decide +kernel
theorem dL_law_797 : decode cL_law 797 = .ok (.iadd, 1) := by decide +kernel
theorem dL_law_798 : decode cL_law 798 = .ok (.iaload, 1) := by decide +kernel
theorem dL_law_799 : decode cL_law 799 = .ok (.invokevirtual 92, 3) := by decide +kernel
theorem dL_law_802 : decode cL_law 802 = .ok (.if_icmp .eq 147, 3) := by decide +kernel
theorem dL_law_805 : decode cL_law 805 = .ok (.iconst 0, 1) := by decide +kernel
theorem dL_law_806 : decode cL_law 806 = .ok (.ireturn, 1) := by decide +kernel
theorem dL_law_807 : decode cL_law 807 = .ok (.aload_n 1, 1) := by decide +kernel
theorem dL_law_808 : decode cL_law 808 = .ok (.aload_n 0, 1) := by decide +kernel
theorem dL_law_809 : decode cL_law 809 = .ok (.iload_n 3, 1) := by decide +kernel
theorem dL_law_810 : decode cL_law 810 = .ok (.iconst 1, 1) := by decide +kernel
theorem dL_law_811 : decode cL_law 811 = .ok (.iadd, 1) := by decide +kernel
theorem dL_law_812 : decode cL_law 812 = .ok (.iaload, 1) := by decide +kernel
theorem dL_law_813 : decode cL_law 813 = .ok (.aload_n 0, 1) := by decide +kernel
theorem dL_law_814 : decode cL_law 814 = .ok (.iload_n 3, 1) := by decide +kernel
theorem dL_law_815 : decode cL_law 815 = .ok (.iconst 2, 1) := by decide +kernel
theorem dL_law_816 : decode cL_law 816 = .ok (.iadd, 1) := by decide +kernel
theorem dL_law_817 : decode cL_law 817 = .ok (.iaload, 1) := by decide +kernel
theorem dL_law_818 : decode cL_law 818 = .ok (.invokevirtual 93, 3) := by decide +kernel
theorem dL_law_821 : decode cL_law 821 = .ok (.aload_n 2, 1) := by decide +kernel
theorem dL_law_822 : decode cL_law 822 = .ok (.aload_n 0, 1) := by decide +kernel
theorem dL_law_823 : decode cL_law 823 = .ok (.iload_n 3, 1) := by decide +kernel
theorem dL_law_824 : decode cL_law 824 = .ok (.iconst 1, 1) := by decide +kernel
theorem dL_law_825 : decode cL_law 825 = .ok (.iadd, 1) := by decide +kernel
theorem dL_law_826 : decode cL_law 826 = .ok (.iaload, 1) := by decide +kernel
theorem dL_law_827 : decode cL_law 827 = .ok (.aload_n 0, 1) := by decide +kernel
theorem dL_law_828 : decode cL_law 828 = .ok (.iload_n 3, 1) := by decide +kernel
theorem dL_law_829 : decode cL_law 829 = .ok (.iconst 2, 1) := by decide +kernel
theorem dL_law_830 : decode cL_law 830 = .ok (.iadd, 1) := by decide +kernel
theorem dL_law_831 : decode cL_law 831 = .ok (.iaload, 1) := by decide +kernel
theorem dL_law_832 : decode cL_law 832 = .ok (.invokevirtual 96, 3) := by decide +kernel
theorem dL_law_835 : decode cL_law 835 = .ok (.if_icmp .eq 114, 3) := by decide +kernel
theorem dL_law_838 : decode cL_law 838 = .ok (.iconst 0, 1) := by decide +kernel
theorem dL_law_839 : decode cL_law 839 = .ok (.ireturn, 1) := by decide +kernel
theorem dL_law_840 : decode cL_law 840 = .ok (.aload_n 1, 1) := by decide +kernel
theorem dL_law_841 : decode cL_law 841 = .ok (.aload_n 0, 1) := by decide +kernel
theorem dL_law_842 : decode cL_law 842 = .ok (.iload_n 3, 1) := by decide +kernel
theorem dL_law_843 : decode cL_law 843 = .ok (.iconst 1, 1) := by decide +kernel
theorem dL_law_844 : decode cL_law 844 = .ok (.iadd, 1) := by decide +kernel
theorem dL_law_845 : decode cL_law 845 = .ok (.iaload, 1) := by decide +kernel
theorem dL_law_846 : decode cL_law 846 = .ok (.aload_n 0, 1) := by decide +kernel
theorem dL_law_847 : decode cL_law 847 = .ok (.iload_n 3, 1) := by decide +kernel
theorem dL_law_848 : decode cL_law 848 = .ok (.iconst 2, 1) := by decide +kernel
theorem dL_law_849 : decode cL_law 849 = .ok (.iadd, 1) := by decide +kernel
theorem dL_law_850 : decode cL_law 850 = .ok (.iaload, 1) := by decide +kernel
theorem dL_law_851 : decode cL_law 851 = .ok (.aload_n 0, 1) := by decide +kernel
theorem dL_law_852 : decode cL_law 852 = .ok (.iload_n 3, 1) := by decide +kernel
theorem dL_law_853 : decode cL_law 853 = .ok (.iconst 3, 1) := by decide +kernel
theorem dL_law_854 : decode cL_law 854 = .ok (.iadd, 1) := by decide +kernel
theorem dL_law_855 : decode cL_law 855 = .ok (.iaload, 1) := by decide +kernel
theorem dL_law_856 : decode cL_law 856 = .ok (.invokevirtual 97, 3) := by decide +kernel
theorem dL_law_859 : decode cL_law 859 = .ok (.aload_n 2, 1) := by decide +kernel
theorem dL_law_860 : decode cL_law 860 = .ok (.aload_n 0, 1) := by decide +kernel
theorem dL_law_861 : decode cL_law 861 = .ok (.iload_n 3, 1) := by decide +kernel
theorem dL_law_862 : decode cL_law 862 = .ok (.iconst 1, 1) := by decide +kernel
theorem dL_law_863 : decode cL_law 863 = .ok (.iadd, 1) := by decide +kernel
theorem dL_law_864 : decode cL_law 864 = .ok (.iaload, 1) := by decide +kernel
theorem dL_law_865 : decode cL_law 865 = .ok (.aload_n 0, 1) := by decide +kernel
theorem dL_law_866 : decode cL_law 866 = .ok (.iload_n 3, 1) := by decide +kernel
theorem dL_law_867 : decode cL_law 867 = .ok (.iconst 2, 1) := by decide +kernel
theorem dL_law_868 : decode cL_law 868 = .ok (.iadd, 1) := by decide +kernel
theorem dL_law_869 : decode cL_law 869 = .ok (.iaload, 1) := by decide +kernel
theorem dL_law_870 : decode cL_law 870 = .ok (.aload_n 0, 1) := by decide +kernel
theorem dL_law_871 : decode cL_law 871 = .ok (.iload_n 3, 1) := by decide +kernel
theorem dL_law_872 : decode cL_law 872 = .ok (.iconst 3, 1) := by decide +kernel
theorem dL_law_873 : decode cL_law 873 = .ok (.iadd, 1) := by decide +kernel
theorem dL_law_874 : decode cL_law 874 = .ok (.iaload, 1) := by decide +kernel
theorem dL_law_875 : decode cL_law 875 = .ok (.invokevirtual 100, 3) := by decide +kernel
theorem dL_law_878 : decode cL_law 878 = .ok (.if_icmp .eq 71, 3) := by decide +kernel
theorem dL_law_881 : decode cL_law 881 = .ok (.iconst 0, 1) := by decide +kernel
theorem dL_law_882 : decode cL_law 882 = .ok (.ireturn, 1) := by decide +kernel
theorem dL_law_883 : decode cL_law 883 = .ok (.aload_n 1, 1) := by decide +kernel
theorem dL_law_884 : decode cL_law 884 = .ok (.aload_n 0, 1) := by decide +kernel
theorem dL_law_885 : decode cL_law 885 = .ok (.iload_n 3, 1) := by decide +kernel
theorem dL_law_886 : decode cL_law 886 = .ok (.iconst 1, 1) := by decide +kernel
theorem dL_law_887 : decode cL_law 887 = .ok (.iadd, 1) := by decide +kernel
theorem dL_law_888 : decode cL_law 888 = .ok (.iaload, 1) := by decide +kernel
theorem dL_law_889 : decode cL_law 889 = .ok (.aload_n 0, 1) := by decide +kernel
theorem dL_law_890 : decode cL_law 890 = .ok (.iload_n 3, 1) := by decide +kernel
theorem dL_law_891 : decode cL_law 891 = .ok (.iconst 2, 1) := by decide +kernel
theorem dL_law_892 : decode cL_law 892 = .ok (.iadd, 1) := by decide +kernel
theorem dL_law_893 : decode cL_law 893 = .ok (.iaload, 1) := by decide +kernel
theorem dL_law_894 : decode cL_law 894 = .ok (.aload_n 0, 1) := by decide +kernel
theorem dL_law_895 : decode cL_law 895 = .ok (.iload_n 3, 1) := by decide +kernel
theorem dL_law_896 : decode cL_law 896 = .ok (.iconst 3, 1) := by decide +kernel
theorem dL_law_897 : decode cL_law 897 = .ok (.iadd, 1) := by decide +kernel
theorem dL_law_898 : decode cL_law 898 = .ok (.iaload, 1) := by decide +kernel
theorem dL_law_899 : decode cL_law 899 = .ok (.invokevirtual 101, 3) := by decide +kernel
theorem dL_law_902 : decode cL_law 902 = .ok (.aload_n 2, 1) := by decide +kernel
theorem dL_law_903 : decode cL_law 903 = .ok (.aload_n 0, 1) := by decide +kernel
theorem dL_law_904 : decode cL_law 904 = .ok (.iload_n 3, 1) := by decide +kernel
theorem dL_law_905 : decode cL_law 905 = .ok (.iconst 1, 1) := by decide +kernel
theorem dL_law_906 : decode cL_law 906 = .ok (.iadd, 1) := by decide +kernel
theorem dL_law_907 : decode cL_law 907 = .ok (.iaload, 1) := by decide +kernel
theorem dL_law_908 : decode cL_law 908 = .ok (.aload_n 0, 1) := by decide +kernel
theorem dL_law_909 : decode cL_law 909 = .ok (.iload_n 3, 1) := by decide +kernel
theorem dL_law_910 : decode cL_law 910 = .ok (.iconst 2, 1) := by decide +kernel
theorem dL_law_911 : decode cL_law 911 = .ok (.iadd, 1) := by decide +kernel
theorem dL_law_912 : decode cL_law 912 = .ok (.iaload, 1) := by decide +kernel
theorem dL_law_913 : decode cL_law 913 = .ok (.aload_n 0, 1) := by decide +kernel
theorem dL_law_914 : decode cL_law 914 = .ok (.iload_n 3, 1) := by decide +kernel
theorem dL_law_915 : decode cL_law 915 = .ok (.iconst 3, 1) := by decide +kernel
theorem dL_law_916 : decode cL_law 916 = .ok (.iadd, 1) := by decide +kernel
theorem dL_law_917 : decode cL_law 917 = .ok (.iaload, 1) := by decide +kernel
theorem dL_law_918 : decode cL_law 918 = .ok (.invokevirtual 104, 3) := by decide +kernel
theorem dL_law_921 : decode cL_law 921 = .ok (.if_icmp .eq 28, 3) := by decide +kernel
theorem dL_law_924 : decode cL_law 924 = .ok (.iconst 0, 1) := by decide +kernel
theorem dL_law_925 : decode cL_law 925 = .ok (.ireturn, 1) := by decide +kernel
theorem dL_law_926 : decode cL_law 926 = .ok (.aload_n 1, 1) := by decide +kernel
theorem dL_law_927 : decode cL_law 927 = .ok (.aload_n 0, 1) := by decide +kernel
theorem dL_law_928 : decode cL_law 928 = .ok (.iload_n 3, 1) := by decide +kernel
theorem dL_law_929 : decode cL_law 929 = .ok (.iconst 1, 1) := by decide +kernel
theorem dL_law_930 : decode cL_law 930 = .ok (.iadd, 1) := by decide +kernel
theorem dL_law_931 : decode cL_law 931 = .ok (.iaload, 1) := by decide +kernel
theorem dL_law_932 : decode cL_law 932 = .ok (.invokevirtual 105, 3) := by decide +kernel
theorem dL_law_935 : decode cL_law 935 = .ok (.aload_n 2, 1) := by decide +kernel
theorem dL_law_936 : decode cL_law 936 = .ok (.aload_n 0, 1) := by decide +kernel
theorem dL_law_937 : decode cL_law 937 = .ok (.iload_n 3, 1) := by decide +kernel
theorem dL_law_938 : decode cL_law 938 = .ok (.iconst 1, 1) := by decide +kernel
theorem dL_law_939 : decode cL_law 939 = .ok (.iadd, 1) := by decide +kernel
theorem dL_law_940 : decode cL_law 940 = .ok (.iaload, 1) := by decide +kernel
theorem dL_law_941 : decode cL_law 941 = .ok (.invokevirtual 108, 3) := by decide +kernel
theorem dL_law_944 : decode cL_law 944 = .ok (.if_icmp .eq 5, 3) := by decide +kernel
theorem dL_law_947 : decode cL_law 947 = .ok (.iconst 0, 1) := by decide +kernel
theorem dL_law_948 : decode cL_law 948 = .ok (.ireturn, 1) := by decide +kernel
theorem dL_law_949 : decode cL_law 949 = .ok (.iinc 3 6, 3) := by decide +kernel
theorem dL_law_952 : decode cL_law 952 = .ok (.goto (-934), 3) := by decide +kernel
theorem dL_law_955 : decode cL_law 955 = .ok (.iconst 1, 1) := by decide +kernel
theorem dL_law_956 : decode cL_law 956 = .ok (.ireturn, 1) := by decide +kernel
end
section
/-! BASE: every whole number of the machine is iI z (ints) or jI z (longs); rows over them; arrays are aI f; folds and searches. -/
def iI (z : Int) : Int32 := Int32.ofInt z
def jI (z : Int) : Int64 := Int64.ofInt z
abbrev I32 (z : Int) : Prop := -2147483648 ≤ z ∧ z ≤ 2147483647
abbrev I64 (z : Int) : Prop := -9223372036854775808 ≤ z ∧ z ≤ 9223372036854775807
def aI (f : Int → Int) : Nat → Int32 := fun k => iI (f (k : Int))
def up (f : Int → Int) (i v : Int) : Int → Int := fun k => if k = i then v else f k
def su (σ : Nat → Int → Int) (k : Nat) (g : Int → Int) : Nat → Int → Int := fun j => bif Nat.beq j k then g else σ j
def bI (P : Prop) [Decidable P] : Int := if P then 1 else 0
def mxZ (a b : Int) : Int := if a < b then b else a
def mnZ (a b : Int) : Int := if b < a then b else a
def abZ (a : Int) : Int := if 0 ≤ a then a else -a
def cmpZ (a b : Int) : Int := if b < a then 1 else if a = b then 0 else -1
theorem iI_add (a b : Int) : iI a + iI b = iI (a + b) := (Int32.ofInt_add a b).symm
theorem iI_sub (a b : Int) : iI a - iI b = iI (a - b) := (Int32.ofInt_sub a b).symm
theorem iI_mul (a b : Int) : iI a * iI b = iI (a * b) := (Int32.ofInt_mul a b).symm
theorem iI_neg (a : Int) : -iI a = iI (-a) := (Int32.ofInt_neg a).symm
theorem jI_add (a b : Int) : jI a + jI b = jI (a + b) := (Int64.ofInt_add a b).symm
theorem jI_sub (a b : Int) : jI a - jI b = jI (a - b) := (Int64.ofInt_sub a b).symm
theorem jI_mul (a b : Int) : jI a * jI b = jI (a * b) := (Int64.ofInt_mul a b).symm
theorem iI_toInt {a : Int} (h : I32 a) : (iI a).toInt = a := Int32.toInt_ofInt_of_le (by omega) (by omega)
theorem jI_toInt {a : Int} (h : I64 a) : (jI a).toInt = a := Int64.toInt_ofInt_of_le (by omega) (by omega)
theorem iI_of (x : Int32) : iI x.toInt = x := Int32.ofInt_toInt x
theorem i32_of (x : Int32) : I32 x.toInt := ⟨by have := x.le_toInt; omega, by have := x.toInt_lt; omega⟩
theorem iI_lt {a b : Int} (ha : I32 a) (hb : I32 b) : iI a < iI b ↔ a < b := by rw [Int32.lt_iff_toInt_lt, iI_toInt ha, iI_toInt hb]
theorem iI_le {a b : Int} (ha : I32 a) (hb : I32 b) : iI a ≤ iI b ↔ a ≤ b := by rw [Int32.le_iff_toInt_le, iI_toInt ha, iI_toInt hb]
theorem iI_eq {a b : Int} (ha : I32 a) (hb : I32 b) : iI a = iI b ↔ a = b := by rw [← Int32.toInt_inj, iI_toInt ha, iI_toInt hb]
theorem iI_0 : (0 : Int32) = iI 0 := by decide
theorem i0ok : I32 0 := by decide
theorem jI_lt {a b : Int} (ha : I64 a) (hb : I64 b) : jI a < jI b ↔ a < b := by rw [Int64.lt_iff_toInt_lt, jI_toInt ha, jI_toInt hb]
theorem jI_eq {a b : Int} (ha : I64 a) (hb : I64 b) : jI a = jI b ↔ a = b := by rw [← Int64.toInt_inj, jI_toInt ha, jI_toInt hb]
theorem iI_j {a : Int} (h : I32 a) : (iI a).toInt64 = jI a := by
  apply Int64.toInt_inj.mp
  rw [Int32.toInt_toInt64, iI_toInt h, jI_toInt (by omega)]
theorem jI_i (a : Int) : (jI a).toInt32 = iI a := Int64.toInt32_ofInt
theorem iI_div {a b : Int} (ha : 0 ≤ a ∧ a ≤ 2147483647) (hb : 0 < b ∧ b ≤ 2147483647) : iI a / iI b = iI (a / b) := by
  have h0 : 0 ≤ a / b := Int.ediv_nonneg ha.1 (by omega)
  have h1 : a / b ≤ a := Int.ediv_le_self b ha.1
  apply Int32.toInt_inj.mp
  rw [Int32.toInt_div_of_ne_right _ _ (fun h => by rw [show (-1 : Int32) = iI (-1) from by decide, iI_eq (by omega) (by decide)] at h; omega), iI_toInt (by omega), iI_toInt (by omega), iI_toInt (by omega), Int.tdiv_eq_ediv_of_nonneg ha.1]
theorem iI_rem {a b : Int} (ha : 0 ≤ a ∧ a ≤ 2147483647) (hb : 0 < b ∧ b ≤ 2147483647) : iI a - iI a / iI b * iI b = iI (a % b) := by
  rw [iI_div ha hb, iI_mul, iI_sub, Int.emod_def, Int.mul_comm b]
theorem jI_div {a b : Int} (ha : 0 ≤ a ∧ a ≤ 9223372036854775807) (hb : 0 < b ∧ b ≤ 9223372036854775807) : jI a / jI b = jI (a / b) := by
  have h0 : 0 ≤ a / b := Int.ediv_nonneg ha.1 (by omega)
  have h1 : a / b ≤ a := Int.ediv_le_self b ha.1
  apply Int64.toInt_inj.mp
  rw [Int64.toInt_div_of_ne_right _ _ (fun h => by rw [show (-1 : Int64) = jI (-1) from by decide, jI_eq (by omega) (by decide)] at h; omega), jI_toInt (by omega), jI_toInt (by omega), jI_toInt (by omega), Int.tdiv_eq_ediv_of_nonneg ha.1]
theorem iI_cl {a : Int} (h : 0 ≤ a ∧ a ≤ 2147483647) : (iI a).toNatClampNeg = a.toNat := by
  have h1 := iI_toInt (a := a) (by omega)
  rw [show (iI a).toNatClampNeg = (iI a).toInt.toNat from rfl, h1]
theorem iI_in {i : Int} {n : Nat} (h : 0 ≤ i ∧ i < n) (hn : n ≤ 2147483647) : vp_in (iI i) n := by
  rw [vp_in_iff, iI_toInt (by omega)]
  exact h
theorem aI_at (f : Int → Int) {i : Int} (h : 0 ≤ i ∧ i ≤ 2147483647) : aI f (iI i).toNatClampNeg = iI (f i) := by
  rw [iI_cl h]
  show iI (f _) = _
  rw [Int.toNat_of_nonneg h.1]
theorem aI_up (f : Int → Int) {i v : Int} (h : 0 ≤ i ∧ i ≤ 2147483647) : upd (aI f) (iI i).toNatClampNeg (iI v) = aI (up f i v) := by
  funext k
  rw [iI_cl h]
  show (if k = i.toNat then iI v else iI (f (k : Int))) = iI (if (k : Int) = i then v else f (k : Int))
  by_cases hk : k = i.toNat
  · rw [if_pos hk, if_pos (by omega)]
  · rw [if_neg hk, if_neg (by omega)]
theorem bI_t {P : Prop} [Decidable P] (h : P) : bI P = 1 := if_pos h
theorem bI_f {P : Prop} [Decidable P] (h : ¬ P) : bI P = 0 := if_neg h
theorem bI_01 (P : Prop) [Decidable P] : (bI P = 1 ∧ P) ∨ (bI P = 0 ∧ ¬ P) := by
  by_cases h : P
  · exact Or.inl ⟨bI_t h, h⟩
  · exact Or.inr ⟨bI_f h, h⟩
theorem cmpZ_s (a b : Int) : (cmpZ a b = 1 ∧ b < a) ∨ (cmpZ a b = 0 ∧ a = b) ∨ (cmpZ a b = -1 ∧ a < b) := by
  unfold cmpZ
  by_cases h : b < a
  · rw [if_pos h]; exact Or.inl ⟨rfl, h⟩
  · rw [if_neg h]
    by_cases h2 : a = b
    · rw [if_pos h2]; exact Or.inr (Or.inl ⟨rfl, h2⟩)
    · rw [if_neg h2]; exact Or.inr (Or.inr ⟨rfl, by omega⟩)
theorem mxZ_s (a b : Int) : (mxZ a b = b ∧ a < b) ∨ (mxZ a b = a ∧ b ≤ a) := by
  unfold mxZ
  by_cases h : a < b
  · rw [if_pos h]; exact Or.inl ⟨rfl, h⟩
  · rw [if_neg h]; exact Or.inr ⟨rfl, by omega⟩
theorem mnZ_s (a b : Int) : (mnZ a b = b ∧ b < a) ∨ (mnZ a b = a ∧ a ≤ b) := by
  unfold mnZ
  by_cases h : b < a
  · rw [if_pos h]; exact Or.inl ⟨rfl, h⟩
  · rw [if_neg h]; exact Or.inr ⟨rfl, by omega⟩
theorem abZ_s (a : Int) : (abZ a = a ∧ 0 ≤ a) ∨ (abZ a = -a ∧ a < 0) := by
  unfold abZ
  by_cases h : 0 ≤ a
  · rw [if_pos h]; exact Or.inl ⟨rfl, h⟩
  · rw [if_neg h]; exact Or.inr ⟨rfl, by omega⟩
theorem lg_cmpZ {a b : Int} (ha : I64 a) (hb : I64 b) : lg_cmp (jI a) (jI b) = iI (cmpZ a b) := by
  unfold lg_cmp cmpZ
  by_cases h : b < a
  · rw [if_pos h, if_pos (show jI a > jI b from (jI_lt hb ha).mpr h)]; decide
  · rw [if_neg h, if_neg (fun q => h ((jI_lt hb ha).mp q))]
    by_cases h2 : a = b
    · rw [if_pos h2, if_pos (by rw [h2])]; decide
    · rw [if_neg h2, if_neg (fun q => h2 ((jI_eq ha hb).mp q))]; decide
theorem up_s (f : Int → Int) (i v : Int) : up f i v i = v := if_pos rfl
theorem up_n (f : Int → Int) {i k : Int} (v : Int) (h : k ≠ i) : up f i v k = f k := if_neg h
/-! folds over 0 .. n-1, and searches -/
def foN {α : Type} (f : α → Int → α) (a : α) : Nat → α
  | 0 => a
  | k + 1 => f (foN f a k) (k : Int)
def fo {α : Type} (f : α → Int → α) (a : α) (n : Int) : α := foN f a n.toNat
theorem fo_0 {α : Type} (f : α → Int → α) (a : α) : fo f a 0 = a := rfl
theorem fo_s {α : Type} (f : α → Int → α) (a : α) {i : Int} (h : 0 ≤ i) : fo f a (i + 1) = f (fo f a i) i := by
  unfold fo
  rw [show (i + 1).toNat = i.toNat + 1 from by omega]
  show f (foN f a i.toNat) ((i.toNat : Nat) : Int) = _
  rw [Int.toNat_of_nonneg h]
theorem fo_inv {α : Type} (P : Int → α → Prop) (f : α → Int → α) (a : α) {n : Int} (hn : 0 ≤ n) (h0 : P 0 a) (hs : ∀ i x, 0 ≤ i → i < n → P i x → P (i + 1) (f x i)) : P n (fo f a n) := by
  have key : ∀ k : Nat, (k : Int) ≤ n → P (k : Int) (foN f a k) := by
    intro k
    induction k with
    | zero => intro _; exact h0
    | succ k ih =>
      intro hk
      have := hs (k : Int) (foN f a k) (by omega) (by omega) (ih (by omega))
      rw [show ((k + 1 : Nat) : Int) = (k : Int) + 1 from by omega]
      exact this
  have := key n.toNat (by omega)
  rw [Int.toNat_of_nonneg hn] at this
  exact this
theorem fo_congr {α : Type} (f g : α → Int → α) (a : α) {n : Int} (h : ∀ i x, 0 ≤ i → i < n → f x i = g x i) : fo f a n = fo g a n := by
  have key : ∀ k : Nat, (k : Int) ≤ n → foN f a k = foN g a k := by
    intro k
    induction k with
    | zero => intro _; rfl
    | succ k ih =>
      intro hk
      show f (foN f a k) (k : Int) = g (foN g a k) (k : Int)
      rw [ih (by omega)]
      exact h _ _ (by omega) (by omega)
  by_cases hn : 0 ≤ n
  · exact key n.toNat (by omega)
  · unfold fo
    rw [show n.toNat = 0 from by omega]
    rfl
/-- a fold that agrees with another by a relation at each place -/
theorem fo_rel {α β : Type} (P : Int → α → β → Prop) (f : α → Int → α) (g : β → Int → β) (a : α) (b : β) {n : Int} (hn : 0 ≤ n) (h0 : P 0 a b) (hs : ∀ i x y, 0 ≤ i → i < n → P i x y → P (i + 1) (f x i) (g y i)) : P n (fo f a n) (fo g b n) := by
  have key : ∀ k : Nat, (k : Int) ≤ n → P (k : Int) (foN f a k) (foN g b k) := by
    intro k
    induction k with
    | zero => intro _; exact h0
    | succ k ih =>
      intro hk
      have := hs (k : Int) (foN f a k) (foN g b k) (by omega) (by omega) (ih (by omega))
      rw [show ((k + 1 : Nat) : Int) = (k : Int) + 1 from by omega]
      exact this
  have := key n.toNat (by omega)
  rw [Int.toNat_of_nonneg hn] at this
  exact this
/-- the first of i, i+1, .. n-1 with P: v of it; else d -/
def ftN (P : Int → Bool) (v : Int → Int) (d : Int) : Nat → Int → Int
  | 0, _ => d
  | k + 1, i => bif P i then v i else ftN P v d k (i + 1)
def ft (P : Int → Bool) (v : Int → Int) (d i n : Int) : Int := ftN P v d (n - i).toNat i
theorem ft_end (P : Int → Bool) (v : Int → Int) (d : Int) {i n : Int} (h : n ≤ i) : ft P v d i n = d := by
  unfold ft
  rw [show (n - i).toNat = 0 from by omega]
  rfl
theorem ft_hit (P : Int → Bool) (v : Int → Int) (d : Int) {i n : Int} (h : i < n) (hp : P i = true) : ft P v d i n = v i := by
  unfold ft
  rw [show (n - i).toNat = (n - (i + 1)).toNat + 1 from by omega]
  show (bif P i then v i else _) = _
  rw [hp]; rfl
theorem ft_miss (P : Int → Bool) (v : Int → Int) (d : Int) {i n : Int} (h : i < n) (hp : P i = false) : ft P v d i n = ft P v d (i + 1) n := by
  unfold ft
  rw [show (n - i).toNat = (n - (i + 1)).toNat + 1 from by omega]
  show (bif P i then v i else _) = _
  rw [hp]; rfl
theorem ft_congr (P P' : Int → Bool) (v v' : Int → Int) (d : Int) {i n : Int} (h : ∀ k, i ≤ k → k < n → P k = P' k ∧ (P k = true → v k = v' k)) : ft P v d i n = ft P' v' d i n := by
  have key : ∀ (k : Nat) (i : Int), (n - i).toNat = k → (∀ k, i ≤ k → k < n → P k = P' k ∧ (P k = true → v k = v' k)) → ft P v d i n = ft P' v' d i n := by
    intro k
    induction k with
    | zero =>
      intro i hk _
      rw [ft_end _ _ _ (by omega), ft_end _ _ _ (by omega)]
    | succ k ih =>
      intro i hk h
      have h1 := h i (by omega) (by omega)
      cases hp : P i with
      | true => rw [ft_hit _ _ _ (by omega) hp, ft_hit _ _ _ (by omega) (by rw [← h1.1]; exact hp), h1.2 hp]
      | false =>
        rw [ft_miss P v d (by omega) hp, ft_miss P' v' d (by omega) (by rw [← h1.1]; exact hp)]
        exact ih (i + 1) (by omega) (fun j a b => h j (by omega) b)
  exact key _ i rfl h
theorem ft_none (P : Int → Bool) (v : Int → Int) (d : Int) {i n : Int} (h : ∀ k, i ≤ k → k < n → P k = false) : ft P v d i n = d := by
  have key : ∀ (k : Nat) (i : Int), (n - i).toNat = k → (∀ k, i ≤ k → k < n → P k = false) → ft P v d i n = d := by
    intro k
    induction k with
    | zero => intro i hk _; rw [ft_end _ _ _ (by omega)]
    | succ k ih =>
      intro i hk h
      rw [ft_miss _ _ _ (by omega) (h i (by omega) (by omega))]
      exact ih (i + 1) (by omega) (fun j a b => h j (by omega) b)
  exact key _ i rfl h
theorem lt_tn (z : Int) : z < ((z.toNat + 1 : Nat) : Int) := by omega
/-! bits of small masks -/
def pwZ (w : Int) : Int := ((2 ^ w.toNat : Nat) : Int)
def bitZ (m w : Int) : Int := if m.toNat.testBit w.toNat = true then pwZ w else 0
def orZ (m w : Int) : Int := ((m.toNat ||| 2 ^ w.toNat : Nat) : Int)
theorem pw_all : ∀ w : Fin 8, iI 1 <<< (iI (w.val : Int) &&& 31) = iI (pwZ (w.val : Int)) := by decide +kernel
theorem and_all : ∀ m : Fin 256, ∀ w : Fin 8, iI (m.val : Int) &&& iI (pwZ (w.val : Int)) = iI (bitZ (m.val : Int) (w.val : Int)) := by decide +kernel
theorem or_all : ∀ m : Fin 256, ∀ w : Fin 8, iI (m.val : Int) ||| iI (pwZ (w.val : Int)) = iI (orZ (m.val : Int) (w.val : Int)) := by decide +kernel
theorem bd_all : ∀ m : Fin 256, ∀ w : Fin 8, 0 ≤ orZ (m.val : Int) (w.val : Int) ∧ orZ (m.val : Int) (w.val : Int) < 256 := by decide +kernel
theorem pb_all : ∀ w : Fin 8, 1 ≤ pwZ (w.val : Int) ∧ pwZ (w.val : Int) ≤ 128 := by decide +kernel
theorem fin_of {z : Int} {n : Nat} (h : 0 ≤ z ∧ z < (n : Int)) : ∃ f : Fin n, z = (f.val : Int) := ⟨⟨z.toNat, by omega⟩, by show z = (z.toNat : Int); omega⟩
theorem iI_shl {w : Int} (h : 0 ≤ w ∧ w < 8) : iI 1 <<< (iI w &&& 31) = iI (pwZ w) := by
  obtain ⟨f, rfl⟩ := fin_of (n := 8) h
  exact pw_all f
theorem iI_and {m w : Int} (hm : 0 ≤ m ∧ m < 256) (h : 0 ≤ w ∧ w < 8) : iI m &&& iI (pwZ w) = iI (bitZ m w) := by
  obtain ⟨f, rfl⟩ := fin_of (n := 8) h
  obtain ⟨g, rfl⟩ := fin_of (n := 256) hm
  exact and_all g f
theorem iI_or {m w : Int} (hm : 0 ≤ m ∧ m < 256) (h : 0 ≤ w ∧ w < 8) : iI m ||| iI (pwZ w) = iI (orZ m w) := by
  obtain ⟨f, rfl⟩ := fin_of (n := 8) h
  obtain ⟨g, rfl⟩ := fin_of (n := 256) hm
  exact or_all g f
theorem orZ_bd {m w : Int} (hm : 0 ≤ m ∧ m < 256) (h : 0 ≤ w ∧ w < 8) : 0 ≤ orZ m w ∧ orZ m w < 256 := by
  obtain ⟨f, rfl⟩ := fin_of (n := 8) h
  obtain ⟨g, rfl⟩ := fin_of (n := 256) hm
  exact bd_all g f
theorem bitZ_s (m w : Int) (h : 0 ≤ w ∧ w < 8) : (bitZ m w = 0 ∧ m.toNat.testBit w.toNat = false) ∨ (1 ≤ bitZ m w ∧ bitZ m w ≤ 128 ∧ m.toNat.testBit w.toNat = true) := by
  unfold bitZ
  cases hb : m.toNat.testBit w.toNat with
  | false => exact Or.inl ⟨if_neg (by decide), rfl⟩
  | true =>
    rw [if_pos rfl]
    obtain ⟨f, rfl⟩ := fin_of (n := 8) h
    exact Or.inr ⟨(pb_all f).1, (pb_all f).2, rfl⟩
end
section
/-! ROWS over iI, jI -/
section RB
variable {p : Program} {l : Launch} {e : Env} {R : Room} {s : State} {m : MethodId} {args : Array Value} {below : List Frame} {meth : Method} {c : Code} {H : Heap} {locs : List Loc} {cells slots : Nat} {Q : State → Prop} {cc : ByteArray} {pc : Nat} {ls : Array Slot} {rest : List Value}

theorem r_iadd (hx : p.tables.exec = Jvm.exec) (hb : c.code = cc) {a b : Int} (hdg : decode cc pc = .ok (.iadd, 1)) (k : W p l e R s m args below meth c H locs cells slots Q (F0 m (pc + 1) ls (.int (iI (a + b)) :: rest))) : W p l e R s m args below meth c H locs cells slots Q (F0 m pc ls (.int (iI b) :: .int (iI a) :: rest)) := lv_iadd hx hb hdg (by rw [iI_add]; exact k)
theorem r_isub (hx : p.tables.exec = Jvm.exec) (hb : c.code = cc) {a b : Int} (hdg : decode cc pc = .ok (.isub, 1)) (k : W p l e R s m args below meth c H locs cells slots Q (F0 m (pc + 1) ls (.int (iI (a - b)) :: rest))) : W p l e R s m args below meth c H locs cells slots Q (F0 m pc ls (.int (iI b) :: .int (iI a) :: rest)) := lv_isub hx hb hdg (by rw [iI_sub]; exact k)
theorem r_imul (hx : p.tables.exec = Jvm.exec) (hb : c.code = cc) {a b : Int} (hdg : decode cc pc = .ok (.imul, 1)) (k : W p l e R s m args below meth c H locs cells slots Q (F0 m (pc + 1) ls (.int (iI (a * b)) :: rest))) : W p l e R s m args below meth c H locs cells slots Q (F0 m pc ls (.int (iI b) :: .int (iI a) :: rest)) := lv_imul hx hb hdg (by rw [iI_mul]; exact k)
theorem r_ladd (hx : p.tables.exec = Jvm.exec) (hb : c.code = cc) {a b : Int} (hdg : decode cc pc = .ok (.ladd, 1)) (k : W p l e R s m args below meth c H locs cells slots Q (F0 m (pc + 1) ls (.long (jI (a + b)) :: rest))) : W p l e R s m args below meth c H locs cells slots Q (F0 m pc ls (.long (jI b) :: .long (jI a) :: rest)) := lv_ladd hx hb hdg (by rw [jI_add]; exact k)
theorem r_lsub (hx : p.tables.exec = Jvm.exec) (hb : c.code = cc) {a b : Int} (hdg : decode cc pc = .ok (.lsub, 1)) (k : W p l e R s m args below meth c H locs cells slots Q (F0 m (pc + 1) ls (.long (jI (a - b)) :: rest))) : W p l e R s m args below meth c H locs cells slots Q (F0 m pc ls (.long (jI b) :: .long (jI a) :: rest)) := lv_lsub hx hb hdg (by rw [jI_sub]; exact k)
theorem r_lmul (hx : p.tables.exec = Jvm.exec) (hb : c.code = cc) {a b : Int} (hdg : decode cc pc = .ok (.lmul, 1)) (k : W p l e R s m args below meth c H locs cells slots Q (F0 m (pc + 1) ls (.long (jI (a * b)) :: rest))) : W p l e R s m args below meth c H locs cells slots Q (F0 m pc ls (.long (jI b) :: .long (jI a) :: rest)) := lv_lmul hx hb hdg (by rw [jI_mul]; exact k)
theorem r_ineg (hx : p.tables.exec = Jvm.exec) (hb : c.code = cc) {a : Int} (hdg : decode cc pc = .ok (.ineg, 1)) (k : W p l e R s m args below meth c H locs cells slots Q (F0 m (pc + 1) ls (.int (iI (-a)) :: rest))) : W p l e R s m args below meth c H locs cells slots Q (F0 m pc ls (.int (iI a) :: rest)) := lv_ineg hx hb hdg (by rw [iI_neg]; exact k)
theorem r_idiv (hx : p.tables.exec = Jvm.exec) (hb : c.code = cc) {a b : Int} (hdg : decode cc pc = .ok (.idiv, 1)) (ha : 0 ≤ a ∧ a ≤ 2147483647) (hq : 0 < b ∧ b ≤ 2147483647) (k : W p l e R s m args below meth c H locs cells slots Q (F0 m (pc + 1) ls (.int (iI (a / b)) :: rest))) : W p l e R s m args below meth c H locs cells slots Q (F0 m pc ls (.int (iI b) :: .int (iI a) :: rest)) := lv_idiv hx hb hdg (fun h => by rw [iI_0, iI_eq (by omega) i0ok] at h; omega) (by rw [iI_div ha hq]; exact k)
theorem r_irem (hx : p.tables.exec = Jvm.exec) (hb : c.code = cc) {a b : Int} (hdg : decode cc pc = .ok (.irem, 1)) (ha : 0 ≤ a ∧ a ≤ 2147483647) (hq : 0 < b ∧ b ≤ 2147483647) (k : W p l e R s m args below meth c H locs cells slots Q (F0 m (pc + 1) ls (.int (iI (a % b)) :: rest))) : W p l e R s m args below meth c H locs cells slots Q (F0 m pc ls (.int (iI b) :: .int (iI a) :: rest)) := lv_irem hx hb hdg (fun h => by rw [iI_0, iI_eq (by omega) i0ok] at h; omega) (by rw [iI_rem ha hq]; exact k)
theorem r_ldiv (hx : p.tables.exec = Jvm.exec) (hb : c.code = cc) {a b : Int} (hdg : decode cc pc = .ok (.ldiv, 1)) (ha : 0 ≤ a ∧ a ≤ 9223372036854775807) (hq : 0 < b ∧ b ≤ 9223372036854775807) (k : W p l e R s m args below meth c H locs cells slots Q (F0 m (pc + 1) ls (.long (jI (a / b)) :: rest))) : W p l e R s m args below meth c H locs cells slots Q (F0 m pc ls (.long (jI b) :: .long (jI a) :: rest)) := lv_ldiv hx hb hdg (fun h => by rw [show (0 : Int64) = jI 0 from by decide, jI_eq (by omega) (by decide)] at h; omega) (by rw [jI_div ha hq]; exact k)
theorem r_i2l (hx : p.tables.exec = Jvm.exec) (hb : c.code = cc) {a : Int} (hdg : decode cc pc = .ok (.i2l, 1)) (ha : I32 a) (k : W p l e R s m args below meth c H locs cells slots Q (F0 m (pc + 1) ls (.long (jI a) :: rest))) : W p l e R s m args below meth c H locs cells slots Q (F0 m pc ls (.int (iI a) :: rest)) := lv_i2l hx hb hdg (iI_j ha) k
theorem r_l2i (hx : p.tables.exec = Jvm.exec) (hb : c.code = cc) {a : Int} (hdg : decode cc pc = .ok (.l2i, 1)) (k : W p l e R s m args below meth c H locs cells slots Q (F0 m (pc + 1) ls (.int (iI a) :: rest))) : W p l e R s m args below meth c H locs cells slots Q (F0 m pc ls (.long (jI a) :: rest)) := lv_l2i hx hb hdg (jI_i a) k
theorem r_lcmp (hx : p.tables.exec = Jvm.exec) (hb : c.code = cc) {a b : Int} (hdg : decode cc pc = .ok (.lcmp, 1)) (ha : I64 a) (hq : I64 b) (k : W p l e R s m args below meth c H locs cells slots Q (F0 m (pc + 1) ls (.int (iI (cmpZ a b)) :: rest))) : W p l e R s m args below meth c H locs cells slots Q (F0 m pc ls (.long (jI b) :: .long (jI a) :: rest)) := W.lcmp hx hb hdg (by rw [lg_cmpZ ha hq]; exact k)
theorem r_icmp_lt (hx : p.tables.exec = Jvm.exec) (hb : c.code = cc) {a b : Int} {off : Int} {tgt : Nat} (hdg : decode cc pc = .ok (.if_icmp .lt off, 3)) (ht : (pc : Int) + off = (tgt : Int)) (ha : I32 a) (hq : I32 b) (kt : a < b → W p l e R s m args below meth c H locs cells slots Q (F0 m tgt ls (rest))) (kf : b ≤ a → W p l e R s m args below meth c H locs cells slots Q (F0 m (pc + 3) ls (rest))) : W p l e R s m args below meth c H locs cells slots Q (F0 m pc ls (.int (iI b) :: .int (iI a) :: rest)) := lv_icmp_lt hx hb hdg ht (fun h => kt ((iI_lt ha hq).mp h)) (fun h => kf (Int.not_lt.mp (fun z => h ((iI_lt ha hq).mpr z))))
theorem r_icmp_ge (hx : p.tables.exec = Jvm.exec) (hb : c.code = cc) {a b : Int} {off : Int} {tgt : Nat} (hdg : decode cc pc = .ok (.if_icmp .ge off, 3)) (ht : (pc : Int) + off = (tgt : Int)) (ha : I32 a) (hq : I32 b) (kt : b ≤ a → W p l e R s m args below meth c H locs cells slots Q (F0 m tgt ls (rest))) (kf : a < b → W p l e R s m args below meth c H locs cells slots Q (F0 m (pc + 3) ls (rest))) : W p l e R s m args below meth c H locs cells slots Q (F0 m pc ls (.int (iI b) :: .int (iI a) :: rest)) := lv_icmp_ge hx hb hdg ht (fun h => kt ((iI_le hq ha).mp h)) (fun h => kf (Int.not_le.mp (fun z => h ((iI_le hq ha).mpr z))))
theorem r_icmp_gt (hx : p.tables.exec = Jvm.exec) (hb : c.code = cc) {a b : Int} {off : Int} {tgt : Nat} (hdg : decode cc pc = .ok (.if_icmp .gt off, 3)) (ht : (pc : Int) + off = (tgt : Int)) (ha : I32 a) (hq : I32 b) (kt : b < a → W p l e R s m args below meth c H locs cells slots Q (F0 m tgt ls (rest))) (kf : a ≤ b → W p l e R s m args below meth c H locs cells slots Q (F0 m (pc + 3) ls (rest))) : W p l e R s m args below meth c H locs cells slots Q (F0 m pc ls (.int (iI b) :: .int (iI a) :: rest)) := lv_icmp_gt hx hb hdg ht (fun h => kt ((iI_lt hq ha).mp h)) (fun h => kf (Int.not_lt.mp (fun z => h ((iI_lt hq ha).mpr z))))
theorem r_icmp_le (hx : p.tables.exec = Jvm.exec) (hb : c.code = cc) {a b : Int} {off : Int} {tgt : Nat} (hdg : decode cc pc = .ok (.if_icmp .le off, 3)) (ht : (pc : Int) + off = (tgt : Int)) (ha : I32 a) (hq : I32 b) (kt : a ≤ b → W p l e R s m args below meth c H locs cells slots Q (F0 m tgt ls (rest))) (kf : b < a → W p l e R s m args below meth c H locs cells slots Q (F0 m (pc + 3) ls (rest))) : W p l e R s m args below meth c H locs cells slots Q (F0 m pc ls (.int (iI b) :: .int (iI a) :: rest)) := lv_icmp_le hx hb hdg ht (fun h => kt ((iI_le ha hq).mp h)) (fun h => kf (Int.not_le.mp (fun z => h ((iI_le ha hq).mpr z))))
theorem r_icmp_eq (hx : p.tables.exec = Jvm.exec) (hb : c.code = cc) {a b : Int} {off : Int} {tgt : Nat} (hdg : decode cc pc = .ok (.if_icmp .eq off, 3)) (ht : (pc : Int) + off = (tgt : Int)) (ha : I32 a) (hq : I32 b) (kt : a = b → W p l e R s m args below meth c H locs cells slots Q (F0 m tgt ls (rest))) (kf : a ≠ b → W p l e R s m args below meth c H locs cells slots Q (F0 m (pc + 3) ls (rest))) : W p l e R s m args below meth c H locs cells slots Q (F0 m pc ls (.int (iI b) :: .int (iI a) :: rest)) := lv_icmp_eq hx hb hdg ht (fun h => kt ((iI_eq ha hq).mp h)) (fun h => kf (fun q => h ((iI_eq ha hq).mpr q)))
theorem r_icmp_ne (hx : p.tables.exec = Jvm.exec) (hb : c.code = cc) {a b : Int} {off : Int} {tgt : Nat} (hdg : decode cc pc = .ok (.if_icmp .ne off, 3)) (ht : (pc : Int) + off = (tgt : Int)) (ha : I32 a) (hq : I32 b) (kt : a ≠ b → W p l e R s m args below meth c H locs cells slots Q (F0 m tgt ls (rest))) (kf : a = b → W p l e R s m args below meth c H locs cells slots Q (F0 m (pc + 3) ls (rest))) : W p l e R s m args below meth c H locs cells slots Q (F0 m pc ls (.int (iI b) :: .int (iI a) :: rest)) := lv_icmp_ne hx hb hdg ht (fun h => kt (fun q => h ((iI_eq ha hq).mpr q))) (fun h => kf ((iI_eq ha hq).mp h))
theorem r_if_lt (hx : p.tables.exec = Jvm.exec) (hb : c.code = cc) {a : Int} {off : Int} {tgt : Nat} (hdg : decode cc pc = .ok (.ifCond .lt off, 3)) (ht : (pc : Int) + off = (tgt : Int)) (ha : I32 a) (kt : a < 0 → W p l e R s m args below meth c H locs cells slots Q (F0 m tgt ls (rest))) (kf : 0 ≤ a → W p l e R s m args below meth c H locs cells slots Q (F0 m (pc + 3) ls (rest))) : W p l e R s m args below meth c H locs cells slots Q (F0 m pc ls (.int (iI a) :: rest)) := lv_if_lt hx hb hdg ht (fun h => kt ((iI_lt ha i0ok).mp (by rw [iI_0] at h; exact h))) (fun h => kf (Int.not_lt.mp (fun z => h (by rw [iI_0]; exact (iI_lt ha i0ok).mpr z))))
theorem r_if_ge (hx : p.tables.exec = Jvm.exec) (hb : c.code = cc) {a : Int} {off : Int} {tgt : Nat} (hdg : decode cc pc = .ok (.ifCond .ge off, 3)) (ht : (pc : Int) + off = (tgt : Int)) (ha : I32 a) (kt : 0 ≤ a → W p l e R s m args below meth c H locs cells slots Q (F0 m tgt ls (rest))) (kf : a < 0 → W p l e R s m args below meth c H locs cells slots Q (F0 m (pc + 3) ls (rest))) : W p l e R s m args below meth c H locs cells slots Q (F0 m pc ls (.int (iI a) :: rest)) := lv_if_ge hx hb hdg ht (fun h => kt ((iI_le i0ok ha).mp (by rw [iI_0] at h; exact h))) (fun h => kf (Int.not_le.mp (fun z => h (by rw [iI_0]; exact (iI_le i0ok ha).mpr z))))
theorem r_if_gt (hx : p.tables.exec = Jvm.exec) (hb : c.code = cc) {a : Int} {off : Int} {tgt : Nat} (hdg : decode cc pc = .ok (.ifCond .gt off, 3)) (ht : (pc : Int) + off = (tgt : Int)) (ha : I32 a) (kt : 0 < a → W p l e R s m args below meth c H locs cells slots Q (F0 m tgt ls (rest))) (kf : a ≤ 0 → W p l e R s m args below meth c H locs cells slots Q (F0 m (pc + 3) ls (rest))) : W p l e R s m args below meth c H locs cells slots Q (F0 m pc ls (.int (iI a) :: rest)) := lv_if_gt hx hb hdg ht (fun h => kt ((iI_lt i0ok ha).mp (by rw [iI_0] at h; exact h))) (fun h => kf (Int.not_lt.mp (fun z => h (by rw [iI_0]; exact (iI_lt i0ok ha).mpr z))))
theorem r_if_le (hx : p.tables.exec = Jvm.exec) (hb : c.code = cc) {a : Int} {off : Int} {tgt : Nat} (hdg : decode cc pc = .ok (.ifCond .le off, 3)) (ht : (pc : Int) + off = (tgt : Int)) (ha : I32 a) (kt : a ≤ 0 → W p l e R s m args below meth c H locs cells slots Q (F0 m tgt ls (rest))) (kf : 0 < a → W p l e R s m args below meth c H locs cells slots Q (F0 m (pc + 3) ls (rest))) : W p l e R s m args below meth c H locs cells slots Q (F0 m pc ls (.int (iI a) :: rest)) := lv_if_le hx hb hdg ht (fun h => kt ((iI_le ha i0ok).mp (by rw [iI_0] at h; exact h))) (fun h => kf (Int.not_le.mp (fun z => h (by rw [iI_0]; exact (iI_le ha i0ok).mpr z))))
theorem r_if_eq (hx : p.tables.exec = Jvm.exec) (hb : c.code = cc) {a : Int} {off : Int} {tgt : Nat} (hdg : decode cc pc = .ok (.ifCond .eq off, 3)) (ht : (pc : Int) + off = (tgt : Int)) (ha : I32 a) (kt : a = 0 → W p l e R s m args below meth c H locs cells slots Q (F0 m tgt ls (rest))) (kf : a ≠ 0 → W p l e R s m args below meth c H locs cells slots Q (F0 m (pc + 3) ls (rest))) : W p l e R s m args below meth c H locs cells slots Q (F0 m pc ls (.int (iI a) :: rest)) := lv_if_eq hx hb hdg ht (fun h => kt ((iI_eq ha i0ok).mp (by rw [iI_0] at h; exact h))) (fun h => kf (fun q => h (by rw [iI_0]; exact (iI_eq ha i0ok).mpr q)))
theorem r_if_ne (hx : p.tables.exec = Jvm.exec) (hb : c.code = cc) {a : Int} {off : Int} {tgt : Nat} (hdg : decode cc pc = .ok (.ifCond .ne off, 3)) (ht : (pc : Int) + off = (tgt : Int)) (ha : I32 a) (kt : a ≠ 0 → W p l e R s m args below meth c H locs cells slots Q (F0 m tgt ls (rest))) (kf : a = 0 → W p l e R s m args below meth c H locs cells slots Q (F0 m (pc + 3) ls (rest))) : W p l e R s m args below meth c H locs cells slots Q (F0 m pc ls (.int (iI a) :: rest)) := lv_if_ne hx hb hdg ht (fun h => kt (fun q => h (by rw [iI_0]; exact (iI_eq ha i0ok).mpr q))) (fun h => kf ((iI_eq ha i0ok).mp (by rw [iI_0] at h; exact h)))
theorem r_ifB_eq (hx : p.tables.exec = Jvm.exec) (hb : c.code = cc) {P : Prop} {dP : Decidable P} {off : Int} {tgt : Nat} (hdg : decode cc pc = .ok (.ifCond .eq off, 3)) (ht : (pc : Int) + off = (tgt : Int)) (kt : ¬ P → W p l e R s m args below meth c H locs cells slots Q (F0 m tgt ls (rest))) (kf : P → W p l e R s m args below meth c H locs cells slots Q (F0 m (pc + 3) ls (rest))) : W p l e R s m args below meth c H locs cells slots Q (F0 m pc ls (.int (iI (bI P)) :: rest)) := r_if_eq hx hb hdg ht ((bI_01 P).elim (fun q => by omega) (fun q => by omega)) (fun h => kt ((bI_01 P).elim (fun q => absurd h (by omega)) (fun q => q.2))) (fun h => kf ((bI_01 P).elim (fun q => q.2) (fun q => absurd q.1 h)))
theorem r_ifB_ne (hx : p.tables.exec = Jvm.exec) (hb : c.code = cc) {P : Prop} {dP : Decidable P} {off : Int} {tgt : Nat} (hdg : decode cc pc = .ok (.ifCond .ne off, 3)) (ht : (pc : Int) + off = (tgt : Int)) (kt : P → W p l e R s m args below meth c H locs cells slots Q (F0 m tgt ls (rest))) (kf : ¬ P → W p l e R s m args below meth c H locs cells slots Q (F0 m (pc + 3) ls (rest))) : W p l e R s m args below meth c H locs cells slots Q (F0 m pc ls (.int (iI (bI P)) :: rest)) := r_if_ne hx hb hdg ht ((bI_01 P).elim (fun q => by omega) (fun q => by omega)) (fun h => kt ((bI_01 P).elim (fun q => q.2) (fun q => absurd q.1 h))) (fun h => kf ((bI_01 P).elim (fun q => absurd h (by omega)) (fun q => q.2)))
theorem r_iinc (hx : p.tables.exec = Jvm.exec) (hb : c.code = cc) {i nL k : Nat} {n : Int} {a b : Int} {lv lv2 : List (Nat × Value)} (hdg : decode cc pc = .ok (.iinc i n, 3)) (h : lv_has ls nL lv) (hk : lv[k]? = some (i, .int (iI a))) (hv : a + n = b) (hn : i < nL) (hl : (i, Value.int (iI b)) :: lv.filter (fun q => !(q.1 == i) && !(q.1 + 1 == i && q.2.category == 2)) = lv2) (kk : ∀ ls2 : Array Slot, lv_has ls2 nL lv2 → W p l e R s m args below meth c H locs cells slots Q (F0 m (pc + 3) ls2 (rest))) : W p l e R s m args below meth c H locs cells slots Q (F0 m pc ls (rest)) := lv_iinc (v := iI b) hx hb hdg h hk (by rw [← hv]; exact iI_add a n) hn hl kk
theorem r_shl (hx : p.tables.exec = Jvm.exec) (hb : c.code = cc) {w : Int} (hdg : decode cc pc = .ok (.ishl, 1)) (hw : 0 ≤ w ∧ w < 8) (k : W p l e R s m args below meth c H locs cells slots Q (F0 m (pc + 1) ls (.int (iI (pwZ w)) :: rest))) : W p l e R s m args below meth c H locs cells slots Q (F0 m pc ls (.int (iI w) :: .int (iI 1) :: rest)) := lv_ishl hx hb hdg (by rw [iI_shl hw]; exact k)
theorem r_bitand (hx : p.tables.exec = Jvm.exec) (hb : c.code = cc) {m0 w : Int} (hdg : decode cc pc = .ok (.iand, 1)) (hm : 0 ≤ m0 ∧ m0 < 256) (hw : 0 ≤ w ∧ w < 8) (k : W p l e R s m args below meth c H locs cells slots Q (F0 m (pc + 1) ls (.int (iI (bitZ m0 w)) :: rest))) : W p l e R s m args below meth c H locs cells slots Q (F0 m pc ls (.int (iI (pwZ w)) :: .int (iI m0) :: rest)) := lv_iand hx hb hdg (by rw [iI_and hm hw]; exact k)
theorem r_bitor (hx : p.tables.exec = Jvm.exec) (hb : c.code = cc) {m0 w : Int} (hdg : decode cc pc = .ok (.ior, 1)) (hm : 0 ≤ m0 ∧ m0 < 256) (hw : 0 ≤ w ∧ w < 8) (k : W p l e R s m args below meth c H locs cells slots Q (F0 m (pc + 1) ls (.int (iI (orZ m0 w)) :: rest))) : W p l e R s m args below meth c H locs cells slots Q (F0 m pc ls (.int (iI (pwZ w)) :: .int (iI m0) :: rest)) := lv_ior hx hb hdg (by rw [iI_or hm hw]; exact k)
variable {D : va_G} {cl : List vw_C} {ws : va_W} {tys : List (ClassId × FieldType)} {a : Nat} {A : Nat → Prop} {H0 : Heap}
theorem r_iald (hx : p.tables.exec = Jvm.exec) (hb : c.code = cc) (hK : va_K D cl tys s) (hP : va_P D cl ws H) (q0 t0 : Nat) {cA : ClassId} {n : Nat} {f : Int → Int} (ha : ws[q0]? = some (a, .inl (cA, n, .inl (aI f)))) (ht : tys[t0]? = some (cA, .int)) {i : Int} (hn : n ≤ 2147483647) (hin : 0 ≤ i ∧ i < (n : Int)) (hdg : decode cc pc = .ok (.iaload, 1)) (k : W p l e R s m args below meth c H locs cells slots Q (F0 m (pc + 1) ls (.int (iI (f i)) :: rest))) : W p l e R s m args below meth c H locs cells slots Q (F0 m pc ls (.int (iI i) :: .ref a :: rest)) := va_iald hx hb hK hP q0 t0 ha ht (iI_in hin hn) hdg (by rw [aI_at f (by omega)]; exact k)
theorem r_iast (hx : p.tables.exec = Jvm.exec) (hb : c.code = cc) (hK : va_K D cl tys s) (hP : va_P D cl ws H) (hD : va_D A ws) (hS : va_S A H0 H locs) (q0 t0 : Nat) {cA : ClassId} {n : Nat} {f : Int → Int} (ha : ws[q0]? = some (a, .inl (cA, n, .inl (aI f)))) (ht : tys[t0]? = some (cA, .int)) {i v : Int} (hn : n ≤ 2147483647) (hin : 0 ≤ i ∧ i < (n : Int)) (hdg : decode cc pc = .ok (.iastore, 1)) (kk : ∀ (H1 : Heap) (locs1 : List Loc), va_P D cl (ws.set q0 (a, .inl (cA, n, .inl (aI (up f i v))))) H1 → va_D A (ws.set q0 (a, .inl (cA, n, .inl (aI (up f i v))))) → va_S A H0 H1 locs1 → W p l e R s m args below meth c H1 locs1 cells slots Q (F0 m (pc + 1) ls (rest))) : W p l e R s m args below meth c H locs cells slots Q (F0 m pc ls (.int (iI v) :: .int (iI i) :: .ref a :: rest)) := va_iast hx hb hK hP hD hS q0 t0 ha ht (iI_in hin hn) hdg (by rw [aI_up f (by omega)]; exact kk)
theorem iI_mmax {a b : Int} (ha : I32 a) (hq : I32 b) : (if iI a < iI b then iI b else iI a) = iI (mxZ a b) := by
  unfold mxZ
  by_cases h : a < b
  · rw [if_pos h, if_pos ((iI_lt ha hq).mpr h)]
  · rw [if_neg h, if_neg (fun q => h ((iI_lt ha hq).mp q))]
theorem r_mmax (hx : p.tables.exec = Jvm.exec) (hb : c.code = cc) (hml : c.maxLocals = ls.size) {own : String} {index : Nat} (hown : s.vm.findClass own = some m.cls) (hlink : (Cond.methodLink own index Lib.Math.max.name).before args s = true) (hstat : (Cond.static Lib.Math.max.name).before args s = true) (hini : (Cond.initialized "java/lang/Math").before args s = true) (hcode : (Cond.code Lib.Math.max.name Lib.Math.max.code 2 (some .int)).before args s = true) (hframes : 1 ≤ R.frames) (hlocals : (rest.map fun v => v.category).sum + 13 ≤ R.locals) (hc : cells ≤ R.cells) (hs : slots ≤ R.slots) {a b : Int} (ha : I32 a) (hq : I32 b) (hdg : decode cc pc = .ok (.invokestatic index, 3)) (k : W p l e R s m args below meth c H locs cells slots Q (F0 m (pc + 3) ls (.int (iI (mxZ a b)) :: rest))) : W p l e R s m args below meth c H locs cells slots Q (F0 m pc ls (.int (iI b) :: .int (iI a) :: rest)) := va_mmax hx hb hml hown hlink hstat hini hcode hframes hlocals hc hs hdg (by rw [iI_mmax ha hq]; exact k)
theorem iI_mmin {a b : Int} (ha : I32 a) (hq : I32 b) : (if iI b < iI a then iI b else iI a) = iI (mnZ a b) := by
  unfold mnZ
  by_cases h : b < a
  · rw [if_pos h, if_pos ((iI_lt hq ha).mpr h)]
  · rw [if_neg h, if_neg (fun q => h ((iI_lt hq ha).mp q))]
theorem r_mmin (hx : p.tables.exec = Jvm.exec) (hb : c.code = cc) (hml : c.maxLocals = ls.size) {own : String} {index : Nat} (hown : s.vm.findClass own = some m.cls) (hlink : (Cond.methodLink own index Lib.Math.min.name).before args s = true) (hstat : (Cond.static Lib.Math.min.name).before args s = true) (hini : (Cond.initialized "java/lang/Math").before args s = true) (hcode : (Cond.code Lib.Math.min.name Lib.Math.min.code 2 (some .int)).before args s = true) (hframes : 1 ≤ R.frames) (hlocals : (rest.map fun v => v.category).sum + 13 ≤ R.locals) (hc : cells ≤ R.cells) (hs : slots ≤ R.slots) {a b : Int} (ha : I32 a) (hq : I32 b) (hdg : decode cc pc = .ok (.invokestatic index, 3)) (k : W p l e R s m args below meth c H locs cells slots Q (F0 m (pc + 3) ls (.int (iI (mnZ a b)) :: rest))) : W p l e R s m args below meth c H locs cells slots Q (F0 m pc ls (.int (iI b) :: .int (iI a) :: rest)) := va_mmin hx hb hml hown hlink hstat hini hcode hframes hlocals hc hs hdg (by rw [iI_mmin ha hq]; exact k)
theorem iI_mabs {a : Int} (ha : I32 a) : (if 0 ≤ iI a then iI a else 0 - iI a) = iI (abZ a) := by
  unfold abZ
  rw [iI_0]
  by_cases h : 0 ≤ a
  · rw [if_pos h, if_pos ((iI_le i0ok ha).mpr h)]
  · rw [if_neg h, if_neg (fun q => h ((iI_le i0ok ha).mp q)), iI_sub, Int.zero_sub]
theorem r_mabs (hx : p.tables.exec = Jvm.exec) (hb : c.code = cc) (hml : c.maxLocals = ls.size) {own : String} {index : Nat} (hown : s.vm.findClass own = some m.cls) (hlink : (Cond.methodLink own index Lib.Math.abs.name).before args s = true) (hstat : (Cond.static Lib.Math.abs.name).before args s = true) (hini : (Cond.initialized "java/lang/Math").before args s = true) (hcode : (Cond.code Lib.Math.abs.name Lib.Math.abs.code 1 (some .int)).before args s = true) (hframes : 1 ≤ R.frames) (hlocals : (rest.map fun v => v.category).sum + 13 ≤ R.locals) (hc : cells ≤ R.cells) (hs : slots ≤ R.slots) {a : Int} (ha : I32 a) (hdg : decode cc pc = .ok (.invokestatic index, 3)) (k : W p l e R s m args below meth c H locs cells slots Q (F0 m (pc + 3) ls (.int (iI (abZ a)) :: rest))) : W p l e R s m args below meth c H locs cells slots Q (F0 m pc ls (.int (iI a) :: rest)) := va_mabs hx hb hml hown hlink hstat hini hcode hframes hlocals hc hs hdg (by rw [iI_mabs ha]; exact k)
theorem r_calli {ar : Array Value} {st0 : List Value} {v : Int} (hr : va_Run p l e R s m args below meth c H locs cells slots 0 0 (F0 m pc ls st0) rest (vp_Si (fun r => r = iI v) ar) (fun _ => False)) (k : W p l e R s m args below meth c H locs cells slots Q (F0 m (pc + 3) ls (.int (iI v) :: rest))) : W p l e R s m args below meth c H locs cells slots Q (F0 m pc ls (st0)) := by
  intro T hT X
  obtain ⟨v1, st₀, t, T1, L, h0, X1, hL, e1, e2, ⟨r, hv, hp, hh⟩, st⟩ := hr T hT X
  cases hv
  subst hp
  have hL0 : L = [] := List.eq_nil_iff_forall_not_mem.mpr hL
  subst hL0
  rw [List.append_nil] at X1
  obtain ⟨t2, a1, b1⟩ := k T1 (by rw [e1, hh, h0]) X1
  exact ⟨t2, st t2 a1, b1⟩
theorem r_calll {ar : Array Value} {st0 : List Value} {v : Int} (hr : va_Run p l e R s m args below meth c H locs cells slots 0 0 (F0 m pc ls st0) rest (vp_Sl (fun r => r = jI v) ar) (fun _ => False)) (k : W p l e R s m args below meth c H locs cells slots Q (F0 m (pc + 3) ls (.long (jI v) :: rest))) : W p l e R s m args below meth c H locs cells slots Q (F0 m pc ls (st0)) := by
  intro T hT X
  obtain ⟨v1, st₀, t, T1, L, h0, X1, hL, e1, e2, ⟨r, hv, hp, hh⟩, st⟩ := hr T hT X
  cases hv
  subst hp
  have hL0 : L = [] := List.eq_nil_iff_forall_not_mem.mpr hL
  subst hL0
  rw [List.append_nil] at X1
  obtain ⟨t2, a1, b1⟩ := k T1 (by rw [e1, hh, h0]) X1
  exact ⟨t2, st t2 a1, b1⟩
end RB
theorem zn_1 : narrow .boolean (.int (iI 1)) = .int (iI 1) := by decide +kernel
theorem zn_0 : narrow .boolean (.int (iI 0)) = .int (iI 0) := by decide +kernel
theorem zn_b (P : Prop) {dP : Decidable P} : narrow .boolean (.int (iI (bI P))) = .int (iI (bI P)) := by
  rcases bI_01 P with h | h <;> rw [h.1]
  · exact zn_1
  · exact zn_0
end
section
/-! WORLDS: the cells of a Lamps (wL), a Noise (wN), the class (wP), the reference (wM); an array is aI of a function on whole numbers; B 100, A 100, M 100 are the objects, B k, A k, M k the arrays of field k -/
abbrev vwCl : List vw_C := [(RX0, TX0, 4), (RX1, TX1, 19), (RX2, TX2, 2), (RX3, TX3, 17)]
def wL (cy : ClassId) (B : Nat → Nat) (τ : Nat → Int → Int) : va_W := [(B 100, .inr (0, [.ref (B 0), .ref (B 1), .ref (B 2), .int (iI (τ 3 0))])), (B 0, .inl (cy, 31, .inl (aI (τ 0)))), (B 1, .inl (cy, 24, .inl (aI (τ 1)))), (B 2, .inl (cy, 501, .inl (aI (τ 2))))]
def wN (cy : ClassId) (A : Nat → Nat) (σ : Nat → Int → Int) : va_W := [(A 100, .inr (1, [.int (iI (σ 0 0)), .ref (A 1), .ref (A 2), .ref (A 3), .int (iI (σ 4 0)), .ref (A 5), .ref (A 6), .ref (A 7), .int (iI (σ 8 0)), .ref (A 9), .ref (A 10), .ref (A 11), .ref (A 12), .ref (A 13), .int (iI (σ 14 0)), .ref (A 15), .ref (A 16), .ref (A 17), .ref (A 18)])), (A 1, .inl (cy, 12, .inl (aI (σ 1)))), (A 2, .inl (cy, 12, .inl (aI (σ 2)))), (A 3, .inl (cy, 36, .inl (aI (σ 3)))), (A 5, .inl (cy, 20, .inl (aI (σ 5)))), (A 6, .inl (cy, 20, .inl (aI (σ 6)))), (A 7, .inl (cy, 20, .inl (aI (σ 7)))), (A 9, .inl (cy, 8, .inl (aI (σ 9)))), (A 10, .inl (cy, 8, .inl (aI (σ 10)))), (A 11, .inl (cy, 8, .inl (aI (σ 11)))), (A 12, .inl (cy, 8, .inl (aI (σ 12)))), (A 13, .inl (cy, 8, .inl (aI (σ 13)))), (A 15, .inl (cy, 3, .inl (aI (σ 15)))), (A 16, .inl (cy, 240, .inl (aI (σ 16)))), (A 17, .inl (cy, 240, .inl (aI (σ 17)))), (A 18, .inl (cy, 20, .inl (aI (σ 18))))]
def wM (cy : ClassId) (M : Nat → Nat) (μ : Nat → Int → Int) : va_W := [(M 100, .inr (3, [.int (iI (μ 0 0)), .ref (M 1), .ref (M 2), .ref (M 3), .int (iI (μ 4 0)), .ref (M 5), .ref (M 6), .ref (M 7), .int (iI (μ 8 0)), .ref (M 9), .ref (M 10), .int (iI (μ 11 0)), .ref (M 12), .ref (M 13), .int (iI (μ 14 0)), .ref (M 15), .ref (M 16)])), (M 1, .inl (cy, 12, .inl (aI (μ 1)))), (M 2, .inl (cy, 12, .inl (aI (μ 2)))), (M 3, .inl (cy, 36, .inl (aI (μ 3)))), (M 5, .inl (cy, 20, .inl (aI (μ 5)))), (M 6, .inl (cy, 20, .inl (aI (μ 6)))), (M 7, .inl (cy, 20, .inl (aI (μ 7)))), (M 9, .inl (cy, 32, .inl (aI (μ 9)))), (M 10, .inl (cy, 8, .inl (aI (μ 10)))), (M 12, .inl (cy, 3, .inl (aI (μ 12)))), (M 13, .inl (cy, 31, .inl (aI (μ 13)))), (M 15, .inl (cy, 24, .inl (aI (μ 15)))), (M 16, .inl (cy, 20, .inl (aI (μ 16))))]
def wX (x : Nat) (A B : Nat → Nat) : va_W := [(x, .inr (2, [.ref (A 100), .ref (B 100)]))]
def wP (cy : ClassId) (x : Nat) (A B : Nat → Nat) (σ τ : Nat → Int → Int) : va_W := wX x A B ++ (wN cy A σ ++ wL cy B τ)
abbrev roB (D : va_G) (cy : ClassId) (ws : va_W) : State → Prop := fun U => va_P D vwCl ws U.heap ∧ va_K D vwCl [(cy, .int)] U
abbrev rwB (D : va_G) (cy : ClassId) (ws : va_W) (sz : Nat) : State → Prop := fun U => U.heap.size = sz ∧ va_P D vwCl ws U.heap ∧ va_K D vwCl [(cy, .int)] U ∧ va_D (fun _ => True) ws
/-- a contract that changes nothing and answers v -/
abbrev MetS (l : Launch) (y : MethodName) (ws : List Cond) (rm : Room) (av : List Value) (v : Int) : Prop := Met l y ws rm (va_Pc av (fun _ => True)) (vp_Si (fun r => r = iI v)) 0 0 (fun _ => False)
abbrev MetR (l : Launch) (y : MethodName) (ws : List Cond) (rm : Room) (D : va_G) (cy : ClassId) (w : va_W) (av : List Value) (v : Int) : Prop := Met l y ws rm (va_Pc av (roB D cy w)) (vp_Si (fun r => r = iI v)) 0 0 (fun _ => False)
abbrev MetRl (l : Launch) (y : MethodName) (ws : List Cond) (rm : Room) (D : va_G) (cy : ClassId) (w : va_W) (av : List Value) (v : Int) : Prop := Met l y ws rm (va_Pc av (roB D cy w)) (vp_Sl (fun r => r = jI v)) 0 0 (fun _ => False)
/-- a contract that answers v, and brings the world to some w2 u with post u -/
abbrev MetM (l : Launch) (y : MethodName) (ws : List Cond) (rm : Room) (D : va_G) (cy : ClassId) (w : va_W) (av : List Value) (sz : Nat) {S : Type} (v : S → Int) (post : S → Prop) (w2 : S → va_W) : Prop := Met l y ws rm (va_Pc av (rwB D cy w sz)) (va_Qi (fun r u => r = iI (v u) ∧ post u) (fun u t => va_P D vwCl (w2 u) t.heap) (va_A w sz)) 0 0 (va_A w sz)
abbrev MetV (l : Launch) (y : MethodName) (ws : List Cond) (rm : Room) (D : va_G) (cy : ClassId) (w : va_W) (av : List Value) (sz : Nat) {S : Type} (post : S → Prop) (w2 : S → va_W) : Prop := Met l y ws rm (va_Pc av (rwB D cy w sz)) (va_Qv post (fun u t => va_P D vwCl (w2 u) t.heap) (va_A w sz)) 0 0 (va_A w sz)
theorem fb_T {av : List Value} : FrameBlind (va_Pc av (fun _ => True)) := fun _ _ _ _ q => q
theorem fb_ro {av : List Value} {D : va_G} {cy : ClassId} {ws : va_W} : FrameBlind (va_Pc av (roB D cy ws)) := fun a U g mk q => ⟨q.1, q.2.1, va_K.moved (u := U) (U := U.calling g mk a) (Vm.Alike.refl U.vm) q.2.2⟩
theorem fb_rw {av : List Value} {D : va_G} {cy : ClassId} {ws : va_W} {sz : Nat} : FrameBlind (va_Pc av (rwB D cy ws sz)) := fun a U g mk q => ⟨q.1, q.2.1, q.2.2.1, va_K.moved (u := U) (U := U.calling g mk a) (Vm.Alike.refl U.vm) q.2.2.2.1, q.2.2.2.2⟩
theorem ps_T {s : State} {H : Heap} {av : List Value} : PreS s H (va_Pc av (fun _ => True)) av := ⟨fb_T, fun _ _ _ => ⟨rfl, trivial⟩⟩
theorem pv_ro {s : State} {H : Heap} {D : va_G} {cy : ClassId} {ws : va_W} {As : List Value} {C : String} {T : u_T} {N ci q0 b : Nat} {fs : List Value} (hP : va_P D vwCl ws H) (hK : va_K D vwCl [(cy, .int)] s) (hc : vwCl[ci]? = some (C, T, N)) (he : ws[q0]? = some (b, .inr (ci, fs))) : PreV s H C b (va_Pc (.ref b :: As) (roB D cy ws)) As :=
  ⟨fb_ro, va_recv hK hP hc he, fun U hU hW => ⟨rfl, by rw [hU]; exact hP, va_K.moved hW.alike hK⟩⟩
theorem pv_rw {s : State} {H : Heap} {D : va_G} {cy : ClassId} {ws : va_W} {A : Nat → Prop} {As : List Value} {C : String} {T : u_T} {N ci q0 b : Nat} {fs : List Value} (hP : va_P D vwCl ws H) (hK : va_K D vwCl [(cy, .int)] s) (hD : va_D A ws) (hc : vwCl[ci]? = some (C, T, N)) (he : ws[q0]? = some (b, .inr (ci, fs))) : PreV s H C b (va_Pc (.ref b :: As) (rwB D cy ws H.size)) As :=
  ⟨fb_rw, va_recv hK hP hc he, fun U hU hW => ⟨rfl, by rw [hU], by rw [hU]; exact hP, va_K.moved hW.alike hK, hD.weaken (fun _ _ _ _ => trivial)⟩⟩
theorem vpL {D : va_G} {cl : List vw_C} {a b : va_W} {H : Heap} (h : va_P D cl (a ++ b) H) : va_P D cl a H := fun k q hk => h k q (by rw [List.getElem?_append_left (List.getElem?_eq_some_iff.mp hk).1]; exact hk)
theorem vpR {D : va_G} {cl : List vw_C} {a b : va_W} {H : Heap} (h : va_P D cl (a ++ b) H) : va_P D cl b H := fun k q hk => h (a.length + k) q (by rw [List.getElem?_append_right (by omega), Nat.add_sub_cancel_left]; exact hk)
theorem vdL {A : Nat → Prop} {a b : va_W} (h : va_D A (a ++ b)) : va_D A a := by
  have key : ∀ (k : Nat) (q : Nat × va_E), a[k]? = some q → (a ++ b)[k]? = some q := fun k q hk => by rw [List.getElem?_append_left (List.getElem?_eq_some_iff.mp hk).1]; exact hk
  exact ⟨fun i j p q hi hj e => h.1 i j p q (key i p hi) (key j q hj) e, fun k q hk => h.2 k q (key k q hk)⟩
theorem vdR {A : Nat → Prop} {a b : va_W} (h : va_D A (a ++ b)) : va_D A b := by
  have key : ∀ (k : Nat) (q : Nat × va_E), b[k]? = some q → (a ++ b)[a.length + k]? = some q := fun k q hk => by rw [List.getElem?_append_right (by omega), Nat.add_sub_cancel_left]; exact hk
  exact ⟨fun i j p q hi hj e => by have := h.1 _ _ p q (key i p hi) (key j q hj) e; omega, fun k q hk => h.2 _ q (key k q hk)⟩
/-- only the addresses count -/
theorem vdA {A : Nat → Prop} {a b : va_W} (h : va_D A a) (hf : b.map Prod.fst = a.map Prod.fst) : va_D A b := by
  have key : ∀ (k : Nat) (q : Nat × va_E), b[k]? = some q → ∃ q0, a[k]? = some q0 ∧ q0.1 = q.1 := by
    intro k q hk
    have h1 : (b.map Prod.fst)[k]? = some q.1 := by rw [List.getElem?_map, hk]; rfl
    rw [hf, List.getElem?_map] at h1
    cases ha : a[k]? with
    | none => rw [ha] at h1; cases h1
    | some q0 => rw [ha] at h1; exact ⟨q0, rfl, Option.some.inj h1⟩
  refine ⟨fun i j p q hi hj e => ?_, fun k q hk => ?_⟩
  · obtain ⟨p0, h1, h2⟩ := key i p hi
    obtain ⟨q0, h3, h4⟩ := key j q hj
    exact h.1 i j p0 q0 h1 h3 (h2.trans (e.trans h4.symm))
  · obtain ⟨q0, h1, h2⟩ := key k q hk
    rw [← h2]
    exact h.2 k q0 h1
theorem va_out {A0 : Nat → Prop} {ws wc : va_W} {H0 H : Heap} {locs : List Loc} (hD : va_D A0 wc) (hS : va_S A0 H0 H locs) (hA : ∀ q, H0.size ≤ q → A0 q) : ∀ q, va_A wc H.size q → A0 q := by
  intro q h
  rcases h with ⟨k, e, h⟩ | h
  · exact hD.2 k (q, e) h
  · exact hA q (Nat.le_trans hS.1 h)
/-- the cells beside the callee's stay -/
theorem fr_mid {D : va_G} {cl : List vw_C} {A0 : Nat → Prop} {w1 wc w2 wd : va_W} {H H1 : Heap} (hP : va_P D cl (w1 ++ (wc ++ w2)) H) (hD : va_D A0 (w1 ++ (wc ++ w2))) (hk : ∀ q : Nat, q < H.size → ¬ va_A wc H.size q → H1[q]? = H[q]?) (hP1 : va_P D cl wd H1) : va_P D cl (w1 ++ (wd ++ w2)) H1 := by
  have hat : ∀ (j : Nat) (q : Nat × va_E), wc[j]? = some q → (w1 ++ (wc ++ w2))[w1.length + j]? = some q := fun j q h => by
    rw [List.getElem?_append_right (by omega), Nat.add_sub_cancel_left, List.getElem?_append_left (List.getElem?_eq_some_iff.mp h).1]; exact h
  refine va_P.app (fun k q hq => ?_) (va_P.app hP1 (fun k q hq => ?_))
  · have hq2 : (w1 ++ (wc ++ w2))[k]? = some q := by rw [List.getElem?_append_left (List.getElem?_eq_some_iff.mp hq).1]; exact hq
    have hlt := (hP k q hq2).lt
    refine (hP k q hq2).kept (hk q.1 hlt (fun h => ?_))
    rcases h with ⟨j, e, h⟩ | h
    · have := hD.1 k _ q (q.1, e) hq2 (hat j _ h) rfl
      have := (List.getElem?_eq_some_iff.mp hq).1
      omega
    · omega
  · have hq2 : (w1 ++ (wc ++ w2))[w1.length + (wc.length + k)]? = some q := by
      rw [List.getElem?_append_right (by omega), Nat.add_sub_cancel_left, List.getElem?_append_right (by omega), Nat.add_sub_cancel_left]; exact hq
    have hlt := (hP _ q hq2).lt
    refine (hP _ q hq2).kept (hk q.1 hlt (fun h => ?_))
    rcases h with ⟨j, e, h⟩ | h
    · have := hD.1 _ _ q (q.1, e) hq2 (hat j _ h) rfl
      have := (List.getElem?_eq_some_iff.mp h).1
      omega
    · omega
section MW
variable {l : Launch} {y : MethodName} {ws ws0 : List Cond} {rm : Room} {cc : ByteArray} {maxL : Nat} {ret : Option FieldType} {av : List Value} {D : va_G} {cy : ClassId} {w : va_W} {sz : Nat}
theorem met_T {Qc : Array Value → State → Outcome → State → Prop} {free : Addr → Prop} (hy : plainName y.cls = true) (hw : ws = Cond.code y cc maxL ret :: ws0) (hn : (lg_sl av).length ≤ maxL)
    (body : ∀ (p : Program) (e : Env) (s : State) (m : MethodId) (below : List Frame) (meth : Method) (c : Code), p.tables.exec = Jvm.exec → c.code = cc → meth.sig.returnType = ret → c.maxLocals = maxL → (∀ w ∈ ws, w.before av.toArray s = true) → s.vm.findClass y.cls = some m.cls → meth.locks = false → ∀ ls : Array Slot, lv_has ls maxL (lv_args 0 av) →
      W p l e rm s m av.toArray below meth c s.heap [] 0 0 (MQ below Qc av.toArray s 0 0 free) (F0 m 0 ls [])) : Met l y ws rm (va_Pc av (fun _ => True)) Qc 0 0 free := by
  refine Met.ofW hy hw ?_
  intro p e s m args below meth c s₁ Bd hml hv
  obtain ⟨rfl, -⟩ := hv
  rw [lg_entry_eq]
  exact body p e s m below meth c Bd.exec Bd.bytes Bd.returns hml (atoms_spec (ws := ws) Bd.pre) (findClass_of_methodNamed Bd.named) Bd.notSynchronized _ (lv_entry av hn)
theorem met_R {Qc : Array Value → State → Outcome → State → Prop} {free : Addr → Prop} (hy : plainName y.cls = true) (hw : ws = Cond.code y cc maxL ret :: ws0) (hn : (lg_sl av).length ≤ maxL)
    (body : ∀ (p : Program) (e : Env) (s : State) (m : MethodId) (below : List Frame) (meth : Method) (c : Code), p.tables.exec = Jvm.exec → c.code = cc → meth.sig.returnType = ret → c.maxLocals = maxL → (∀ w ∈ ws, w.before av.toArray s = true) → s.vm.findClass y.cls = some m.cls → meth.locks = false → va_P D vwCl w s.heap → va_K D vwCl [(cy, .int)] s → ∀ ls : Array Slot, lv_has ls maxL (lv_args 0 av) →
      W p l e rm s m av.toArray below meth c s.heap [] 0 0 (MQ below Qc av.toArray s 0 0 free) (F0 m 0 ls [])) : Met l y ws rm (va_Pc av (roB D cy w)) Qc 0 0 free := by
  refine Met.ofW hy hw ?_
  intro p e s m args below meth c s₁ Bd hml hv
  obtain ⟨rfl, hP, hK⟩ := hv
  rw [lg_entry_eq]
  exact body p e s m below meth c Bd.exec Bd.bytes Bd.returns hml (atoms_spec (ws := ws) Bd.pre) (findClass_of_methodNamed Bd.named) Bd.notSynchronized hP hK _ (lv_entry av hn)
theorem met_M {S : Type} {post : Int32 → S → Prop} {B : S → State → Prop} {mc ms : Nat} (hy : plainName y.cls = true) (hw : ws = Cond.code y cc maxL ret :: ws0) (hn : (lg_sl av).length ≤ maxL)
    (body : ∀ (p : Program) (e : Env) (s : State) (m : MethodId) (below : List Frame) (meth : Method) (c : Code) (A : Nat → Prop), A = va_A w s.heap.size → p.tables.exec = Jvm.exec → c.code = cc → meth.sig.returnType = ret → c.maxLocals = maxL → (∀ w ∈ ws, w.before av.toArray s = true) → s.vm.findClass y.cls = some m.cls → meth.locks = false → va_P D vwCl w s.heap → va_K D vwCl [(cy, .int)] s → va_D A w → (∀ q, s.heap.size ≤ q → A q) → ∀ ls : Array Slot, lv_has ls maxL (lv_args 0 av) →
      W p l e rm s m av.toArray below meth c s.heap [] 0 0 (MQ below (va_Qi post B A) av.toArray s mc ms A) (F0 m 0 ls [])) : Met l y ws rm (va_Pc av (rwB D cy w sz)) (va_Qi post B (va_A w sz)) mc ms (va_A w sz) := by
  refine Met.ofW hy hw ?_
  intro p e s m args below meth c s₁ Bd hml hv
  obtain ⟨rfl, rfl, hP, hK, hD⟩ := hv
  rw [lg_entry_eq]
  exact body p e s m below meth c _ rfl Bd.exec Bd.bytes Bd.returns hml (atoms_spec (ws := ws) Bd.pre) (findClass_of_methodNamed Bd.named) Bd.notSynchronized hP hK hD.self (fun q h => Or.inr h) _ (lv_entry av hn)
theorem met_V {S : Type} {post : S → Prop} {B : S → State → Prop} {mc ms : Nat} (hy : plainName y.cls = true) (hw : ws = Cond.code y cc maxL ret :: ws0) (hn : (lg_sl av).length ≤ maxL)
    (body : ∀ (p : Program) (e : Env) (s : State) (m : MethodId) (below : List Frame) (meth : Method) (c : Code) (A : Nat → Prop), A = va_A w s.heap.size → p.tables.exec = Jvm.exec → c.code = cc → meth.sig.returnType = ret → c.maxLocals = maxL → (∀ w ∈ ws, w.before av.toArray s = true) → s.vm.findClass y.cls = some m.cls → meth.name = y.name → meth.locks = false → va_P D vwCl w s.heap → va_K D vwCl [(cy, .int)] s → va_D A w → (∀ q, s.heap.size ≤ q → A q) → ∀ ls : Array Slot, lv_has ls maxL (lv_args 0 av) →
      W p l e rm s m av.toArray below meth c s.heap [] 0 0 (MQ below (va_Qv post B A) av.toArray s mc ms A) (F0 m 0 ls [])) : Met l y ws rm (va_Pc av (rwB D cy w sz)) (va_Qv post B (va_A w sz)) mc ms (va_A w sz) := by
  refine Met.ofW hy hw ?_
  intro p e s m args below meth c s₁ Bd hml hv
  obtain ⟨rfl, rfl, hP, hK, hD⟩ := hv
  rw [lg_entry_eq]
  exact body p e s m below meth c _ rfl Bd.exec Bd.bytes Bd.returns hml (atoms_spec (ws := ws) Bd.pre) (findClass_of_methodNamed Bd.named) (name_of_methodNamed Bd.named Bd.method).1 Bd.notSynchronized hP hK hD.self (fun q h => Or.inr h) _ (lv_entry av hn)
end MW
section MR
variable {p : Program} {l : Launch} {e : Env} {R : Room} {s : State} {m : MethodId} {args : Array Value} {below : List Frame} {meth : Method} {c : Code} {H : Heap} {locs : List Loc} {cells slots : Nat} {Q : State → Prop} {cc : ByteArray} {pc : Nat} {ls : Array Slot} {rest : List Value}
/-- returns -/
theorem r_ret {v ev : Int} (hx : p.tables.exec = Jvm.exec) (hb : c.code = cc) (hr : meth.sig.returnType = some .int) (hlocks : meth.locks = false) (hdg : decode cc pc = .ok (.ireturn, 1)) (he : ev = v) : W p l e R s m args below meth c s.heap [] cells slots (MQ below (vp_Si (fun r => r = iI v)) args s cells slots (fun _ => False)) (F0 m pc ls [.int (iI ev)]) :=
  W.iret hx hb hr (fun t ht _ => ⟨iI ev, rfl, by rw [he], ht⟩) (fun q hq => absurd hq List.not_mem_nil) hdg hlocks
theorem r_retZ {v ev : Int} (hx : p.tables.exec = Jvm.exec) (hb : c.code = cc) (hr : meth.sig.returnType = some .boolean) (hlocks : meth.locks = false) (hdg : decode cc pc = .ok (.ireturn, 1)) (hz : narrow .boolean (.int (iI ev)) = .int (iI ev)) (he : ev = v) : W p l e R s m args below meth c s.heap [] cells slots (MQ below (vp_Si (fun r => r = iI v)) args s cells slots (fun _ => False)) (F0 m pc ls [.int (iI ev)]) :=
  W.zret hx hb hr hz (fun t ht _ => ⟨iI ev, rfl, by rw [he], ht⟩) (fun q hq => absurd hq List.not_mem_nil) hdg hlocks
theorem r_retL {v ev : Int} (hx : p.tables.exec = Jvm.exec) (hb : c.code = cc) (hr : meth.sig.returnType = some .long) (hlocks : meth.locks = false) (hdg : decode cc pc = .ok (.lreturn, 1)) (he : ev = v) : W p l e R s m args below meth c s.heap [] cells slots (MQ below (vp_Sl (fun r => r = jI v)) args s cells slots (fun _ => False)) (F0 m pc ls [.long (jI ev)]) :=
  W.lret hx hb hr (fun t ht _ => ⟨jI ev, rfl, by rw [he], ht⟩) (fun q hq => absurd hq List.not_mem_nil) hdg hlocks
theorem r_retM {S : Type} {v : S → Int} {post : S → Prop} {w2 : S → va_W} {D : va_G} {A : Nat → Prop} {ev : Int} (u : S) (hx : p.tables.exec = Jvm.exec) (hb : c.code = cc) (hr : meth.sig.returnType = some .int) (hlocks : meth.locks = false) (hS : va_S A s.heap H locs) (hdg : decode cc pc = .ok (.ireturn, 1)) (he : ev = v u) (hp : post u) (hP : va_P D vwCl (w2 u) H) : W p l e R s m args below meth c H locs cells slots (MQ below (va_Qi (fun r u => r = iI (v u) ∧ post u) (fun u t => va_P D vwCl (w2 u) t.heap) A) args s cells slots A) (F0 m pc ls [.int (iI ev)]) :=
  W.iret hx hb hr (fun t ht _ => ⟨⟨iI ev, u, rfl, ⟨by rw [he], hp⟩, by show va_P D vwCl (w2 u) t.heap; rw [ht]; exact hP⟩, hS.F ht⟩) hS.2.2 hdg hlocks
theorem r_retV {S : Type} {post : S → Prop} {w2 : S → va_W} {D : va_G} {A : Nat → Prop} (u : S) (hx : p.tables.exec = Jvm.exec) (hb : c.code = cc) (hr : meth.sig.returnType = none) (hlocks : meth.locks = false) (hS : va_S A s.heap H locs) (hdg : decode cc pc = .ok (.return_, 1)) (hp : post u) (hP : va_P D vwCl (w2 u) H) : W p l e R s m args below meth c H locs cells slots (MQ below (va_Qv post (fun u t => va_P D vwCl (w2 u) t.heap) A) args s cells slots A) (F0 m pc ls []) :=
  W.vret hx hb hr (fun t ht _ => ⟨⟨u, rfl, hp, by show va_P D vwCl (w2 u) t.heap; rw [ht]; exact hP⟩, hS.F ht⟩) hS.2.2 hdg hlocks
variable {ar : Array Value} {st0 : List Value} {D : va_G} {A0 : Nat → Prop} {H0 : Heap}
/-- calls that change a world: the callee's cells wc among w1 ++ (wc ++ w2) -/
theorem r_callM {S : Type} {v : S → Int} {post : S → Prop} {wd : S → va_W} {w1 wc w2 : va_W} (hr : va_Run p l e R s m args below meth c H locs cells slots 0 0 (F0 m pc ls st0) rest (va_Qi (fun r u => r = iI (v u) ∧ post u) (fun u t => va_P D vwCl (wd u) t.heap) (va_A wc H.size) ar) (va_A wc H.size)) (hP : va_P D vwCl (w1 ++ (wc ++ w2)) H) (hD : va_D A0 (w1 ++ (wc ++ w2))) (hS : va_S A0 H0 H locs) (hA : ∀ q, H0.size ≤ q → A0 q) (hf : ∀ u, (wd u).map Prod.fst = wc.map Prod.fst)
    (kk : ∀ (u : S) (H1 : Heap) (locs1 : List Loc), post u → va_P D vwCl (w1 ++ (wd u ++ w2)) H1 → va_D A0 (w1 ++ (wd u ++ w2)) → va_S A0 H0 H1 locs1 → W p l e R s m args below meth c H1 locs1 cells slots Q (F0 m (pc + 3) ls (.int (iI (v u)) :: rest))) : W p l e R s m args below meth c H locs cells slots Q (F0 m pc ls st0) := by
  have hF := va_out (ws := wc) (vdL (vdR hD)) hS hA
  refine va_calli hr hS (fun q _ h => hF q h) hF (fun r u t H1 locs1 ht hvm hw hB hz hk hS1 => ?_)
  obtain ⟨rfl, hp⟩ := hw
  rw [ht] at hB
  refine kk u H1 locs1 hp (fr_mid hP hD hk hB) (vdA hD ?_) hS1
  rw [List.map_append, List.map_append, List.map_append, List.map_append, hf u]
theorem r_callV {S : Type} {post : S → Prop} {wd : S → va_W} {w1 wc w2 : va_W} (hr : va_Run p l e R s m args below meth c H locs cells slots 0 0 (F0 m pc ls st0) rest (va_Qv post (fun u t => va_P D vwCl (wd u) t.heap) (va_A wc H.size) ar) (va_A wc H.size)) (hP : va_P D vwCl (w1 ++ (wc ++ w2)) H) (hD : va_D A0 (w1 ++ (wc ++ w2))) (hS : va_S A0 H0 H locs) (hA : ∀ q, H0.size ≤ q → A0 q) (hf : ∀ u, (wd u).map Prod.fst = wc.map Prod.fst)
    (kk : ∀ (u : S) (H1 : Heap) (locs1 : List Loc), post u → va_P D vwCl (w1 ++ (wd u ++ w2)) H1 → va_D A0 (w1 ++ (wd u ++ w2)) → va_S A0 H0 H1 locs1 → W p l e R s m args below meth c H1 locs1 cells slots Q (F0 m (pc + 3) ls rest)) : W p l e R s m args below meth c H locs cells slots Q (F0 m pc ls st0) := by
  have hF := va_out (ws := wc) (vdL (vdR hD)) hS hA
  refine va_callv hr hS (fun q _ h => hF q h) hF (fun u t H1 locs1 ht hvm hp hB hz hk hS1 => ?_)
  rw [ht] at hB
  refine kk u H1 locs1 hp (fr_mid hP hD hk hB) (vdA hD ?_) hS1
  rw [List.map_append, List.map_append, List.map_append, List.map_append, hf u]
end MR
theorem mul_bd {a b A B : Int} (ha : 0 ≤ a ∧ a ≤ A) (hb : 0 ≤ b ∧ b ≤ B) : 0 ≤ a * b ∧ a * b ≤ A * B := ⟨Int.mul_nonneg ha.1 hb.1, Int.mul_le_mul ha.2 hb.2 hb.1 (by omega)⟩
theorem zn_of {z : Int} (h : z = 0 ∨ z = 1) : narrow .boolean (.int (iI z)) = .int (iI z) := by
  rcases h with rfl | rfl
  · exact zn_0
  · exact zn_1
end
section
/-! NOISE, as functions of its cells σ -/
def invN (σ : Nat → Int → Int) : Prop := (0 ≤ σ 0 0 ∧ σ 0 0 ≤ 12) ∧ (0 ≤ σ 4 0 ∧ σ 4 0 ≤ 20) ∧ (0 ≤ σ 8 0 ∧ σ 8 0 ≤ 8) ∧ (0 ≤ σ 14 0 ∧ σ 14 0 ≤ 60) ∧ (∀ k, -5000 ≤ σ 1 k ∧ σ 1 k ≤ 5000) ∧ (∀ k, -5000 ≤ σ 2 k ∧ σ 2 k ≤ 5000) ∧ (∀ k, 0 ≤ σ 3 k ∧ σ 3 k ≤ 1200) ∧ (∀ k, -5000 ≤ σ 5 k ∧ σ 5 k ≤ 5000) ∧ (∀ k, -5000 ≤ σ 6 k ∧ σ 6 k ≤ 5000) ∧ (∀ k, 0 ≤ σ 7 k ∧ σ 7 k ≤ 1000) ∧ (∀ k, -5000 ≤ σ 9 k ∧ σ 9 k ≤ 5000) ∧ (∀ k, -5000 ≤ σ 10 k ∧ σ 10 k ≤ 5000) ∧ (∀ k, -5000 ≤ σ 11 k ∧ σ 11 k ≤ 5000) ∧ (∀ k, -5000 ≤ σ 12 k ∧ σ 12 k ≤ 5000) ∧ (∀ k, 0 ≤ σ 13 k ∧ σ 13 k ≤ 300) ∧ (∀ k, 0 ≤ σ 15 k ∧ σ 15 k ≤ 200) ∧ (∀ k, 0 ≤ σ 16 k ∧ σ 16 k ≤ 10) ∧ (∀ k, 0 ≤ σ 17 k ∧ σ 17 k < 256)
theorem up_bd {f : Int → Int} {i v a b : Int} (hf : ∀ k, a ≤ f k ∧ f k ≤ b) (hv : a ≤ v ∧ v ≤ b) : ∀ k, a ≤ up f i v k ∧ up f i v k ≤ b := by
  intro k
  unfold up
  by_cases h : k = i
  · rw [if_pos h]; exact hv
  · rw [if_neg h]; exact hf k
theorem up_bl {f : Int → Int} {i v a b : Int} (hf : ∀ k, a ≤ f k ∧ f k < b) (hv : a ≤ v ∧ v < b) : ∀ k, a ≤ up f i v k ∧ up f i v k < b := by
  intro k
  unfold up
  by_cases h : k = i
  · rw [if_pos h]; exact hv
  · rw [if_neg h]; exact hf k
theorem inv_0 {σ : Nat → Int → Int} {g : Int → Int} (h : invN σ) (hg : 0 ≤ g 0 ∧ g 0 ≤ 12) : invN (su σ 0 g) := by
  obtain ⟨h0, h4, h8, h14, h1, h2, h3, h5, h6, h7, h9, h10, h11, h12, h13, h15, h16, h17⟩ := h
  exact ⟨hg, h4, h8, h14, h1, h2, h3, h5, h6, h7, h9, h10, h11, h12, h13, h15, h16, h17⟩
theorem inv_4 {σ : Nat → Int → Int} {g : Int → Int} (h : invN σ) (hg : 0 ≤ g 0 ∧ g 0 ≤ 20) : invN (su σ 4 g) := by
  obtain ⟨h0, h4, h8, h14, h1, h2, h3, h5, h6, h7, h9, h10, h11, h12, h13, h15, h16, h17⟩ := h
  exact ⟨h0, hg, h8, h14, h1, h2, h3, h5, h6, h7, h9, h10, h11, h12, h13, h15, h16, h17⟩
theorem inv_8 {σ : Nat → Int → Int} {g : Int → Int} (h : invN σ) (hg : 0 ≤ g 0 ∧ g 0 ≤ 8) : invN (su σ 8 g) := by
  obtain ⟨h0, h4, h8, h14, h1, h2, h3, h5, h6, h7, h9, h10, h11, h12, h13, h15, h16, h17⟩ := h
  exact ⟨h0, h4, hg, h14, h1, h2, h3, h5, h6, h7, h9, h10, h11, h12, h13, h15, h16, h17⟩
theorem inv_14 {σ : Nat → Int → Int} {g : Int → Int} (h : invN σ) (hg : 0 ≤ g 0 ∧ g 0 ≤ 60) : invN (su σ 14 g) := by
  obtain ⟨h0, h4, h8, h14, h1, h2, h3, h5, h6, h7, h9, h10, h11, h12, h13, h15, h16, h17⟩ := h
  exact ⟨h0, h4, h8, hg, h1, h2, h3, h5, h6, h7, h9, h10, h11, h12, h13, h15, h16, h17⟩
theorem inv_1 {σ : Nat → Int → Int} {g : Int → Int} (h : invN σ) (hg : ∀ k, -5000 ≤ g k ∧ g k ≤ 5000) : invN (su σ 1 g) := by
  obtain ⟨h0, h4, h8, h14, h1, h2, h3, h5, h6, h7, h9, h10, h11, h12, h13, h15, h16, h17⟩ := h
  exact ⟨h0, h4, h8, h14, hg, h2, h3, h5, h6, h7, h9, h10, h11, h12, h13, h15, h16, h17⟩
theorem inv_2 {σ : Nat → Int → Int} {g : Int → Int} (h : invN σ) (hg : ∀ k, -5000 ≤ g k ∧ g k ≤ 5000) : invN (su σ 2 g) := by
  obtain ⟨h0, h4, h8, h14, h1, h2, h3, h5, h6, h7, h9, h10, h11, h12, h13, h15, h16, h17⟩ := h
  exact ⟨h0, h4, h8, h14, h1, hg, h3, h5, h6, h7, h9, h10, h11, h12, h13, h15, h16, h17⟩
theorem inv_3 {σ : Nat → Int → Int} {g : Int → Int} (h : invN σ) (hg : ∀ k, 0 ≤ g k ∧ g k ≤ 1200) : invN (su σ 3 g) := by
  obtain ⟨h0, h4, h8, h14, h1, h2, h3, h5, h6, h7, h9, h10, h11, h12, h13, h15, h16, h17⟩ := h
  exact ⟨h0, h4, h8, h14, h1, h2, hg, h5, h6, h7, h9, h10, h11, h12, h13, h15, h16, h17⟩
theorem inv_5 {σ : Nat → Int → Int} {g : Int → Int} (h : invN σ) (hg : ∀ k, -5000 ≤ g k ∧ g k ≤ 5000) : invN (su σ 5 g) := by
  obtain ⟨h0, h4, h8, h14, h1, h2, h3, h5, h6, h7, h9, h10, h11, h12, h13, h15, h16, h17⟩ := h
  exact ⟨h0, h4, h8, h14, h1, h2, h3, hg, h6, h7, h9, h10, h11, h12, h13, h15, h16, h17⟩
theorem inv_6 {σ : Nat → Int → Int} {g : Int → Int} (h : invN σ) (hg : ∀ k, -5000 ≤ g k ∧ g k ≤ 5000) : invN (su σ 6 g) := by
  obtain ⟨h0, h4, h8, h14, h1, h2, h3, h5, h6, h7, h9, h10, h11, h12, h13, h15, h16, h17⟩ := h
  exact ⟨h0, h4, h8, h14, h1, h2, h3, h5, hg, h7, h9, h10, h11, h12, h13, h15, h16, h17⟩
theorem inv_7 {σ : Nat → Int → Int} {g : Int → Int} (h : invN σ) (hg : ∀ k, 0 ≤ g k ∧ g k ≤ 1000) : invN (su σ 7 g) := by
  obtain ⟨h0, h4, h8, h14, h1, h2, h3, h5, h6, h7, h9, h10, h11, h12, h13, h15, h16, h17⟩ := h
  exact ⟨h0, h4, h8, h14, h1, h2, h3, h5, h6, hg, h9, h10, h11, h12, h13, h15, h16, h17⟩
theorem inv_9 {σ : Nat → Int → Int} {g : Int → Int} (h : invN σ) (hg : ∀ k, -5000 ≤ g k ∧ g k ≤ 5000) : invN (su σ 9 g) := by
  obtain ⟨h0, h4, h8, h14, h1, h2, h3, h5, h6, h7, h9, h10, h11, h12, h13, h15, h16, h17⟩ := h
  exact ⟨h0, h4, h8, h14, h1, h2, h3, h5, h6, h7, hg, h10, h11, h12, h13, h15, h16, h17⟩
theorem inv_10 {σ : Nat → Int → Int} {g : Int → Int} (h : invN σ) (hg : ∀ k, -5000 ≤ g k ∧ g k ≤ 5000) : invN (su σ 10 g) := by
  obtain ⟨h0, h4, h8, h14, h1, h2, h3, h5, h6, h7, h9, h10, h11, h12, h13, h15, h16, h17⟩ := h
  exact ⟨h0, h4, h8, h14, h1, h2, h3, h5, h6, h7, h9, hg, h11, h12, h13, h15, h16, h17⟩
theorem inv_11 {σ : Nat → Int → Int} {g : Int → Int} (h : invN σ) (hg : ∀ k, -5000 ≤ g k ∧ g k ≤ 5000) : invN (su σ 11 g) := by
  obtain ⟨h0, h4, h8, h14, h1, h2, h3, h5, h6, h7, h9, h10, h11, h12, h13, h15, h16, h17⟩ := h
  exact ⟨h0, h4, h8, h14, h1, h2, h3, h5, h6, h7, h9, h10, hg, h12, h13, h15, h16, h17⟩
theorem inv_12 {σ : Nat → Int → Int} {g : Int → Int} (h : invN σ) (hg : ∀ k, -5000 ≤ g k ∧ g k ≤ 5000) : invN (su σ 12 g) := by
  obtain ⟨h0, h4, h8, h14, h1, h2, h3, h5, h6, h7, h9, h10, h11, h12, h13, h15, h16, h17⟩ := h
  exact ⟨h0, h4, h8, h14, h1, h2, h3, h5, h6, h7, h9, h10, h11, hg, h13, h15, h16, h17⟩
theorem inv_13 {σ : Nat → Int → Int} {g : Int → Int} (h : invN σ) (hg : ∀ k, 0 ≤ g k ∧ g k ≤ 300) : invN (su σ 13 g) := by
  obtain ⟨h0, h4, h8, h14, h1, h2, h3, h5, h6, h7, h9, h10, h11, h12, h13, h15, h16, h17⟩ := h
  exact ⟨h0, h4, h8, h14, h1, h2, h3, h5, h6, h7, h9, h10, h11, h12, hg, h15, h16, h17⟩
theorem inv_15 {σ : Nat → Int → Int} {g : Int → Int} (h : invN σ) (hg : ∀ k, 0 ≤ g k ∧ g k ≤ 200) : invN (su σ 15 g) := by
  obtain ⟨h0, h4, h8, h14, h1, h2, h3, h5, h6, h7, h9, h10, h11, h12, h13, h15, h16, h17⟩ := h
  exact ⟨h0, h4, h8, h14, h1, h2, h3, h5, h6, h7, h9, h10, h11, h12, h13, hg, h16, h17⟩
theorem inv_16 {σ : Nat → Int → Int} {g : Int → Int} (h : invN σ) (hg : ∀ k, 0 ≤ g k ∧ g k ≤ 10) : invN (su σ 16 g) := by
  obtain ⟨h0, h4, h8, h14, h1, h2, h3, h5, h6, h7, h9, h10, h11, h12, h13, h15, h16, h17⟩ := h
  exact ⟨h0, h4, h8, h14, h1, h2, h3, h5, h6, h7, h9, h10, h11, h12, h13, h15, hg, h17⟩
theorem inv_17 {σ : Nat → Int → Int} {g : Int → Int} (h : invN σ) (hg : ∀ k, 0 ≤ g k ∧ g k < 256) : invN (su σ 17 g) := by
  obtain ⟨h0, h4, h8, h14, h1, h2, h3, h5, h6, h7, h9, h10, h11, h12, h13, h15, h16, h17⟩ := h
  exact ⟨h0, h4, h8, h14, h1, h2, h3, h5, h6, h7, h9, h10, h11, h12, h13, h15, h16, hg⟩
theorem inv_18 {σ : Nat → Int → Int} {g : Int → Int} (h : invN σ) : invN (su σ 18 g) := h
def nMore (d : Int) : Int := if d < 15 then 30 else if d < 35 then 20 else if d < 95 then 10 else 0
def nJoin (a b : Int) : Int := if a = 0 ∨ b = 0 then a + b else mxZ a b + nMore (abZ (a - b))
def nDbl (d : Int) : Int := if d < 400 then 0 else if d < 1600 then 1 else if d < 6400 then 2 else if d < 25600 then 3 else if d < 102400 then 4 else if d < 409600 then 5 else if d < 1638400 then 6 else if d < 6553600 then 7 else if d < 26214400 then 8 else if d < 104857600 then 9 else 10
def nCutF (σ : Nat → Int → Int) (pr : Int) (g w : Int) : Int := if bitZ (σ 17 pr) w ≠ 0 ∧ g < σ 13 w then σ 13 w else g
def nCut (σ : Nat → Int → Int) (pr : Int) : Int := fo (nCutF σ pr) 0 (σ 8 0)
def nGiven (σ : Nat → Int → Int) (p h t : Int) : Int := mxZ (σ 3 (p * 3 + t) - σ 14 0 * σ 16 (p * 20 + h) - nCut σ (p * 20 + h)) 0
def nPart (σ : Nat → Int → Int) (h t : Int) : Int := fo (fun j p => nJoin j (nGiven σ p h t)) 0 (σ 0 0)
def nDayF (σ : Nat → Int → Int) (h g t : Int) : Int := if 0 < nPart σ h t then mxZ g (nPart σ h t + σ 15 t) else g
def nDay (σ : Nat → Int → Int) (h : Int) : Int := fo (nDayF σ h) 0 3
def nPeopleF (σ : Nat → Int → Int) (lim n h : Int) : Int := if lim < nDay σ h then n + σ 7 h else n
def nPeople (σ : Nat → Int → Int) (lim : Int) : Int := fo (nPeopleF σ lim) 0 (σ 4 0)
def nAll (σ : Nat → Int → Int) : Int := fo (fun n h => n + σ 7 h) 0 (σ 4 0)
def nLoudF (σ : Nat → Int → Int) (h t : Int) (q : Int × Int) (p : Int) : Int × Int := if q.2 < nGiven σ p h t then (p, nGiven σ p h t) else q
def nLoud (σ : Nat → Int → Int) (h t : Int) : Int := (fo (nLoudF σ h t) (-1, 0) (σ 0 0)).1
def nAheadF (g : Int → Int) (h n o : Int) : Int := if g h < g o ∨ (g o = g h ∧ o < h) then n + 1 else n
def nAhead (g : Int → Int) (c h : Int) : Int := fo (nAheadF g h) 0 c
def nNone (σ : Nat → Int → Int) (lim : Int) : Int := ft (fun h => decide (lim < nDay σ h)) (fun _ => 0) 1 0 (σ 4 0)
def nLeast (σ : Nat → Int → Int) (w lim : Int) : Int := ft (fun j => decide (nNone (su σ 13 (up (σ 13) w (5 * j))) lim ≠ 0)) (fun j => 5 * j) (-1) 0 61
def tuZ (ax ay bx b2 cx cy : Int) : Int := (bx - ax) * (cy - ay) - (b2 - ay) * (cx - ax)
abbrev spP (a b c d : Int) : Prop := mnZ c d ≤ mxZ a b ∧ mnZ a b ≤ mxZ c d
abbrev osP (t u : Int) : Prop := (0 < t ∧ 0 < u) ∨ (t < 0 ∧ u < 0)
abbrev nBtw (σ : Nat → Int → Int) (w p h : Int) : Prop := spP (σ 1 p) (σ 5 h) (σ 9 w) (σ 11 w) ∧ spP (σ 2 p) (σ 6 h) (σ 10 w) (σ 12 w) ∧ ¬ osP (tuZ (σ 1 p) (σ 2 p) (σ 5 h) (σ 6 h) (σ 9 w) (σ 10 w)) (tuZ (σ 1 p) (σ 2 p) (σ 5 h) (σ 6 h) (σ 11 w) (σ 12 w)) ∧ ¬ osP (tuZ (σ 9 w) (σ 10 w) (σ 11 w) (σ 12 w) (σ 1 p) (σ 2 p)) (tuZ (σ 9 w) (σ 10 w) (σ 11 w) (σ 12 w) (σ 5 h) (σ 6 h))
def nNoteF (σ : Nat → Int → Int) (w p h : Int) : Int → Int := if nBtw σ w p h then up (σ 17) (p * 20 + h) (orZ (σ 17 (p * 20 + h)) w) else σ 17
def d2Z (σ : Nat → Int → Int) (p h : Int) : Int := (σ 1 p - σ 5 h) * (σ 1 p - σ 5 h) + (σ 2 p - σ 6 h) * (σ 2 p - σ 6 h)
def nMskF (σ : Nat → Int → Int) (p h m w : Int) : Int := if nBtw σ w p h then orZ m w else m
def nMsk (σ : Nat → Int → Int) (p h m : Int) : Int := fo (nMskF σ p h) m (σ 8 0)
theorem mul_ab {a b A B : Int} (ha : -A ≤ a ∧ a ≤ A) (hb : -B ≤ b ∧ b ≤ B) : -(A * B) ≤ a * b ∧ a * b ≤ A * B := by
  have h1 : 0 ≤ (A - a) * (B + b) := Int.mul_nonneg (by omega) (by omega)
  have h2 : 0 ≤ (A + a) * (B - b) := Int.mul_nonneg (by omega) (by omega)
  have h3 : 0 ≤ (A - a) * (B - b) := Int.mul_nonneg (by omega) (by omega)
  have h4 : 0 ≤ (A + a) * (B + b) := Int.mul_nonneg (by omega) (by omega)
  have e1 : (A - a) * (B + b) + (A + a) * (B - b) = 2 * (A * B) - 2 * (a * b) := by grind
  have e2 : (A - a) * (B - b) + (A + a) * (B + b) = 2 * (A * B) + 2 * (a * b) := by grind
  omega
theorem tuZ_bd {ax ay bx b2 cx cy : Int} (h1 : -5000 ≤ ax ∧ ax ≤ 5000) (h2 : -5000 ≤ ay ∧ ay ≤ 5000) (h3 : -5000 ≤ bx ∧ bx ≤ 5000) (h4 : -5000 ≤ b2 ∧ b2 ≤ 5000) (h5 : -5000 ≤ cx ∧ cx ≤ 5000) (h6 : -5000 ≤ cy ∧ cy ≤ 5000) : -200000000 ≤ tuZ ax ay bx b2 cx cy ∧ tuZ ax ay bx b2 cx cy ≤ 200000000 := by
  have a1 := mul_ab (a := bx - ax) (b := cy - ay) (A := 10000) (B := 10000) (by omega) (by omega)
  have a2 := mul_ab (a := b2 - ay) (b := cx - ax) (A := 10000) (B := 10000) (by omega) (by omega)
  unfold tuZ
  omega
theorem d2Z_bd {σ : Nat → Int → Int} (hI : invN σ) (p h : Int) : 0 ≤ d2Z σ p h ∧ d2Z σ p h ≤ 200000000 := by
  obtain ⟨-, -, -, -, hB1, hB2, hB3, hB5, hB6, -⟩ := hI
  have h1 := hB1 p
  have h2 := hB2 p
  have h3 := hB5 h
  have h4 := hB6 h
  have a1 := mul_ab (a := σ 1 p - σ 5 h) (b := σ 1 p - σ 5 h) (A := 10000) (B := 10000) (by omega) (by omega)
  have a2 := mul_ab (a := σ 2 p - σ 6 h) (b := σ 2 p - σ 6 h) (A := 10000) (B := 10000) (by omega) (by omega)
  have s1 : 0 ≤ (σ 1 p - σ 5 h) * (σ 1 p - σ 5 h) := by
    rcases Int.le_total 0 (σ 1 p - σ 5 h) with q | q
    · exact Int.mul_nonneg q q
    · exact Int.mul_nonneg_of_nonpos_of_nonpos q q
  have s2 : 0 ≤ (σ 2 p - σ 6 h) * (σ 2 p - σ 6 h) := by
    rcases Int.le_total 0 (σ 2 p - σ 6 h) with q | q
    · exact Int.mul_nonneg q q
    · exact Int.mul_nonneg_of_nonpos_of_nonpos q q
  unfold d2Z
  omega
theorem nMore_bd (d : Int) : 0 ≤ nMore d ∧ nMore d ≤ 30 := by
  unfold nMore
  split
  · omega
  · split
    · omega
    · split <;> omega
theorem nDbl_bd (d : Int) : 0 ≤ nDbl d ∧ nDbl d ≤ 10 := by
  unfold nDbl
  repeat (first | omega | split)
theorem nJoin_bd {a b X : Int} (ha : 0 ≤ a ∧ a ≤ X) (hb : 0 ≤ b ∧ b ≤ X) : 0 ≤ nJoin a b ∧ nJoin a b ≤ X + 30 := by
  unfold nJoin
  split
  · omega
  · have h1 := mxZ_s a b
    have h2 := nMore_bd (abZ (a - b))
    omega
theorem nCut_bd {σ : Nat → Int → Int} (hI : invN σ) (pr : Int) : 0 ≤ nCut σ pr ∧ nCut σ pr ≤ 300 := by
  obtain ⟨-, -, hN8, -, -, -, -, -, -, -, -, -, -, -, hB13, -⟩ := hI
  refine fo_inv (fun _ x => 0 ≤ x ∧ x ≤ 300) _ _ hN8.1 (by omega) (fun i x _ _ hx => ?_)
  show 0 ≤ nCutF σ pr x i ∧ nCutF σ pr x i ≤ 300
  have := hB13 i
  unfold nCutF
  split <;> omega
theorem nGiven_bd {σ : Nat → Int → Int} (hI : invN σ) (p h t : Int) : 0 ≤ nGiven σ p h t ∧ nGiven σ p h t ≤ 1200 := by
  have hc := nCut_bd hI (p * 20 + h)
  obtain ⟨-, -, -, hN14, -, -, hB3, -, -, -, -, -, -, -, hB13, hB15, hB16, -⟩ := hI
  have h1 := hB3 (p * 3 + t)
  have h2 := mul_bd (a := σ 14 0) (b := σ 16 (p * 20 + h)) hN14 (hB16 _)
  unfold nGiven
  have h3 := mxZ_s (σ 3 (p * 3 + t) - σ 14 0 * σ 16 (p * 20 + h) - nCut σ (p * 20 + h)) 0
  omega
theorem nPart_bd {σ : Nat → Int → Int} (hI : invN σ) (h t : Int) : 0 ≤ nPart σ h t ∧ nPart σ h t ≤ 1560 := by
  have hN0 := hI.1
  have := fo_inv (fun i x => 0 ≤ x ∧ x ≤ 1200 + 30 * i) (fun j p => nJoin j (nGiven σ p h t)) 0 hN0.1 (by omega) (fun i x _ _ hx => by
    have g := nGiven_bd hI i h t
    have := nJoin_bd (a := x) (b := nGiven σ i h t) (X := 1200 + 30 * i) (by omega) (by omega)
    omega)
  unfold nPart
  omega
theorem nDay_bd {σ : Nat → Int → Int} (hI : invN σ) (h : Int) : 0 ≤ nDay σ h ∧ nDay σ h ≤ 1760 := by
  refine fo_inv (fun _ x => 0 ≤ x ∧ x ≤ 1760) _ _ (by omega) (by omega) (fun i x _ _ hx => ?_)
  show 0 ≤ nDayF σ h x i ∧ nDayF σ h x i ≤ 1760
  have h1 := nPart_bd hI h i
  obtain ⟨-, -, -, -, -, -, -, -, -, -, -, -, -, -, -, hB15, -⟩ := hI
  have h2 := hB15 i
  have h3 := mxZ_s x (nPart σ h i + σ 15 i)
  unfold nDayF
  split <;> omega
theorem nMsk_bd {σ : Nat → Int → Int} (hI : invN σ) (p h : Int) {m : Int} (hm : 0 ≤ m ∧ m < 256) : 0 ≤ nMsk σ p h m ∧ nMsk σ p h m < 256 := by
  obtain ⟨-, -, hN8, -⟩ := hI
  refine fo_inv (fun _ x => 0 ≤ x ∧ x < 256) _ _ hN8.1 hm (fun i x h0 h1 hx => ?_)
  show 0 ≤ nMskF σ p h x i ∧ nMskF σ p h x i < 256
  unfold nMskF
  split
  · exact orZ_bd hx (by omega)
  · exact hx
theorem nNone_01 (σ : Nat → Int → Int) (lim : Int) : nNone σ lim = 0 ∨ nNone σ lim = 1 := by
  have key : ∀ (k : Nat) (i : Int), ftN (fun h => decide (lim < nDay σ h)) (fun _ => 0) 1 k i = 0 ∨ ftN (fun h => decide (lim < nDay σ h)) (fun _ => 0) 1 k i = 1 := by
    intro k
    induction k with
    | zero => intro i; exact Or.inr rfl
    | succ k ih =>
      intro i
      show (bif decide (lim < nDay σ i) then (0 : Int) else ftN _ _ _ k (i + 1)) = 0 ∨ (bif decide (lim < nDay σ i) then (0 : Int) else ftN _ _ _ k (i + 1)) = 1
      cases decide (lim < nDay σ i) with
      | true => exact Or.inl rfl
      | false => exact ih (i + 1)
  exact key _ _
theorem up_id (f : Int → Int) (i : Int) : up f i (f i) = f := by
  funext k
  unfold up
  by_cases h : k = i
  · rw [if_pos h, h]
  · rw [if_neg h]
theorem up_up (f : Int → Int) (i v w : Int) : up (up f i v) i w = up f i w := by
  funext k
  unfold up
  by_cases h : k = i
  · rw [if_pos h, if_pos h]
  · rw [if_neg h, if_neg h, if_neg h]
end
section
/-! NOISE: the methods that change nothing -/
set_option maxHeartbeats 4000000 in
set_option maxRecDepth 100000 in
theorem c_X1_pairOf (l : Launch) (a b : Int) : MetS l yX1_pairOf wsX1_pairOf ({ frames := 0, cells := 0, slots := 0, locals := 0 } : Room) ([.int (iI a), .int (iI b)] : List Value) (a * 20 + b) := by
  refine met_T (cc := cX1_pairOf) (maxL := 2) (ret := (some .int)) (by decide) rfl (Nat.le_of_ble_eq_true rfl) ?_
  intro p e s m below meth c hx hb hr hml hts hown hlocks ls hl
  have hown : s.vm.findClass RX1 = some m.cls := hown
  have hl : lv_has ls 2 [(0, .int (iI a)), (1, .int (iI b))] := hl
  refine lv_iload_n hx hb dX1_pairOf_0 rfl (lv_at hl 0 rfl) ?_
  refine lv_bipush (v := iI 20) hx hb dX1_pairOf_1 (by decide +kernel) ?_
  refine r_imul hx hb dX1_pairOf_3 ?_
  refine lv_iload_n hx hb dX1_pairOf_4 rfl (lv_at hl 1 rfl) ?_
  refine r_iadd hx hb dX1_pairOf_5 ?_
  exact r_ret hx hb hr hlocks dX1_pairOf_6 rfl
set_option maxHeartbeats 4000000 in
set_option maxRecDepth 100000 in
theorem c_X1_moreByJoining (l : Launch) (a : Int) (ha : I32 a) : MetS l yX1_moreByJoining wsX1_moreByJoining ({ frames := 0, cells := 0, slots := 0, locals := 0 } : Room) ([.int (iI a)] : List Value) (nMore a) := by
  refine met_T (cc := cX1_moreByJoining) (maxL := 1) (ret := (some .int)) (by decide) rfl (Nat.le_of_ble_eq_true rfl) ?_
  intro p e s m below meth c hx hb hr hml hts hown hlocks ls hl
  have hown : s.vm.findClass RX1 = some m.cls := hown
  have hl : lv_has ls 1 [(0, .int (iI a))] := hl
  refine lv_iload_n hx hb dX1_moreByJoining_0 rfl (lv_at hl 0 rfl) ?_
  refine lv_bipush (v := iI 15) hx hb dX1_moreByJoining_1 (by decide +kernel) ?_
  refine r_icmp_ge (tgt := 9) hx hb dX1_moreByJoining_3 (by decide) (by omega) (by omega) (fun h1 => ?_) (fun h1 => ?_)
  · -- 3 to 9
    refine lv_iload_n hx hb dX1_moreByJoining_9 rfl (lv_at hl 0 rfl) ?_
    refine lv_bipush (v := iI 35) hx hb dX1_moreByJoining_10 (by decide +kernel) ?_
    refine r_icmp_ge (tgt := 18) hx hb dX1_moreByJoining_12 (by decide) (by omega) (by omega) (fun h2 => ?_) (fun h2 => ?_)
    · -- 12 to 18
      refine lv_iload_n hx hb dX1_moreByJoining_18 rfl (lv_at hl 0 rfl) ?_
      refine lv_bipush (v := iI 95) hx hb dX1_moreByJoining_19 (by decide +kernel) ?_
      refine r_icmp_ge (tgt := 29) hx hb dX1_moreByJoining_21 (by decide) (by omega) (by omega) (fun h3 => ?_) (fun h3 => ?_)
      · -- 21 to 29
        refine lv_iconst (v := iI 0) hx hb dX1_moreByJoining_29 rfl ?_
        exact r_ret hx hb hr hlocks dX1_moreByJoining_30 (by unfold nMore; repeat (first | rfl | omega | split))
      · -- 21 to 24
        refine lv_bipush (v := iI 10) hx hb dX1_moreByJoining_24 (by decide +kernel) ?_
        refine lv_goto (tgt := 30) hx hb dX1_moreByJoining_26 (by decide) ?_
        exact r_ret hx hb hr hlocks dX1_moreByJoining_30 (by unfold nMore; repeat (first | rfl | omega | split))
    · -- 12 to 15
      refine lv_bipush (v := iI 20) hx hb dX1_moreByJoining_15 (by decide +kernel) ?_
      exact r_ret hx hb hr hlocks dX1_moreByJoining_17 (by unfold nMore; repeat (first | rfl | omega | split))
  · -- 3 to 6
    refine lv_bipush (v := iI 30) hx hb dX1_moreByJoining_6 (by decide +kernel) ?_
    exact r_ret hx hb hr hlocks dX1_moreByJoining_8 (by unfold nMore; repeat (first | rfl | omega | split))
set_option maxHeartbeats 4000000 in
set_option maxRecDepth 100000 in
theorem c_X1_join (l : Launch) (a b : Int) (ha : 0 ≤ a ∧ a ≤ 100000) (hb2 : 0 ≤ b ∧ b ≤ 100000) : MetS l yX1_join wsX1_join ({ frames := 1, cells := 0, slots := 0, locals := 21 } : Room) ([.int (iI a), .int (iI b)] : List Value) (nJoin a b) := by
  refine met_T (cc := cX1_join) (maxL := 2) (ret := (some .int)) (by decide) rfl (Nat.le_of_ble_eq_true rfl) ?_
  intro p e s m below meth c hx hb hr hml hts hown hlocks ls hl
  have hown : s.vm.findClass RX1 = some m.cls := hown
  have hl : lv_has ls 2 [(0, .int (iI a)), (1, .int (iI b))] := hl
  refine lv_iload_n hx hb dX1_join_0 rfl (lv_at hl 0 rfl) ?_
  refine r_if_eq (tgt := 8) hx hb dX1_join_1 (by decide) (by omega) (fun h1 => ?_) (fun h1 => ?_)
  · -- 1 to 8
    refine lv_iload_n hx hb dX1_join_8 rfl (lv_at hl 0 rfl) ?_
    refine lv_iload_n hx hb dX1_join_9 rfl (lv_at hl 1 rfl) ?_
    refine r_iadd hx hb dX1_join_10 ?_
    exact r_ret hx hb hr hlocks dX1_join_11 (by unfold nJoin; rw [if_pos (by omega)])
  · -- 1 to 4
    refine lv_iload_n hx hb dX1_join_4 rfl (lv_at hl 1 rfl) ?_
    refine r_if_ne (tgt := 12) hx hb dX1_join_5 (by decide) (by omega) (fun h2 => ?_) (fun h2 => ?_)
    · -- 5 to 12
      refine lv_iload_n hx hb dX1_join_12 rfl (lv_at hl 0 rfl) ?_
      refine lv_iload_n hx hb dX1_join_13 rfl (lv_at hl 1 rfl) ?_
      refine r_mmax hx hb (by rw [hml]; exact hl.1.symm) hown (hts (.methodLink RX1 89 Lib.Math.max.name) (by decide +kernel)) (hts (.static Lib.Math.max.name) (by decide +kernel)) (hts (.initialized "java/lang/Math") (by decide +kernel)) (hts (.code Lib.Math.max.name Lib.Math.max.code 2 (some .int)) (by decide +kernel)) (Nat.le_of_ble_eq_true rfl) (Nat.le_of_ble_eq_true rfl) (Nat.le_of_ble_eq_true rfl) (Nat.le_of_ble_eq_true rfl) (by omega) (by omega) dX1_join_14 ?_
      have hm3 := mxZ_s a b
      refine lv_iload_n hx hb dX1_join_17 rfl (lv_at hl 0 rfl) ?_
      refine lv_iload_n hx hb dX1_join_18 rfl (lv_at hl 1 rfl) ?_
      refine r_isub hx hb dX1_join_19 ?_
      refine r_mabs hx hb (by rw [hml]; exact hl.1.symm) hown (hts (.methodLink RX1 130 Lib.Math.abs.name) (by decide +kernel)) (hts (.static Lib.Math.abs.name) (by decide +kernel)) (hts (.initialized "java/lang/Math") (by decide +kernel)) (hts (.code Lib.Math.abs.name Lib.Math.abs.code 1 (some .int)) (by decide +kernel)) (Nat.le_of_ble_eq_true rfl) (Nat.le_of_ble_eq_true rfl) (Nat.le_of_ble_eq_true rfl) (Nat.le_of_ble_eq_true rfl) (by omega) dX1_join_20 ?_
      have hm4 := abZ_s (a - b)
      refine r_calli (va_runS (As := [.int (iI (abZ (a - b)))]) (rest := [.int (iI (mxZ a b))]) ⟨hx, hb, hml, hown, hts⟩ (c_X1_moreByJoining l  (abZ (a - b)) (by omega)) (va_cwS 1 hts gX1_join_X1_moreByJoining rfl rfl rfl (by decide +kernel) ⟨Nat.le_of_ble_eq_true rfl, Nat.le_of_ble_eq_true rfl⟩) ps_T rfl rfl hl.1 rfl (lv_room (Nat.le_of_ble_eq_true rfl)) dX1_join_23 ⟨Nat.le_of_ble_eq_true rfl, Nat.le_of_ble_eq_true rfl⟩) ?_
      refine r_iadd hx hb dX1_join_26 ?_
      exact r_ret hx hb hr hlocks dX1_join_27 (by unfold nJoin; rw [if_neg (by omega)])
    · -- 5 to 8
      refine lv_iload_n hx hb dX1_join_8 rfl (lv_at hl 0 rfl) ?_
      refine lv_iload_n hx hb dX1_join_9 rfl (lv_at hl 1 rfl) ?_
      refine r_iadd hx hb dX1_join_10 ?_
      exact r_ret hx hb hr hlocks dX1_join_11 (by unfold nJoin; rw [if_pos (by omega)])
set_option maxHeartbeats 4000000 in
set_option maxRecDepth 100000 in
theorem c_X1_spansMeet (l : Launch) (a b z w : Int) (ha : I32 a) (hb : I32 b) (hz : I32 z) (hw : I32 w) : MetS l yX1_spansMeet wsX1_spansMeet ({ frames := 1, cells := 0, slots := 0, locals := 21 } : Room) ([.int (iI a), .int (iI b), .int (iI z), .int (iI w)] : List Value) (bI (spP a b z w)) := by
  refine met_T (cc := cX1_spansMeet) (maxL := 4) (ret := (some .boolean)) (by decide) rfl (Nat.le_of_ble_eq_true rfl) ?_
  intro p e s m below meth c hx hb hr hml hts hown hlocks ls hl
  have hown : s.vm.findClass RX1 = some m.cls := hown
  have hl : lv_has ls 4 [(0, .int (iI a)), (1, .int (iI b)), (2, .int (iI z)), (3, .int (iI w))] := hl
  refine lv_iload_n hx hb dX1_spansMeet_0 rfl (lv_at hl 0 rfl) ?_
  refine lv_iload_n hx hb dX1_spansMeet_1 rfl (lv_at hl 1 rfl) ?_
  refine r_mmax hx hb (by rw [hml]; exact hl.1.symm) hown (hts (.methodLink RX1 89 Lib.Math.max.name) (by decide +kernel)) (hts (.static Lib.Math.max.name) (by decide +kernel)) (hts (.initialized "java/lang/Math") (by decide +kernel)) (hts (.code Lib.Math.max.name Lib.Math.max.code 2 (some .int)) (by decide +kernel)) (Nat.le_of_ble_eq_true rfl) (Nat.le_of_ble_eq_true rfl) (Nat.le_of_ble_eq_true rfl) (Nat.le_of_ble_eq_true rfl) (by omega) (by omega) dX1_spansMeet_2 ?_
  have hm1 := mxZ_s a b
  refine lv_iload_n hx hb dX1_spansMeet_5 rfl (lv_at hl 2 rfl) ?_
  refine lv_iload_n hx hb dX1_spansMeet_6 rfl (lv_at hl 3 rfl) ?_
  refine r_mmin hx hb (by rw [hml]; exact hl.1.symm) hown (hts (.methodLink RX1 136 Lib.Math.min.name) (by decide +kernel)) (hts (.static Lib.Math.min.name) (by decide +kernel)) (hts (.initialized "java/lang/Math") (by decide +kernel)) (hts (.code Lib.Math.min.name Lib.Math.min.code 2 (some .int)) (by decide +kernel)) (Nat.le_of_ble_eq_true rfl) (Nat.le_of_ble_eq_true rfl) (Nat.le_of_ble_eq_true rfl) (Nat.le_of_ble_eq_true rfl) (by omega) (by omega) dX1_spansMeet_7 ?_
  have hm2 := mnZ_s z w
  refine r_icmp_lt (tgt := 30) hx hb dX1_spansMeet_10 (by decide) (by omega) (by omega) (fun h3 => ?_) (fun h3 => ?_)
  · -- 10 to 30
    refine lv_iconst (v := iI 0) hx hb dX1_spansMeet_30 rfl ?_
    exact r_retZ hx hb hr hlocks dX1_spansMeet_31 (zn_of (by omega)) (by first | rfl | exact (bI_t (by omega)).symm | exact (bI_f (by omega)).symm)
  · -- 10 to 13
    refine lv_iload_n hx hb dX1_spansMeet_13 rfl (lv_at hl 2 rfl) ?_
    refine lv_iload_n hx hb dX1_spansMeet_14 rfl (lv_at hl 3 rfl) ?_
    refine r_mmax hx hb (by rw [hml]; exact hl.1.symm) hown (hts (.methodLink RX1 89 Lib.Math.max.name) (by decide +kernel)) (hts (.static Lib.Math.max.name) (by decide +kernel)) (hts (.initialized "java/lang/Math") (by decide +kernel)) (hts (.code Lib.Math.max.name Lib.Math.max.code 2 (some .int)) (by decide +kernel)) (Nat.le_of_ble_eq_true rfl) (Nat.le_of_ble_eq_true rfl) (Nat.le_of_ble_eq_true rfl) (Nat.le_of_ble_eq_true rfl) (by omega) (by omega) dX1_spansMeet_15 ?_
    have hm4 := mxZ_s z w
    refine lv_iload_n hx hb dX1_spansMeet_18 rfl (lv_at hl 0 rfl) ?_
    refine lv_iload_n hx hb dX1_spansMeet_19 rfl (lv_at hl 1 rfl) ?_
    refine r_mmin hx hb (by rw [hml]; exact hl.1.symm) hown (hts (.methodLink RX1 136 Lib.Math.min.name) (by decide +kernel)) (hts (.static Lib.Math.min.name) (by decide +kernel)) (hts (.initialized "java/lang/Math") (by decide +kernel)) (hts (.code Lib.Math.min.name Lib.Math.min.code 2 (some .int)) (by decide +kernel)) (Nat.le_of_ble_eq_true rfl) (Nat.le_of_ble_eq_true rfl) (Nat.le_of_ble_eq_true rfl) (Nat.le_of_ble_eq_true rfl) (by omega) (by omega) dX1_spansMeet_20 ?_
    have hm5 := mnZ_s a b
    refine r_icmp_lt (tgt := 30) hx hb dX1_spansMeet_23 (by decide) (by omega) (by omega) (fun h6 => ?_) (fun h6 => ?_)
    · -- 23 to 30
      refine lv_iconst (v := iI 0) hx hb dX1_spansMeet_30 rfl ?_
      exact r_retZ hx hb hr hlocks dX1_spansMeet_31 (zn_of (by omega)) (by first | rfl | exact (bI_t (by omega)).symm | exact (bI_f (by omega)).symm)
    · -- 23 to 26
      refine lv_iconst (v := iI 1) hx hb dX1_spansMeet_26 rfl ?_
      refine lv_goto (tgt := 31) hx hb dX1_spansMeet_27 (by decide) ?_
      exact r_retZ hx hb hr hlocks dX1_spansMeet_31 (zn_of (by omega)) (by first | rfl | exact (bI_t (by omega)).symm | exact (bI_f (by omega)).symm)
set_option maxHeartbeats 4000000 in
set_option maxRecDepth 100000 in
theorem c_X1_onOneSide (l : Launch) (a b : Int) (ha : I32 a) (hb : I32 b) : MetS l yX1_onOneSide wsX1_onOneSide ({ frames := 0, cells := 0, slots := 0, locals := 0 } : Room) ([.int (iI a), .int (iI b)] : List Value) (bI (osP a b)) := by
  refine met_T (cc := cX1_onOneSide) (maxL := 2) (ret := (some .boolean)) (by decide) rfl (Nat.le_of_ble_eq_true rfl) ?_
  intro p e s m below meth c hx hb hr hml hts hown hlocks ls hl
  have hown : s.vm.findClass RX1 = some m.cls := hown
  have hl : lv_has ls 2 [(0, .int (iI a)), (1, .int (iI b))] := hl
  refine lv_iload_n hx hb dX1_onOneSide_0 rfl (lv_at hl 0 rfl) ?_
  refine r_if_le (tgt := 8) hx hb dX1_onOneSide_1 (by decide) (by omega) (fun h1 => ?_) (fun h1 => ?_)
  · -- 1 to 8
    refine lv_iload_n hx hb dX1_onOneSide_8 rfl (lv_at hl 0 rfl) ?_
    refine r_if_ge (tgt := 20) hx hb dX1_onOneSide_9 (by decide) (by omega) (fun h2 => ?_) (fun h2 => ?_)
    · -- 9 to 20
      refine lv_iconst (v := iI 0) hx hb dX1_onOneSide_20 rfl ?_
      exact r_retZ hx hb hr hlocks dX1_onOneSide_21 (zn_of (by omega)) (by first | rfl | exact (bI_t (by omega)).symm | exact (bI_f (by omega)).symm)
    · -- 9 to 12
      refine lv_iload_n hx hb dX1_onOneSide_12 rfl (lv_at hl 1 rfl) ?_
      refine r_if_ge (tgt := 20) hx hb dX1_onOneSide_13 (by decide) (by omega) (fun h3 => ?_) (fun h3 => ?_)
      · -- 13 to 20
        refine lv_iconst (v := iI 0) hx hb dX1_onOneSide_20 rfl ?_
        exact r_retZ hx hb hr hlocks dX1_onOneSide_21 (zn_of (by omega)) (by first | rfl | exact (bI_t (by omega)).symm | exact (bI_f (by omega)).symm)
      · -- 13 to 16
        refine lv_iconst (v := iI 1) hx hb dX1_onOneSide_16 rfl ?_
        refine lv_goto (tgt := 21) hx hb dX1_onOneSide_17 (by decide) ?_
        exact r_retZ hx hb hr hlocks dX1_onOneSide_21 (zn_of (by omega)) (by first | rfl | exact (bI_t (by omega)).symm | exact (bI_f (by omega)).symm)
  · -- 1 to 4
    refine lv_iload_n hx hb dX1_onOneSide_4 rfl (lv_at hl 1 rfl) ?_
    refine r_if_gt (tgt := 16) hx hb dX1_onOneSide_5 (by decide) (by omega) (fun h4 => ?_) (fun h4 => ?_)
    · -- 5 to 16
      refine lv_iconst (v := iI 1) hx hb dX1_onOneSide_16 rfl ?_
      refine lv_goto (tgt := 21) hx hb dX1_onOneSide_17 (by decide) ?_
      exact r_retZ hx hb hr hlocks dX1_onOneSide_21 (zn_of (by omega)) (by first | rfl | exact (bI_t (by omega)).symm | exact (bI_f (by omega)).symm)
    · -- 5 to 8
      refine lv_iload_n hx hb dX1_onOneSide_8 rfl (lv_at hl 0 rfl) ?_
      refine r_if_ge (tgt := 20) hx hb dX1_onOneSide_9 (by decide) (by omega) (fun h5 => ?_) (fun h5 => ?_)
      · -- 9 to 20
        refine lv_iconst (v := iI 0) hx hb dX1_onOneSide_20 rfl ?_
        exact r_retZ hx hb hr hlocks dX1_onOneSide_21 (zn_of (by omega)) (by first | rfl | exact (bI_t (by omega)).symm | exact (bI_f (by omega)).symm)
      · -- 9 to 12
        refine lv_iload_n hx hb dX1_onOneSide_12 rfl (lv_at hl 1 rfl) ?_
        refine r_if_ge (tgt := 20) hx hb dX1_onOneSide_13 (by decide) (by omega) (fun h6 => ?_) (fun h6 => ?_)
        · -- 13 to 20
          refine lv_iconst (v := iI 0) hx hb dX1_onOneSide_20 rfl ?_
          exact r_retZ hx hb hr hlocks dX1_onOneSide_21 (zn_of (by omega)) (by first | rfl | exact (bI_t (by omega)).symm | exact (bI_f (by omega)).symm)
        · -- 13 to 16
          refine lv_iconst (v := iI 1) hx hb dX1_onOneSide_16 rfl ?_
          refine lv_goto (tgt := 21) hx hb dX1_onOneSide_17 (by decide) ?_
          exact r_retZ hx hb hr hlocks dX1_onOneSide_21 (zn_of (by omega)) (by first | rfl | exact (bI_t (by omega)).symm | exact (bI_f (by omega)).symm)
set_option maxHeartbeats 4000000 in
set_option maxRecDepth 100000 in
theorem c_X1_turn (l : Launch) (a0 a1 a2 a3 a4 a5 : Int) : MetS l yX1_turn wsX1_turn ({ frames := 0, cells := 0, slots := 0, locals := 0 } : Room) ([.int (iI a0), .int (iI a1), .int (iI a2), .int (iI a3), .int (iI a4), .int (iI a5)] : List Value) (tuZ a0 a1 a2 a3 a4 a5) := by
  refine met_T (cc := cX1_turn) (maxL := 6) (ret := (some .int)) (by decide) rfl (Nat.le_of_ble_eq_true rfl) ?_
  intro p e s m below meth c hx hb hr hml hts hown hlocks ls hl
  have hown : s.vm.findClass RX1 = some m.cls := hown
  have hl : lv_has ls 6 [(0, .int (iI a0)), (1, .int (iI a1)), (2, .int (iI a2)), (3, .int (iI a3)), (4, .int (iI a4)), (5, .int (iI a5))] := hl
  refine lv_iload_n hx hb dX1_turn_0 rfl (lv_at hl 2 rfl) ?_
  refine lv_iload_n hx hb dX1_turn_1 rfl (lv_at hl 0 rfl) ?_
  refine r_isub hx hb dX1_turn_2 ?_
  refine lv_iload hx hb dX1_turn_3 (lv_at hl 5 rfl) ?_
  refine lv_iload_n hx hb dX1_turn_5 rfl (lv_at hl 1 rfl) ?_
  refine r_isub hx hb dX1_turn_6 ?_
  refine r_imul hx hb dX1_turn_7 ?_
  refine lv_iload_n hx hb dX1_turn_8 rfl (lv_at hl 3 rfl) ?_
  refine lv_iload_n hx hb dX1_turn_9 rfl (lv_at hl 1 rfl) ?_
  refine r_isub hx hb dX1_turn_10 ?_
  refine lv_iload hx hb dX1_turn_11 (lv_at hl 4 rfl) ?_
  refine lv_iload_n hx hb dX1_turn_13 rfl (lv_at hl 0 rfl) ?_
  refine r_isub hx hb dX1_turn_14 ?_
  refine r_imul hx hb dX1_turn_15 ?_
  refine r_isub hx hb dX1_turn_16 ?_
  exact r_ret hx hb hr hlocks dX1_turn_17 (by rfl)
set_option maxHeartbeats 4000000 in
set_option maxRecDepth 100000 in
theorem c_X1_doublingsOf (l : Launch) (a : Int) (ha : 0 ≤ a ∧ a ≤ 200000000) : MetS l yX1_doublingsOf wsX1_doublingsOf ({ frames := 0, cells := 0, slots := 0, locals := 0 } : Room) ([.int (iI a)] : List Value) (nDbl a) := by
  refine met_T (cc := cX1_doublingsOf) (maxL := 3) (ret := (some .int)) (by decide) rfl (Nat.le_of_ble_eq_true rfl) ?_
  intro p e s m below meth c hx hb hr hml hts hown hlocks ls hl
  have hown : s.vm.findClass RX1 = some m.cls := hown
  have hl : lv_has ls 3 [(0, .int (iI a))] := hl
  refine lv_iconst (v := iI 0) hx hb dX1_doublingsOf_0 rfl ?_
  refine lv_istore_n (lv' := [(1, .int (iI 0)), (0, .int (iI a))]) hx hb dX1_doublingsOf_1 rfl hl (by decide) rfl (fun ls hl => ?_)
  refine lv_sipush (v := iI 400) hx hb dX1_doublingsOf_2 (by decide +kernel) ?_
  refine lv_istore_n (lv' := [(2, .int (iI 400)), (1, .int (iI 0)), (0, .int (iI a))]) hx hb dX1_doublingsOf_5 rfl hl (by decide) rfl (fun ls hl => ?_)
  refine lv_iload_n hx hb dX1_doublingsOf_6 rfl (lv_at hl 0 rfl) ?_
  refine lv_iload_n hx hb dX1_doublingsOf_7 rfl (lv_at hl 2 rfl) ?_
  refine r_icmp_gt (tgt := 21) hx hb dX1_doublingsOf_8 (by decide) (by omega) (by omega) (fun h1 => ?_) (fun h1 => ?_)
  · -- 8 to 21
    refine lv_iload_n hx hb dX1_doublingsOf_21 rfl (lv_at hl 1 rfl) ?_
    exact r_ret hx hb hr hlocks dX1_doublingsOf_22 (by unfold nDbl; repeat (first | omega | split))
  · -- 8 to 11
    refine r_iinc (a := 0) (b := 1) (lv2 := [(1, .int (iI 1)), (2, .int (iI 400)), (0, .int (iI a))]) hx hb dX1_doublingsOf_11 hl (k := 1) rfl (by omega) (by decide) rfl (fun ls hl => ?_)
    refine lv_iload_n hx hb dX1_doublingsOf_14 rfl (lv_at hl 1 rfl) ?_
    refine lv_iconst (v := iI 4) hx hb dX1_doublingsOf_15 rfl ?_
    refine r_imul hx hb dX1_doublingsOf_16 ?_
    refine W.eq (g2 := F0 m 17 ls [.int (iI 1600)]) rfl ?_
    refine lv_istore_n (lv' := [(2, .int (iI 1600)), (1, .int (iI 1)), (0, .int (iI a))]) hx hb dX1_doublingsOf_17 rfl hl (by decide) rfl (fun ls hl => ?_)
    refine lv_goto (tgt := 6) hx hb dX1_doublingsOf_18 (by decide) ?_
    refine lv_iload_n hx hb dX1_doublingsOf_6 rfl (lv_at hl 0 rfl) ?_
    refine lv_iload_n hx hb dX1_doublingsOf_7 rfl (lv_at hl 2 rfl) ?_
    refine r_icmp_gt (tgt := 21) hx hb dX1_doublingsOf_8 (by decide) (by omega) (by omega) (fun h2 => ?_) (fun h2 => ?_)
    · -- 8 to 21
      refine lv_iload_n hx hb dX1_doublingsOf_21 rfl (lv_at hl 1 rfl) ?_
      exact r_ret hx hb hr hlocks dX1_doublingsOf_22 (by unfold nDbl; repeat (first | omega | split))
    · -- 8 to 11
      refine r_iinc (a := 1) (b := 2) (lv2 := [(1, .int (iI 2)), (2, .int (iI 1600)), (0, .int (iI a))]) hx hb dX1_doublingsOf_11 hl (k := 1) rfl (by omega) (by decide) rfl (fun ls hl => ?_)
      refine lv_iload_n hx hb dX1_doublingsOf_14 rfl (lv_at hl 1 rfl) ?_
      refine lv_iconst (v := iI 4) hx hb dX1_doublingsOf_15 rfl ?_
      refine r_imul hx hb dX1_doublingsOf_16 ?_
      refine W.eq (g2 := F0 m 17 ls [.int (iI 6400)]) rfl ?_
      refine lv_istore_n (lv' := [(2, .int (iI 6400)), (1, .int (iI 2)), (0, .int (iI a))]) hx hb dX1_doublingsOf_17 rfl hl (by decide) rfl (fun ls hl => ?_)
      refine lv_goto (tgt := 6) hx hb dX1_doublingsOf_18 (by decide) ?_
      refine lv_iload_n hx hb dX1_doublingsOf_6 rfl (lv_at hl 0 rfl) ?_
      refine lv_iload_n hx hb dX1_doublingsOf_7 rfl (lv_at hl 2 rfl) ?_
      refine r_icmp_gt (tgt := 21) hx hb dX1_doublingsOf_8 (by decide) (by omega) (by omega) (fun h3 => ?_) (fun h3 => ?_)
      · -- 8 to 21
        refine lv_iload_n hx hb dX1_doublingsOf_21 rfl (lv_at hl 1 rfl) ?_
        exact r_ret hx hb hr hlocks dX1_doublingsOf_22 (by unfold nDbl; repeat (first | omega | split))
      · -- 8 to 11
        refine r_iinc (a := 2) (b := 3) (lv2 := [(1, .int (iI 3)), (2, .int (iI 6400)), (0, .int (iI a))]) hx hb dX1_doublingsOf_11 hl (k := 1) rfl (by omega) (by decide) rfl (fun ls hl => ?_)
        refine lv_iload_n hx hb dX1_doublingsOf_14 rfl (lv_at hl 1 rfl) ?_
        refine lv_iconst (v := iI 4) hx hb dX1_doublingsOf_15 rfl ?_
        refine r_imul hx hb dX1_doublingsOf_16 ?_
        refine W.eq (g2 := F0 m 17 ls [.int (iI 25600)]) rfl ?_
        refine lv_istore_n (lv' := [(2, .int (iI 25600)), (1, .int (iI 3)), (0, .int (iI a))]) hx hb dX1_doublingsOf_17 rfl hl (by decide) rfl (fun ls hl => ?_)
        refine lv_goto (tgt := 6) hx hb dX1_doublingsOf_18 (by decide) ?_
        refine lv_iload_n hx hb dX1_doublingsOf_6 rfl (lv_at hl 0 rfl) ?_
        refine lv_iload_n hx hb dX1_doublingsOf_7 rfl (lv_at hl 2 rfl) ?_
        refine r_icmp_gt (tgt := 21) hx hb dX1_doublingsOf_8 (by decide) (by omega) (by omega) (fun h4 => ?_) (fun h4 => ?_)
        · -- 8 to 21
          refine lv_iload_n hx hb dX1_doublingsOf_21 rfl (lv_at hl 1 rfl) ?_
          exact r_ret hx hb hr hlocks dX1_doublingsOf_22 (by unfold nDbl; repeat (first | omega | split))
        · -- 8 to 11
          refine r_iinc (a := 3) (b := 4) (lv2 := [(1, .int (iI 4)), (2, .int (iI 25600)), (0, .int (iI a))]) hx hb dX1_doublingsOf_11 hl (k := 1) rfl (by omega) (by decide) rfl (fun ls hl => ?_)
          refine lv_iload_n hx hb dX1_doublingsOf_14 rfl (lv_at hl 1 rfl) ?_
          refine lv_iconst (v := iI 4) hx hb dX1_doublingsOf_15 rfl ?_
          refine r_imul hx hb dX1_doublingsOf_16 ?_
          refine W.eq (g2 := F0 m 17 ls [.int (iI 102400)]) rfl ?_
          refine lv_istore_n (lv' := [(2, .int (iI 102400)), (1, .int (iI 4)), (0, .int (iI a))]) hx hb dX1_doublingsOf_17 rfl hl (by decide) rfl (fun ls hl => ?_)
          refine lv_goto (tgt := 6) hx hb dX1_doublingsOf_18 (by decide) ?_
          refine lv_iload_n hx hb dX1_doublingsOf_6 rfl (lv_at hl 0 rfl) ?_
          refine lv_iload_n hx hb dX1_doublingsOf_7 rfl (lv_at hl 2 rfl) ?_
          refine r_icmp_gt (tgt := 21) hx hb dX1_doublingsOf_8 (by decide) (by omega) (by omega) (fun h5 => ?_) (fun h5 => ?_)
          · -- 8 to 21
            refine lv_iload_n hx hb dX1_doublingsOf_21 rfl (lv_at hl 1 rfl) ?_
            exact r_ret hx hb hr hlocks dX1_doublingsOf_22 (by unfold nDbl; repeat (first | omega | split))
          · -- 8 to 11
            refine r_iinc (a := 4) (b := 5) (lv2 := [(1, .int (iI 5)), (2, .int (iI 102400)), (0, .int (iI a))]) hx hb dX1_doublingsOf_11 hl (k := 1) rfl (by omega) (by decide) rfl (fun ls hl => ?_)
            refine lv_iload_n hx hb dX1_doublingsOf_14 rfl (lv_at hl 1 rfl) ?_
            refine lv_iconst (v := iI 4) hx hb dX1_doublingsOf_15 rfl ?_
            refine r_imul hx hb dX1_doublingsOf_16 ?_
            refine W.eq (g2 := F0 m 17 ls [.int (iI 409600)]) rfl ?_
            refine lv_istore_n (lv' := [(2, .int (iI 409600)), (1, .int (iI 5)), (0, .int (iI a))]) hx hb dX1_doublingsOf_17 rfl hl (by decide) rfl (fun ls hl => ?_)
            refine lv_goto (tgt := 6) hx hb dX1_doublingsOf_18 (by decide) ?_
            refine lv_iload_n hx hb dX1_doublingsOf_6 rfl (lv_at hl 0 rfl) ?_
            refine lv_iload_n hx hb dX1_doublingsOf_7 rfl (lv_at hl 2 rfl) ?_
            refine r_icmp_gt (tgt := 21) hx hb dX1_doublingsOf_8 (by decide) (by omega) (by omega) (fun h6 => ?_) (fun h6 => ?_)
            · -- 8 to 21
              refine lv_iload_n hx hb dX1_doublingsOf_21 rfl (lv_at hl 1 rfl) ?_
              exact r_ret hx hb hr hlocks dX1_doublingsOf_22 (by unfold nDbl; repeat (first | omega | split))
            · -- 8 to 11
              refine r_iinc (a := 5) (b := 6) (lv2 := [(1, .int (iI 6)), (2, .int (iI 409600)), (0, .int (iI a))]) hx hb dX1_doublingsOf_11 hl (k := 1) rfl (by omega) (by decide) rfl (fun ls hl => ?_)
              refine lv_iload_n hx hb dX1_doublingsOf_14 rfl (lv_at hl 1 rfl) ?_
              refine lv_iconst (v := iI 4) hx hb dX1_doublingsOf_15 rfl ?_
              refine r_imul hx hb dX1_doublingsOf_16 ?_
              refine W.eq (g2 := F0 m 17 ls [.int (iI 1638400)]) rfl ?_
              refine lv_istore_n (lv' := [(2, .int (iI 1638400)), (1, .int (iI 6)), (0, .int (iI a))]) hx hb dX1_doublingsOf_17 rfl hl (by decide) rfl (fun ls hl => ?_)
              refine lv_goto (tgt := 6) hx hb dX1_doublingsOf_18 (by decide) ?_
              refine lv_iload_n hx hb dX1_doublingsOf_6 rfl (lv_at hl 0 rfl) ?_
              refine lv_iload_n hx hb dX1_doublingsOf_7 rfl (lv_at hl 2 rfl) ?_
              refine r_icmp_gt (tgt := 21) hx hb dX1_doublingsOf_8 (by decide) (by omega) (by omega) (fun h7 => ?_) (fun h7 => ?_)
              · -- 8 to 21
                refine lv_iload_n hx hb dX1_doublingsOf_21 rfl (lv_at hl 1 rfl) ?_
                exact r_ret hx hb hr hlocks dX1_doublingsOf_22 (by unfold nDbl; repeat (first | omega | split))
              · -- 8 to 11
                refine r_iinc (a := 6) (b := 7) (lv2 := [(1, .int (iI 7)), (2, .int (iI 1638400)), (0, .int (iI a))]) hx hb dX1_doublingsOf_11 hl (k := 1) rfl (by omega) (by decide) rfl (fun ls hl => ?_)
                refine lv_iload_n hx hb dX1_doublingsOf_14 rfl (lv_at hl 1 rfl) ?_
                refine lv_iconst (v := iI 4) hx hb dX1_doublingsOf_15 rfl ?_
                refine r_imul hx hb dX1_doublingsOf_16 ?_
                refine W.eq (g2 := F0 m 17 ls [.int (iI 6553600)]) rfl ?_
                refine lv_istore_n (lv' := [(2, .int (iI 6553600)), (1, .int (iI 7)), (0, .int (iI a))]) hx hb dX1_doublingsOf_17 rfl hl (by decide) rfl (fun ls hl => ?_)
                refine lv_goto (tgt := 6) hx hb dX1_doublingsOf_18 (by decide) ?_
                refine lv_iload_n hx hb dX1_doublingsOf_6 rfl (lv_at hl 0 rfl) ?_
                refine lv_iload_n hx hb dX1_doublingsOf_7 rfl (lv_at hl 2 rfl) ?_
                refine r_icmp_gt (tgt := 21) hx hb dX1_doublingsOf_8 (by decide) (by omega) (by omega) (fun h8 => ?_) (fun h8 => ?_)
                · -- 8 to 21
                  refine lv_iload_n hx hb dX1_doublingsOf_21 rfl (lv_at hl 1 rfl) ?_
                  exact r_ret hx hb hr hlocks dX1_doublingsOf_22 (by unfold nDbl; repeat (first | omega | split))
                · -- 8 to 11
                  refine r_iinc (a := 7) (b := 8) (lv2 := [(1, .int (iI 8)), (2, .int (iI 6553600)), (0, .int (iI a))]) hx hb dX1_doublingsOf_11 hl (k := 1) rfl (by omega) (by decide) rfl (fun ls hl => ?_)
                  refine lv_iload_n hx hb dX1_doublingsOf_14 rfl (lv_at hl 1 rfl) ?_
                  refine lv_iconst (v := iI 4) hx hb dX1_doublingsOf_15 rfl ?_
                  refine r_imul hx hb dX1_doublingsOf_16 ?_
                  refine W.eq (g2 := F0 m 17 ls [.int (iI 26214400)]) rfl ?_
                  refine lv_istore_n (lv' := [(2, .int (iI 26214400)), (1, .int (iI 8)), (0, .int (iI a))]) hx hb dX1_doublingsOf_17 rfl hl (by decide) rfl (fun ls hl => ?_)
                  refine lv_goto (tgt := 6) hx hb dX1_doublingsOf_18 (by decide) ?_
                  refine lv_iload_n hx hb dX1_doublingsOf_6 rfl (lv_at hl 0 rfl) ?_
                  refine lv_iload_n hx hb dX1_doublingsOf_7 rfl (lv_at hl 2 rfl) ?_
                  refine r_icmp_gt (tgt := 21) hx hb dX1_doublingsOf_8 (by decide) (by omega) (by omega) (fun h9 => ?_) (fun h9 => ?_)
                  · -- 8 to 21
                    refine lv_iload_n hx hb dX1_doublingsOf_21 rfl (lv_at hl 1 rfl) ?_
                    exact r_ret hx hb hr hlocks dX1_doublingsOf_22 (by unfold nDbl; repeat (first | omega | split))
                  · -- 8 to 11
                    refine r_iinc (a := 8) (b := 9) (lv2 := [(1, .int (iI 9)), (2, .int (iI 26214400)), (0, .int (iI a))]) hx hb dX1_doublingsOf_11 hl (k := 1) rfl (by omega) (by decide) rfl (fun ls hl => ?_)
                    refine lv_iload_n hx hb dX1_doublingsOf_14 rfl (lv_at hl 1 rfl) ?_
                    refine lv_iconst (v := iI 4) hx hb dX1_doublingsOf_15 rfl ?_
                    refine r_imul hx hb dX1_doublingsOf_16 ?_
                    refine W.eq (g2 := F0 m 17 ls [.int (iI 104857600)]) rfl ?_
                    refine lv_istore_n (lv' := [(2, .int (iI 104857600)), (1, .int (iI 9)), (0, .int (iI a))]) hx hb dX1_doublingsOf_17 rfl hl (by decide) rfl (fun ls hl => ?_)
                    refine lv_goto (tgt := 6) hx hb dX1_doublingsOf_18 (by decide) ?_
                    refine lv_iload_n hx hb dX1_doublingsOf_6 rfl (lv_at hl 0 rfl) ?_
                    refine lv_iload_n hx hb dX1_doublingsOf_7 rfl (lv_at hl 2 rfl) ?_
                    refine r_icmp_gt (tgt := 21) hx hb dX1_doublingsOf_8 (by decide) (by omega) (by omega) (fun h10 => ?_) (fun h10 => ?_)
                    · -- 8 to 21
                      refine lv_iload_n hx hb dX1_doublingsOf_21 rfl (lv_at hl 1 rfl) ?_
                      exact r_ret hx hb hr hlocks dX1_doublingsOf_22 (by unfold nDbl; repeat (first | omega | split))
                    · -- 8 to 11
                      refine r_iinc (a := 9) (b := 10) (lv2 := [(1, .int (iI 10)), (2, .int (iI 104857600)), (0, .int (iI a))]) hx hb dX1_doublingsOf_11 hl (k := 1) rfl (by omega) (by decide) rfl (fun ls hl => ?_)
                      refine lv_iload_n hx hb dX1_doublingsOf_14 rfl (lv_at hl 1 rfl) ?_
                      refine lv_iconst (v := iI 4) hx hb dX1_doublingsOf_15 rfl ?_
                      refine r_imul hx hb dX1_doublingsOf_16 ?_
                      refine W.eq (g2 := F0 m 17 ls [.int (iI 419430400)]) rfl ?_
                      refine lv_istore_n (lv' := [(2, .int (iI 419430400)), (1, .int (iI 10)), (0, .int (iI a))]) hx hb dX1_doublingsOf_17 rfl hl (by decide) rfl (fun ls hl => ?_)
                      refine lv_goto (tgt := 6) hx hb dX1_doublingsOf_18 (by decide) ?_
                      refine lv_iload_n hx hb dX1_doublingsOf_6 rfl (lv_at hl 0 rfl) ?_
                      refine lv_iload_n hx hb dX1_doublingsOf_7 rfl (lv_at hl 2 rfl) ?_
                      refine r_icmp_gt (tgt := 21) hx hb dX1_doublingsOf_8 (by decide) (by omega) (by omega) (fun h11 => ?_) (fun h11 => absurd h11 (by omega))
                      refine lv_iload_n hx hb dX1_doublingsOf_21 rfl (lv_at hl 1 rfl) ?_
                      exact r_ret hx hb hr hlocks dX1_doublingsOf_22 (by unfold nDbl; repeat (first | omega | split))
theorem fl_X1_pieceCount_61 : Cond.fieldLink RX1 61 "NoiseLamps$Noise" "pieces" "I" ∈ wsX1_pieceCount := by decide +kernel
set_option maxHeartbeats 4000000 in
set_option maxRecDepth 100000 in
theorem c_X1_pieceCount (l : Launch) (D : va_G) (cy : ClassId) (A : Nat → Nat) (σ : Nat → Int → Int) (hI : invN σ) : MetR l yX1_pieceCount wsX1_pieceCount ({ frames := 0, cells := 0, slots := 0, locals := 0 } : Room) D cy (wN cy A σ) ([.ref (A 100)] : List Value) (σ 0 0) := by
  refine met_R (cc := cX1_pieceCount) (maxL := 1) (ret := (some .int)) (by decide) rfl (Nat.le_of_ble_eq_true rfl) ?_
  intro p e s m below meth c hx hb hr hml hts hown hlocks hP hK ls hl
  have hown : s.vm.findClass RX1 = some m.cls := hown
  have hl : lv_has ls 1 [(0, .ref (A 100))] := hl
  obtain ⟨hN0, hN4, hN8, hN14, hB1, hB2, hB3, hB5, hB6, hB7, hB9, hB10, hB11, hB12, hB13, hB15, hB16, hB17⟩ := id hI
  refine lv_aload_n hx hb dX1_pieceCount_0 rfl (lv_at hl 0 rfl) ?_
  refine va_get (D := D) (ci := 1) (v := .int (iI (σ 0 0))) (C := RX1) (T := TX1) (N := 19) hx hb hts (fun _ h => List.mem_cons_of_mem _ (List.mem_append_right _ h)) hown hK hP 0 rfl rfl 0 (by decide) (hts _ fl_X1_pieceCount_61) (fun _ h9 => h9) rfl dX1_pieceCount_1 ?_
  exact r_ret hx hb hr hlocks dX1_pieceCount_4 rfl
theorem fl_X1_houseCount_64 : Cond.fieldLink RX1 64 "NoiseLamps$Noise" "houses" "I" ∈ wsX1_houseCount := by decide +kernel
set_option maxHeartbeats 4000000 in
set_option maxRecDepth 100000 in
theorem c_X1_houseCount (l : Launch) (D : va_G) (cy : ClassId) (A : Nat → Nat) (σ : Nat → Int → Int) (hI : invN σ) : MetR l yX1_houseCount wsX1_houseCount ({ frames := 0, cells := 0, slots := 0, locals := 0 } : Room) D cy (wN cy A σ) ([.ref (A 100)] : List Value) (σ 4 0) := by
  refine met_R (cc := cX1_houseCount) (maxL := 1) (ret := (some .int)) (by decide) rfl (Nat.le_of_ble_eq_true rfl) ?_
  intro p e s m below meth c hx hb hr hml hts hown hlocks hP hK ls hl
  have hown : s.vm.findClass RX1 = some m.cls := hown
  have hl : lv_has ls 1 [(0, .ref (A 100))] := hl
  obtain ⟨hN0, hN4, hN8, hN14, hB1, hB2, hB3, hB5, hB6, hB7, hB9, hB10, hB11, hB12, hB13, hB15, hB16, hB17⟩ := id hI
  refine lv_aload_n hx hb dX1_houseCount_0 rfl (lv_at hl 0 rfl) ?_
  refine va_get (D := D) (ci := 1) (v := .int (iI (σ 4 0))) (C := RX1) (T := TX1) (N := 19) hx hb hts (fun _ h => List.mem_cons_of_mem _ (List.mem_append_right _ h)) hown hK hP 0 rfl rfl 4 (by decide) (hts _ fl_X1_houseCount_64) (fun _ h9 => h9) rfl dX1_houseCount_1 ?_
  exact r_ret hx hb hr hlocks dX1_houseCount_4 rfl
theorem fl_X1_wallCount_67 : Cond.fieldLink RX1 67 "NoiseLamps$Noise" "walls" "I" ∈ wsX1_wallCount := by decide +kernel
set_option maxHeartbeats 4000000 in
set_option maxRecDepth 100000 in
theorem c_X1_wallCount (l : Launch) (D : va_G) (cy : ClassId) (A : Nat → Nat) (σ : Nat → Int → Int) (hI : invN σ) : MetR l yX1_wallCount wsX1_wallCount ({ frames := 0, cells := 0, slots := 0, locals := 0 } : Room) D cy (wN cy A σ) ([.ref (A 100)] : List Value) (σ 8 0) := by
  refine met_R (cc := cX1_wallCount) (maxL := 1) (ret := (some .int)) (by decide) rfl (Nat.le_of_ble_eq_true rfl) ?_
  intro p e s m below meth c hx hb hr hml hts hown hlocks hP hK ls hl
  have hown : s.vm.findClass RX1 = some m.cls := hown
  have hl : lv_has ls 1 [(0, .ref (A 100))] := hl
  obtain ⟨hN0, hN4, hN8, hN14, hB1, hB2, hB3, hB5, hB6, hB7, hB9, hB10, hB11, hB12, hB13, hB15, hB16, hB17⟩ := id hI
  refine lv_aload_n hx hb dX1_wallCount_0 rfl (lv_at hl 0 rfl) ?_
  refine va_get (D := D) (ci := 1) (v := .int (iI (σ 8 0))) (C := RX1) (T := TX1) (N := 19) hx hb hts (fun _ h => List.mem_cons_of_mem _ (List.mem_append_right _ h)) hown hK hP 0 rfl rfl 8 (by decide) (hts _ fl_X1_wallCount_67) (fun _ h9 => h9) rfl dX1_wallCount_1 ?_
  exact r_ret hx hb hr hlocks dX1_wallCount_4 rfl
theorem fl_X1_hasPiece_61 : Cond.fieldLink RX1 61 "NoiseLamps$Noise" "pieces" "I" ∈ wsX1_hasPiece := by decide +kernel
set_option maxHeartbeats 4000000 in
set_option maxRecDepth 100000 in
theorem c_X1_hasPiece (l : Launch) (D : va_G) (cy : ClassId) (A : Nat → Nat) (σ : Nat → Int → Int) (a : Int) (hI : invN σ) (ha : I32 a) : MetR l yX1_hasPiece wsX1_hasPiece ({ frames := 0, cells := 0, slots := 0, locals := 0 } : Room) D cy (wN cy A σ) ([.ref (A 100), .int (iI a)] : List Value) (bI (0 ≤ a ∧ a < σ 0 0)) := by
  refine met_R (cc := cX1_hasPiece) (maxL := 2) (ret := (some .boolean)) (by decide) rfl (Nat.le_of_ble_eq_true rfl) ?_
  intro p e s m below meth c hx hb hr hml hts hown hlocks hP hK ls hl
  have hown : s.vm.findClass RX1 = some m.cls := hown
  have hl : lv_has ls 2 [(0, .ref (A 100)), (1, .int (iI a))] := hl
  obtain ⟨hN0, hN4, hN8, hN14, hB1, hB2, hB3, hB5, hB6, hB7, hB9, hB10, hB11, hB12, hB13, hB15, hB16, hB17⟩ := id hI
  refine lv_iload_n hx hb dX1_hasPiece_0 rfl (lv_at hl 1 rfl) ?_
  refine r_if_lt (tgt := 16) hx hb dX1_hasPiece_1 (by decide) (by omega) (fun h1 => ?_) (fun h1 => ?_)
  · -- 1 to 16
    refine lv_iconst (v := iI 0) hx hb dX1_hasPiece_16 rfl ?_
    exact r_retZ hx hb hr hlocks dX1_hasPiece_17 (zn_of (by omega)) (by first | rfl | exact (bI_t (by omega)).symm | exact (bI_f (by omega)).symm)
  · -- 1 to 4
    refine lv_iload_n hx hb dX1_hasPiece_4 rfl (lv_at hl 1 rfl) ?_
    refine lv_aload_n hx hb dX1_hasPiece_5 rfl (lv_at hl 0 rfl) ?_
    refine va_get (D := D) (ci := 1) (v := .int (iI (σ 0 0))) (C := RX1) (T := TX1) (N := 19) hx hb hts (fun _ h => List.mem_cons_of_mem _ (List.mem_append_right _ h)) hown hK hP 0 rfl rfl 0 (by decide) (hts _ fl_X1_hasPiece_61) (fun _ h9 => h9) rfl dX1_hasPiece_6 ?_
    refine r_icmp_ge (tgt := 16) hx hb dX1_hasPiece_9 (by decide) (by omega) (by omega) (fun h2 => ?_) (fun h2 => ?_)
    · -- 9 to 16
      refine lv_iconst (v := iI 0) hx hb dX1_hasPiece_16 rfl ?_
      exact r_retZ hx hb hr hlocks dX1_hasPiece_17 (zn_of (by omega)) (by first | rfl | exact (bI_t (by omega)).symm | exact (bI_f (by omega)).symm)
    · -- 9 to 12
      refine lv_iconst (v := iI 1) hx hb dX1_hasPiece_12 rfl ?_
      refine lv_goto (tgt := 17) hx hb dX1_hasPiece_13 (by decide) ?_
      exact r_retZ hx hb hr hlocks dX1_hasPiece_17 (zn_of (by omega)) (by first | rfl | exact (bI_t (by omega)).symm | exact (bI_f (by omega)).symm)
theorem fl_X1_hasHouse_64 : Cond.fieldLink RX1 64 "NoiseLamps$Noise" "houses" "I" ∈ wsX1_hasHouse := by decide +kernel
set_option maxHeartbeats 4000000 in
set_option maxRecDepth 100000 in
theorem c_X1_hasHouse (l : Launch) (D : va_G) (cy : ClassId) (A : Nat → Nat) (σ : Nat → Int → Int) (a : Int) (hI : invN σ) (ha : I32 a) : MetR l yX1_hasHouse wsX1_hasHouse ({ frames := 0, cells := 0, slots := 0, locals := 0 } : Room) D cy (wN cy A σ) ([.ref (A 100), .int (iI a)] : List Value) (bI (0 ≤ a ∧ a < σ 4 0)) := by
  refine met_R (cc := cX1_hasHouse) (maxL := 2) (ret := (some .boolean)) (by decide) rfl (Nat.le_of_ble_eq_true rfl) ?_
  intro p e s m below meth c hx hb hr hml hts hown hlocks hP hK ls hl
  have hown : s.vm.findClass RX1 = some m.cls := hown
  have hl : lv_has ls 2 [(0, .ref (A 100)), (1, .int (iI a))] := hl
  obtain ⟨hN0, hN4, hN8, hN14, hB1, hB2, hB3, hB5, hB6, hB7, hB9, hB10, hB11, hB12, hB13, hB15, hB16, hB17⟩ := id hI
  refine lv_iload_n hx hb dX1_hasHouse_0 rfl (lv_at hl 1 rfl) ?_
  refine r_if_lt (tgt := 16) hx hb dX1_hasHouse_1 (by decide) (by omega) (fun h1 => ?_) (fun h1 => ?_)
  · -- 1 to 16
    refine lv_iconst (v := iI 0) hx hb dX1_hasHouse_16 rfl ?_
    exact r_retZ hx hb hr hlocks dX1_hasHouse_17 (zn_of (by omega)) (by first | rfl | exact (bI_t (by omega)).symm | exact (bI_f (by omega)).symm)
  · -- 1 to 4
    refine lv_iload_n hx hb dX1_hasHouse_4 rfl (lv_at hl 1 rfl) ?_
    refine lv_aload_n hx hb dX1_hasHouse_5 rfl (lv_at hl 0 rfl) ?_
    refine va_get (D := D) (ci := 1) (v := .int (iI (σ 4 0))) (C := RX1) (T := TX1) (N := 19) hx hb hts (fun _ h => List.mem_cons_of_mem _ (List.mem_append_right _ h)) hown hK hP 0 rfl rfl 4 (by decide) (hts _ fl_X1_hasHouse_64) (fun _ h9 => h9) rfl dX1_hasHouse_6 ?_
    refine r_icmp_ge (tgt := 16) hx hb dX1_hasHouse_9 (by decide) (by omega) (by omega) (fun h2 => ?_) (fun h2 => ?_)
    · -- 9 to 16
      refine lv_iconst (v := iI 0) hx hb dX1_hasHouse_16 rfl ?_
      exact r_retZ hx hb hr hlocks dX1_hasHouse_17 (zn_of (by omega)) (by first | rfl | exact (bI_t (by omega)).symm | exact (bI_f (by omega)).symm)
    · -- 9 to 12
      refine lv_iconst (v := iI 1) hx hb dX1_hasHouse_12 rfl ?_
      refine lv_goto (tgt := 17) hx hb dX1_hasHouse_13 (by decide) ?_
      exact r_retZ hx hb hr hlocks dX1_hasHouse_17 (zn_of (by omega)) (by first | rfl | exact (bI_t (by omega)).symm | exact (bI_f (by omega)).symm)
theorem fl_X1_hasWall_67 : Cond.fieldLink RX1 67 "NoiseLamps$Noise" "walls" "I" ∈ wsX1_hasWall := by decide +kernel
set_option maxHeartbeats 4000000 in
set_option maxRecDepth 100000 in
theorem c_X1_hasWall (l : Launch) (D : va_G) (cy : ClassId) (A : Nat → Nat) (σ : Nat → Int → Int) (a : Int) (hI : invN σ) (ha : I32 a) : MetR l yX1_hasWall wsX1_hasWall ({ frames := 0, cells := 0, slots := 0, locals := 0 } : Room) D cy (wN cy A σ) ([.ref (A 100), .int (iI a)] : List Value) (bI (0 ≤ a ∧ a < σ 8 0)) := by
  refine met_R (cc := cX1_hasWall) (maxL := 2) (ret := (some .boolean)) (by decide) rfl (Nat.le_of_ble_eq_true rfl) ?_
  intro p e s m below meth c hx hb hr hml hts hown hlocks hP hK ls hl
  have hown : s.vm.findClass RX1 = some m.cls := hown
  have hl : lv_has ls 2 [(0, .ref (A 100)), (1, .int (iI a))] := hl
  obtain ⟨hN0, hN4, hN8, hN14, hB1, hB2, hB3, hB5, hB6, hB7, hB9, hB10, hB11, hB12, hB13, hB15, hB16, hB17⟩ := id hI
  refine lv_iload_n hx hb dX1_hasWall_0 rfl (lv_at hl 1 rfl) ?_
  refine r_if_lt (tgt := 16) hx hb dX1_hasWall_1 (by decide) (by omega) (fun h1 => ?_) (fun h1 => ?_)
  · -- 1 to 16
    refine lv_iconst (v := iI 0) hx hb dX1_hasWall_16 rfl ?_
    exact r_retZ hx hb hr hlocks dX1_hasWall_17 (zn_of (by omega)) (by first | rfl | exact (bI_t (by omega)).symm | exact (bI_f (by omega)).symm)
  · -- 1 to 4
    refine lv_iload_n hx hb dX1_hasWall_4 rfl (lv_at hl 1 rfl) ?_
    refine lv_aload_n hx hb dX1_hasWall_5 rfl (lv_at hl 0 rfl) ?_
    refine va_get (D := D) (ci := 1) (v := .int (iI (σ 8 0))) (C := RX1) (T := TX1) (N := 19) hx hb hts (fun _ h => List.mem_cons_of_mem _ (List.mem_append_right _ h)) hown hK hP 0 rfl rfl 8 (by decide) (hts _ fl_X1_hasWall_67) (fun _ h9 => h9) rfl dX1_hasWall_6 ?_
    refine r_icmp_ge (tgt := 16) hx hb dX1_hasWall_9 (by decide) (by omega) (by omega) (fun h2 => ?_) (fun h2 => ?_)
    · -- 9 to 16
      refine lv_iconst (v := iI 0) hx hb dX1_hasWall_16 rfl ?_
      exact r_retZ hx hb hr hlocks dX1_hasWall_17 (zn_of (by omega)) (by first | rfl | exact (bI_t (by omega)).symm | exact (bI_f (by omega)).symm)
    · -- 9 to 12
      refine lv_iconst (v := iI 1) hx hb dX1_hasWall_12 rfl ?_
      refine lv_goto (tgt := 17) hx hb dX1_hasWall_13 (by decide) ?_
      exact r_retZ hx hb hr hlocks dX1_hasWall_17 (zn_of (by omega)) (by first | rfl | exact (bI_t (by omega)).symm | exact (bI_f (by omega)).symm)
theorem fl_X1_allPeople_64 : Cond.fieldLink RX1 64 "NoiseLamps$Noise" "houses" "I" ∈ wsX1_allPeople := by decide +kernel
theorem fl_X1_allPeople_27 : Cond.fieldLink RX1 27 "NoiseLamps$Noise" "housePeople" "[I" ∈ wsX1_allPeople := by decide +kernel
set_option maxHeartbeats 4000000 in
set_option maxRecDepth 100000 in
theorem c_X1_allPeople (l : Launch) (D : va_G) (cy : ClassId) (A : Nat → Nat) (σ : Nat → Int → Int) (hI : invN σ) : MetR l yX1_allPeople wsX1_allPeople ({ frames := 0, cells := 0, slots := 0, locals := 0 } : Room) D cy (wN cy A σ) ([.ref (A 100)] : List Value) (nAll σ) := by
  refine met_R (cc := cX1_allPeople) (maxL := 3) (ret := (some .int)) (by decide) rfl (Nat.le_of_ble_eq_true rfl) ?_
  intro p e s m below meth c hx hb hr hml hts hown hlocks hP hK ls hl
  have hown : s.vm.findClass RX1 = some m.cls := hown
  have hl : lv_has ls 3 [(0, .ref (A 100))] := hl
  obtain ⟨hN0, hN4, hN8, hN14, hB1, hB2, hB3, hB5, hB6, hB7, hB9, hB10, hB11, hB12, hB13, hB15, hB16, hB17⟩ := id hI
  refine lv_iconst (v := iI 0) hx hb dX1_allPeople_0 rfl ?_
  refine lv_istore_n (lv' := [(1, .int (iI 0)), (0, .ref (A 100))]) hx hb dX1_allPeople_1 rfl hl (by decide) rfl (fun ls hl => ?_)
  refine lv_iconst (v := iI 0) hx hb dX1_allPeople_2 rfl ?_
  refine lv_istore_n (lv' := [(2, .int (iI 0)), (1, .int (iI 0)), (0, .ref (A 100))]) hx hb dX1_allPeople_3 rfl hl (by decide) rfl (fun ls hl => ?_)
  have lp4_1 : ∀ (nlp4_1 : Nat) (i : Int) (g : Int) (ls : Array Slot), (0 ≤ i ∧ i ≤ σ 4 0) → (g = fo (fun n h => n + σ 7 h) 0 i) → (σ 4 0 - i < (nlp4_1 : Int)) → lv_has ls 3 [(2, .int (iI i)), (1, .int (iI g)), (0, .ref (A 100))] → W p l e ({ frames := 0, cells := 0, slots := 0, locals := 0 } : Room) s m ([.ref (A 100)] : List Value).toArray below meth c s.heap [] 0 0 (MQ below (vp_Si (fun r => r = iI (nAll σ))) ([.ref (A 100)] : List Value).toArray s 0 0 (fun _ => False)) (F0 m 4 ls []) := by
    intro nlp4_1
    induction nlp4_1 with
    | zero => intro i g ls hi hg hn hl; exact absurd hn (by omega)
    | succ nlp4_1 ihlp4_1 =>
      intro i g ls hi hg hn hl
      refine lv_iload_n hx hb dX1_allPeople_4 rfl (lv_at hl 0 rfl) ?_
      refine lv_aload_n hx hb dX1_allPeople_5 rfl (lv_at hl 2 rfl) ?_
      refine va_get (D := D) (ci := 1) (v := .int (iI (σ 4 0))) (C := RX1) (T := TX1) (N := 19) hx hb hts (fun _ h => List.mem_cons_of_mem _ (List.mem_append_right _ h)) hown hK hP 0 rfl rfl 4 (by decide) (hts _ fl_X1_allPeople_64) (fun _ h9 => h9) rfl dX1_allPeople_6 ?_
      refine r_icmp_ge (tgt := 27) hx hb dX1_allPeople_9 (by decide) (by omega) (by omega) (fun h2 => ?_) (fun h2 => ?_)
      · -- 9 to 27
        refine lv_iload_n hx hb dX1_allPeople_27 rfl (lv_at hl 1 rfl) ?_
        exact r_ret hx hb hr hlocks dX1_allPeople_28 (by rw [hg, show i = σ 4 0 from by omega]; rfl)
      · -- 9 to 12
        refine lv_iload_n hx hb dX1_allPeople_12 rfl (lv_at hl 1 rfl) ?_
        refine lv_aload_n hx hb dX1_allPeople_13 rfl (lv_at hl 2 rfl) ?_
        refine va_get (D := D) (ci := 1) (v := .ref (A 7)) (C := RX1) (T := TX1) (N := 19) hx hb hts (fun _ h => List.mem_cons_of_mem _ (List.mem_append_right _ h)) hown hK hP 0 rfl rfl 7 (by decide) (hts _ fl_X1_allPeople_27) (fun _ h9 => h9) rfl dX1_allPeople_14 ?_
        refine lv_iload_n hx hb dX1_allPeople_17 rfl (lv_at hl 0 rfl) ?_
        refine r_iald hx hb hK hP 6 0 rfl rfl (Nat.le_of_ble_eq_true rfl) (by omega) dX1_allPeople_18 ?_
        have hv3 := hB7 i
        refine r_iadd hx hb dX1_allPeople_19 ?_
        refine lv_istore_n (lv' := [(1, .int (iI (g + (σ 7 i)))), (2, .int (iI i)), (0, .ref (A 100))]) hx hb dX1_allPeople_20 rfl hl (by decide) rfl (fun ls hl => ?_)
        refine r_iinc (a := i) (b := (i + 1)) (lv2 := [(2, .int (iI (i + 1))), (1, .int (iI (g + (σ 7 i)))), (0, .ref (A 100))]) hx hb dX1_allPeople_21 hl (k := 1) rfl (by omega) (by decide) rfl (fun ls hl => ?_)
        refine lv_goto (tgt := 4) hx hb dX1_allPeople_24 (by decide) ?_
        exact ihlp4_1 (i + 1) (g + (σ 7 i)) ls (by omega) (by rw [fo_s _ _ (by omega), ← hg]) (by omega) (lv_sub hl [0, 1, 2] rfl)
  exact lp4_1 _ 0 0 ls (by omega) rfl (lt_tn _) (lv_sub hl [0, 1, 2] rfl)
theorem fl_X1_greatestCut_67 : Cond.fieldLink RX1 67 "NoiseLamps$Noise" "walls" "I" ∈ wsX1_greatestCut := by decide +kernel
theorem fl_X1_greatestCut_51 : Cond.fieldLink RX1 51 "NoiseLamps$Noise" "wallsBetween" "[I" ∈ wsX1_greatestCut := by decide +kernel
theorem fl_X1_greatestCut_42 : Cond.fieldLink RX1 42 "NoiseLamps$Noise" "wallCut" "[I" ∈ wsX1_greatestCut := by decide +kernel
set_option maxHeartbeats 4000000 in
set_option maxRecDepth 100000 in
theorem c_X1_greatestCut (l : Launch) (D : va_G) (cy : ClassId) (A : Nat → Nat) (σ : Nat → Int → Int) (a : Int) (hI : invN σ) (ha : 0 ≤ a ∧ a < 240) : MetR l yX1_greatestCut wsX1_greatestCut ({ frames := 0, cells := 0, slots := 0, locals := 0 } : Room) D cy (wN cy A σ) ([.ref (A 100), .int (iI a)] : List Value) (nCut σ a) := by
  refine met_R (cc := cX1_greatestCut) (maxL := 5) (ret := (some .int)) (by decide) rfl (Nat.le_of_ble_eq_true rfl) ?_
  intro p e s m below meth c hx hb hr hml hts hown hlocks hP hK ls hl
  have hown : s.vm.findClass RX1 = some m.cls := hown
  have hl : lv_has ls 5 [(0, .ref (A 100)), (1, .int (iI a))] := hl
  obtain ⟨hN0, hN4, hN8, hN14, hB1, hB2, hB3, hB5, hB6, hB7, hB9, hB10, hB11, hB12, hB13, hB15, hB16, hB17⟩ := id hI
  refine lv_iconst (v := iI 0) hx hb dX1_greatestCut_0 rfl ?_
  refine lv_istore_n (lv' := [(2, .int (iI 0)), (0, .ref (A 100)), (1, .int (iI a))]) hx hb dX1_greatestCut_1 rfl hl (by decide) rfl (fun ls hl => ?_)
  refine lv_iconst (v := iI 0) hx hb dX1_greatestCut_2 rfl ?_
  refine lv_istore_n (lv' := [(3, .int (iI 0)), (2, .int (iI 0)), (0, .ref (A 100)), (1, .int (iI a))]) hx hb dX1_greatestCut_3 rfl hl (by decide) rfl (fun ls hl => ?_)
  have lp4_1 : ∀ (nlp4_1 : Nat) (i : Int) (g : Int) (ls : Array Slot), (0 ≤ i ∧ i ≤ σ 8 0) → (g = fo (nCutF σ a) 0 i) → (0 ≤ g ∧ g ≤ 300) → (σ 8 0 - i < (nlp4_1 : Int)) → lv_has ls 5 [(3, .int (iI i)), (2, .int (iI g)), (0, .ref (A 100)), (1, .int (iI a))] → W p l e ({ frames := 0, cells := 0, slots := 0, locals := 0 } : Room) s m ([.ref (A 100), .int (iI a)] : List Value).toArray below meth c s.heap [] 0 0 (MQ below (vp_Si (fun r => r = iI (nCut σ a))) ([.ref (A 100), .int (iI a)] : List Value).toArray s 0 0 (fun _ => False)) (F0 m 4 ls []) := by
    intro nlp4_1
    induction nlp4_1 with
    | zero => intro i g ls hi hg hgb hn hl; exact absurd hn (by omega)
    | succ nlp4_1 ihlp4_1 =>
      intro i g ls hi hg hgb hn hl
      refine lv_iload_n hx hb dX1_greatestCut_4 rfl (lv_at hl 0 rfl) ?_
      refine lv_aload_n hx hb dX1_greatestCut_5 rfl (lv_at hl 2 rfl) ?_
      refine va_get (D := D) (ci := 1) (v := .int (iI (σ 8 0))) (C := RX1) (T := TX1) (N := 19) hx hb hts (fun _ h => List.mem_cons_of_mem _ (List.mem_append_right _ h)) hown hK hP 0 rfl rfl 8 (by decide) (hts _ fl_X1_greatestCut_67) (fun _ h9 => h9) rfl dX1_greatestCut_6 ?_
      refine r_icmp_ge (tgt := 60) hx hb dX1_greatestCut_9 (by decide) (by omega) (by omega) (fun h2 => ?_) (fun h2 => ?_)
      · -- 9 to 60
        refine lv_iload_n hx hb dX1_greatestCut_60 rfl (lv_at hl 1 rfl) ?_
        exact r_ret hx hb hr hlocks dX1_greatestCut_61 (by rw [hg, show i = σ 8 0 from by omega]; rfl)
      · -- 9 to 12
        refine lv_aload_n hx hb dX1_greatestCut_12 rfl (lv_at hl 2 rfl) ?_
        refine va_get (D := D) (ci := 1) (v := .ref (A 17)) (C := RX1) (T := TX1) (N := 19) hx hb hts (fun _ h => List.mem_cons_of_mem _ (List.mem_append_right _ h)) hown hK hP 0 rfl rfl 17 (by decide) (hts _ fl_X1_greatestCut_51) (fun _ h9 => h9) rfl dX1_greatestCut_13 ?_
        refine lv_iload_n hx hb dX1_greatestCut_16 rfl (lv_at hl 3 rfl) ?_
        refine r_iald hx hb hK hP 14 0 rfl rfl (Nat.le_of_ble_eq_true rfl) (by omega) dX1_greatestCut_17 ?_
        have hv3 := hB17 a
        refine lv_iconst (v := iI 1) hx hb dX1_greatestCut_18 rfl ?_
        refine lv_iload_n hx hb dX1_greatestCut_19 rfl (lv_at hl 0 rfl) ?_
        refine r_shl hx hb dX1_greatestCut_20 (by omega) ?_
        refine r_bitand hx hb dX1_greatestCut_21 (by omega) (by omega) ?_
        have hq4 := bitZ_s (σ 17 a) i (by omega)
        refine r_if_eq (tgt := 29) hx hb dX1_greatestCut_22 (by decide) (by omega) (fun h5 => ?_) (fun h5 => ?_)
        · -- 22 to 29
          refine lv_iconst (v := iI 0) hx hb dX1_greatestCut_29 rfl ?_
          refine lv_istore (lv' := [(4, .int (iI 0)), (3, .int (iI i)), (2, .int (iI g)), (0, .ref (A 100)), (1, .int (iI a))]) hx hb dX1_greatestCut_30 hl (by decide) rfl (fun ls hl => ?_)
          refine lv_iload hx hb dX1_greatestCut_32 (lv_at hl 0 rfl) ?_
          refine r_if_eq (tgt := 54) hx hb dX1_greatestCut_34 (by decide) (by omega) (fun _ => ?_) (fun h => absurd h (by decide))
          refine r_iinc (a := i) (b := (i + 1)) (lv2 := [(3, .int (iI (i + 1))), (4, .int (iI 0)), (2, .int (iI g)), (0, .ref (A 100)), (1, .int (iI a))]) hx hb dX1_greatestCut_54 hl (k := 1) rfl (by omega) (by decide) rfl (fun ls hl => ?_)
          refine lv_goto (tgt := 4) hx hb dX1_greatestCut_57 (by decide) ?_
          exact ihlp4_1 (i + 1) g ls (by omega) (by rw [fo_s _ _ (by omega), ← hg]; unfold nCutF; first | rw [if_pos (by omega)] | rw [if_neg (by omega)]) (by omega) (by omega) (lv_sub hl [0, 2, 3, 4] rfl)
        · -- 22 to 25
          refine lv_iconst (v := iI 1) hx hb dX1_greatestCut_25 rfl ?_
          refine lv_goto (tgt := 30) hx hb dX1_greatestCut_26 (by decide) ?_
          refine lv_istore (lv' := [(4, .int (iI 1)), (3, .int (iI i)), (2, .int (iI g)), (0, .ref (A 100)), (1, .int (iI a))]) hx hb dX1_greatestCut_30 hl (by decide) rfl (fun ls hl => ?_)
          refine lv_iload hx hb dX1_greatestCut_32 (lv_at hl 0 rfl) ?_
          refine r_if_eq (tgt := 54) hx hb dX1_greatestCut_34 (by decide) (by omega) (fun h => absurd h (by decide)) (fun _ => ?_)
          refine lv_aload_n hx hb dX1_greatestCut_37 rfl (lv_at hl 3 rfl) ?_
          refine va_get (D := D) (ci := 1) (v := .ref (A 13)) (C := RX1) (T := TX1) (N := 19) hx hb hts (fun _ h => List.mem_cons_of_mem _ (List.mem_append_right _ h)) hown hK hP 0 rfl rfl 13 (by decide) (hts _ fl_X1_greatestCut_42) (fun _ h9 => h9) rfl dX1_greatestCut_38 ?_
          refine lv_iload_n hx hb dX1_greatestCut_41 rfl (lv_at hl 1 rfl) ?_
          refine r_iald hx hb hK hP 11 0 rfl rfl (Nat.le_of_ble_eq_true rfl) (by omega) dX1_greatestCut_42 ?_
          have hv6 := hB13 i
          refine lv_iload_n hx hb dX1_greatestCut_43 rfl (lv_at hl 2 rfl) ?_
          refine r_icmp_le (tgt := 54) hx hb dX1_greatestCut_44 (by decide) (by omega) (by omega) (fun h7 => ?_) (fun h7 => ?_)
          · -- 44 to 54
            refine r_iinc (a := i) (b := (i + 1)) (lv2 := [(3, .int (iI (i + 1))), (4, .int (iI 1)), (2, .int (iI g)), (0, .ref (A 100)), (1, .int (iI a))]) hx hb dX1_greatestCut_54 hl (k := 1) rfl (by omega) (by decide) rfl (fun ls hl => ?_)
            refine lv_goto (tgt := 4) hx hb dX1_greatestCut_57 (by decide) ?_
            exact ihlp4_1 (i + 1) g ls (by omega) (by rw [fo_s _ _ (by omega), ← hg]; unfold nCutF; first | rw [if_pos (by omega)] | rw [if_neg (by omega)]) (by omega) (by omega) (lv_sub hl [0, 2, 3, 4] rfl)
          · -- 44 to 47
            refine lv_aload_n hx hb dX1_greatestCut_47 rfl (lv_at hl 3 rfl) ?_
            refine va_get (D := D) (ci := 1) (v := .ref (A 13)) (C := RX1) (T := TX1) (N := 19) hx hb hts (fun _ h => List.mem_cons_of_mem _ (List.mem_append_right _ h)) hown hK hP 0 rfl rfl 13 (by decide) (hts _ fl_X1_greatestCut_42) (fun _ h9 => h9) rfl dX1_greatestCut_48 ?_
            refine lv_iload_n hx hb dX1_greatestCut_51 rfl (lv_at hl 1 rfl) ?_
            refine r_iald hx hb hK hP 11 0 rfl rfl (Nat.le_of_ble_eq_true rfl) (by omega) dX1_greatestCut_52 ?_
            have hv8 := hB13 i
            refine lv_istore_n (lv' := [(2, .int (iI (σ 13 i))), (4, .int (iI 1)), (3, .int (iI i)), (0, .ref (A 100)), (1, .int (iI a))]) hx hb dX1_greatestCut_53 rfl hl (by decide) rfl (fun ls hl => ?_)
            refine r_iinc (a := i) (b := (i + 1)) (lv2 := [(3, .int (iI (i + 1))), (2, .int (iI (σ 13 i))), (4, .int (iI 1)), (0, .ref (A 100)), (1, .int (iI a))]) hx hb dX1_greatestCut_54 hl (k := 2) rfl (by omega) (by decide) rfl (fun ls hl => ?_)
            refine lv_goto (tgt := 4) hx hb dX1_greatestCut_57 (by decide) ?_
            exact ihlp4_1 (i + 1) (σ 13 i) ls (by omega) (by rw [fo_s _ _ (by omega), ← hg]; unfold nCutF; first | rw [if_pos (by omega)] | rw [if_neg (by omega)]) (by omega) (by omega) (lv_sub hl [0, 1, 3, 4] rfl)
  exact lp4_1 _ 0 0 ls (by omega) rfl (by omega) (lt_tn _) (lv_sub hl [0, 1, 2, 3] rfl)
theorem fl_X1_given_18 : Cond.fieldLink RX1 18 "NoiseLamps$Noise" "pieceLevel" "[I" ∈ wsX1_given := by decide +kernel
theorem fl_X1_given_57 : Cond.fieldLink RX1 57 "NoiseLamps$Noise" "fall" "I" ∈ wsX1_given := by decide +kernel
theorem fl_X1_given_48 : Cond.fieldLink RX1 48 "NoiseLamps$Noise" "doublings" "[I" ∈ wsX1_given := by decide +kernel
set_option maxHeartbeats 4000000 in
set_option maxRecDepth 100000 in
theorem c_X1_given (l : Launch) (D : va_G) (cy : ClassId) (A : Nat → Nat) (σ : Nat → Int → Int) (a b t : Int) (hI : invN σ) (ha : 0 ≤ a ∧ a < 12) (hb2 : 0 ≤ b ∧ b < 20) (ht : 0 ≤ t ∧ t < 3) : MetR l yX1_given wsX1_given ({ frames := 1, cells := 0, slots := 0, locals := 24 } : Room) D cy (wN cy A σ) ([.ref (A 100), .int (iI a), .int (iI b), .int (iI t)] : List Value) (nGiven σ a b t) := by
  refine met_R (cc := cX1_given) (maxL := 6) (ret := (some .int)) (by decide) rfl (Nat.le_of_ble_eq_true rfl) ?_
  intro p e s m below meth c hx hb hr hml hts hown hlocks hP hK ls hl
  have hown : s.vm.findClass RX1 = some m.cls := hown
  have hl : lv_has ls 6 [(0, .ref (A 100)), (1, .int (iI a)), (2, .int (iI b)), (3, .int (iI t))] := hl
  obtain ⟨hN0, hN4, hN8, hN14, hB1, hB2, hB3, hB5, hB6, hB7, hB9, hB10, hB11, hB12, hB13, hB15, hB16, hB17⟩ := id hI
  refine lv_iload_n hx hb dX1_given_0 rfl (lv_at hl 1 rfl) ?_
  refine lv_iload_n hx hb dX1_given_1 rfl (lv_at hl 2 rfl) ?_
  refine r_calli (va_runS (As := [.int (iI a), .int (iI b)]) (rest := []) ⟨hx, hb, hml, hown, hts⟩ (c_X1_pairOf l  a b ) (va_cwS 2 hts gX1_given_X1_pairOf rfl rfl rfl (by decide +kernel) ⟨Nat.le_of_ble_eq_true rfl, Nat.le_of_ble_eq_true rfl⟩) ps_T rfl rfl hl.1 rfl (lv_room (Nat.le_of_ble_eq_true rfl)) dX1_given_2 ⟨Nat.le_of_ble_eq_true rfl, Nat.le_of_ble_eq_true rfl⟩) ?_
  refine lv_istore (lv' := [(4, .int (iI (a * 20 + b))), (0, .ref (A 100)), (1, .int (iI a)), (2, .int (iI b)), (3, .int (iI t))]) hx hb dX1_given_5 hl (by decide) rfl (fun ls hl => ?_)
  refine lv_aload_n hx hb dX1_given_7 rfl (lv_at hl 1 rfl) ?_
  refine va_get (D := D) (ci := 1) (v := .ref (A 3)) (C := RX1) (T := TX1) (N := 19) hx hb hts (fun _ h => List.mem_cons_of_mem _ (List.mem_append_right _ h)) hown hK hP 0 rfl rfl 3 (by decide) (hts _ fl_X1_given_18) (fun _ h9 => h9) rfl dX1_given_8 ?_
  refine lv_iload_n hx hb dX1_given_11 rfl (lv_at hl 2 rfl) ?_
  refine lv_iconst (v := iI 3) hx hb dX1_given_12 rfl ?_
  refine r_imul hx hb dX1_given_13 ?_
  refine lv_iload_n hx hb dX1_given_14 rfl (lv_at hl 4 rfl) ?_
  refine r_iadd hx hb dX1_given_15 ?_
  refine r_iald hx hb hK hP 3 0 rfl rfl (Nat.le_of_ble_eq_true rfl) (by omega) dX1_given_16 ?_
  have hv1 := hB3 ((a * 3) + t)
  refine lv_aload_n hx hb dX1_given_17 rfl (lv_at hl 1 rfl) ?_
  refine va_get (D := D) (ci := 1) (v := .int (iI (σ 14 0))) (C := RX1) (T := TX1) (N := 19) hx hb hts (fun _ h => List.mem_cons_of_mem _ (List.mem_append_right _ h)) hown hK hP 0 rfl rfl 14 (by decide) (hts _ fl_X1_given_57) (fun _ h9 => h9) rfl dX1_given_18 ?_
  refine lv_aload_n hx hb dX1_given_21 rfl (lv_at hl 1 rfl) ?_
  refine va_get (D := D) (ci := 1) (v := .ref (A 16)) (C := RX1) (T := TX1) (N := 19) hx hb hts (fun _ h => List.mem_cons_of_mem _ (List.mem_append_right _ h)) hown hK hP 0 rfl rfl 16 (by decide) (hts _ fl_X1_given_48) (fun _ h9 => h9) rfl dX1_given_22 ?_
  refine lv_iload hx hb dX1_given_25 (lv_at hl 0 rfl) ?_
  refine r_iald hx hb hK hP 13 0 rfl rfl (Nat.le_of_ble_eq_true rfl) (by omega) dX1_given_27 ?_
  have hv2 := hB16 (a * 20 + b)
  have hm0 := mul_bd (a := (σ 14 0)) (b := (σ 16 (a * 20 + b))) (A := 60) (B := 10) (by omega) (by omega)
  refine r_imul hx hb dX1_given_28 ?_
  refine r_isub hx hb dX1_given_29 ?_
  refine lv_aload_n hx hb dX1_given_30 rfl (lv_at hl 1 rfl) ?_
  refine lv_iload hx hb dX1_given_31 (lv_at hl 0 rfl) ?_
  refine r_calli (va_runV (As := [.int (iI (a * 20 + b))]) (rest := [.int (iI ((σ 3 ((a * 3) + t)) - ((σ 14 0) * (σ 16 (a * 20 + b)))))]) ⟨hx, hb, hml, hown, hts⟩ (c_X1_greatestCut l D cy A σ (a * 20 + b) hI (by omega)) (cwV 1 hts gX1_given_X1_greatestCut rfl rfl rfl (by decide +kernel) ⟨Nat.le_of_ble_eq_true rfl, Nat.le_of_ble_eq_true rfl⟩) (pv_ro (C := RX1) (T := TX1) (N := 19) (ci := 1) (q0 := 0) hP hK rfl rfl) rfl rfl hl.1 rfl (lv_room (Nat.le_of_ble_eq_true rfl)) dX1_given_33 ⟨Nat.le_of_ble_eq_true rfl, Nat.le_of_ble_eq_true rfl⟩) ?_
  have hf4 := nCut_bd hI (a * 20 + b)
  refine r_isub hx hb dX1_given_36 ?_
  refine lv_istore (lv' := [(5, .int (iI (((σ 3 ((a * 3) + t)) - ((σ 14 0) * (σ 16 (a * 20 + b)))) - (nCut σ (a * 20 + b))))), (4, .int (iI (a * 20 + b))), (0, .ref (A 100)), (1, .int (iI a)), (2, .int (iI b)), (3, .int (iI t))]) hx hb dX1_given_37 hl (by decide) rfl (fun ls hl => ?_)
  refine lv_iload hx hb dX1_given_39 (lv_at hl 0 rfl) ?_
  refine lv_iconst (v := iI 0) hx hb dX1_given_41 rfl ?_
  refine r_mmax hx hb (by rw [hml]; exact hl.1.symm) hown (hts (.methodLink RX1 89 Lib.Math.max.name) (by decide +kernel)) (hts (.static Lib.Math.max.name) (by decide +kernel)) (hts (.initialized "java/lang/Math") (by decide +kernel)) (hts (.code Lib.Math.max.name Lib.Math.max.code 2 (some .int)) (by decide +kernel)) (Nat.le_of_ble_eq_true rfl) (Nat.le_of_ble_eq_true rfl) (Nat.le_of_ble_eq_true rfl) (Nat.le_of_ble_eq_true rfl) (by omega) (by omega) dX1_given_42 ?_
  have hm5 := mxZ_s (((σ 3 ((a * 3) + t)) - ((σ 14 0) * (σ 16 (a * 20 + b)))) - (nCut σ (a * 20 + b))) 0
  exact r_ret hx hb hr hlocks dX1_given_45 (by rfl)
theorem fl_X1_partLevel_61 : Cond.fieldLink RX1 61 "NoiseLamps$Noise" "pieces" "I" ∈ wsX1_partLevel := by decide +kernel
set_option maxHeartbeats 4000000 in
set_option maxRecDepth 100000 in
theorem c_X1_partLevel (l : Launch) (D : va_G) (cy : ClassId) (A : Nat → Nat) (σ : Nat → Int → Int) (b t : Int) (hI : invN σ) (hb2 : 0 ≤ b ∧ b < 20) (ht : 0 ≤ t ∧ t < 3) : MetR l yX1_partLevel wsX1_partLevel ({ frames := 2, cells := 0, slots := 0, locals := 49 } : Room) D cy (wN cy A σ) ([.ref (A 100), .int (iI b), .int (iI t)] : List Value) (nPart σ b t) := by
  refine met_R (cc := cX1_partLevel) (maxL := 5) (ret := (some .int)) (by decide) rfl (Nat.le_of_ble_eq_true rfl) ?_
  intro p e s m below meth c hx hb hr hml hts hown hlocks hP hK ls hl
  have hown : s.vm.findClass RX1 = some m.cls := hown
  have hl : lv_has ls 5 [(0, .ref (A 100)), (1, .int (iI b)), (2, .int (iI t))] := hl
  obtain ⟨hN0, hN4, hN8, hN14, hB1, hB2, hB3, hB5, hB6, hB7, hB9, hB10, hB11, hB12, hB13, hB15, hB16, hB17⟩ := id hI
  refine lv_iconst (v := iI 0) hx hb dX1_partLevel_0 rfl ?_
  refine lv_istore_n (lv' := [(3, .int (iI 0)), (0, .ref (A 100)), (1, .int (iI b)), (2, .int (iI t))]) hx hb dX1_partLevel_1 rfl hl (by decide) rfl (fun ls hl => ?_)
  refine lv_iconst (v := iI 0) hx hb dX1_partLevel_2 rfl ?_
  refine lv_istore (lv' := [(4, .int (iI 0)), (3, .int (iI 0)), (0, .ref (A 100)), (1, .int (iI b)), (2, .int (iI t))]) hx hb dX1_partLevel_3 hl (by decide) rfl (fun ls hl => ?_)
  have lp5_1 : ∀ (nlp5_1 : Nat) (i : Int) (g : Int) (ls : Array Slot), (0 ≤ i ∧ i ≤ σ 0 0) → (g = fo (fun j p => nJoin j (nGiven σ p b t)) 0 i) → (0 ≤ g ∧ g ≤ 1200 + 30 * i) → (σ 0 0 - i < (nlp5_1 : Int)) → lv_has ls 5 [(4, .int (iI i)), (3, .int (iI g)), (0, .ref (A 100)), (1, .int (iI b)), (2, .int (iI t))] → W p l e ({ frames := 2, cells := 0, slots := 0, locals := 49 } : Room) s m ([.ref (A 100), .int (iI b), .int (iI t)] : List Value).toArray below meth c s.heap [] 0 0 (MQ below (vp_Si (fun r => r = iI (nPart σ b t))) ([.ref (A 100), .int (iI b), .int (iI t)] : List Value).toArray s 0 0 (fun _ => False)) (F0 m 5 ls []) := by
    intro nlp5_1
    induction nlp5_1 with
    | zero => intro i g ls hi hg hgb hn hl; exact absurd hn (by omega)
    | succ nlp5_1 ihlp5_1 =>
      intro i g ls hi hg hgb hn hl
      refine lv_iload hx hb dX1_partLevel_5 (lv_at hl 0 rfl) ?_
      refine lv_aload_n hx hb dX1_partLevel_7 rfl (lv_at hl 2 rfl) ?_
      refine va_get (D := D) (ci := 1) (v := .int (iI (σ 0 0))) (C := RX1) (T := TX1) (N := 19) hx hb hts (fun _ h => List.mem_cons_of_mem _ (List.mem_append_right _ h)) hown hK hP 0 rfl rfl 0 (by decide) (hts _ fl_X1_partLevel_61) (fun _ h9 => h9) rfl dX1_partLevel_8 ?_
      refine r_icmp_ge (tgt := 33) hx hb dX1_partLevel_11 (by decide) (by omega) (by omega) (fun h2 => ?_) (fun h2 => ?_)
      · -- 11 to 33
        refine lv_iload_n hx hb dX1_partLevel_33 rfl (lv_at hl 1 rfl) ?_
        exact r_ret hx hb hr hlocks dX1_partLevel_34 (by rw [hg, show i = σ 0 0 from by omega]; rfl)
      · -- 11 to 14
        refine lv_iload_n hx hb dX1_partLevel_14 rfl (lv_at hl 1 rfl) ?_
        refine lv_aload_n hx hb dX1_partLevel_15 rfl (lv_at hl 2 rfl) ?_
        refine lv_iload hx hb dX1_partLevel_16 (lv_at hl 0 rfl) ?_
        refine lv_iload_n hx hb dX1_partLevel_18 rfl (lv_at hl 3 rfl) ?_
        refine lv_iload_n hx hb dX1_partLevel_19 rfl (lv_at hl 4 rfl) ?_
        refine r_calli (va_runV (As := [.int (iI i), .int (iI b), .int (iI t)]) (rest := [.int (iI g)]) ⟨hx, hb, hml, hown, hts⟩ (c_X1_given l D cy A σ i b t hI (by omega) (by omega) (by omega)) (cwV 3 hts gX1_partLevel_X1_given rfl rfl rfl (by decide +kernel) ⟨Nat.le_of_ble_eq_true rfl, Nat.le_of_ble_eq_true rfl⟩) (pv_ro (C := RX1) (T := TX1) (N := 19) (ci := 1) (q0 := 0) hP hK rfl rfl) rfl rfl hl.1 rfl (lv_room (Nat.le_of_ble_eq_true rfl)) dX1_partLevel_20 ⟨Nat.le_of_ble_eq_true rfl, Nat.le_of_ble_eq_true rfl⟩) ?_
        have hf3 := nGiven_bd hI i b t
        refine r_calli (va_runS (As := [.int (iI g), .int (iI (nGiven σ i b t))]) (rest := []) ⟨hx, hb, hml, hown, hts⟩ (c_X1_join l  g (nGiven σ i b t) (by omega) (by omega)) (va_cwS 2 hts gX1_partLevel_X1_join rfl rfl rfl (by decide +kernel) ⟨Nat.le_of_ble_eq_true rfl, Nat.le_of_ble_eq_true rfl⟩) ps_T rfl rfl hl.1 rfl (lv_room (Nat.le_of_ble_eq_true rfl)) dX1_partLevel_23 ⟨Nat.le_of_ble_eq_true rfl, Nat.le_of_ble_eq_true rfl⟩) ?_
        refine lv_istore_n (lv' := [(3, .int (iI (nJoin g (nGiven σ i b t)))), (4, .int (iI i)), (0, .ref (A 100)), (1, .int (iI b)), (2, .int (iI t))]) hx hb dX1_partLevel_26 rfl hl (by decide) rfl (fun ls hl => ?_)
        refine r_iinc (a := i) (b := (i + 1)) (lv2 := [(4, .int (iI (i + 1))), (3, .int (iI (nJoin g (nGiven σ i b t)))), (0, .ref (A 100)), (1, .int (iI b)), (2, .int (iI t))]) hx hb dX1_partLevel_27 hl (k := 1) rfl (by omega) (by decide) rfl (fun ls hl => ?_)
        refine lv_goto (tgt := 5) hx hb dX1_partLevel_30 (by decide) ?_
        exact ihlp5_1 (i + 1) (nJoin g (nGiven σ i b t)) ls (by omega) (by rw [fo_s _ _ (by omega), ← hg]) (by have q1 := nGiven_bd hI i b t; have q2 := nJoin_bd (a := g) (b := nGiven σ i b t) (X := 1200 + 30 * i) (by omega) (by omega); omega) (by omega) (lv_sub hl [0, 1, 2, 3, 4] rfl)
  exact lp5_1 _ 0 0 ls (by omega) rfl (by omega) (lt_tn _) (lv_sub hl [0, 1, 2, 3, 4] rfl)
theorem fl_X1_allDayLevel_45 : Cond.fieldLink RX1 45 "NoiseLamps$Noise" "malus" "[I" ∈ wsX1_allDayLevel := by decide +kernel
set_option maxHeartbeats 4000000 in
set_option maxRecDepth 100000 in
theorem c_X1_allDayLevel (l : Launch) (D : va_G) (cy : ClassId) (A : Nat → Nat) (σ : Nat → Int → Int) (b : Int) (hI : invN σ) (hb2 : 0 ≤ b ∧ b < 20) : MetR l yX1_allDayLevel wsX1_allDayLevel ({ frames := 3, cells := 0, slots := 0, locals := 73 } : Room) D cy (wN cy A σ) ([.ref (A 100), .int (iI b)] : List Value) (nDay σ b) := by
  refine met_R (cc := cX1_allDayLevel) (maxL := 5) (ret := (some .int)) (by decide) rfl (Nat.le_of_ble_eq_true rfl) ?_
  intro p e s m below meth c hx hb hr hml hts hown hlocks hP hK ls hl
  have hown : s.vm.findClass RX1 = some m.cls := hown
  have hl : lv_has ls 5 [(0, .ref (A 100)), (1, .int (iI b))] := hl
  obtain ⟨hN0, hN4, hN8, hN14, hB1, hB2, hB3, hB5, hB6, hB7, hB9, hB10, hB11, hB12, hB13, hB15, hB16, hB17⟩ := id hI
  refine lv_iconst (v := iI 0) hx hb dX1_allDayLevel_0 rfl ?_
  refine lv_istore_n (lv' := [(2, .int (iI 0)), (0, .ref (A 100)), (1, .int (iI b))]) hx hb dX1_allDayLevel_1 rfl hl (by decide) rfl (fun ls hl => ?_)
  refine lv_iconst (v := iI 0) hx hb dX1_allDayLevel_2 rfl ?_
  refine lv_istore_n (lv' := [(3, .int (iI 0)), (2, .int (iI 0)), (0, .ref (A 100)), (1, .int (iI b))]) hx hb dX1_allDayLevel_3 rfl hl (by decide) rfl (fun ls hl => ?_)
  have lp4_1 : ∀ (nlp4_1 : Nat) (i : Int) (g : Int) (ls : Array Slot), (0 ≤ i ∧ i ≤ 3) → (g = fo (nDayF σ b) 0 i) → (0 ≤ g ∧ g ≤ 1760) → (3 - i < (nlp4_1 : Int)) → lv_has ls 5 [(3, .int (iI i)), (2, .int (iI g)), (0, .ref (A 100)), (1, .int (iI b))] → W p l e ({ frames := 3, cells := 0, slots := 0, locals := 73 } : Room) s m ([.ref (A 100), .int (iI b)] : List Value).toArray below meth c s.heap [] 0 0 (MQ below (vp_Si (fun r => r = iI (nDay σ b))) ([.ref (A 100), .int (iI b)] : List Value).toArray s 0 0 (fun _ => False)) (F0 m 4 ls []) := by
    intro nlp4_1
    induction nlp4_1 with
    | zero => intro i g ls hi hg hgb hn hl; exact absurd hn (by omega)
    | succ nlp4_1 ihlp4_1 =>
      intro i g ls hi hg hgb hn hl
      refine lv_iload_n hx hb dX1_allDayLevel_4 rfl (lv_at hl 0 rfl) ?_
      refine lv_iconst (v := iI 3) hx hb dX1_allDayLevel_5 rfl ?_
      refine r_icmp_ge (tgt := 42) hx hb dX1_allDayLevel_6 (by decide) (by omega) (by omega) (fun h2 => ?_) (fun h2 => ?_)
      · -- 6 to 42
        refine lv_iload_n hx hb dX1_allDayLevel_42 rfl (lv_at hl 1 rfl) ?_
        exact r_ret hx hb hr hlocks dX1_allDayLevel_43 (by rw [hg, show i = 3 from by omega]; rfl)
      · -- 6 to 9
        refine lv_aload_n hx hb dX1_allDayLevel_9 rfl (lv_at hl 2 rfl) ?_
        refine lv_iload_n hx hb dX1_allDayLevel_10 rfl (lv_at hl 3 rfl) ?_
        refine lv_iload_n hx hb dX1_allDayLevel_11 rfl (lv_at hl 0 rfl) ?_
        refine r_calli (va_runV (As := [.int (iI b), .int (iI i)]) (rest := []) ⟨hx, hb, hml, hown, hts⟩ (c_X1_partLevel l D cy A σ b i hI (by omega) (by omega)) (cwV 2 hts gX1_allDayLevel_X1_partLevel rfl rfl rfl (by decide +kernel) ⟨Nat.le_of_ble_eq_true rfl, Nat.le_of_ble_eq_true rfl⟩) (pv_ro (C := RX1) (T := TX1) (N := 19) (ci := 1) (q0 := 0) hP hK rfl rfl) rfl rfl hl.1 rfl (lv_room (Nat.le_of_ble_eq_true rfl)) dX1_allDayLevel_12 ⟨Nat.le_of_ble_eq_true rfl, Nat.le_of_ble_eq_true rfl⟩) ?_
        have hf3 := nPart_bd hI b i
        refine lv_istore (lv' := [(4, .int (iI (nPart σ b i))), (3, .int (iI i)), (2, .int (iI g)), (0, .ref (A 100)), (1, .int (iI b))]) hx hb dX1_allDayLevel_15 hl (by decide) rfl (fun ls hl => ?_)
        refine lv_iload hx hb dX1_allDayLevel_17 (lv_at hl 0 rfl) ?_
        refine r_if_le (tgt := 36) hx hb dX1_allDayLevel_19 (by decide) (by omega) (fun h4 => ?_) (fun h4 => ?_)
        · -- 19 to 36
          refine r_iinc (a := i) (b := (i + 1)) (lv2 := [(3, .int (iI (i + 1))), (4, .int (iI (nPart σ b i))), (2, .int (iI g)), (0, .ref (A 100)), (1, .int (iI b))]) hx hb dX1_allDayLevel_36 hl (k := 1) rfl (by omega) (by decide) rfl (fun ls hl => ?_)
          refine lv_goto (tgt := 4) hx hb dX1_allDayLevel_39 (by decide) ?_
          exact ihlp4_1 (i + 1) g ls (by omega) (by rw [fo_s _ _ (by omega), ← hg]; unfold nDayF; first | rw [if_pos (by omega)] | rw [if_neg (by omega)]) (by omega) (by omega) (lv_sub hl [0, 2, 3, 4] rfl)
        · -- 19 to 22
          refine lv_iload_n hx hb dX1_allDayLevel_22 rfl (lv_at hl 2 rfl) ?_
          refine lv_iload hx hb dX1_allDayLevel_23 (lv_at hl 0 rfl) ?_
          refine lv_aload_n hx hb dX1_allDayLevel_25 rfl (lv_at hl 3 rfl) ?_
          refine va_get (D := D) (ci := 1) (v := .ref (A 15)) (C := RX1) (T := TX1) (N := 19) hx hb hts (fun _ h => List.mem_cons_of_mem _ (List.mem_append_right _ h)) hown hK hP 0 rfl rfl 15 (by decide) (hts _ fl_X1_allDayLevel_45) (fun _ h9 => h9) rfl dX1_allDayLevel_26 ?_
          refine lv_iload_n hx hb dX1_allDayLevel_29 rfl (lv_at hl 1 rfl) ?_
          refine r_iald hx hb hK hP 12 0 rfl rfl (Nat.le_of_ble_eq_true rfl) (by omega) dX1_allDayLevel_30 ?_
          have hv5 := hB15 i
          refine r_iadd hx hb dX1_allDayLevel_31 ?_
          refine r_mmax hx hb (by rw [hml]; exact hl.1.symm) hown (hts (.methodLink RX1 89 Lib.Math.max.name) (by decide +kernel)) (hts (.static Lib.Math.max.name) (by decide +kernel)) (hts (.initialized "java/lang/Math") (by decide +kernel)) (hts (.code Lib.Math.max.name Lib.Math.max.code 2 (some .int)) (by decide +kernel)) (Nat.le_of_ble_eq_true rfl) (Nat.le_of_ble_eq_true rfl) (Nat.le_of_ble_eq_true rfl) (Nat.le_of_ble_eq_true rfl) (by omega) (by omega) dX1_allDayLevel_32 ?_
          have hm6 := mxZ_s g ((nPart σ b i) + (σ 15 i))
          refine lv_istore_n (lv' := [(2, .int (iI (mxZ g ((nPart σ b i) + (σ 15 i))))), (4, .int (iI (nPart σ b i))), (3, .int (iI i)), (0, .ref (A 100)), (1, .int (iI b))]) hx hb dX1_allDayLevel_35 rfl hl (by decide) rfl (fun ls hl => ?_)
          refine r_iinc (a := i) (b := (i + 1)) (lv2 := [(3, .int (iI (i + 1))), (2, .int (iI (mxZ g ((nPart σ b i) + (σ 15 i))))), (4, .int (iI (nPart σ b i))), (0, .ref (A 100)), (1, .int (iI b))]) hx hb dX1_allDayLevel_36 hl (k := 2) rfl (by omega) (by decide) rfl (fun ls hl => ?_)
          refine lv_goto (tgt := 4) hx hb dX1_allDayLevel_39 (by decide) ?_
          exact ihlp4_1 (i + 1) (mxZ g ((nPart σ b i) + (σ 15 i))) ls (by omega) (by rw [fo_s _ _ (by omega), ← hg]; unfold nDayF; first | rw [if_pos (by omega)] | rw [if_neg (by omega)]) (by omega) (by omega) (lv_sub hl [0, 1, 3, 4] rfl)
  exact lp4_1 _ 0 0 ls (by omega) rfl (by omega) (lt_tn _) (lv_sub hl [0, 1, 2, 3] rfl)
theorem fl_X1_peopleAbove_64 : Cond.fieldLink RX1 64 "NoiseLamps$Noise" "houses" "I" ∈ wsX1_peopleAbove := by decide +kernel
theorem fl_X1_peopleAbove_27 : Cond.fieldLink RX1 27 "NoiseLamps$Noise" "housePeople" "[I" ∈ wsX1_peopleAbove := by decide +kernel
set_option maxHeartbeats 4000000 in
set_option maxRecDepth 100000 in
theorem c_X1_peopleAbove (l : Launch) (D : va_G) (cy : ClassId) (A : Nat → Nat) (σ : Nat → Int → Int) (b : Int) (hI : invN σ) (hb : I32 b) : MetR l yX1_peopleAbove wsX1_peopleAbove ({ frames := 4, cells := 0, slots := 0, locals := 97 } : Room) D cy (wN cy A σ) ([.ref (A 100), .int (iI b)] : List Value) (nPeople σ b) := by
  refine met_R (cc := cX1_peopleAbove) (maxL := 4) (ret := (some .int)) (by decide) rfl (Nat.le_of_ble_eq_true rfl) ?_
  intro p e s m below meth c hx hb hr hml hts hown hlocks hP hK ls hl
  have hown : s.vm.findClass RX1 = some m.cls := hown
  have hl : lv_has ls 4 [(0, .ref (A 100)), (1, .int (iI b))] := hl
  obtain ⟨hN0, hN4, hN8, hN14, hB1, hB2, hB3, hB5, hB6, hB7, hB9, hB10, hB11, hB12, hB13, hB15, hB16, hB17⟩ := id hI
  refine lv_iconst (v := iI 0) hx hb dX1_peopleAbove_0 rfl ?_
  refine lv_istore_n (lv' := [(2, .int (iI 0)), (0, .ref (A 100)), (1, .int (iI b))]) hx hb dX1_peopleAbove_1 rfl hl (by decide) rfl (fun ls hl => ?_)
  refine lv_iconst (v := iI 0) hx hb dX1_peopleAbove_2 rfl ?_
  refine lv_istore_n (lv' := [(3, .int (iI 0)), (2, .int (iI 0)), (0, .ref (A 100)), (1, .int (iI b))]) hx hb dX1_peopleAbove_3 rfl hl (by decide) rfl (fun ls hl => ?_)
  have lp4_1 : ∀ (nlp4_1 : Nat) (i : Int) (g : Int) (ls : Array Slot), (0 ≤ i ∧ i ≤ σ 4 0) → (g = fo (nPeopleF σ b) 0 i) → (σ 4 0 - i < (nlp4_1 : Int)) → lv_has ls 4 [(3, .int (iI i)), (2, .int (iI g)), (0, .ref (A 100)), (1, .int (iI b))] → W p l e ({ frames := 4, cells := 0, slots := 0, locals := 97 } : Room) s m ([.ref (A 100), .int (iI b)] : List Value).toArray below meth c s.heap [] 0 0 (MQ below (vp_Si (fun r => r = iI (nPeople σ b))) ([.ref (A 100), .int (iI b)] : List Value).toArray s 0 0 (fun _ => False)) (F0 m 4 ls []) := by
    intro nlp4_1
    induction nlp4_1 with
    | zero => intro i g ls hi hg hn hl; exact absurd hn (by omega)
    | succ nlp4_1 ihlp4_1 =>
      intro i g ls hi hg hn hl
      refine lv_iload_n hx hb dX1_peopleAbove_4 rfl (lv_at hl 0 rfl) ?_
      refine lv_aload_n hx hb dX1_peopleAbove_5 rfl (lv_at hl 2 rfl) ?_
      refine va_get (D := D) (ci := 1) (v := .int (iI (σ 4 0))) (C := RX1) (T := TX1) (N := 19) hx hb hts (fun _ h => List.mem_cons_of_mem _ (List.mem_append_right _ h)) hown hK hP 0 rfl rfl 4 (by decide) (hts _ fl_X1_peopleAbove_64) (fun _ h9 => h9) rfl dX1_peopleAbove_6 ?_
      refine r_icmp_ge (tgt := 36) hx hb dX1_peopleAbove_9 (by decide) (by omega) (by omega) (fun h2 => ?_) (fun h2 => ?_)
      · -- 9 to 36
        refine lv_iload_n hx hb dX1_peopleAbove_36 rfl (lv_at hl 1 rfl) ?_
        exact r_ret hx hb hr hlocks dX1_peopleAbove_37 (by rw [hg, show i = σ 4 0 from by omega]; rfl)
      · -- 9 to 12
        refine lv_aload_n hx hb dX1_peopleAbove_12 rfl (lv_at hl 2 rfl) ?_
        refine lv_iload_n hx hb dX1_peopleAbove_13 rfl (lv_at hl 0 rfl) ?_
        refine r_calli (va_runV (As := [.int (iI i)]) (rest := []) ⟨hx, hb, hml, hown, hts⟩ (c_X1_allDayLevel l D cy A σ i hI (by omega)) (cwV 1 hts gX1_peopleAbove_X1_allDayLevel rfl rfl rfl (by decide +kernel) ⟨Nat.le_of_ble_eq_true rfl, Nat.le_of_ble_eq_true rfl⟩) (pv_ro (C := RX1) (T := TX1) (N := 19) (ci := 1) (q0 := 0) hP hK rfl rfl) rfl rfl hl.1 rfl (lv_room (Nat.le_of_ble_eq_true rfl)) dX1_peopleAbove_14 ⟨Nat.le_of_ble_eq_true rfl, Nat.le_of_ble_eq_true rfl⟩) ?_
        have hf3 := nDay_bd hI i
        refine lv_iload_n hx hb dX1_peopleAbove_17 rfl (lv_at hl 3 rfl) ?_
        refine r_icmp_le (tgt := 30) hx hb dX1_peopleAbove_18 (by decide) (by omega) (by omega) (fun h4 => ?_) (fun h4 => ?_)
        · -- 18 to 30
          refine r_iinc (a := i) (b := (i + 1)) (lv2 := [(3, .int (iI (i + 1))), (2, .int (iI g)), (0, .ref (A 100)), (1, .int (iI b))]) hx hb dX1_peopleAbove_30 hl (k := 0) rfl (by omega) (by decide) rfl (fun ls hl => ?_)
          refine lv_goto (tgt := 4) hx hb dX1_peopleAbove_33 (by decide) ?_
          exact ihlp4_1 (i + 1) g ls (by omega) (by rw [fo_s _ _ (by omega), ← hg]; unfold nPeopleF; first | rw [if_pos (by omega)] | rw [if_neg (by omega)]) (by omega) (lv_sub hl [0, 1, 2, 3] rfl)
        · -- 18 to 21
          refine lv_iload_n hx hb dX1_peopleAbove_21 rfl (lv_at hl 1 rfl) ?_
          refine lv_aload_n hx hb dX1_peopleAbove_22 rfl (lv_at hl 2 rfl) ?_
          refine va_get (D := D) (ci := 1) (v := .ref (A 7)) (C := RX1) (T := TX1) (N := 19) hx hb hts (fun _ h => List.mem_cons_of_mem _ (List.mem_append_right _ h)) hown hK hP 0 rfl rfl 7 (by decide) (hts _ fl_X1_peopleAbove_27) (fun _ h9 => h9) rfl dX1_peopleAbove_23 ?_
          refine lv_iload_n hx hb dX1_peopleAbove_26 rfl (lv_at hl 0 rfl) ?_
          refine r_iald hx hb hK hP 6 0 rfl rfl (Nat.le_of_ble_eq_true rfl) (by omega) dX1_peopleAbove_27 ?_
          have hv5 := hB7 i
          refine r_iadd hx hb dX1_peopleAbove_28 ?_
          refine lv_istore_n (lv' := [(2, .int (iI (g + (σ 7 i)))), (3, .int (iI i)), (0, .ref (A 100)), (1, .int (iI b))]) hx hb dX1_peopleAbove_29 rfl hl (by decide) rfl (fun ls hl => ?_)
          refine r_iinc (a := i) (b := (i + 1)) (lv2 := [(3, .int (iI (i + 1))), (2, .int (iI (g + (σ 7 i)))), (0, .ref (A 100)), (1, .int (iI b))]) hx hb dX1_peopleAbove_30 hl (k := 1) rfl (by omega) (by decide) rfl (fun ls hl => ?_)
          refine lv_goto (tgt := 4) hx hb dX1_peopleAbove_33 (by decide) ?_
          exact ihlp4_1 (i + 1) (g + (σ 7 i)) ls (by omega) (by rw [fo_s _ _ (by omega), ← hg]; unfold nPeopleF; first | rw [if_pos (by omega)] | rw [if_neg (by omega)]) (by omega) (lv_sub hl [0, 1, 2, 3] rfl)
  exact lp4_1 _ 0 0 ls (by omega) rfl (lt_tn _) (lv_sub hl [0, 1, 2, 3] rfl)
theorem fl_X1_loudestPiece_61 : Cond.fieldLink RX1 61 "NoiseLamps$Noise" "pieces" "I" ∈ wsX1_loudestPiece := by decide +kernel
set_option maxHeartbeats 4000000 in
set_option maxRecDepth 100000 in
theorem c_X1_loudestPiece (l : Launch) (D : va_G) (cy : ClassId) (A : Nat → Nat) (σ : Nat → Int → Int) (b t : Int) (hI : invN σ) (hb2 : 0 ≤ b ∧ b < 20) (ht : 0 ≤ t ∧ t < 3) : MetR l yX1_loudestPiece wsX1_loudestPiece ({ frames := 2, cells := 0, slots := 0, locals := 49 } : Room) D cy (wN cy A σ) ([.ref (A 100), .int (iI b), .int (iI t)] : List Value) (nLoud σ b t) := by
  refine met_R (cc := cX1_loudestPiece) (maxL := 7) (ret := (some .int)) (by decide) rfl (Nat.le_of_ble_eq_true rfl) ?_
  intro p e s m below meth c hx hb hr hml hts hown hlocks hP hK ls hl
  have hown : s.vm.findClass RX1 = some m.cls := hown
  have hl : lv_has ls 7 [(0, .ref (A 100)), (1, .int (iI b)), (2, .int (iI t))] := hl
  obtain ⟨hN0, hN4, hN8, hN14, hB1, hB2, hB3, hB5, hB6, hB7, hB9, hB10, hB11, hB12, hB13, hB15, hB16, hB17⟩ := id hI
  refine lv_iconst (v := iI (-1)) hx hb dX1_loudestPiece_0 rfl ?_
  refine lv_istore_n (lv' := [(3, .int (iI (-1))), (0, .ref (A 100)), (1, .int (iI b)), (2, .int (iI t))]) hx hb dX1_loudestPiece_1 rfl hl (by decide) rfl (fun ls hl => ?_)
  refine lv_iconst (v := iI 0) hx hb dX1_loudestPiece_2 rfl ?_
  refine lv_istore (lv' := [(4, .int (iI 0)), (3, .int (iI (-1))), (0, .ref (A 100)), (1, .int (iI b)), (2, .int (iI t))]) hx hb dX1_loudestPiece_3 hl (by decide) rfl (fun ls hl => ?_)
  refine lv_iconst (v := iI 0) hx hb dX1_loudestPiece_5 rfl ?_
  refine lv_istore (lv' := [(5, .int (iI 0)), (4, .int (iI 0)), (3, .int (iI (-1))), (0, .ref (A 100)), (1, .int (iI b)), (2, .int (iI t))]) hx hb dX1_loudestPiece_6 hl (by decide) rfl (fun ls hl => ?_)
  have lp8_1 : ∀ (nlp8_1 : Nat) (i : Int) (g : Int) (q : Int) (ls : Array Slot), (0 ≤ i ∧ i ≤ σ 0 0) → ((q, g) = fo (nLoudF σ b t) (-1, 0) i) → (0 ≤ g ∧ g ≤ 1200) → (σ 0 0 - i < (nlp8_1 : Int)) → lv_has ls 7 [(5, .int (iI i)), (4, .int (iI g)), (3, .int (iI q)), (0, .ref (A 100)), (1, .int (iI b)), (2, .int (iI t))] → W p l e ({ frames := 2, cells := 0, slots := 0, locals := 49 } : Room) s m ([.ref (A 100), .int (iI b), .int (iI t)] : List Value).toArray below meth c s.heap [] 0 0 (MQ below (vp_Si (fun r => r = iI (nLoud σ b t))) ([.ref (A 100), .int (iI b), .int (iI t)] : List Value).toArray s 0 0 (fun _ => False)) (F0 m 8 ls []) := by
    intro nlp8_1
    induction nlp8_1 with
    | zero => intro i g q ls hi hg hgb hn hl; exact absurd hn (by omega)
    | succ nlp8_1 ihlp8_1 =>
      intro i g q ls hi hg hgb hn hl
      refine lv_iload hx hb dX1_loudestPiece_8 (lv_at hl 0 rfl) ?_
      refine lv_aload_n hx hb dX1_loudestPiece_10 rfl (lv_at hl 3 rfl) ?_
      refine va_get (D := D) (ci := 1) (v := .int (iI (σ 0 0))) (C := RX1) (T := TX1) (N := 19) hx hb hts (fun _ h => List.mem_cons_of_mem _ (List.mem_append_right _ h)) hown hK hP 0 rfl rfl 0 (by decide) (hts _ fl_X1_loudestPiece_61) (fun _ h9 => h9) rfl dX1_loudestPiece_11 ?_
      refine r_icmp_ge (tgt := 47) hx hb dX1_loudestPiece_14 (by decide) (by omega) (by omega) (fun h2 => ?_) (fun h2 => ?_)
      · -- 14 to 47
        refine lv_iload_n hx hb dX1_loudestPiece_47 rfl (lv_at hl 2 rfl) ?_
        exact r_ret hx hb hr hlocks dX1_loudestPiece_48 (by unfold nLoud; rw [show σ 0 0 = i from by omega, ← hg])
      · -- 14 to 17
        refine lv_aload_n hx hb dX1_loudestPiece_17 rfl (lv_at hl 3 rfl) ?_
        refine lv_iload hx hb dX1_loudestPiece_18 (lv_at hl 0 rfl) ?_
        refine lv_iload_n hx hb dX1_loudestPiece_20 rfl (lv_at hl 4 rfl) ?_
        refine lv_iload_n hx hb dX1_loudestPiece_21 rfl (lv_at hl 5 rfl) ?_
        refine r_calli (va_runV (As := [.int (iI i), .int (iI b), .int (iI t)]) (rest := []) ⟨hx, hb, hml, hown, hts⟩ (c_X1_given l D cy A σ i b t hI (by omega) (by omega) (by omega)) (cwV 3 hts gX1_loudestPiece_X1_given rfl rfl rfl (by decide +kernel) ⟨Nat.le_of_ble_eq_true rfl, Nat.le_of_ble_eq_true rfl⟩) (pv_ro (C := RX1) (T := TX1) (N := 19) (ci := 1) (q0 := 0) hP hK rfl rfl) rfl rfl hl.1 rfl (lv_room (Nat.le_of_ble_eq_true rfl)) dX1_loudestPiece_22 ⟨Nat.le_of_ble_eq_true rfl, Nat.le_of_ble_eq_true rfl⟩) ?_
        have hf3 := nGiven_bd hI i b t
        refine lv_istore (lv' := [(6, .int (iI (nGiven σ i b t))), (5, .int (iI i)), (4, .int (iI g)), (3, .int (iI q)), (0, .ref (A 100)), (1, .int (iI b)), (2, .int (iI t))]) hx hb dX1_loudestPiece_25 hl (by decide) rfl (fun ls hl => ?_)
        refine lv_iload hx hb dX1_loudestPiece_27 (lv_at hl 0 rfl) ?_
        refine lv_iload hx hb dX1_loudestPiece_29 (lv_at hl 2 rfl) ?_
        refine r_icmp_le (tgt := 41) hx hb dX1_loudestPiece_31 (by decide) (by omega) (by omega) (fun h4 => ?_) (fun h4 => ?_)
        · -- 31 to 41
          refine r_iinc (a := i) (b := (i + 1)) (lv2 := [(5, .int (iI (i + 1))), (6, .int (iI (nGiven σ i b t))), (4, .int (iI g)), (3, .int (iI q)), (0, .ref (A 100)), (1, .int (iI b)), (2, .int (iI t))]) hx hb dX1_loudestPiece_41 hl (k := 1) rfl (by omega) (by decide) rfl (fun ls hl => ?_)
          refine lv_goto (tgt := 8) hx hb dX1_loudestPiece_44 (by decide) ?_
          exact ihlp8_1 (i + 1) g q ls (by omega) (by rw [fo_s _ _ (by omega), ← hg]; unfold nLoudF; first | rw [if_pos (by show _ < _; omega)] | rw [if_neg (by show ¬ _ < _; omega)]) (by omega) (by omega) (lv_sub hl [0, 2, 3, 4, 5, 6] rfl)
        · -- 31 to 34
          refine lv_iload hx hb dX1_loudestPiece_34 (lv_at hl 0 rfl) ?_
          refine lv_istore (lv' := [(4, .int (iI (nGiven σ i b t))), (6, .int (iI (nGiven σ i b t))), (5, .int (iI i)), (3, .int (iI q)), (0, .ref (A 100)), (1, .int (iI b)), (2, .int (iI t))]) hx hb dX1_loudestPiece_36 hl (by decide) rfl (fun ls hl => ?_)
          refine lv_iload hx hb dX1_loudestPiece_38 (lv_at hl 2 rfl) ?_
          refine lv_istore_n (lv' := [(3, .int (iI i)), (4, .int (iI (nGiven σ i b t))), (6, .int (iI (nGiven σ i b t))), (5, .int (iI i)), (0, .ref (A 100)), (1, .int (iI b)), (2, .int (iI t))]) hx hb dX1_loudestPiece_40 rfl hl (by decide) rfl (fun ls hl => ?_)
          refine r_iinc (a := i) (b := (i + 1)) (lv2 := [(5, .int (iI (i + 1))), (3, .int (iI i)), (4, .int (iI (nGiven σ i b t))), (6, .int (iI (nGiven σ i b t))), (0, .ref (A 100)), (1, .int (iI b)), (2, .int (iI t))]) hx hb dX1_loudestPiece_41 hl (k := 3) rfl (by omega) (by decide) rfl (fun ls hl => ?_)
          refine lv_goto (tgt := 8) hx hb dX1_loudestPiece_44 (by decide) ?_
          exact ihlp8_1 (i + 1) (nGiven σ i b t) i ls (by omega) (by rw [fo_s _ _ (by omega), ← hg]; unfold nLoudF; first | rw [if_pos (by show _ < _; omega)] | rw [if_neg (by show ¬ _ < _; omega)]) (by omega) (by omega) (lv_sub hl [0, 2, 1, 4, 5, 6] rfl)
  exact lp8_1 _ 0 0 (-1) ls (by omega) rfl (by omega) (lt_tn _) (lv_sub hl [0, 1, 2, 3, 4, 5] rfl)
theorem fl_X1_noneAbove_64 : Cond.fieldLink RX1 64 "NoiseLamps$Noise" "houses" "I" ∈ wsX1_noneAbove := by decide +kernel
set_option maxHeartbeats 4000000 in
set_option maxRecDepth 100000 in
theorem c_X1_noneAbove (l : Launch) (D : va_G) (cy : ClassId) (A : Nat → Nat) (σ : Nat → Int → Int) (b : Int) (hI : invN σ) (hb : I32 b) : MetR l yX1_noneAbove wsX1_noneAbove ({ frames := 4, cells := 0, slots := 0, locals := 97 } : Room) D cy (wN cy A σ) ([.ref (A 100), .int (iI b)] : List Value) (nNone σ b) := by
  refine met_R (cc := cX1_noneAbove) (maxL := 3) (ret := (some .boolean)) (by decide) rfl (Nat.le_of_ble_eq_true rfl) ?_
  intro p e s m below meth c hx hb hr hml hts hown hlocks hP hK ls hl
  have hown : s.vm.findClass RX1 = some m.cls := hown
  have hl : lv_has ls 3 [(0, .ref (A 100)), (1, .int (iI b))] := hl
  obtain ⟨hN0, hN4, hN8, hN14, hB1, hB2, hB3, hB5, hB6, hB7, hB9, hB10, hB11, hB12, hB13, hB15, hB16, hB17⟩ := id hI
  refine lv_iconst (v := iI 0) hx hb dX1_noneAbove_0 rfl ?_
  refine lv_istore_n (lv' := [(2, .int (iI 0)), (0, .ref (A 100)), (1, .int (iI b))]) hx hb dX1_noneAbove_1 rfl hl (by decide) rfl (fun ls hl => ?_)
  have lp2_1 : ∀ (nlp2_1 : Nat) (i : Int) (ls : Array Slot), (0 ≤ i ∧ i ≤ σ 4 0) → (nNone σ b = ft (fun h => decide (b < nDay σ h)) (fun _ => 0) 1 i (σ 4 0)) → (σ 4 0 - i < (nlp2_1 : Int)) → lv_has ls 3 [(2, .int (iI i)), (0, .ref (A 100)), (1, .int (iI b))] → W p l e ({ frames := 4, cells := 0, slots := 0, locals := 97 } : Room) s m ([.ref (A 100), .int (iI b)] : List Value).toArray below meth c s.heap [] 0 0 (MQ below (vp_Si (fun r => r = iI (nNone σ b))) ([.ref (A 100), .int (iI b)] : List Value).toArray s 0 0 (fun _ => False)) (F0 m 2 ls []) := by
    intro nlp2_1
    induction nlp2_1 with
    | zero => intro i ls hi hg hn hl; exact absurd hn (by omega)
    | succ nlp2_1 ihlp2_1 =>
      intro i ls hi hg hn hl
      refine lv_iload_n hx hb dX1_noneAbove_2 rfl (lv_at hl 0 rfl) ?_
      refine lv_aload_n hx hb dX1_noneAbove_3 rfl (lv_at hl 1 rfl) ?_
      refine va_get (D := D) (ci := 1) (v := .int (iI (σ 4 0))) (C := RX1) (T := TX1) (N := 19) hx hb hts (fun _ h => List.mem_cons_of_mem _ (List.mem_append_right _ h)) hown hK hP 0 rfl rfl 4 (by decide) (hts _ fl_X1_noneAbove_64) (fun _ h9 => h9) rfl dX1_noneAbove_4 ?_
      refine r_icmp_ge (tgt := 27) hx hb dX1_noneAbove_7 (by decide) (by omega) (by omega) (fun h2 => ?_) (fun h2 => ?_)
      · -- 7 to 27
        refine lv_iconst (v := iI 1) hx hb dX1_noneAbove_27 rfl ?_
        exact r_retZ hx hb hr hlocks dX1_noneAbove_28 (zn_of (by omega)) (by rw [hg, ft_end _ _ _ (by omega)])
      · -- 7 to 10
        refine lv_aload_n hx hb dX1_noneAbove_10 rfl (lv_at hl 1 rfl) ?_
        refine lv_iload_n hx hb dX1_noneAbove_11 rfl (lv_at hl 0 rfl) ?_
        refine r_calli (va_runV (As := [.int (iI i)]) (rest := []) ⟨hx, hb, hml, hown, hts⟩ (c_X1_allDayLevel l D cy A σ i hI (by omega)) (cwV 1 hts gX1_noneAbove_X1_allDayLevel rfl rfl rfl (by decide +kernel) ⟨Nat.le_of_ble_eq_true rfl, Nat.le_of_ble_eq_true rfl⟩) (pv_ro (C := RX1) (T := TX1) (N := 19) (ci := 1) (q0 := 0) hP hK rfl rfl) rfl rfl hl.1 rfl (lv_room (Nat.le_of_ble_eq_true rfl)) dX1_noneAbove_12 ⟨Nat.le_of_ble_eq_true rfl, Nat.le_of_ble_eq_true rfl⟩) ?_
        have hf3 := nDay_bd hI i
        refine lv_iload_n hx hb dX1_noneAbove_15 rfl (lv_at hl 2 rfl) ?_
        refine r_icmp_le (tgt := 21) hx hb dX1_noneAbove_16 (by decide) (by omega) (by omega) (fun h4 => ?_) (fun h4 => ?_)
        · -- 16 to 21
          refine r_iinc (a := i) (b := (i + 1)) (lv2 := [(2, .int (iI (i + 1))), (0, .ref (A 100)), (1, .int (iI b))]) hx hb dX1_noneAbove_21 hl (k := 0) rfl (by omega) (by decide) rfl (fun ls hl => ?_)
          refine lv_goto (tgt := 2) hx hb dX1_noneAbove_24 (by decide) ?_
          exact ihlp2_1 (i + 1) ls (by omega) (by rw [hg, ft_miss _ _ _ (by omega) (decide_eq_false (by omega))]) (by omega) (lv_sub hl [0, 1, 2] rfl)
        · -- 16 to 19
          refine lv_iconst (v := iI 0) hx hb dX1_noneAbove_19 rfl ?_
          exact r_retZ hx hb hr hlocks dX1_noneAbove_20 (zn_of (by omega)) (by rw [hg, ft_hit _ _ _ (by omega) (decide_eq_true (by omega))])
  exact lp2_1 _ 0 ls (by omega) rfl (lt_tn _) (lv_sub hl [0, 1, 2] rfl)
theorem fl_X1_housesAhead_64 : Cond.fieldLink RX1 64 "NoiseLamps$Noise" "houses" "I" ∈ wsX1_housesAhead := by decide +kernel
theorem fl_X1_housesAhead_54 : Cond.fieldLink RX1 54 "NoiseLamps$Noise" "allDayLevels" "[I" ∈ wsX1_housesAhead := by decide +kernel
set_option maxHeartbeats 4000000 in
set_option maxRecDepth 100000 in
theorem c_X1_housesAhead (l : Launch) (D : va_G) (cy : ClassId) (A : Nat → Nat) (σ : Nat → Int → Int) (b : Int) (hI : invN σ) (hb2 : 0 ≤ b ∧ b < 20) (hd : ∀ k, I32 (σ 18 k)) : MetR l yX1_housesAhead wsX1_housesAhead ({ frames := 0, cells := 0, slots := 0, locals := 0 } : Room) D cy (wN cy A σ) ([.ref (A 100), .int (iI b)] : List Value) (nAhead (σ 18) (σ 4 0) b) := by
  refine met_R (cc := cX1_housesAhead) (maxL := 5) (ret := (some .int)) (by decide) rfl (Nat.le_of_ble_eq_true rfl) ?_
  intro p e s m below meth c hx hb hr hml hts hown hlocks hP hK ls hl
  have hown : s.vm.findClass RX1 = some m.cls := hown
  have hl : lv_has ls 5 [(0, .ref (A 100)), (1, .int (iI b))] := hl
  obtain ⟨hN0, hN4, hN8, hN14, hB1, hB2, hB3, hB5, hB6, hB7, hB9, hB10, hB11, hB12, hB13, hB15, hB16, hB17⟩ := id hI
  refine lv_iconst (v := iI 0) hx hb dX1_housesAhead_0 rfl ?_
  refine lv_istore_n (lv' := [(2, .int (iI 0)), (0, .ref (A 100)), (1, .int (iI b))]) hx hb dX1_housesAhead_1 rfl hl (by decide) rfl (fun ls hl => ?_)
  refine lv_iconst (v := iI 0) hx hb dX1_housesAhead_2 rfl ?_
  refine lv_istore_n (lv' := [(3, .int (iI 0)), (2, .int (iI 0)), (0, .ref (A 100)), (1, .int (iI b))]) hx hb dX1_housesAhead_3 rfl hl (by decide) rfl (fun ls hl => ?_)
  have lp4_1 : ∀ (nlp4_1 : Nat) (i : Int) (g : Int) (ls : Array Slot), (0 ≤ i ∧ i ≤ σ 4 0) → (g = fo (nAheadF (σ 18) b) 0 i) → (σ 4 0 - i < (nlp4_1 : Int)) → lv_has ls 5 [(3, .int (iI i)), (2, .int (iI g)), (0, .ref (A 100)), (1, .int (iI b))] → W p l e ({ frames := 0, cells := 0, slots := 0, locals := 0 } : Room) s m ([.ref (A 100), .int (iI b)] : List Value).toArray below meth c s.heap [] 0 0 (MQ below (vp_Si (fun r => r = iI (nAhead (σ 18) (σ 4 0) b))) ([.ref (A 100), .int (iI b)] : List Value).toArray s 0 0 (fun _ => False)) (F0 m 4 ls []) := by
    intro nlp4_1
    induction nlp4_1 with
    | zero => intro i g ls hi hg hn hl; exact absurd hn (by omega)
    | succ nlp4_1 ihlp4_1 =>
      intro i g ls hi hg hn hl
      refine lv_iload_n hx hb dX1_housesAhead_4 rfl (lv_at hl 0 rfl) ?_
      refine lv_aload_n hx hb dX1_housesAhead_5 rfl (lv_at hl 2 rfl) ?_
      refine va_get (D := D) (ci := 1) (v := .int (iI (σ 4 0))) (C := RX1) (T := TX1) (N := 19) hx hb hts (fun _ h => List.mem_cons_of_mem _ (List.mem_append_right _ h)) hown hK hP 0 rfl rfl 4 (by decide) (hts _ fl_X1_housesAhead_64) (fun _ h9 => h9) rfl dX1_housesAhead_6 ?_
      refine r_icmp_ge (tgt := 68) hx hb dX1_housesAhead_9 (by decide) (by omega) (by omega) (fun h2 => ?_) (fun h2 => ?_)
      · -- 9 to 68
        refine lv_iload_n hx hb dX1_housesAhead_68 rfl (lv_at hl 1 rfl) ?_
        exact r_ret hx hb hr hlocks dX1_housesAhead_69 (by rw [hg, show i = σ 4 0 from by omega]; rfl)
      · -- 9 to 12
        refine lv_aload_n hx hb dX1_housesAhead_12 rfl (lv_at hl 2 rfl) ?_
        refine va_get (D := D) (ci := 1) (v := .ref (A 18)) (C := RX1) (T := TX1) (N := 19) hx hb hts (fun _ h => List.mem_cons_of_mem _ (List.mem_append_right _ h)) hown hK hP 0 rfl rfl 18 (by decide) (hts _ fl_X1_housesAhead_54) (fun _ h9 => h9) rfl dX1_housesAhead_13 ?_
        refine lv_iload_n hx hb dX1_housesAhead_16 rfl (lv_at hl 0 rfl) ?_
        have hv3 := hd (i)
        refine r_iald hx hb hK hP 15 0 rfl rfl (Nat.le_of_ble_eq_true rfl) (by omega) dX1_housesAhead_17 ?_
        refine lv_aload_n hx hb dX1_housesAhead_18 rfl (lv_at hl 2 rfl) ?_
        refine va_get (D := D) (ci := 1) (v := .ref (A 18)) (C := RX1) (T := TX1) (N := 19) hx hb hts (fun _ h => List.mem_cons_of_mem _ (List.mem_append_right _ h)) hown hK hP 0 rfl rfl 18 (by decide) (hts _ fl_X1_housesAhead_54) (fun _ h9 => h9) rfl dX1_housesAhead_19 ?_
        refine lv_iload_n hx hb dX1_housesAhead_22 rfl (lv_at hl 3 rfl) ?_
        have hv4 := hd (b)
        refine r_iald hx hb hK hP 15 0 rfl rfl (Nat.le_of_ble_eq_true rfl) (by omega) dX1_housesAhead_23 ?_
        refine r_icmp_ne (tgt := 36) hx hb dX1_housesAhead_24 (by decide) (by omega) (by omega) (fun h5 => ?_) (fun h5 => ?_)
        · -- 24 to 36
          refine lv_iconst (v := iI 0) hx hb dX1_housesAhead_36 rfl ?_
          refine lv_istore (lv' := [(4, .int (iI 0)), (3, .int (iI i)), (2, .int (iI g)), (0, .ref (A 100)), (1, .int (iI b))]) hx hb dX1_housesAhead_37 hl (by decide) rfl (fun ls hl => ?_)
          refine lv_aload_n hx hb dX1_housesAhead_39 rfl (lv_at hl 3 rfl) ?_
          refine va_get (D := D) (ci := 1) (v := .ref (A 18)) (C := RX1) (T := TX1) (N := 19) hx hb hts (fun _ h => List.mem_cons_of_mem _ (List.mem_append_right _ h)) hown hK hP 0 rfl rfl 18 (by decide) (hts _ fl_X1_housesAhead_54) (fun _ h9 => h9) rfl dX1_housesAhead_40 ?_
          refine lv_iload_n hx hb dX1_housesAhead_43 rfl (lv_at hl 1 rfl) ?_
          have hv6 := hd (i)
          refine r_iald hx hb hK hP 15 0 rfl rfl (Nat.le_of_ble_eq_true rfl) (by omega) dX1_housesAhead_44 ?_
          refine lv_aload_n hx hb dX1_housesAhead_45 rfl (lv_at hl 3 rfl) ?_
          refine va_get (D := D) (ci := 1) (v := .ref (A 18)) (C := RX1) (T := TX1) (N := 19) hx hb hts (fun _ h => List.mem_cons_of_mem _ (List.mem_append_right _ h)) hown hK hP 0 rfl rfl 18 (by decide) (hts _ fl_X1_housesAhead_54) (fun _ h9 => h9) rfl dX1_housesAhead_46 ?_
          refine lv_iload_n hx hb dX1_housesAhead_49 rfl (lv_at hl 4 rfl) ?_
          have hv7 := hd (b)
          refine r_iald hx hb hK hP 15 0 rfl rfl (Nat.le_of_ble_eq_true rfl) (by omega) dX1_housesAhead_50 ?_
          refine r_icmp_gt (tgt := 59) hx hb dX1_housesAhead_51 (by decide) (by omega) (by omega) (fun h8 => ?_) (fun h8 => ?_)
          · -- 51 to 59
            refine r_iinc (a := g) (b := (g + 1)) (lv2 := [(2, .int (iI (g + 1))), (4, .int (iI 0)), (3, .int (iI i)), (0, .ref (A 100)), (1, .int (iI b))]) hx hb dX1_housesAhead_59 hl (k := 2) rfl (by omega) (by decide) rfl (fun ls hl => ?_)
            refine r_iinc (a := i) (b := (i + 1)) (lv2 := [(3, .int (iI (i + 1))), (2, .int (iI (g + 1))), (4, .int (iI 0)), (0, .ref (A 100)), (1, .int (iI b))]) hx hb dX1_housesAhead_62 hl (k := 2) rfl (by omega) (by decide) rfl (fun ls hl => ?_)
            refine lv_goto (tgt := 4) hx hb dX1_housesAhead_65 (by decide) ?_
            exact ihlp4_1 (i + 1) (g + 1) ls (by omega) (by rw [fo_s _ _ (by omega), ← hg]; unfold nAheadF; first | rw [if_pos (by omega)] | rw [if_neg (by omega)]) (by omega) (lv_sub hl [0, 1, 3, 4] rfl)
          · -- 51 to 54
            refine lv_iload hx hb dX1_housesAhead_54 (lv_at hl 0 rfl) ?_
            refine r_if_eq (tgt := 62) hx hb dX1_housesAhead_56 (by decide) (by omega) (fun _ => ?_) (fun h => absurd h (by decide))
            refine r_iinc (a := i) (b := (i + 1)) (lv2 := [(3, .int (iI (i + 1))), (4, .int (iI 0)), (2, .int (iI g)), (0, .ref (A 100)), (1, .int (iI b))]) hx hb dX1_housesAhead_62 hl (k := 1) rfl (by omega) (by decide) rfl (fun ls hl => ?_)
            refine lv_goto (tgt := 4) hx hb dX1_housesAhead_65 (by decide) ?_
            exact ihlp4_1 (i + 1) g ls (by omega) (by rw [fo_s _ _ (by omega), ← hg]; unfold nAheadF; first | rw [if_pos (by omega)] | rw [if_neg (by omega)]) (by omega) (lv_sub hl [0, 2, 3, 4] rfl)
        · -- 24 to 27
          refine lv_iload_n hx hb dX1_housesAhead_27 rfl (lv_at hl 0 rfl) ?_
          refine lv_iload_n hx hb dX1_housesAhead_28 rfl (lv_at hl 3 rfl) ?_
          refine r_icmp_ge (tgt := 36) hx hb dX1_housesAhead_29 (by decide) (by omega) (by omega) (fun h9 => ?_) (fun h9 => ?_)
          · -- 29 to 36
            refine lv_iconst (v := iI 0) hx hb dX1_housesAhead_36 rfl ?_
            refine lv_istore (lv' := [(4, .int (iI 0)), (3, .int (iI i)), (2, .int (iI g)), (0, .ref (A 100)), (1, .int (iI b))]) hx hb dX1_housesAhead_37 hl (by decide) rfl (fun ls hl => ?_)
            refine lv_aload_n hx hb dX1_housesAhead_39 rfl (lv_at hl 3 rfl) ?_
            refine va_get (D := D) (ci := 1) (v := .ref (A 18)) (C := RX1) (T := TX1) (N := 19) hx hb hts (fun _ h => List.mem_cons_of_mem _ (List.mem_append_right _ h)) hown hK hP 0 rfl rfl 18 (by decide) (hts _ fl_X1_housesAhead_54) (fun _ h9 => h9) rfl dX1_housesAhead_40 ?_
            refine lv_iload_n hx hb dX1_housesAhead_43 rfl (lv_at hl 1 rfl) ?_
            have hv10 := hd (i)
            refine r_iald hx hb hK hP 15 0 rfl rfl (Nat.le_of_ble_eq_true rfl) (by omega) dX1_housesAhead_44 ?_
            refine lv_aload_n hx hb dX1_housesAhead_45 rfl (lv_at hl 3 rfl) ?_
            refine va_get (D := D) (ci := 1) (v := .ref (A 18)) (C := RX1) (T := TX1) (N := 19) hx hb hts (fun _ h => List.mem_cons_of_mem _ (List.mem_append_right _ h)) hown hK hP 0 rfl rfl 18 (by decide) (hts _ fl_X1_housesAhead_54) (fun _ h9 => h9) rfl dX1_housesAhead_46 ?_
            refine lv_iload_n hx hb dX1_housesAhead_49 rfl (lv_at hl 4 rfl) ?_
            have hv11 := hd (b)
            refine r_iald hx hb hK hP 15 0 rfl rfl (Nat.le_of_ble_eq_true rfl) (by omega) dX1_housesAhead_50 ?_
            refine r_icmp_gt (tgt := 59) hx hb dX1_housesAhead_51 (by decide) (by omega) (by omega) (fun h12 => ?_) (fun h12 => ?_)
            · -- 51 to 59
              refine r_iinc (a := g) (b := (g + 1)) (lv2 := [(2, .int (iI (g + 1))), (4, .int (iI 0)), (3, .int (iI i)), (0, .ref (A 100)), (1, .int (iI b))]) hx hb dX1_housesAhead_59 hl (k := 2) rfl (by omega) (by decide) rfl (fun ls hl => ?_)
              refine r_iinc (a := i) (b := (i + 1)) (lv2 := [(3, .int (iI (i + 1))), (2, .int (iI (g + 1))), (4, .int (iI 0)), (0, .ref (A 100)), (1, .int (iI b))]) hx hb dX1_housesAhead_62 hl (k := 2) rfl (by omega) (by decide) rfl (fun ls hl => ?_)
              refine lv_goto (tgt := 4) hx hb dX1_housesAhead_65 (by decide) ?_
              exact ihlp4_1 (i + 1) (g + 1) ls (by omega) (by rw [fo_s _ _ (by omega), ← hg]; unfold nAheadF; first | rw [if_pos (by omega)] | rw [if_neg (by omega)]) (by omega) (lv_sub hl [0, 1, 3, 4] rfl)
            · -- 51 to 54
              refine lv_iload hx hb dX1_housesAhead_54 (lv_at hl 0 rfl) ?_
              refine r_if_eq (tgt := 62) hx hb dX1_housesAhead_56 (by decide) (by omega) (fun _ => ?_) (fun h => absurd h (by decide))
              refine r_iinc (a := i) (b := (i + 1)) (lv2 := [(3, .int (iI (i + 1))), (4, .int (iI 0)), (2, .int (iI g)), (0, .ref (A 100)), (1, .int (iI b))]) hx hb dX1_housesAhead_62 hl (k := 1) rfl (by omega) (by decide) rfl (fun ls hl => ?_)
              refine lv_goto (tgt := 4) hx hb dX1_housesAhead_65 (by decide) ?_
              exact ihlp4_1 (i + 1) g ls (by omega) (by rw [fo_s _ _ (by omega), ← hg]; unfold nAheadF; first | rw [if_pos (by omega)] | rw [if_neg (by omega)]) (by omega) (lv_sub hl [0, 2, 3, 4] rfl)
          · -- 29 to 32
            refine lv_iconst (v := iI 1) hx hb dX1_housesAhead_32 rfl ?_
            refine lv_goto (tgt := 37) hx hb dX1_housesAhead_33 (by decide) ?_
            refine lv_istore (lv' := [(4, .int (iI 1)), (3, .int (iI i)), (2, .int (iI g)), (0, .ref (A 100)), (1, .int (iI b))]) hx hb dX1_housesAhead_37 hl (by decide) rfl (fun ls hl => ?_)
            refine lv_aload_n hx hb dX1_housesAhead_39 rfl (lv_at hl 3 rfl) ?_
            refine va_get (D := D) (ci := 1) (v := .ref (A 18)) (C := RX1) (T := TX1) (N := 19) hx hb hts (fun _ h => List.mem_cons_of_mem _ (List.mem_append_right _ h)) hown hK hP 0 rfl rfl 18 (by decide) (hts _ fl_X1_housesAhead_54) (fun _ h9 => h9) rfl dX1_housesAhead_40 ?_
            refine lv_iload_n hx hb dX1_housesAhead_43 rfl (lv_at hl 1 rfl) ?_
            have hv13 := hd (i)
            refine r_iald hx hb hK hP 15 0 rfl rfl (Nat.le_of_ble_eq_true rfl) (by omega) dX1_housesAhead_44 ?_
            refine lv_aload_n hx hb dX1_housesAhead_45 rfl (lv_at hl 3 rfl) ?_
            refine va_get (D := D) (ci := 1) (v := .ref (A 18)) (C := RX1) (T := TX1) (N := 19) hx hb hts (fun _ h => List.mem_cons_of_mem _ (List.mem_append_right _ h)) hown hK hP 0 rfl rfl 18 (by decide) (hts _ fl_X1_housesAhead_54) (fun _ h9 => h9) rfl dX1_housesAhead_46 ?_
            refine lv_iload_n hx hb dX1_housesAhead_49 rfl (lv_at hl 4 rfl) ?_
            have hv14 := hd (b)
            refine r_iald hx hb hK hP 15 0 rfl rfl (Nat.le_of_ble_eq_true rfl) (by omega) dX1_housesAhead_50 ?_
            refine r_icmp_gt (tgt := 59) hx hb dX1_housesAhead_51 (by decide) (by omega) (by omega) (fun h15 => ?_) (fun h15 => ?_)
            · -- 51 to 59
              refine r_iinc (a := g) (b := (g + 1)) (lv2 := [(2, .int (iI (g + 1))), (4, .int (iI 1)), (3, .int (iI i)), (0, .ref (A 100)), (1, .int (iI b))]) hx hb dX1_housesAhead_59 hl (k := 2) rfl (by omega) (by decide) rfl (fun ls hl => ?_)
              refine r_iinc (a := i) (b := (i + 1)) (lv2 := [(3, .int (iI (i + 1))), (2, .int (iI (g + 1))), (4, .int (iI 1)), (0, .ref (A 100)), (1, .int (iI b))]) hx hb dX1_housesAhead_62 hl (k := 2) rfl (by omega) (by decide) rfl (fun ls hl => ?_)
              refine lv_goto (tgt := 4) hx hb dX1_housesAhead_65 (by decide) ?_
              exact ihlp4_1 (i + 1) (g + 1) ls (by omega) (by rw [fo_s _ _ (by omega), ← hg]; unfold nAheadF; first | rw [if_pos (by omega)] | rw [if_neg (by omega)]) (by omega) (lv_sub hl [0, 1, 3, 4] rfl)
            · -- 51 to 54
              refine lv_iload hx hb dX1_housesAhead_54 (lv_at hl 0 rfl) ?_
              refine r_if_eq (tgt := 62) hx hb dX1_housesAhead_56 (by decide) (by omega) (fun h => absurd h (by decide)) (fun _ => ?_)
              refine r_iinc (a := g) (b := (g + 1)) (lv2 := [(2, .int (iI (g + 1))), (4, .int (iI 1)), (3, .int (iI i)), (0, .ref (A 100)), (1, .int (iI b))]) hx hb dX1_housesAhead_59 hl (k := 2) rfl (by omega) (by decide) rfl (fun ls hl => ?_)
              refine r_iinc (a := i) (b := (i + 1)) (lv2 := [(3, .int (iI (i + 1))), (2, .int (iI (g + 1))), (4, .int (iI 1)), (0, .ref (A 100)), (1, .int (iI b))]) hx hb dX1_housesAhead_62 hl (k := 2) rfl (by omega) (by decide) rfl (fun ls hl => ?_)
              refine lv_goto (tgt := 4) hx hb dX1_housesAhead_65 (by decide) ?_
              exact ihlp4_1 (i + 1) (g + 1) ls (by omega) (by rw [fo_s _ _ (by omega), ← hg]; unfold nAheadF; first | rw [if_pos (by omega)] | rw [if_neg (by omega)]) (by omega) (lv_sub hl [0, 1, 3, 4] rfl)
  exact lp4_1 _ 0 0 ls (by omega) rfl (lt_tn _) (lv_sub hl [0, 1, 2, 3] rfl)
theorem fl_X1_isBetween_11 : Cond.fieldLink RX1 11 "NoiseLamps$Noise" "pieceX" "[I" ∈ wsX1_isBetween := by decide +kernel
theorem fl_X1_isBetween_15 : Cond.fieldLink RX1 15 "NoiseLamps$Noise" "pieceY" "[I" ∈ wsX1_isBetween := by decide +kernel
theorem fl_X1_isBetween_21 : Cond.fieldLink RX1 21 "NoiseLamps$Noise" "houseX" "[I" ∈ wsX1_isBetween := by decide +kernel
theorem fl_X1_isBetween_24 : Cond.fieldLink RX1 24 "NoiseLamps$Noise" "houseY" "[I" ∈ wsX1_isBetween := by decide +kernel
theorem fl_X1_isBetween_30 : Cond.fieldLink RX1 30 "NoiseLamps$Noise" "wallX0" "[I" ∈ wsX1_isBetween := by decide +kernel
theorem fl_X1_isBetween_33 : Cond.fieldLink RX1 33 "NoiseLamps$Noise" "wallY0" "[I" ∈ wsX1_isBetween := by decide +kernel
theorem fl_X1_isBetween_36 : Cond.fieldLink RX1 36 "NoiseLamps$Noise" "wallX1" "[I" ∈ wsX1_isBetween := by decide +kernel
theorem fl_X1_isBetween_39 : Cond.fieldLink RX1 39 "NoiseLamps$Noise" "wallY1" "[I" ∈ wsX1_isBetween := by decide +kernel
set_option maxHeartbeats 4000000 in
set_option maxRecDepth 100000 in
theorem c_X1_isBetween (l : Launch) (D : va_G) (cy : ClassId) (A : Nat → Nat) (σ : Nat → Int → Int) (w p0 h0 : Int) (hI : invN σ) (hw : 0 ≤ w ∧ w < 8) (hp : 0 ≤ p0 ∧ p0 < 12) (hh : 0 ≤ h0 ∧ h0 < 20) : MetR l yX1_isBetween wsX1_isBetween ({ frames := 2, cells := 0, slots := 0, locals := 44 } : Room) D cy (wN cy A σ) ([.ref (A 100), .int (iI w), .int (iI p0), .int (iI h0)] : List Value) (bI (nBtw σ w p0 h0)) := by
  refine met_R (cc := cX1_isBetween) (maxL := 12) (ret := (some .boolean)) (by decide) rfl (Nat.le_of_ble_eq_true rfl) ?_
  intro p e s m below meth c hx hb hr hml hts hown hlocks hP hK ls hl
  have hown : s.vm.findClass RX1 = some m.cls := hown
  have hl : lv_has ls 12 [(0, .ref (A 100)), (1, .int (iI w)), (2, .int (iI p0)), (3, .int (iI h0))] := hl
  obtain ⟨hN0, hN4, hN8, hN14, hB1, hB2, hB3, hB5, hB6, hB7, hB9, hB10, hB11, hB12, hB13, hB15, hB16, hB17⟩ := id hI
  have t1 := tuZ_bd (hB1 p0) (hB2 p0) (hB5 h0) (hB6 h0) (hB9 w) (hB10 w)
  have t2 := tuZ_bd (hB1 p0) (hB2 p0) (hB5 h0) (hB6 h0) (hB11 w) (hB12 w)
  have t3 := tuZ_bd (hB9 w) (hB10 w) (hB11 w) (hB12 w) (hB1 p0) (hB2 p0)
  have t4 := tuZ_bd (hB9 w) (hB10 w) (hB11 w) (hB12 w) (hB5 h0) (hB6 h0)
  refine lv_aload_n hx hb dX1_isBetween_0 rfl (lv_at hl 0 rfl) ?_
  refine va_get (D := D) (ci := 1) (v := .ref (A 1)) (C := RX1) (T := TX1) (N := 19) hx hb hts (fun _ h => List.mem_cons_of_mem _ (List.mem_append_right _ h)) hown hK hP 0 rfl rfl 1 (by decide) (hts _ fl_X1_isBetween_11) (fun _ h9 => h9) rfl dX1_isBetween_1 ?_
  refine lv_iload_n hx hb dX1_isBetween_4 rfl (lv_at hl 2 rfl) ?_
  refine r_iald hx hb hK hP 1 0 rfl rfl (Nat.le_of_ble_eq_true rfl) (by omega) dX1_isBetween_5 ?_
  have hv1 := hB1 p0
  refine lv_istore (lv' := [(4, .int (iI (σ 1 p0))), (0, .ref (A 100)), (1, .int (iI w)), (2, .int (iI p0)), (3, .int (iI h0))]) hx hb dX1_isBetween_6 hl (by decide) rfl (fun ls hl => ?_)
  refine lv_aload_n hx hb dX1_isBetween_8 rfl (lv_at hl 1 rfl) ?_
  refine va_get (D := D) (ci := 1) (v := .ref (A 2)) (C := RX1) (T := TX1) (N := 19) hx hb hts (fun _ h => List.mem_cons_of_mem _ (List.mem_append_right _ h)) hown hK hP 0 rfl rfl 2 (by decide) (hts _ fl_X1_isBetween_15) (fun _ h9 => h9) rfl dX1_isBetween_9 ?_
  refine lv_iload_n hx hb dX1_isBetween_12 rfl (lv_at hl 3 rfl) ?_
  refine r_iald hx hb hK hP 2 0 rfl rfl (Nat.le_of_ble_eq_true rfl) (by omega) dX1_isBetween_13 ?_
  have hv2 := hB2 p0
  refine lv_istore (lv' := [(5, .int (iI (σ 2 p0))), (4, .int (iI (σ 1 p0))), (0, .ref (A 100)), (1, .int (iI w)), (2, .int (iI p0)), (3, .int (iI h0))]) hx hb dX1_isBetween_14 hl (by decide) rfl (fun ls hl => ?_)
  refine lv_aload_n hx hb dX1_isBetween_16 rfl (lv_at hl 2 rfl) ?_
  refine va_get (D := D) (ci := 1) (v := .ref (A 5)) (C := RX1) (T := TX1) (N := 19) hx hb hts (fun _ h => List.mem_cons_of_mem _ (List.mem_append_right _ h)) hown hK hP 0 rfl rfl 5 (by decide) (hts _ fl_X1_isBetween_21) (fun _ h9 => h9) rfl dX1_isBetween_17 ?_
  refine lv_iload_n hx hb dX1_isBetween_20 rfl (lv_at hl 5 rfl) ?_
  refine r_iald hx hb hK hP 4 0 rfl rfl (Nat.le_of_ble_eq_true rfl) (by omega) dX1_isBetween_21 ?_
  have hv3 := hB5 h0
  refine lv_istore (lv' := [(6, .int (iI (σ 5 h0))), (5, .int (iI (σ 2 p0))), (4, .int (iI (σ 1 p0))), (0, .ref (A 100)), (1, .int (iI w)), (2, .int (iI p0)), (3, .int (iI h0))]) hx hb dX1_isBetween_22 hl (by decide) rfl (fun ls hl => ?_)
  refine lv_aload_n hx hb dX1_isBetween_24 rfl (lv_at hl 3 rfl) ?_
  refine va_get (D := D) (ci := 1) (v := .ref (A 6)) (C := RX1) (T := TX1) (N := 19) hx hb hts (fun _ h => List.mem_cons_of_mem _ (List.mem_append_right _ h)) hown hK hP 0 rfl rfl 6 (by decide) (hts _ fl_X1_isBetween_24) (fun _ h9 => h9) rfl dX1_isBetween_25 ?_
  refine lv_iload_n hx hb dX1_isBetween_28 rfl (lv_at hl 6 rfl) ?_
  refine r_iald hx hb hK hP 5 0 rfl rfl (Nat.le_of_ble_eq_true rfl) (by omega) dX1_isBetween_29 ?_
  have hv4 := hB6 h0
  refine lv_istore (lv' := [(7, .int (iI (σ 6 h0))), (6, .int (iI (σ 5 h0))), (5, .int (iI (σ 2 p0))), (4, .int (iI (σ 1 p0))), (0, .ref (A 100)), (1, .int (iI w)), (2, .int (iI p0)), (3, .int (iI h0))]) hx hb dX1_isBetween_30 hl (by decide) rfl (fun ls hl => ?_)
  refine lv_aload_n hx hb dX1_isBetween_32 rfl (lv_at hl 4 rfl) ?_
  refine va_get (D := D) (ci := 1) (v := .ref (A 9)) (C := RX1) (T := TX1) (N := 19) hx hb hts (fun _ h => List.mem_cons_of_mem _ (List.mem_append_right _ h)) hown hK hP 0 rfl rfl 9 (by decide) (hts _ fl_X1_isBetween_30) (fun _ h9 => h9) rfl dX1_isBetween_33 ?_
  refine lv_iload_n hx hb dX1_isBetween_36 rfl (lv_at hl 5 rfl) ?_
  refine r_iald hx hb hK hP 7 0 rfl rfl (Nat.le_of_ble_eq_true rfl) (by omega) dX1_isBetween_37 ?_
  have hv5 := hB9 w
  refine lv_istore (lv' := [(8, .int (iI (σ 9 w))), (7, .int (iI (σ 6 h0))), (6, .int (iI (σ 5 h0))), (5, .int (iI (σ 2 p0))), (4, .int (iI (σ 1 p0))), (0, .ref (A 100)), (1, .int (iI w)), (2, .int (iI p0)), (3, .int (iI h0))]) hx hb dX1_isBetween_38 hl (by decide) rfl (fun ls hl => ?_)
  refine lv_aload_n hx hb dX1_isBetween_40 rfl (lv_at hl 5 rfl) ?_
  refine va_get (D := D) (ci := 1) (v := .ref (A 10)) (C := RX1) (T := TX1) (N := 19) hx hb hts (fun _ h => List.mem_cons_of_mem _ (List.mem_append_right _ h)) hown hK hP 0 rfl rfl 10 (by decide) (hts _ fl_X1_isBetween_33) (fun _ h9 => h9) rfl dX1_isBetween_41 ?_
  refine lv_iload_n hx hb dX1_isBetween_44 rfl (lv_at hl 6 rfl) ?_
  refine r_iald hx hb hK hP 8 0 rfl rfl (Nat.le_of_ble_eq_true rfl) (by omega) dX1_isBetween_45 ?_
  have hv6 := hB10 w
  refine lv_istore (lv' := [(9, .int (iI (σ 10 w))), (8, .int (iI (σ 9 w))), (7, .int (iI (σ 6 h0))), (6, .int (iI (σ 5 h0))), (5, .int (iI (σ 2 p0))), (4, .int (iI (σ 1 p0))), (0, .ref (A 100)), (1, .int (iI w)), (2, .int (iI p0)), (3, .int (iI h0))]) hx hb dX1_isBetween_46 hl (by decide) rfl (fun ls hl => ?_)
  refine lv_aload_n hx hb dX1_isBetween_48 rfl (lv_at hl 6 rfl) ?_
  refine va_get (D := D) (ci := 1) (v := .ref (A 11)) (C := RX1) (T := TX1) (N := 19) hx hb hts (fun _ h => List.mem_cons_of_mem _ (List.mem_append_right _ h)) hown hK hP 0 rfl rfl 11 (by decide) (hts _ fl_X1_isBetween_36) (fun _ h9 => h9) rfl dX1_isBetween_49 ?_
  refine lv_iload_n hx hb dX1_isBetween_52 rfl (lv_at hl 7 rfl) ?_
  refine r_iald hx hb hK hP 9 0 rfl rfl (Nat.le_of_ble_eq_true rfl) (by omega) dX1_isBetween_53 ?_
  have hv7 := hB11 w
  refine lv_istore (lv' := [(10, .int (iI (σ 11 w))), (9, .int (iI (σ 10 w))), (8, .int (iI (σ 9 w))), (7, .int (iI (σ 6 h0))), (6, .int (iI (σ 5 h0))), (5, .int (iI (σ 2 p0))), (4, .int (iI (σ 1 p0))), (0, .ref (A 100)), (1, .int (iI w)), (2, .int (iI p0)), (3, .int (iI h0))]) hx hb dX1_isBetween_54 hl (by decide) rfl (fun ls hl => ?_)
  refine lv_aload_n hx hb dX1_isBetween_56 rfl (lv_at hl 7 rfl) ?_
  refine va_get (D := D) (ci := 1) (v := .ref (A 12)) (C := RX1) (T := TX1) (N := 19) hx hb hts (fun _ h => List.mem_cons_of_mem _ (List.mem_append_right _ h)) hown hK hP 0 rfl rfl 12 (by decide) (hts _ fl_X1_isBetween_39) (fun _ h9 => h9) rfl dX1_isBetween_57 ?_
  refine lv_iload_n hx hb dX1_isBetween_60 rfl (lv_at hl 8 rfl) ?_
  refine r_iald hx hb hK hP 10 0 rfl rfl (Nat.le_of_ble_eq_true rfl) (by omega) dX1_isBetween_61 ?_
  have hv8 := hB12 w
  refine lv_istore (lv' := [(11, .int (iI (σ 12 w))), (10, .int (iI (σ 11 w))), (9, .int (iI (σ 10 w))), (8, .int (iI (σ 9 w))), (7, .int (iI (σ 6 h0))), (6, .int (iI (σ 5 h0))), (5, .int (iI (σ 2 p0))), (4, .int (iI (σ 1 p0))), (0, .ref (A 100)), (1, .int (iI w)), (2, .int (iI p0)), (3, .int (iI h0))]) hx hb dX1_isBetween_62 hl (by decide) rfl (fun ls hl => ?_)
  refine lv_iload hx hb dX1_isBetween_64 (lv_at hl 7 rfl) ?_
  refine lv_iload hx hb dX1_isBetween_66 (lv_at hl 5 rfl) ?_
  refine lv_iload hx hb dX1_isBetween_68 (lv_at hl 3 rfl) ?_
  refine lv_iload hx hb dX1_isBetween_70 (lv_at hl 1 rfl) ?_
  refine r_calli (va_runS (As := [.int (iI (σ 1 p0)), .int (iI (σ 5 h0)), .int (iI (σ 9 w)), .int (iI (σ 11 w))]) (rest := []) ⟨hx, hb, hml, hown, hts⟩ (c_X1_spansMeet l  (σ 1 p0) (σ 5 h0) (σ 9 w) (σ 11 w) (by omega) (by omega) (by omega) (by omega)) (va_cwS 4 hts gX1_isBetween_X1_spansMeet rfl rfl rfl (by decide +kernel) ⟨Nat.le_of_ble_eq_true rfl, Nat.le_of_ble_eq_true rfl⟩) ps_T rfl rfl hl.1 rfl (lv_room (Nat.le_of_ble_eq_true rfl)) dX1_isBetween_72 ⟨Nat.le_of_ble_eq_true rfl, Nat.le_of_ble_eq_true rfl⟩) ?_
  refine r_ifB_eq (tgt := 168) hx hb dX1_isBetween_75 (by decide) (fun h9 => ?_) (fun h9 => ?_)
  · -- 75 to 168
    refine lv_iconst (v := iI 0) hx hb dX1_isBetween_168 rfl ?_
    exact r_retZ hx hb hr hlocks dX1_isBetween_169 (zn_of (by omega)) (by first | exact (bI_t ⟨by assumption, by assumption, by assumption, by assumption⟩).symm | exact (bI_f (fun q => absurd q.1 (by assumption))).symm | exact (bI_f (fun q => absurd q.2.1 (by assumption))).symm | exact (bI_f (fun q => q.2.2.1 (by assumption))).symm | exact (bI_f (fun q => q.2.2.2 (by assumption))).symm)
  · -- 75 to 78
    refine lv_iload hx hb dX1_isBetween_78 (lv_at hl 6 rfl) ?_
    refine lv_iload hx hb dX1_isBetween_80 (lv_at hl 4 rfl) ?_
    refine lv_iload hx hb dX1_isBetween_82 (lv_at hl 2 rfl) ?_
    refine lv_iload hx hb dX1_isBetween_84 (lv_at hl 0 rfl) ?_
    refine r_calli (va_runS (As := [.int (iI (σ 2 p0)), .int (iI (σ 6 h0)), .int (iI (σ 10 w)), .int (iI (σ 12 w))]) (rest := []) ⟨hx, hb, hml, hown, hts⟩ (c_X1_spansMeet l  (σ 2 p0) (σ 6 h0) (σ 10 w) (σ 12 w) (by omega) (by omega) (by omega) (by omega)) (va_cwS 4 hts gX1_isBetween_X1_spansMeet rfl rfl rfl (by decide +kernel) ⟨Nat.le_of_ble_eq_true rfl, Nat.le_of_ble_eq_true rfl⟩) ps_T rfl rfl hl.1 rfl (lv_room (Nat.le_of_ble_eq_true rfl)) dX1_isBetween_86 ⟨Nat.le_of_ble_eq_true rfl, Nat.le_of_ble_eq_true rfl⟩) ?_
    refine r_ifB_eq (tgt := 168) hx hb dX1_isBetween_89 (by decide) (fun h10 => ?_) (fun h10 => ?_)
    · -- 89 to 168
      refine lv_iconst (v := iI 0) hx hb dX1_isBetween_168 rfl ?_
      exact r_retZ hx hb hr hlocks dX1_isBetween_169 (zn_of (by omega)) (by first | exact (bI_t ⟨by assumption, by assumption, by assumption, by assumption⟩).symm | exact (bI_f (fun q => absurd q.1 (by assumption))).symm | exact (bI_f (fun q => absurd q.2.1 (by assumption))).symm | exact (bI_f (fun q => q.2.2.1 (by assumption))).symm | exact (bI_f (fun q => q.2.2.2 (by assumption))).symm)
    · -- 89 to 92
      refine lv_iload hx hb dX1_isBetween_92 (lv_at hl 7 rfl) ?_
      refine lv_iload hx hb dX1_isBetween_94 (lv_at hl 6 rfl) ?_
      refine lv_iload hx hb dX1_isBetween_96 (lv_at hl 5 rfl) ?_
      refine lv_iload hx hb dX1_isBetween_98 (lv_at hl 4 rfl) ?_
      refine lv_iload hx hb dX1_isBetween_100 (lv_at hl 3 rfl) ?_
      refine lv_iload hx hb dX1_isBetween_102 (lv_at hl 2 rfl) ?_
      refine r_calli (va_runS (As := [.int (iI (σ 1 p0)), .int (iI (σ 2 p0)), .int (iI (σ 5 h0)), .int (iI (σ 6 h0)), .int (iI (σ 9 w)), .int (iI (σ 10 w))]) (rest := []) ⟨hx, hb, hml, hown, hts⟩ (c_X1_turn l  (σ 1 p0) (σ 2 p0) (σ 5 h0) (σ 6 h0) (σ 9 w) (σ 10 w) ) (va_cwS 6 hts gX1_isBetween_X1_turn rfl rfl rfl (by decide +kernel) ⟨Nat.le_of_ble_eq_true rfl, Nat.le_of_ble_eq_true rfl⟩) ps_T rfl rfl hl.1 rfl (lv_room (Nat.le_of_ble_eq_true rfl)) dX1_isBetween_104 ⟨Nat.le_of_ble_eq_true rfl, Nat.le_of_ble_eq_true rfl⟩) ?_
      refine lv_iload hx hb dX1_isBetween_107 (lv_at hl 7 rfl) ?_
      refine lv_iload hx hb dX1_isBetween_109 (lv_at hl 6 rfl) ?_
      refine lv_iload hx hb dX1_isBetween_111 (lv_at hl 5 rfl) ?_
      refine lv_iload hx hb dX1_isBetween_113 (lv_at hl 4 rfl) ?_
      refine lv_iload hx hb dX1_isBetween_115 (lv_at hl 1 rfl) ?_
      refine lv_iload hx hb dX1_isBetween_117 (lv_at hl 0 rfl) ?_
      refine r_calli (va_runS (As := [.int (iI (σ 1 p0)), .int (iI (σ 2 p0)), .int (iI (σ 5 h0)), .int (iI (σ 6 h0)), .int (iI (σ 11 w)), .int (iI (σ 12 w))]) (rest := [.int (iI (tuZ (σ 1 p0) (σ 2 p0) (σ 5 h0) (σ 6 h0) (σ 9 w) (σ 10 w)))]) ⟨hx, hb, hml, hown, hts⟩ (c_X1_turn l  (σ 1 p0) (σ 2 p0) (σ 5 h0) (σ 6 h0) (σ 11 w) (σ 12 w) ) (va_cwS 6 hts gX1_isBetween_X1_turn rfl rfl rfl (by decide +kernel) ⟨Nat.le_of_ble_eq_true rfl, Nat.le_of_ble_eq_true rfl⟩) ps_T rfl rfl hl.1 rfl (lv_room (Nat.le_of_ble_eq_true rfl)) dX1_isBetween_119 ⟨Nat.le_of_ble_eq_true rfl, Nat.le_of_ble_eq_true rfl⟩) ?_
      refine r_calli (va_runS (As := [.int (iI (tuZ (σ 1 p0) (σ 2 p0) (σ 5 h0) (σ 6 h0) (σ 9 w) (σ 10 w))), .int (iI (tuZ (σ 1 p0) (σ 2 p0) (σ 5 h0) (σ 6 h0) (σ 11 w) (σ 12 w)))]) (rest := []) ⟨hx, hb, hml, hown, hts⟩ (c_X1_onOneSide l  (tuZ (σ 1 p0) (σ 2 p0) (σ 5 h0) (σ 6 h0) (σ 9 w) (σ 10 w)) (tuZ (σ 1 p0) (σ 2 p0) (σ 5 h0) (σ 6 h0) (σ 11 w) (σ 12 w)) (by omega) (by omega)) (va_cwS 2 hts gX1_isBetween_X1_onOneSide rfl rfl rfl (by decide +kernel) ⟨Nat.le_of_ble_eq_true rfl, Nat.le_of_ble_eq_true rfl⟩) ps_T rfl rfl hl.1 rfl (lv_room (Nat.le_of_ble_eq_true rfl)) dX1_isBetween_122 ⟨Nat.le_of_ble_eq_true rfl, Nat.le_of_ble_eq_true rfl⟩) ?_
      refine r_ifB_ne (tgt := 168) hx hb dX1_isBetween_125 (by decide) (fun h11 => ?_) (fun h11 => ?_)
      · -- 125 to 168
        refine lv_iconst (v := iI 0) hx hb dX1_isBetween_168 rfl ?_
        exact r_retZ hx hb hr hlocks dX1_isBetween_169 (zn_of (by omega)) (by first | exact (bI_t ⟨by assumption, by assumption, by assumption, by assumption⟩).symm | exact (bI_f (fun q => absurd q.1 (by assumption))).symm | exact (bI_f (fun q => absurd q.2.1 (by assumption))).symm | exact (bI_f (fun q => q.2.2.1 (by assumption))).symm | exact (bI_f (fun q => q.2.2.2 (by assumption))).symm)
      · -- 125 to 128
        refine lv_iload hx hb dX1_isBetween_128 (lv_at hl 3 rfl) ?_
        refine lv_iload hx hb dX1_isBetween_130 (lv_at hl 2 rfl) ?_
        refine lv_iload hx hb dX1_isBetween_132 (lv_at hl 1 rfl) ?_
        refine lv_iload hx hb dX1_isBetween_134 (lv_at hl 0 rfl) ?_
        refine lv_iload hx hb dX1_isBetween_136 (lv_at hl 7 rfl) ?_
        refine lv_iload hx hb dX1_isBetween_138 (lv_at hl 6 rfl) ?_
        refine r_calli (va_runS (As := [.int (iI (σ 9 w)), .int (iI (σ 10 w)), .int (iI (σ 11 w)), .int (iI (σ 12 w)), .int (iI (σ 1 p0)), .int (iI (σ 2 p0))]) (rest := []) ⟨hx, hb, hml, hown, hts⟩ (c_X1_turn l  (σ 9 w) (σ 10 w) (σ 11 w) (σ 12 w) (σ 1 p0) (σ 2 p0) ) (va_cwS 6 hts gX1_isBetween_X1_turn rfl rfl rfl (by decide +kernel) ⟨Nat.le_of_ble_eq_true rfl, Nat.le_of_ble_eq_true rfl⟩) ps_T rfl rfl hl.1 rfl (lv_room (Nat.le_of_ble_eq_true rfl)) dX1_isBetween_140 ⟨Nat.le_of_ble_eq_true rfl, Nat.le_of_ble_eq_true rfl⟩) ?_
        refine lv_iload hx hb dX1_isBetween_143 (lv_at hl 3 rfl) ?_
        refine lv_iload hx hb dX1_isBetween_145 (lv_at hl 2 rfl) ?_
        refine lv_iload hx hb dX1_isBetween_147 (lv_at hl 1 rfl) ?_
        refine lv_iload hx hb dX1_isBetween_149 (lv_at hl 0 rfl) ?_
        refine lv_iload hx hb dX1_isBetween_151 (lv_at hl 5 rfl) ?_
        refine lv_iload hx hb dX1_isBetween_153 (lv_at hl 4 rfl) ?_
        refine r_calli (va_runS (As := [.int (iI (σ 9 w)), .int (iI (σ 10 w)), .int (iI (σ 11 w)), .int (iI (σ 12 w)), .int (iI (σ 5 h0)), .int (iI (σ 6 h0))]) (rest := [.int (iI (tuZ (σ 9 w) (σ 10 w) (σ 11 w) (σ 12 w) (σ 1 p0) (σ 2 p0)))]) ⟨hx, hb, hml, hown, hts⟩ (c_X1_turn l  (σ 9 w) (σ 10 w) (σ 11 w) (σ 12 w) (σ 5 h0) (σ 6 h0) ) (va_cwS 6 hts gX1_isBetween_X1_turn rfl rfl rfl (by decide +kernel) ⟨Nat.le_of_ble_eq_true rfl, Nat.le_of_ble_eq_true rfl⟩) ps_T rfl rfl hl.1 rfl (lv_room (Nat.le_of_ble_eq_true rfl)) dX1_isBetween_155 ⟨Nat.le_of_ble_eq_true rfl, Nat.le_of_ble_eq_true rfl⟩) ?_
        refine r_calli (va_runS (As := [.int (iI (tuZ (σ 9 w) (σ 10 w) (σ 11 w) (σ 12 w) (σ 1 p0) (σ 2 p0))), .int (iI (tuZ (σ 9 w) (σ 10 w) (σ 11 w) (σ 12 w) (σ 5 h0) (σ 6 h0)))]) (rest := []) ⟨hx, hb, hml, hown, hts⟩ (c_X1_onOneSide l  (tuZ (σ 9 w) (σ 10 w) (σ 11 w) (σ 12 w) (σ 1 p0) (σ 2 p0)) (tuZ (σ 9 w) (σ 10 w) (σ 11 w) (σ 12 w) (σ 5 h0) (σ 6 h0)) (by omega) (by omega)) (va_cwS 2 hts gX1_isBetween_X1_onOneSide rfl rfl rfl (by decide +kernel) ⟨Nat.le_of_ble_eq_true rfl, Nat.le_of_ble_eq_true rfl⟩) ps_T rfl rfl hl.1 rfl (lv_room (Nat.le_of_ble_eq_true rfl)) dX1_isBetween_158 ⟨Nat.le_of_ble_eq_true rfl, Nat.le_of_ble_eq_true rfl⟩) ?_
        refine r_ifB_ne (tgt := 168) hx hb dX1_isBetween_161 (by decide) (fun h12 => ?_) (fun h12 => ?_)
        · -- 161 to 168
          refine lv_iconst (v := iI 0) hx hb dX1_isBetween_168 rfl ?_
          exact r_retZ hx hb hr hlocks dX1_isBetween_169 (zn_of (by omega)) (by first | exact (bI_t ⟨by assumption, by assumption, by assumption, by assumption⟩).symm | exact (bI_f (fun q => absurd q.1 (by assumption))).symm | exact (bI_f (fun q => absurd q.2.1 (by assumption))).symm | exact (bI_f (fun q => q.2.2.1 (by assumption))).symm | exact (bI_f (fun q => q.2.2.2 (by assumption))).symm)
        · -- 161 to 164
          refine lv_iconst (v := iI 1) hx hb dX1_isBetween_164 rfl ?_
          refine lv_goto (tgt := 169) hx hb dX1_isBetween_165 (by decide) ?_
          exact r_retZ hx hb hr hlocks dX1_isBetween_169 (zn_of (by omega)) (by first | exact (bI_t ⟨by assumption, by assumption, by assumption, by assumption⟩).symm | exact (bI_f (fun q => absurd q.1 (by assumption))).symm | exact (bI_f (fun q => absurd q.2.1 (by assumption))).symm | exact (bI_f (fun q => q.2.2.1 (by assumption))).symm | exact (bI_f (fun q => q.2.2.2 (by assumption))).symm)
end
section
/-! NOISE: the new cells behind a change -/
theorem su_su (σ : Nat → Int → Int) (k : Nat) (a b : Int → Int) : su (su σ k a) k b = su σ k b := by
  funext j
  unfold su
  cases Nat.beq j k <;> rfl
theorem su_id (σ : Nat → Int → Int) (k : Nat) : su σ k (σ k) = σ := by
  funext j
  unfold su
  cases h : Nat.beq j k with
  | true =>
    have := Nat.eq_of_beq_eq_true h
    subst this
    rfl
  | false => rfl
def nRank (σ : Nat → Int → Int) (k : Int) : Int := ft (fun h => decide (nAhead (nDay σ) (σ 4 0) h = k)) (fun h => h) (-1) 0 (σ 4 0)
theorem nAhead_congr {g g2 : Int → Int} {c h : Int} (hh : 0 ≤ h ∧ h < c) (e : ∀ k, 0 ≤ k → k < c → g k = g2 k) : nAhead g c h = nAhead g2 c h := by
  refine fo_congr _ _ _ (fun i x h0 h1 => ?_)
  show nAheadF g h x i = nAheadF g2 h x i
  unfold nAheadF
  rw [e h hh.1 hh.2, e i h0 h1]
theorem up_same {g f : Int → Int} {w : Int} (h : ∀ k, k ≠ w → g k = f k) (v : Int) : up g w v = up f w v := by
  funext k
  unfold up
  by_cases q : k = w
  · rw [if_pos q, if_pos q]
  · rw [if_neg q, if_neg q, h k q]
theorem up_back {g f : Int → Int} {w : Int} (h : ∀ k, k ≠ w → g k = f k) : up g w (f w) = f := by
  rw [up_same h, up_id]
theorem nNone_13 (σ : Nat → Int → Int) {g : Int → Int} {w : Int} (h : ∀ k, k ≠ w → g k = σ 13 k) (v lim : Int) : nNone (su (su σ 13 g) 13 (up g w v)) lim = nNone (su σ 13 (up (σ 13) w v)) lim := by
  rw [su_su, up_same h]
theorem note_bd {σ : Nat → Int → Int} (hI : invN σ) {w : Int} (hw : 0 ≤ w ∧ w < 8) (p h : Int) : ∀ k, 0 ≤ nNoteF σ w p h k ∧ nNoteF σ w p h k < 256 := by
  obtain ⟨-, -, -, -, -, -, -, -, -, -, -, -, -, -, -, -, -, hB17⟩ := hI
  unfold nNoteF
  split
  · exact up_bl hB17 (orZ_bd (hB17 _) hw)
  · exact hB17
theorem note_step (σ : Nat → Int → Int) (d : Int → Int) (m i p h : Int) : nNoteF (su (su σ 16 d) 17 (up (σ 17) (p * 20 + h) m)) i p h = up (σ 17) (p * 20 + h) (nMskF σ p h m i) := by
  unfold nNoteF nMskF
  by_cases q : nBtw σ i p h
  · rw [if_pos q, if_pos (show nBtw (su (su σ 16 d) 17 (up (σ 17) (p * 20 + h) m)) i p h from q)]
    show up (up (σ 17) (p * 20 + h) m) (p * 20 + h) (orZ (up (σ 17) (p * 20 + h) m (p * 20 + h)) i) = _
    rw [up_up, up_s]
  · rw [if_neg q, if_neg (show ¬ nBtw (su (su σ 16 d) 17 (up (σ 17) (p * 20 + h) m)) i p h from q)]
    rfl
def nPutP (σ : Nat → Int → Int) (x y a b t : Int) : Nat → Int → Int := su (su (su (su σ 0 (fun _ => σ 0 0 + 1)) 1 (up (σ 1) (σ 0 0) x)) 2 (up (σ 2) (σ 0 0) y)) 3 (up (up (up (σ 3) (σ 0 0 * 3) a) (σ 0 0 * 3 + 1) b) (σ 0 0 * 3 + 2) t)
def nMeaD (σ : Nat → Int → Int) (p h : Int) (d : Int → Int) : Int → Int := up d (p * 20 + h) (nDbl (d2Z σ p h))
def nMeaB (σ : Nat → Int → Int) (p h : Int) (m : Int → Int) : Int → Int := up m (p * 20 + h) (nMsk σ p h (m (p * 20 + h)))
def nAddP (σ : Nat → Int → Int) (x y a b t : Int) : Nat → Int → Int := if 12 ≤ σ 0 0 then σ else su (su (nPutP σ x y a b t) 16 (fo (fun d h => nMeaD (nPutP σ x y a b t) (σ 0 0) h d) (σ 16) (σ 4 0))) 17 (fo (fun m h => nMeaB (nPutP σ x y a b t) (σ 0 0) h m) (σ 17) (σ 4 0))
def nPutH (σ : Nat → Int → Int) (x y n : Int) : Nat → Int → Int := su (su (su (su σ 4 (fun _ => σ 4 0 + 1)) 5 (up (σ 5) (σ 4 0) x)) 6 (up (σ 6) (σ 4 0) y)) 7 (up (σ 7) (σ 4 0) n)
def nAddH (σ : Nat → Int → Int) (x y n : Int) : Nat → Int → Int := if 20 ≤ σ 4 0 then σ else su (su (nPutH σ x y n) 16 (fo (fun d p => nMeaD (nPutH σ x y n) p (σ 4 0) d) (σ 16) (σ 0 0))) 17 (fo (fun m p => nMeaB (nPutH σ x y n) p (σ 4 0) m) (σ 17) (σ 0 0))
def nPutW (σ : Nat → Int → Int) (x y z w v : Int) : Nat → Int → Int := su (su (su (su (su (su σ 8 (fun _ => σ 8 0 + 1)) 9 (up (σ 9) (σ 8 0) x)) 10 (up (σ 10) (σ 8 0) y)) 11 (up (σ 11) (σ 8 0) z)) 12 (up (σ 12) (σ 8 0) w)) 13 (up (σ 13) (σ 8 0) v)
def nNoteS (σ : Nat → Int → Int) (w p h : Int) (m : Int → Int) : Int → Int := if nBtw σ w p h then up m (p * 20 + h) (orZ (m (p * 20 + h)) w) else m
def nRowS (σ : Nat → Int → Int) (w p c : Int) (m : Int → Int) : Int → Int := fo (fun m h => nNoteS σ w p h m) m c
def nAddW (σ : Nat → Int → Int) (x y z w v : Int) : Nat → Int → Int := if 8 ≤ σ 8 0 then σ else su (nPutW σ x y z w v) 17 (fo (fun m p => nRowS (nPutW σ x y z w v) (σ 8 0) p (σ 4 0) m) (σ 17) (σ 0 0))
theorem nAhead_bd (g : Int → Int) (c h : Int) (hc : 0 ≤ c) : 0 ≤ nAhead g c h ∧ nAhead g c h ≤ c := by
  refine fo_inv (fun i x => 0 ≤ x ∧ x ≤ i) _ _ hc (by omega) (fun i x h0 h1 hx => ?_)
  show 0 ≤ nAheadF g h x i ∧ nAheadF g h x i ≤ i + 1
  unfold nAheadF
  split <;> omega
theorem ex_step {g F : Int → Int} {i v : Int} (h : ∀ k, 0 ≤ k → k < i → g k = F k) (hv : v = F i) : ∀ k, 0 ≤ k → k < i + 1 → up g i v k = F k := by
  intro k h0 h1
  by_cases q : k = i
  · rw [q, up_s, hv]
  · rw [up_n _ _ q]; exact h k h0 (by omega)
theorem least_a {σ : Nat → Int → Int} {g : Int → Int} {w b i f : Int} (hN : nNone (su (su σ 13 g) 13 (up g w i)) b = nNone (su σ 13 (up (σ 13) w i)) b) (hi : 0 ≤ i ∧ i ≤ 305 ∧ i % 5 = 0) (h3 : i ≤ 300) (hf : (f = -1 ∧ nLeast σ w b = ft (fun j => decide (nNone (su σ 13 (up (σ 13) w (5 * j))) b ≠ 0)) (fun j => 5 * j) (-1) (i / 5) 61) ∨ (0 ≤ f ∧ f ≤ 300 ∧ nLeast σ w b = f)) (h1 : f = -1) (h0 : nNone (su (su σ 13 g) 13 (up g w i)) b = 0) : (f = -1 ∧ nLeast σ w b = ft (fun j => decide (nNone (su σ 13 (up (σ 13) w (5 * j))) b ≠ 0)) (fun j => 5 * j) (-1) ((i + 5) / 5) 61) ∨ (0 ≤ f ∧ f ≤ 300 ∧ nLeast σ w b = f) := by
  rcases hf with q | q
  · refine Or.inl ⟨h1, ?_⟩
    rw [q.2, ft_miss _ _ _ (by omega) (decide_eq_false (by rw [show 5 * (i / 5) = i from by omega, ← hN]; exact fun z => z h0)), show (i + 5) / 5 = i / 5 + 1 from by omega]
  · omega
theorem least_b {σ : Nat → Int → Int} {g : Int → Int} {w b i f : Int} (hN : nNone (su (su σ 13 g) 13 (up g w i)) b = nNone (su σ 13 (up (σ 13) w i)) b) (hi : 0 ≤ i ∧ i ≤ 305 ∧ i % 5 = 0) (h3 : i ≤ 300) (hf : (f = -1 ∧ nLeast σ w b = ft (fun j => decide (nNone (su σ 13 (up (σ 13) w (5 * j))) b ≠ 0)) (fun j => 5 * j) (-1) (i / 5) 61) ∨ (0 ≤ f ∧ f ≤ 300 ∧ nLeast σ w b = f)) (h1 : f = -1) (h0 : nNone (su (su σ 13 g) 13 (up g w i)) b ≠ 0) : (i = -1 ∧ nLeast σ w b = ft (fun j => decide (nNone (su σ 13 (up (σ 13) w (5 * j))) b ≠ 0)) (fun j => 5 * j) (-1) ((i + 5) / 5) 61) ∨ (0 ≤ i ∧ i ≤ 300 ∧ nLeast σ w b = i) := by
  rcases hf with q | q
  · refine Or.inr ⟨hi.1, h3, ?_⟩
    rw [q.2, ft_hit _ _ _ (by omega) (decide_eq_true (by rw [show 5 * (i / 5) = i from by omega, ← hN]; exact h0))]
    omega
  · omega
end
section
/-! NOISE: the methods that change cells -/
theorem fl_X1_changeFall_57 : Cond.fieldLink RX1 57 "NoiseLamps$Noise" "fall" "I" ∈ wsX1_changeFall := by decide +kernel
set_option maxHeartbeats 4000000 in
set_option maxRecDepth 100000 in
theorem c_X1_changeFall (l : Launch) (D : va_G) (cy : ClassId) (A : Nat → Nat) (σ : Nat → Int → Int) (sz : Nat) (a : Int) (hI : invN σ) (ha : 0 ≤ a ∧ a ≤ 60) : MetM l yX1_changeFall wsX1_changeFall ({ frames := 0, cells := 0, slots := 0, locals := 0 } : Room) D cy (wN cy A σ) ([.ref (A 100), .int (iI a)] : List Value) sz (fun _ : Unit => (σ 14 0)) (fun _ : Unit => True) (fun _ : Unit => wN cy A (su σ 14 (fun _ => a))) := by
  refine met_M (cc := cX1_changeFall) (maxL := 3) (ret := (some .int)) (by decide) rfl (Nat.le_of_ble_eq_true rfl) ?_
  intro p e s m below meth c AA hAA hx hb hr hml hts hown hlocks hP hK hD hA ls hl
  have hS : va_S AA s.heap s.heap [] := va_S.rf
  have hown : s.vm.findClass RX1 = some m.cls := hown
  have hl : lv_has ls 3 [(0, .ref (A 100)), (1, .int (iI a))] := hl
  obtain ⟨hN0, hN4, hN8, hN14, hB1, hB2, hB3, hB5, hB6, hB7, hB9, hB10, hB11, hB12, hB13, hB15, hB16, hB17⟩ := id hI
  refine lv_aload_n hx hb dX1_changeFall_0 rfl (lv_at hl 0 rfl) ?_
  refine va_get (D := D) (ci := 1) (v := .int (iI (σ 14 0))) (C := RX1) (T := TX1) (N := 19) hx hb hts (fun _ h => List.mem_cons_of_mem _ (List.mem_append_right _ h)) hown hK hP 0 rfl rfl 14 (by decide) (hts _ fl_X1_changeFall_57) (fun _ h9 => h9) rfl dX1_changeFall_1 ?_
  refine lv_istore_n (lv' := [(2, .int (iI (σ 14 0))), (0, .ref (A 100)), (1, .int (iI a))]) hx hb dX1_changeFall_4 rfl hl (by decide) rfl (fun ls hl => ?_)
  refine lv_aload_n hx hb dX1_changeFall_5 rfl (lv_at hl 1 rfl) ?_
  refine lv_iload_n hx hb dX1_changeFall_6 rfl (lv_at hl 2 rfl) ?_
  refine va_put (D := D) (ci := 1) (v := .int (iI a)) (ty := .int) (C := RX1) (T := TX1) (N := 19) hx hb hts (fun _ h => List.mem_cons_of_mem _ (List.mem_append_right _ h)) tyX1 tyX1_ok nmX1 hown hK hP hD hS 0 rfl rfl 14 (by decide) (hts _ fl_X1_changeFall_57) (fun _ h9 => h9) rfl (by decide +kernel) rfl rfl (Nat.le_of_ble_eq_true rfl) dX1_changeFall_7 (fun H locs hP hD hS => ?_)
  have hP : va_P D vwCl (wN cy A (su σ 14 (fun _ => a))) H := hP
  have hD : va_D AA (wN cy A (su σ 14 (fun _ => a))) := hD
  refine lv_iload_n hx hb dX1_changeFall_10 rfl (lv_at hl 0 rfl) ?_
  exact r_retM () hx hb hr hlocks hS dX1_changeFall_11 rfl trivial hP
theorem fl_X1_changeMalus_45 : Cond.fieldLink RX1 45 "NoiseLamps$Noise" "malus" "[I" ∈ wsX1_changeMalus := by decide +kernel
set_option maxHeartbeats 4000000 in
set_option maxRecDepth 100000 in
theorem c_X1_changeMalus (l : Launch) (D : va_G) (cy : ClassId) (A : Nat → Nat) (σ : Nat → Int → Int) (sz : Nat) (a b : Int) (hI : invN σ) (ha : 0 ≤ a ∧ a < 3) (hb2 : 0 ≤ b ∧ b ≤ 200) : MetM l yX1_changeMalus wsX1_changeMalus ({ frames := 0, cells := 0, slots := 0, locals := 0 } : Room) D cy (wN cy A σ) ([.ref (A 100), .int (iI a), .int (iI b)] : List Value) sz (fun _ : Unit => (σ 15 a)) (fun _ : Unit => True) (fun _ : Unit => wN cy A (su σ 15 (up (σ 15) a b))) := by
  refine met_M (cc := cX1_changeMalus) (maxL := 4) (ret := (some .int)) (by decide) rfl (Nat.le_of_ble_eq_true rfl) ?_
  intro p e s m below meth c AA hAA hx hb hr hml hts hown hlocks hP hK hD hA ls hl
  have hS : va_S AA s.heap s.heap [] := va_S.rf
  have hown : s.vm.findClass RX1 = some m.cls := hown
  have hl : lv_has ls 4 [(0, .ref (A 100)), (1, .int (iI a)), (2, .int (iI b))] := hl
  obtain ⟨hN0, hN4, hN8, hN14, hB1, hB2, hB3, hB5, hB6, hB7, hB9, hB10, hB11, hB12, hB13, hB15, hB16, hB17⟩ := id hI
  refine lv_aload_n hx hb dX1_changeMalus_0 rfl (lv_at hl 0 rfl) ?_
  refine va_get (D := D) (ci := 1) (v := .ref (A 15)) (C := RX1) (T := TX1) (N := 19) hx hb hts (fun _ h => List.mem_cons_of_mem _ (List.mem_append_right _ h)) hown hK hP 0 rfl rfl 15 (by decide) (hts _ fl_X1_changeMalus_45) (fun _ h9 => h9) rfl dX1_changeMalus_1 ?_
  refine lv_iload_n hx hb dX1_changeMalus_4 rfl (lv_at hl 1 rfl) ?_
  refine r_iald hx hb hK hP 12 0 rfl rfl (Nat.le_of_ble_eq_true rfl) (by omega) dX1_changeMalus_5 ?_
  have hv1 := hB15 a
  refine lv_istore_n (lv' := [(3, .int (iI (σ 15 a))), (0, .ref (A 100)), (1, .int (iI a)), (2, .int (iI b))]) hx hb dX1_changeMalus_6 rfl hl (by decide) rfl (fun ls hl => ?_)
  refine lv_aload_n hx hb dX1_changeMalus_7 rfl (lv_at hl 1 rfl) ?_
  refine va_get (D := D) (ci := 1) (v := .ref (A 15)) (C := RX1) (T := TX1) (N := 19) hx hb hts (fun _ h => List.mem_cons_of_mem _ (List.mem_append_right _ h)) hown hK hP 0 rfl rfl 15 (by decide) (hts _ fl_X1_changeMalus_45) (fun _ h9 => h9) rfl dX1_changeMalus_8 ?_
  refine lv_iload_n hx hb dX1_changeMalus_11 rfl (lv_at hl 2 rfl) ?_
  refine lv_iload_n hx hb dX1_changeMalus_12 rfl (lv_at hl 3 rfl) ?_
  refine r_iast hx hb hK hP hD hS 12 0 rfl rfl (Nat.le_of_ble_eq_true rfl) (by omega) dX1_changeMalus_13 (fun H locs hP hD hS => ?_)
  have hP : va_P D vwCl (wN cy A (su σ 15 (up (σ 15) a b))) H := hP
  have hD : va_D AA (wN cy A (su σ 15 (up (σ 15) a b))) := hD
  refine lv_iload_n hx hb dX1_changeMalus_14 rfl (lv_at hl 0 rfl) ?_
  exact r_retM () hx hb hr hlocks hS dX1_changeMalus_15 rfl trivial hP
theorem fl_X1_changeCut_42 : Cond.fieldLink RX1 42 "NoiseLamps$Noise" "wallCut" "[I" ∈ wsX1_changeCut := by decide +kernel
set_option maxHeartbeats 4000000 in
set_option maxRecDepth 100000 in
theorem c_X1_changeCut (l : Launch) (D : va_G) (cy : ClassId) (A : Nat → Nat) (σ : Nat → Int → Int) (sz : Nat) (a b : Int) (hI : invN σ) (ha : 0 ≤ a ∧ a < 8) (hb2 : 0 ≤ b ∧ b ≤ 300) : MetM l yX1_changeCut wsX1_changeCut ({ frames := 0, cells := 0, slots := 0, locals := 0 } : Room) D cy (wN cy A σ) ([.ref (A 100), .int (iI a), .int (iI b)] : List Value) sz (fun _ : Unit => (σ 13 a)) (fun _ : Unit => True) (fun _ : Unit => wN cy A (su σ 13 (up (σ 13) a b))) := by
  refine met_M (cc := cX1_changeCut) (maxL := 4) (ret := (some .int)) (by decide) rfl (Nat.le_of_ble_eq_true rfl) ?_
  intro p e s m below meth c AA hAA hx hb hr hml hts hown hlocks hP hK hD hA ls hl
  have hS : va_S AA s.heap s.heap [] := va_S.rf
  have hown : s.vm.findClass RX1 = some m.cls := hown
  have hl : lv_has ls 4 [(0, .ref (A 100)), (1, .int (iI a)), (2, .int (iI b))] := hl
  obtain ⟨hN0, hN4, hN8, hN14, hB1, hB2, hB3, hB5, hB6, hB7, hB9, hB10, hB11, hB12, hB13, hB15, hB16, hB17⟩ := id hI
  refine lv_aload_n hx hb dX1_changeCut_0 rfl (lv_at hl 0 rfl) ?_
  refine va_get (D := D) (ci := 1) (v := .ref (A 13)) (C := RX1) (T := TX1) (N := 19) hx hb hts (fun _ h => List.mem_cons_of_mem _ (List.mem_append_right _ h)) hown hK hP 0 rfl rfl 13 (by decide) (hts _ fl_X1_changeCut_42) (fun _ h9 => h9) rfl dX1_changeCut_1 ?_
  refine lv_iload_n hx hb dX1_changeCut_4 rfl (lv_at hl 1 rfl) ?_
  refine r_iald hx hb hK hP 11 0 rfl rfl (Nat.le_of_ble_eq_true rfl) (by omega) dX1_changeCut_5 ?_
  have hv1 := hB13 a
  refine lv_istore_n (lv' := [(3, .int (iI (σ 13 a))), (0, .ref (A 100)), (1, .int (iI a)), (2, .int (iI b))]) hx hb dX1_changeCut_6 rfl hl (by decide) rfl (fun ls hl => ?_)
  refine lv_aload_n hx hb dX1_changeCut_7 rfl (lv_at hl 1 rfl) ?_
  refine va_get (D := D) (ci := 1) (v := .ref (A 13)) (C := RX1) (T := TX1) (N := 19) hx hb hts (fun _ h => List.mem_cons_of_mem _ (List.mem_append_right _ h)) hown hK hP 0 rfl rfl 13 (by decide) (hts _ fl_X1_changeCut_42) (fun _ h9 => h9) rfl dX1_changeCut_8 ?_
  refine lv_iload_n hx hb dX1_changeCut_11 rfl (lv_at hl 2 rfl) ?_
  refine lv_iload_n hx hb dX1_changeCut_12 rfl (lv_at hl 3 rfl) ?_
  refine r_iast hx hb hK hP hD hS 11 0 rfl rfl (Nat.le_of_ble_eq_true rfl) (by omega) dX1_changeCut_13 (fun H locs hP hD hS => ?_)
  have hP : va_P D vwCl (wN cy A (su σ 13 (up (σ 13) a b))) H := hP
  have hD : va_D AA (wN cy A (su σ 13 (up (σ 13) a b))) := hD
  refine lv_iload_n hx hb dX1_changeCut_14 rfl (lv_at hl 0 rfl) ?_
  exact r_retM () hx hb hr hlocks hS dX1_changeCut_15 rfl trivial hP
theorem fl_X1_noteIfBetween_51 : Cond.fieldLink RX1 51 "NoiseLamps$Noise" "wallsBetween" "[I" ∈ wsX1_noteIfBetween := by decide +kernel
set_option maxHeartbeats 4000000 in
set_option maxRecDepth 100000 in
theorem c_X1_noteIfBetween (l : Launch) (D : va_G) (cy : ClassId) (A : Nat → Nat) (σ : Nat → Int → Int) (sz : Nat) (w p0 h0 : Int) (hI : invN σ) (hw : 0 ≤ w ∧ w < 8) (hp : 0 ≤ p0 ∧ p0 < 12) (hh : 0 ≤ h0 ∧ h0 < 20) : MetV l yX1_noteIfBetween wsX1_noteIfBetween ({ frames := 3, cells := 0, slots := 0, locals := 75 } : Room) D cy (wN cy A σ) ([.ref (A 100), .int (iI w), .int (iI p0), .int (iI h0)] : List Value) sz (fun _ : Unit => True) (fun _ : Unit => wN cy A (su σ 17 (nNoteF σ w p0 h0))) := by
  refine met_V (cc := cX1_noteIfBetween) (maxL := 4) (ret := none) (by decide) rfl (Nat.le_of_ble_eq_true rfl) ?_
  intro p e s m below meth c AA hAA hx hb hr hml hts hown hin hlocks hP hK hD hA ls hl
  have hS : va_S AA s.heap s.heap [] := va_S.rf
  have hown : s.vm.findClass RX1 = some m.cls := hown
  have hl : lv_has ls 4 [(0, .ref (A 100)), (1, .int (iI w)), (2, .int (iI p0)), (3, .int (iI h0))] := hl
  obtain ⟨hN0, hN4, hN8, hN14, hB1, hB2, hB3, hB5, hB6, hB7, hB9, hB10, hB11, hB12, hB13, hB15, hB16, hB17⟩ := id hI
  refine lv_aload_n hx hb dX1_noteIfBetween_0 rfl (lv_at hl 0 rfl) ?_
  refine lv_iload_n hx hb dX1_noteIfBetween_1 rfl (lv_at hl 1 rfl) ?_
  refine lv_iload_n hx hb dX1_noteIfBetween_2 rfl (lv_at hl 2 rfl) ?_
  refine lv_iload_n hx hb dX1_noteIfBetween_3 rfl (lv_at hl 3 rfl) ?_
  refine r_calli (va_runV (As := [.int (iI w), .int (iI p0), .int (iI h0)]) (rest := []) ⟨hx, hb, hml, hown, hts⟩ (c_X1_isBetween l D cy A σ w p0 h0 hI (by omega) (by omega) (by omega)) (cwV 3 hts gX1_noteIfBetween_X1_isBetween rfl rfl rfl (by decide +kernel) ⟨Nat.le_of_ble_eq_true rfl, Nat.le_of_ble_eq_true rfl⟩) (pv_ro (C := RX1) (T := TX1) (N := 19) (ci := 1) (q0 := 0) hP hK rfl rfl) rfl rfl hl.1 rfl (lv_room (Nat.le_of_ble_eq_true rfl)) dX1_noteIfBetween_4 ⟨Nat.le_of_ble_eq_true rfl, Nat.le_of_ble_eq_true rfl⟩) ?_
  refine r_ifB_eq (tgt := 26) hx hb dX1_noteIfBetween_7 (by decide) (fun h1 => ?_) (fun h1 => ?_)
  · -- 7 to 26
    exact r_retV () hx hb hr hlocks hS dX1_noteIfBetween_26 trivial (by unfold nNoteF; first | (rw [if_pos (by assumption)]; exact hP) | (rw [if_neg (by assumption)]; exact hP))
  · -- 7 to 10
    refine lv_aload_n hx hb dX1_noteIfBetween_10 rfl (lv_at hl 0 rfl) ?_
    refine va_get (D := D) (ci := 1) (v := .ref (A 17)) (C := RX1) (T := TX1) (N := 19) hx hb hts (fun _ h => List.mem_cons_of_mem _ (List.mem_append_right _ h)) hown hK hP 0 rfl rfl 17 (by decide) (hts _ fl_X1_noteIfBetween_51) (fun _ h9 => h9) rfl dX1_noteIfBetween_11 ?_
    refine lv_iload_n hx hb dX1_noteIfBetween_14 rfl (lv_at hl 2 rfl) ?_
    refine lv_iload_n hx hb dX1_noteIfBetween_15 rfl (lv_at hl 3 rfl) ?_
    refine r_calli (va_runS (As := [.int (iI p0), .int (iI h0)]) (rest := [.ref (A 17)]) ⟨hx, hb, hml, hown, hts⟩ (c_X1_pairOf l  p0 h0 ) (va_cwS 2 hts gX1_noteIfBetween_X1_pairOf rfl rfl rfl (by decide +kernel) ⟨Nat.le_of_ble_eq_true rfl, Nat.le_of_ble_eq_true rfl⟩) ps_T rfl rfl hl.1 rfl (lv_room (Nat.le_of_ble_eq_true rfl)) dX1_noteIfBetween_16 ⟨Nat.le_of_ble_eq_true rfl, Nat.le_of_ble_eq_true rfl⟩) ?_
    refine lv_dup2_11 hx hb dX1_noteIfBetween_19 rfl rfl ?_
    refine r_iald hx hb hK hP 14 0 rfl rfl (Nat.le_of_ble_eq_true rfl) (by omega) dX1_noteIfBetween_20 ?_
    have hv2 := hB17 (p0 * 20 + h0)
    refine lv_iconst (v := iI 1) hx hb dX1_noteIfBetween_21 rfl ?_
    refine lv_iload_n hx hb dX1_noteIfBetween_22 rfl (lv_at hl 1 rfl) ?_
    refine r_shl hx hb dX1_noteIfBetween_23 (by omega) ?_
    refine r_bitor hx hb dX1_noteIfBetween_24 (by omega) (by omega) ?_
    refine r_iast hx hb hK hP hD hS 14 0 rfl rfl (Nat.le_of_ble_eq_true rfl) (by omega) dX1_noteIfBetween_25 (fun H locs hP hD hS => ?_)
    have hP : va_P D vwCl (wN cy A (su σ 17 (up (σ 17) (p0 * 20 + h0) (orZ (σ 17 (p0 * 20 + h0)) w)))) H := hP
    have hD : va_D AA (wN cy A (su σ 17 (up (σ 17) (p0 * 20 + h0) (orZ (σ 17 (p0 * 20 + h0)) w)))) := hD
    exact r_retV () hx hb hr hlocks hS dX1_noteIfBetween_26 trivial (by unfold nNoteF; first | (rw [if_pos (by assumption)]; exact hP) | (rw [if_neg (by assumption)]; exact hP))
theorem fl_X1_measurePair_11 : Cond.fieldLink RX1 11 "NoiseLamps$Noise" "pieceX" "[I" ∈ wsX1_measurePair := by decide +kernel
theorem fl_X1_measurePair_21 : Cond.fieldLink RX1 21 "NoiseLamps$Noise" "houseX" "[I" ∈ wsX1_measurePair := by decide +kernel
theorem fl_X1_measurePair_15 : Cond.fieldLink RX1 15 "NoiseLamps$Noise" "pieceY" "[I" ∈ wsX1_measurePair := by decide +kernel
theorem fl_X1_measurePair_24 : Cond.fieldLink RX1 24 "NoiseLamps$Noise" "houseY" "[I" ∈ wsX1_measurePair := by decide +kernel
theorem fl_X1_measurePair_48 : Cond.fieldLink RX1 48 "NoiseLamps$Noise" "doublings" "[I" ∈ wsX1_measurePair := by decide +kernel
theorem fl_X1_measurePair_67 : Cond.fieldLink RX1 67 "NoiseLamps$Noise" "walls" "I" ∈ wsX1_measurePair := by decide +kernel
set_option maxHeartbeats 4000000 in
set_option maxRecDepth 100000 in
theorem c_X1_measurePair (l : Launch) (D : va_G) (cy : ClassId) (A : Nat → Nat) (σ : Nat → Int → Int) (sz : Nat) (p0 h0 : Int) (hI : invN σ) (hp : 0 ≤ p0 ∧ p0 < 12) (hh : 0 ≤ h0 ∧ h0 < 20) : MetV l yX1_measurePair wsX1_measurePair ({ frames := 4, cells := 0, slots := 0, locals := 98 } : Room) D cy (wN cy A σ) ([.ref (A 100), .int (iI p0), .int (iI h0)] : List Value) sz (fun _ : Unit => True) (fun _ : Unit => wN cy A (su (su σ 16 (up (σ 16) (p0 * 20 + h0) (nDbl (d2Z σ p0 h0)))) 17 (up (σ 17) (p0 * 20 + h0) (nMsk σ p0 h0 (σ 17 (p0 * 20 + h0)))))) := by
  refine met_V (cc := cX1_measurePair) (maxL := 6) (ret := none) (by decide) rfl (Nat.le_of_ble_eq_true rfl) ?_
  intro p e s m below meth c AA hAA hx hb hr hml hts hown hin hlocks hP hK hD hA ls hl
  have hS : va_S AA s.heap s.heap [] := va_S.rf
  have hown : s.vm.findClass RX1 = some m.cls := hown
  have hl : lv_has ls 6 [(0, .ref (A 100)), (1, .int (iI p0)), (2, .int (iI h0))] := hl
  obtain ⟨hN0, hN4, hN8, hN14, hB1, hB2, hB3, hB5, hB6, hB7, hB9, hB10, hB11, hB12, hB13, hB15, hB16, hB17⟩ := id hI
  have hd2 := d2Z_bd hI p0 h0
  unfold d2Z at hd2
  refine lv_aload_n hx hb dX1_measurePair_0 rfl (lv_at hl 0 rfl) ?_
  refine va_get (D := D) (ci := 1) (v := .ref (A 1)) (C := RX1) (T := TX1) (N := 19) hx hb hts (fun _ h => List.mem_cons_of_mem _ (List.mem_append_right _ h)) hown hK hP 0 rfl rfl 1 (by decide) (hts _ fl_X1_measurePair_11) (fun _ h9 => h9) rfl dX1_measurePair_1 ?_
  refine lv_iload_n hx hb dX1_measurePair_4 rfl (lv_at hl 1 rfl) ?_
  refine r_iald hx hb hK hP 1 0 rfl rfl (Nat.le_of_ble_eq_true rfl) (by omega) dX1_measurePair_5 ?_
  have hv1 := hB1 p0
  refine lv_aload_n hx hb dX1_measurePair_6 rfl (lv_at hl 0 rfl) ?_
  refine va_get (D := D) (ci := 1) (v := .ref (A 5)) (C := RX1) (T := TX1) (N := 19) hx hb hts (fun _ h => List.mem_cons_of_mem _ (List.mem_append_right _ h)) hown hK hP 0 rfl rfl 5 (by decide) (hts _ fl_X1_measurePair_21) (fun _ h9 => h9) rfl dX1_measurePair_7 ?_
  refine lv_iload_n hx hb dX1_measurePair_10 rfl (lv_at hl 2 rfl) ?_
  refine r_iald hx hb hK hP 4 0 rfl rfl (Nat.le_of_ble_eq_true rfl) (by omega) dX1_measurePair_11 ?_
  have hv2 := hB5 h0
  refine r_isub hx hb dX1_measurePair_12 ?_
  refine lv_istore_n (lv' := [(3, .int (iI ((σ 1 p0) - (σ 5 h0)))), (0, .ref (A 100)), (1, .int (iI p0)), (2, .int (iI h0))]) hx hb dX1_measurePair_13 rfl hl (by decide) rfl (fun ls hl => ?_)
  refine lv_aload_n hx hb dX1_measurePair_14 rfl (lv_at hl 1 rfl) ?_
  refine va_get (D := D) (ci := 1) (v := .ref (A 2)) (C := RX1) (T := TX1) (N := 19) hx hb hts (fun _ h => List.mem_cons_of_mem _ (List.mem_append_right _ h)) hown hK hP 0 rfl rfl 2 (by decide) (hts _ fl_X1_measurePair_15) (fun _ h9 => h9) rfl dX1_measurePair_15 ?_
  refine lv_iload_n hx hb dX1_measurePair_18 rfl (lv_at hl 2 rfl) ?_
  refine r_iald hx hb hK hP 2 0 rfl rfl (Nat.le_of_ble_eq_true rfl) (by omega) dX1_measurePair_19 ?_
  have hv3 := hB2 p0
  refine lv_aload_n hx hb dX1_measurePair_20 rfl (lv_at hl 1 rfl) ?_
  refine va_get (D := D) (ci := 1) (v := .ref (A 6)) (C := RX1) (T := TX1) (N := 19) hx hb hts (fun _ h => List.mem_cons_of_mem _ (List.mem_append_right _ h)) hown hK hP 0 rfl rfl 6 (by decide) (hts _ fl_X1_measurePair_24) (fun _ h9 => h9) rfl dX1_measurePair_21 ?_
  refine lv_iload_n hx hb dX1_measurePair_24 rfl (lv_at hl 3 rfl) ?_
  refine r_iald hx hb hK hP 5 0 rfl rfl (Nat.le_of_ble_eq_true rfl) (by omega) dX1_measurePair_25 ?_
  have hv4 := hB6 h0
  refine r_isub hx hb dX1_measurePair_26 ?_
  refine lv_istore (lv' := [(4, .int (iI ((σ 2 p0) - (σ 6 h0)))), (3, .int (iI ((σ 1 p0) - (σ 5 h0)))), (0, .ref (A 100)), (1, .int (iI p0)), (2, .int (iI h0))]) hx hb dX1_measurePair_27 hl (by decide) rfl (fun ls hl => ?_)
  refine lv_aload_n hx hb dX1_measurePair_29 rfl (lv_at hl 2 rfl) ?_
  refine va_get (D := D) (ci := 1) (v := .ref (A 16)) (C := RX1) (T := TX1) (N := 19) hx hb hts (fun _ h => List.mem_cons_of_mem _ (List.mem_append_right _ h)) hown hK hP 0 rfl rfl 16 (by decide) (hts _ fl_X1_measurePair_48) (fun _ h9 => h9) rfl dX1_measurePair_30 ?_
  refine lv_iload_n hx hb dX1_measurePair_33 rfl (lv_at hl 3 rfl) ?_
  refine lv_iload_n hx hb dX1_measurePair_34 rfl (lv_at hl 4 rfl) ?_
  refine r_calli (va_runS (As := [.int (iI p0), .int (iI h0)]) (rest := [.ref (A 16)]) ⟨hx, hb, hml, hown, hts⟩ (c_X1_pairOf l  p0 h0 ) (va_cwS 2 hts gX1_measurePair_X1_pairOf rfl rfl rfl (by decide +kernel) ⟨Nat.le_of_ble_eq_true rfl, Nat.le_of_ble_eq_true rfl⟩) ps_T rfl rfl hl.1 rfl (lv_room (Nat.le_of_ble_eq_true rfl)) dX1_measurePair_35 ⟨Nat.le_of_ble_eq_true rfl, Nat.le_of_ble_eq_true rfl⟩) ?_
  refine lv_iload_n hx hb dX1_measurePair_38 rfl (lv_at hl 1 rfl) ?_
  refine lv_iload_n hx hb dX1_measurePair_39 rfl (lv_at hl 1 rfl) ?_
  refine r_imul hx hb dX1_measurePair_40 ?_
  refine lv_iload hx hb dX1_measurePair_41 (lv_at hl 0 rfl) ?_
  refine lv_iload hx hb dX1_measurePair_43 (lv_at hl 0 rfl) ?_
  refine r_imul hx hb dX1_measurePair_45 ?_
  refine r_iadd hx hb dX1_measurePair_46 ?_
  refine r_calli (va_runS (As := [.int (iI ((((σ 1 p0) - (σ 5 h0)) * ((σ 1 p0) - (σ 5 h0))) + (((σ 2 p0) - (σ 6 h0)) * ((σ 2 p0) - (σ 6 h0)))))]) (rest := [.int (iI (p0 * 20 + h0)), .ref (A 16)]) ⟨hx, hb, hml, hown, hts⟩ (c_X1_doublingsOf l  ((((σ 1 p0) - (σ 5 h0)) * ((σ 1 p0) - (σ 5 h0))) + (((σ 2 p0) - (σ 6 h0)) * ((σ 2 p0) - (σ 6 h0)))) (by omega)) (va_cwS 1 hts gX1_measurePair_X1_doublingsOf rfl rfl rfl (by decide +kernel) ⟨Nat.le_of_ble_eq_true rfl, Nat.le_of_ble_eq_true rfl⟩) ps_T rfl rfl hl.1 rfl (lv_room (Nat.le_of_ble_eq_true rfl)) dX1_measurePair_47 ⟨Nat.le_of_ble_eq_true rfl, Nat.le_of_ble_eq_true rfl⟩) ?_
  refine r_iast hx hb hK hP hD hS 13 0 rfl rfl (Nat.le_of_ble_eq_true rfl) (by omega) dX1_measurePair_50 (fun H locs hP hD hS => ?_)
  have hP : va_P D vwCl (wN cy A (su σ 16 (up (σ 16) (p0 * 20 + h0) (nDbl ((((σ 1 p0) - (σ 5 h0)) * ((σ 1 p0) - (σ 5 h0))) + (((σ 2 p0) - (σ 6 h0)) * ((σ 2 p0) - (σ 6 h0)))))))) H := hP
  have hD : va_D AA (wN cy A (su σ 16 (up (σ 16) (p0 * 20 + h0) (nDbl ((((σ 1 p0) - (σ 5 h0)) * ((σ 1 p0) - (σ 5 h0))) + (((σ 2 p0) - (σ 6 h0)) * ((σ 2 p0) - (σ 6 h0)))))))) := hD
  refine lv_iconst (v := iI 0) hx hb dX1_measurePair_51 rfl ?_
  refine lv_istore (lv' := [(5, .int (iI 0)), (4, .int (iI ((σ 2 p0) - (σ 6 h0)))), (3, .int (iI ((σ 1 p0) - (σ 5 h0)))), (0, .ref (A 100)), (1, .int (iI p0)), (2, .int (iI h0))]) hx hb dX1_measurePair_52 hl (by decide) rfl (fun ls hl => ?_)
  have lp54_5 : ∀ (nlp54_5 : Nat) (i : Int) (g : (Int → Int)) (H : Heap) (locs : List Loc) (ls : Array Slot), (0 ≤ i ∧ i ≤ σ 8 0) → (g = up (σ 17) (p0 * 20 + h0) (fo (nMskF σ p0 h0) (σ 17 (p0 * 20 + h0)) i)) → (∀ k, 0 ≤ g k ∧ g k < 256) → va_P D vwCl (wN cy A (su (su σ 16 (up (σ 16) (p0 * 20 + h0) (nDbl ((((σ 1 p0) - (σ 5 h0)) * ((σ 1 p0) - (σ 5 h0))) + (((σ 2 p0) - (σ 6 h0)) * ((σ 2 p0) - (σ 6 h0))))))) 17 g)) H → va_D AA (wN cy A (su (su σ 16 (up (σ 16) (p0 * 20 + h0) (nDbl ((((σ 1 p0) - (σ 5 h0)) * ((σ 1 p0) - (σ 5 h0))) + (((σ 2 p0) - (σ 6 h0)) * ((σ 2 p0) - (σ 6 h0))))))) 17 g)) → va_S AA s.heap H locs → (σ 8 0 - i < (nlp54_5 : Int)) → lv_has ls 6 [(5, .int (iI i)), (4, .int (iI ((σ 2 p0) - (σ 6 h0)))), (3, .int (iI ((σ 1 p0) - (σ 5 h0)))), (0, .ref (A 100)), (1, .int (iI p0)), (2, .int (iI h0))] → W p l e ({ frames := 4, cells := 0, slots := 0, locals := 98 } : Room) s m ([.ref (A 100), .int (iI p0), .int (iI h0)] : List Value).toArray below meth c H locs 0 0 (MQ below (va_Qv (fun _ : Unit => True) (fun (u : Unit) tz => va_P D vwCl ((fun _ : Unit => wN cy A (su (su σ 16 (up (σ 16) (p0 * 20 + h0) (nDbl (d2Z σ p0 h0)))) 17 (up (σ 17) (p0 * 20 + h0) (nMsk σ p0 h0 (σ 17 (p0 * 20 + h0)))))) u) tz.heap) AA) ([.ref (A 100), .int (iI p0), .int (iI h0)] : List Value).toArray s 0 0 AA) (F0 m 54 ls []) := by
    intro nlp54_5
    induction nlp54_5 with
    | zero => intro i g H locs ls hi hg hgb hP hD hS hn hl; exact absurd hn (by omega)
    | succ nlp54_5 ihlp54_5 =>
      intro i g H locs ls hi hg hgb hP hD hS hn hl
      refine lv_iload hx hb dX1_measurePair_54 (lv_at hl 0 rfl) ?_
      refine lv_aload_n hx hb dX1_measurePair_56 rfl (lv_at hl 3 rfl) ?_
      refine va_get (D := D) (ci := 1) (v := .int (iI (σ 8 0))) (C := RX1) (T := TX1) (N := 19) hx hb hts (fun _ h => List.mem_cons_of_mem _ (List.mem_append_right _ h)) hown hK hP 0 rfl rfl 8 (by decide) (hts _ fl_X1_measurePair_67) (fun _ h9 => h9) rfl dX1_measurePair_57 ?_
      refine r_icmp_ge (tgt := 77) hx hb dX1_measurePair_60 (by decide) (by omega) (by omega) (fun h6 => ?_) (fun h6 => ?_)
      · -- 60 to 77
        exact r_retV () hx hb hr hlocks hS dX1_measurePair_77 trivial (by have e : g = up (σ 17) (p0 * 20 + h0) (nMsk σ p0 h0 (σ 17 (p0 * 20 + h0))) := (by rw [hg, show i = σ 8 0 from by omega]; rfl); rw [e] at hP; exact hP)
      · -- 60 to 63
        refine lv_aload_n hx hb dX1_measurePair_63 rfl (lv_at hl 3 rfl) ?_
        refine lv_iload hx hb dX1_measurePair_64 (lv_at hl 0 rfl) ?_
        refine lv_iload_n hx hb dX1_measurePair_66 rfl (lv_at hl 4 rfl) ?_
        refine lv_iload_n hx hb dX1_measurePair_67 rfl (lv_at hl 5 rfl) ?_
        refine r_callV (w1 := ([] : va_W)) (w2 := ([] : va_W)) (va_runV (As := [.int (iI i), .int (iI p0), .int (iI h0)]) (rest := []) ⟨hx, hb, hml, hown, hts⟩ (c_X1_noteIfBetween l D cy A (su (su σ 16 (up (σ 16) (p0 * 20 + h0) (nDbl ((((σ 1 p0) - (σ 5 h0)) * ((σ 1 p0) - (σ 5 h0))) + (((σ 2 p0) - (σ 6 h0)) * ((σ 2 p0) - (σ 6 h0))))))) 17 g) (H.size) i p0 h0 (inv_17 (inv_16 hI (up_bd hB16 (nDbl_bd _))) hgb) (by omega) (by omega) (by omega)) (cwV 3 hts gX1_measurePair_X1_noteIfBetween rfl rfl rfl (by decide +kernel) ⟨Nat.le_of_ble_eq_true rfl, Nat.le_of_ble_eq_true rfl⟩) (pv_rw (C := RX1) (T := TX1) (N := 19) (ci := 1) (q0 := 0) hP hK hD rfl rfl) rfl rfl hl.1 rfl (lv_room (Nat.le_of_ble_eq_true rfl)) dX1_measurePair_68 ⟨Nat.le_of_ble_eq_true rfl, Nat.le_of_ble_eq_true rfl⟩) hP hD hS hA (fun _ => rfl) (fun u7 H locs hp8 hP hD hS => ?_)
        have hP : va_P D vwCl (wN cy A (su (su (su σ 16 (up (σ 16) (p0 * 20 + h0) (nDbl ((((σ 1 p0) - (σ 5 h0)) * ((σ 1 p0) - (σ 5 h0))) + (((σ 2 p0) - (σ 6 h0)) * ((σ 2 p0) - (σ 6 h0))))))) 17 g) 17 (nNoteF (su (su σ 16 (up (σ 16) (p0 * 20 + h0) (nDbl ((((σ 1 p0) - (σ 5 h0)) * ((σ 1 p0) - (σ 5 h0))) + (((σ 2 p0) - (σ 6 h0)) * ((σ 2 p0) - (σ 6 h0))))))) 17 g) i p0 h0))) H := hP
        have hD : va_D AA (wN cy A (su (su (su σ 16 (up (σ 16) (p0 * 20 + h0) (nDbl ((((σ 1 p0) - (σ 5 h0)) * ((σ 1 p0) - (σ 5 h0))) + (((σ 2 p0) - (σ 6 h0)) * ((σ 2 p0) - (σ 6 h0))))))) 17 g) 17 (nNoteF (su (su σ 16 (up (σ 16) (p0 * 20 + h0) (nDbl ((((σ 1 p0) - (σ 5 h0)) * ((σ 1 p0) - (σ 5 h0))) + (((σ 2 p0) - (σ 6 h0)) * ((σ 2 p0) - (σ 6 h0))))))) 17 g) i p0 h0))) := hD
        refine r_iinc (a := i) (b := (i + 1)) (lv2 := [(5, .int (iI (i + 1))), (4, .int (iI ((σ 2 p0) - (σ 6 h0)))), (3, .int (iI ((σ 1 p0) - (σ 5 h0)))), (0, .ref (A 100)), (1, .int (iI p0)), (2, .int (iI h0))]) hx hb dX1_measurePair_71 hl (k := 0) rfl (by omega) (by decide) rfl (fun ls hl => ?_)
        refine lv_goto (tgt := 54) hx hb dX1_measurePair_74 (by decide) ?_
        exact ihlp54_5 (i + 1) (nNoteF (su (su σ 16 (up (σ 16) (p0 * 20 + h0) (nDbl ((((σ 1 p0) - (σ 5 h0)) * ((σ 1 p0) - (σ 5 h0))) + (((σ 2 p0) - (σ 6 h0)) * ((σ 2 p0) - (σ 6 h0))))))) 17 g) i p0 h0) _ _ ls (by omega) (by rw [hg, fo_s _ _ (by omega)]; exact note_step σ _ _ i p0 h0) (note_bd (inv_17 (inv_16 hI (up_bd hB16 (nDbl_bd _))) hgb) (by omega) p0 h0) hP hD hS (by omega) (lv_sub hl [0, 1, 2, 3, 4, 5] rfl)
  exact lp54_5 _ 0 (σ 17) _ _ ls (by omega) (up_id _ _).symm hB17 hP hD hS (lt_tn _) (lv_sub hl [0, 1, 2, 3, 4, 5] rfl)
theorem fl_X1_houseOfRank_64 : Cond.fieldLink RX1 64 "NoiseLamps$Noise" "houses" "I" ∈ wsX1_houseOfRank := by decide +kernel
theorem fl_X1_houseOfRank_54 : Cond.fieldLink RX1 54 "NoiseLamps$Noise" "allDayLevels" "[I" ∈ wsX1_houseOfRank := by decide +kernel
set_option maxHeartbeats 4000000 in
set_option maxRecDepth 100000 in
theorem c_X1_houseOfRank (l : Launch) (D : va_G) (cy : ClassId) (A : Nat → Nat) (σ : Nat → Int → Int) (sz : Nat) (b : Int) (hI : invN σ) (hb2 : I32 b) (hd : ∀ k, I32 (σ 18 k)) : MetM l yX1_houseOfRank wsX1_houseOfRank ({ frames := 4, cells := 0, slots := 0, locals := 97 } : Room) D cy (wN cy A σ) ([.ref (A 100), .int (iI b)] : List Value) sz (fun u : (Int → Int) => (nRank σ b)) (fun u : (Int → Int) => ∀ k, I32 (u k)) (fun u : (Int → Int) => wN cy A (su σ 18 u)) := by
  refine met_M (cc := cX1_houseOfRank) (maxL := 3) (ret := (some .int)) (by decide) rfl (Nat.le_of_ble_eq_true rfl) ?_
  intro p e s m below meth c AA hAA hx hb hr hml hts hown hlocks hP hK hD hA ls hl
  have hS : va_S AA s.heap s.heap [] := va_S.rf
  have hown : s.vm.findClass RX1 = some m.cls := hown
  have hl : lv_has ls 3 [(0, .ref (A 100)), (1, .int (iI b))] := hl
  obtain ⟨hN0, hN4, hN8, hN14, hB1, hB2, hB3, hB5, hB6, hB7, hB9, hB10, hB11, hB12, hB13, hB15, hB16, hB17⟩ := id hI
  refine lv_iconst (v := iI 0) hx hb dX1_houseOfRank_0 rfl ?_
  refine lv_istore_n (lv' := [(2, .int (iI 0)), (0, .ref (A 100)), (1, .int (iI b))]) hx hb dX1_houseOfRank_1 rfl hl (by decide) rfl (fun ls hl => ?_)
  have lp2_1 : ∀ (nlp2_1 : Nat) (i : Int) (g : (Int → Int)) (H : Heap) (locs : List Loc) (ls : Array Slot), (0 ≤ i ∧ i ≤ σ 4 0) → (∀ k, 0 ≤ k → k < i → g k = nDay σ k) → (∀ k, I32 (g k)) → va_P D vwCl (wN cy A (su σ 18 g)) H → va_D AA (wN cy A (su σ 18 g)) → va_S AA s.heap H locs → (σ 4 0 - i < (nlp2_1 : Int)) → lv_has ls 3 [(2, .int (iI i)), (0, .ref (A 100)), (1, .int (iI b))] → W p l e ({ frames := 4, cells := 0, slots := 0, locals := 97 } : Room) s m ([.ref (A 100), .int (iI b)] : List Value).toArray below meth c H locs 0 0 (MQ below (va_Qi (fun r (u : (Int → Int)) => r = iI ((fun u : (Int → Int) => (nRank σ b)) u) ∧ (fun u : (Int → Int) => ∀ k, I32 (u k)) u) (fun (u : (Int → Int)) tz => va_P D vwCl ((fun u : (Int → Int) => wN cy A (su σ 18 u)) u) tz.heap) AA) ([.ref (A 100), .int (iI b)] : List Value).toArray s 0 0 AA) (F0 m 2 ls []) := by
    intro nlp2_1
    induction nlp2_1 with
    | zero => intro i g H locs ls hi hg hgb hP hD hS hn hl; exact absurd hn (by omega)
    | succ nlp2_1 ihlp2_1 =>
      intro i g H locs ls hi hg hgb hP hD hS hn hl
      refine lv_iload_n hx hb dX1_houseOfRank_2 rfl (lv_at hl 0 rfl) ?_
      refine lv_aload_n hx hb dX1_houseOfRank_3 rfl (lv_at hl 1 rfl) ?_
      refine va_get (D := D) (ci := 1) (v := .int (iI (σ 4 0))) (C := RX1) (T := TX1) (N := 19) hx hb hts (fun _ h => List.mem_cons_of_mem _ (List.mem_append_right _ h)) hown hK hP 0 rfl rfl 4 (by decide) (hts _ fl_X1_houseOfRank_64) (fun _ h9 => h9) rfl dX1_houseOfRank_4 ?_
      refine r_icmp_ge (tgt := 27) hx hb dX1_houseOfRank_7 (by decide) (by omega) (by omega) (fun h2 => ?_) (fun h2 => ?_)
      · -- 7 to 27
        refine lv_iconst (v := iI 0) hx hb dX1_houseOfRank_27 rfl ?_
        refine lv_istore_n (lv' := [(2, .int (iI 0)), (0, .ref (A 100)), (1, .int (iI b))]) hx hb dX1_houseOfRank_28 rfl hl (by decide) rfl (fun ls hl => ?_)
        have lp29_3 : ∀ (nlp29_3 : Nat) (j : Int) (ls : Array Slot), (0 ≤ j ∧ j ≤ σ 4 0) → (nRank σ b = ft (fun h => decide (nAhead (nDay σ) (σ 4 0) h = b)) (fun h => h) (-1) j (σ 4 0)) → (σ 4 0 - j < (nlp29_3 : Int)) → lv_has ls 3 [(2, .int (iI j)), (0, .ref (A 100)), (1, .int (iI b))] → W p l e ({ frames := 4, cells := 0, slots := 0, locals := 97 } : Room) s m ([.ref (A 100), .int (iI b)] : List Value).toArray below meth c H locs 0 0 (MQ below (va_Qi (fun r (u : (Int → Int)) => r = iI ((fun u : (Int → Int) => (nRank σ b)) u) ∧ (fun u : (Int → Int) => ∀ k, I32 (u k)) u) (fun (u : (Int → Int)) tz => va_P D vwCl ((fun u : (Int → Int) => wN cy A (su σ 18 u)) u) tz.heap) AA) ([.ref (A 100), .int (iI b)] : List Value).toArray s 0 0 AA) (F0 m 29 ls []) := by
          intro nlp29_3
          induction nlp29_3 with
          | zero => intro j ls hj hr1 hn hl; exact absurd hn (by omega)
          | succ nlp29_3 ihlp29_3 =>
            intro j ls hj hr1 hn hl
            refine lv_iload_n hx hb dX1_houseOfRank_29 rfl (lv_at hl 0 rfl) ?_
            refine lv_aload_n hx hb dX1_houseOfRank_30 rfl (lv_at hl 1 rfl) ?_
            refine va_get (D := D) (ci := 1) (v := .int (iI (σ 4 0))) (C := RX1) (T := TX1) (N := 19) hx hb hts (fun _ h => List.mem_cons_of_mem _ (List.mem_append_right _ h)) hown hK hP 0 rfl rfl 4 (by decide) (hts _ fl_X1_houseOfRank_64) (fun _ h9 => h9) rfl dX1_houseOfRank_31 ?_
            refine r_icmp_ge (tgt := 54) hx hb dX1_houseOfRank_34 (by decide) (by omega) (by omega) (fun h4 => ?_) (fun h4 => ?_)
            · -- 34 to 54
              refine lv_iconst (v := iI (-1)) hx hb dX1_houseOfRank_54 rfl ?_
              exact r_retM g hx hb hr hlocks hS dX1_houseOfRank_55 (by rw [hr1, ft_end _ _ _ (by omega)]) hgb hP
            · -- 34 to 37
              refine lv_aload_n hx hb dX1_houseOfRank_37 rfl (lv_at hl 1 rfl) ?_
              refine lv_iload_n hx hb dX1_houseOfRank_38 rfl (lv_at hl 0 rfl) ?_
              refine r_calli (va_runV (As := [.int (iI j)]) (rest := []) ⟨hx, hb, hml, hown, hts⟩ (c_X1_housesAhead l D cy A (su σ 18 g) j hI (by omega) hgb) (cwV 1 hts gX1_houseOfRank_X1_housesAhead rfl rfl rfl (by decide +kernel) ⟨Nat.le_of_ble_eq_true rfl, Nat.le_of_ble_eq_true rfl⟩) (pv_ro (C := RX1) (T := TX1) (N := 19) (ci := 1) (q0 := 0) hP hK rfl rfl) rfl rfl hl.1 rfl (lv_room (Nat.le_of_ble_eq_true rfl)) dX1_houseOfRank_39 ⟨Nat.le_of_ble_eq_true rfl, Nat.le_of_ble_eq_true rfl⟩) ?_
              have hf5 : nAhead (su σ 18 g 18) (su σ 18 g 4 0) j = nAhead (nDay σ) (σ 4 0) j := (nAhead_congr (g := g) (c := σ 4 0) (by omega) (fun k h0 h1 => hg k h0 (by omega)) : nAhead g (σ 4 0) j = nAhead (nDay σ) (σ 4 0) j)
              have hab6 := nAhead_bd (nDay σ) (σ 4 0) j (by omega)
              refine lv_iload_n hx hb dX1_houseOfRank_42 rfl (lv_at hl 2 rfl) ?_
              refine r_icmp_ne (tgt := 48) hx hb dX1_houseOfRank_43 (by decide) (by omega) (by omega) (fun h7 => ?_) (fun h7 => ?_)
              · -- 43 to 48
                refine r_iinc (a := j) (b := (j + 1)) (lv2 := [(2, .int (iI (j + 1))), (0, .ref (A 100)), (1, .int (iI b))]) hx hb dX1_houseOfRank_48 hl (k := 0) rfl (by omega) (by decide) rfl (fun ls hl => ?_)
                refine lv_goto (tgt := 29) hx hb dX1_houseOfRank_51 (by decide) ?_
                exact ihlp29_3 (j + 1) ls (by omega) (by rw [hr1, ft_miss _ _ _ (by omega) (decide_eq_false (by omega))]) (by omega) (lv_sub hl [0, 1, 2] rfl)
              · -- 43 to 46
                refine lv_iload_n hx hb dX1_houseOfRank_46 rfl (lv_at hl 0 rfl) ?_
                exact r_retM g hx hb hr hlocks hS dX1_houseOfRank_47 (by rw [hr1, ft_hit _ _ _ (by omega) (decide_eq_true (by omega))]) hgb hP
        exact lp29_3 _ 0 ls (by omega) rfl (lt_tn _) (lv_sub hl [0, 1, 2] rfl)
      · -- 7 to 10
        refine lv_aload_n hx hb dX1_houseOfRank_10 rfl (lv_at hl 1 rfl) ?_
        refine va_get (D := D) (ci := 1) (v := .ref (A 18)) (C := RX1) (T := TX1) (N := 19) hx hb hts (fun _ h => List.mem_cons_of_mem _ (List.mem_append_right _ h)) hown hK hP 0 rfl rfl 18 (by decide) (hts _ fl_X1_houseOfRank_54) (fun _ h9 => h9) rfl dX1_houseOfRank_11 ?_
        refine lv_iload_n hx hb dX1_houseOfRank_14 rfl (lv_at hl 0 rfl) ?_
        refine lv_aload_n hx hb dX1_houseOfRank_15 rfl (lv_at hl 1 rfl) ?_
        refine lv_iload_n hx hb dX1_houseOfRank_16 rfl (lv_at hl 0 rfl) ?_
        refine r_calli (va_runV (As := [.int (iI i)]) (rest := [.int (iI i), .ref (A 18)]) ⟨hx, hb, hml, hown, hts⟩ (c_X1_allDayLevel l D cy A (su σ 18 g) i hI (by omega)) (cwV 1 hts gX1_houseOfRank_X1_allDayLevel rfl rfl rfl (by decide +kernel) ⟨Nat.le_of_ble_eq_true rfl, Nat.le_of_ble_eq_true rfl⟩) (pv_ro (C := RX1) (T := TX1) (N := 19) (ci := 1) (q0 := 0) hP hK rfl rfl) rfl rfl hl.1 rfl (lv_room (Nat.le_of_ble_eq_true rfl)) dX1_houseOfRank_17 ⟨Nat.le_of_ble_eq_true rfl, Nat.le_of_ble_eq_true rfl⟩) ?_
        have hf8 := nDay_bd hI i
        refine r_iast hx hb hK hP hD hS 15 0 rfl rfl (Nat.le_of_ble_eq_true rfl) (by omega) dX1_houseOfRank_20 (fun H locs hP hD hS => ?_)
        have hP : va_P D vwCl (wN cy A (su (su σ 18 g) 18 (up g i (nDay (su σ 18 g) i)))) H := hP
        have hD : va_D AA (wN cy A (su (su σ 18 g) 18 (up g i (nDay (su σ 18 g) i)))) := hD
        refine r_iinc (a := i) (b := (i + 1)) (lv2 := [(2, .int (iI (i + 1))), (0, .ref (A 100)), (1, .int (iI b))]) hx hb dX1_houseOfRank_21 hl (k := 0) rfl (by omega) (by decide) rfl (fun ls hl => ?_)
        refine lv_goto (tgt := 2) hx hb dX1_houseOfRank_24 (by decide) ?_
        exact ihlp2_1 (i + 1) (up g i (nDay (su σ 18 g) i)) _ _ ls (by omega) (ex_step hg rfl) (up_bd hgb (by have q := nDay_bd hI i; have q2 : nDay (su σ 18 g) i = nDay σ i := rfl; omega)) hP hD hS (by omega) (lv_sub hl [0, 1, 2] rfl)
  exact lp2_1 _ 0 (σ 18) s.heap [] ls (by omega) (fun k h0 h1 => absurd h1 (by omega)) hd hP hD hS (lt_tn _) (lv_sub hl [0, 1, 2] rfl)
theorem fl_X1_leastCut_42 : Cond.fieldLink RX1 42 "NoiseLamps$Noise" "wallCut" "[I" ∈ wsX1_leastCut := by decide +kernel
set_option maxHeartbeats 4000000 in
set_option maxRecDepth 100000 in
theorem c_X1_leastCut (l : Launch) (D : va_G) (cy : ClassId) (A : Nat → Nat) (σ : Nat → Int → Int) (sz : Nat) (w b : Int) (hI : invN σ) (hw : 0 ≤ w ∧ w < 8) (hb2 : I32 b) : MetM l yX1_leastCut wsX1_leastCut ({ frames := 5, cells := 0, slots := 0, locals := 119 } : Room) D cy (wN cy A σ) ([.ref (A 100), .int (iI w), .int (iI b)] : List Value) sz (fun _ : Unit => (nLeast σ w b)) (fun _ : Unit => True) (fun _ : Unit => wN cy A σ) := by
  refine met_M (cc := cX1_leastCut) (maxL := 6) (ret := (some .int)) (by decide) rfl (Nat.le_of_ble_eq_true rfl) ?_
  intro p e s m below meth c AA hAA hx hb hr hml hts hown hlocks hP hK hD hA ls hl
  have hS : va_S AA s.heap s.heap [] := va_S.rf
  have hown : s.vm.findClass RX1 = some m.cls := hown
  have hl : lv_has ls 6 [(0, .ref (A 100)), (1, .int (iI w)), (2, .int (iI b))] := hl
  obtain ⟨hN0, hN4, hN8, hN14, hB1, hB2, hB3, hB5, hB6, hB7, hB9, hB10, hB11, hB12, hB13, hB15, hB16, hB17⟩ := id hI
  have hv0 := hB13 w
  refine lv_aload_n hx hb dX1_leastCut_0 rfl (lv_at hl 0 rfl) ?_
  refine va_get (D := D) (ci := 1) (v := .ref (A 13)) (C := RX1) (T := TX1) (N := 19) hx hb hts (fun _ h => List.mem_cons_of_mem _ (List.mem_append_right _ h)) hown hK hP 0 rfl rfl 13 (by decide) (hts _ fl_X1_leastCut_42) (fun _ h9 => h9) rfl dX1_leastCut_1 ?_
  refine lv_iload_n hx hb dX1_leastCut_4 rfl (lv_at hl 1 rfl) ?_
  refine r_iald hx hb hK hP 11 0 rfl rfl (Nat.le_of_ble_eq_true rfl) (by omega) dX1_leastCut_5 ?_
  have hv1 := hB13 w
  refine lv_istore_n (lv' := [(3, .int (iI (σ 13 w))), (0, .ref (A 100)), (1, .int (iI w)), (2, .int (iI b))]) hx hb dX1_leastCut_6 rfl hl (by decide) rfl (fun ls hl => ?_)
  refine lv_iconst (v := iI (-1)) hx hb dX1_leastCut_7 rfl ?_
  refine lv_istore (lv' := [(4, .int (iI (-1))), (3, .int (iI (σ 13 w))), (0, .ref (A 100)), (1, .int (iI w)), (2, .int (iI b))]) hx hb dX1_leastCut_8 hl (by decide) rfl (fun ls hl => ?_)
  refine lv_iconst (v := iI 0) hx hb dX1_leastCut_10 rfl ?_
  refine lv_istore (lv' := [(5, .int (iI 0)), (4, .int (iI (-1))), (3, .int (iI (σ 13 w))), (0, .ref (A 100)), (1, .int (iI w)), (2, .int (iI b))]) hx hb dX1_leastCut_11 hl (by decide) rfl (fun ls hl => ?_)
  have lp13_2 : ∀ (nlp13_2 : Nat) (i : Int) (f : Int) (g : (Int → Int)) (H : Heap) (locs : List Loc) (ls : Array Slot), (0 ≤ i ∧ i ≤ 305 ∧ i % 5 = 0) → (∀ k, k ≠ w → g k = σ 13 k) → (∀ k, 0 ≤ g k ∧ g k ≤ 300) → ((f = -1 ∧ nLeast σ w b = ft (fun j => decide (nNone (su σ 13 (up (σ 13) w (5 * j))) b ≠ 0)) (fun j => 5 * j) (-1) (i / 5) 61) ∨ (0 ≤ f ∧ f ≤ 300 ∧ nLeast σ w b = f)) → va_P D vwCl (wN cy A (su σ 13 g)) H → va_D AA (wN cy A (su σ 13 g)) → va_S AA s.heap H locs → (305 - i < (nlp13_2 : Int)) → lv_has ls 6 [(5, .int (iI i)), (4, .int (iI f)), (3, .int (iI (σ 13 w))), (0, .ref (A 100)), (1, .int (iI w)), (2, .int (iI b))] → W p l e ({ frames := 5, cells := 0, slots := 0, locals := 119 } : Room) s m ([.ref (A 100), .int (iI w), .int (iI b)] : List Value).toArray below meth c H locs 0 0 (MQ below (va_Qi (fun r (u : Unit) => r = iI ((fun _ : Unit => (nLeast σ w b)) u) ∧ (fun _ : Unit => True) u) (fun (u : Unit) tz => va_P D vwCl ((fun _ : Unit => wN cy A σ) u) tz.heap) AA) ([.ref (A 100), .int (iI w), .int (iI b)] : List Value).toArray s 0 0 AA) (F0 m 13 ls []) := by
    intro nlp13_2
    induction nlp13_2 with
    | zero => intro i f g H locs ls hi hg hgb hf hP hD hS hn hl; exact absurd hn (by omega)
    | succ nlp13_2 ihlp13_2 =>
      intro i f g H locs ls hi hg hgb hf hP hD hS hn hl
      refine lv_iload hx hb dX1_leastCut_13 (lv_at hl 0 rfl) ?_
      refine lv_sipush (v := iI 300) hx hb dX1_leastCut_15 (by decide +kernel) ?_
      refine r_icmp_gt (tgt := 53) hx hb dX1_leastCut_18 (by decide) (by omega) (by omega) (fun h3 => ?_) (fun h3 => ?_)
      · -- 18 to 53
        refine lv_aload_n hx hb dX1_leastCut_53 rfl (lv_at hl 3 rfl) ?_
        refine va_get (D := D) (ci := 1) (v := .ref (A 13)) (C := RX1) (T := TX1) (N := 19) hx hb hts (fun _ h => List.mem_cons_of_mem _ (List.mem_append_right _ h)) hown hK hP 0 rfl rfl 13 (by decide) (hts _ fl_X1_leastCut_42) (fun _ h9 => h9) rfl dX1_leastCut_54 ?_
        refine lv_iload_n hx hb dX1_leastCut_57 rfl (lv_at hl 4 rfl) ?_
        refine lv_iload_n hx hb dX1_leastCut_58 rfl (lv_at hl 2 rfl) ?_
        refine r_iast hx hb hK hP hD hS 11 0 rfl rfl (Nat.le_of_ble_eq_true rfl) (by omega) dX1_leastCut_59 (fun H locs hP hD hS => ?_)
        have hP : va_P D vwCl (wN cy A (su (su σ 13 g) 13 (up g w (σ 13 w)))) H := hP
        have hD : va_D AA (wN cy A (su (su σ 13 g) 13 (up g w (σ 13 w)))) := hD
        refine lv_iload hx hb dX1_leastCut_60 (lv_at hl 1 rfl) ?_
        exact r_retM () hx hb hr hlocks hS dX1_leastCut_62 (hf.elim (fun q => by rw [q.2, q.1, ft_end _ _ _ (by omega)]) (fun q => q.2.2.symm)) trivial (by rw [su_su, up_back hg, su_id] at hP; exact hP)
      · -- 18 to 21
        refine lv_iload hx hb dX1_leastCut_21 (lv_at hl 1 rfl) ?_
        refine lv_iconst (v := iI (-1)) hx hb dX1_leastCut_23 rfl ?_
        refine r_icmp_ne (tgt := 53) hx hb dX1_leastCut_24 (by decide) (by omega) (by omega) (fun h4 => ?_) (fun h4 => ?_)
        · -- 24 to 53
          refine lv_aload_n hx hb dX1_leastCut_53 rfl (lv_at hl 3 rfl) ?_
          refine va_get (D := D) (ci := 1) (v := .ref (A 13)) (C := RX1) (T := TX1) (N := 19) hx hb hts (fun _ h => List.mem_cons_of_mem _ (List.mem_append_right _ h)) hown hK hP 0 rfl rfl 13 (by decide) (hts _ fl_X1_leastCut_42) (fun _ h9 => h9) rfl dX1_leastCut_54 ?_
          refine lv_iload_n hx hb dX1_leastCut_57 rfl (lv_at hl 4 rfl) ?_
          refine lv_iload_n hx hb dX1_leastCut_58 rfl (lv_at hl 2 rfl) ?_
          refine r_iast hx hb hK hP hD hS 11 0 rfl rfl (Nat.le_of_ble_eq_true rfl) (by omega) dX1_leastCut_59 (fun H locs hP hD hS => ?_)
          have hP : va_P D vwCl (wN cy A (su (su σ 13 g) 13 (up g w (σ 13 w)))) H := hP
          have hD : va_D AA (wN cy A (su (su σ 13 g) 13 (up g w (σ 13 w)))) := hD
          refine lv_iload hx hb dX1_leastCut_60 (lv_at hl 1 rfl) ?_
          exact r_retM () hx hb hr hlocks hS dX1_leastCut_62 (hf.elim (fun q => by rw [q.2, q.1, ft_end _ _ _ (by omega)]) (fun q => q.2.2.symm)) trivial (by rw [su_su, up_back hg, su_id] at hP; exact hP)
        · -- 24 to 27
          refine lv_aload_n hx hb dX1_leastCut_27 rfl (lv_at hl 3 rfl) ?_
          refine va_get (D := D) (ci := 1) (v := .ref (A 13)) (C := RX1) (T := TX1) (N := 19) hx hb hts (fun _ h => List.mem_cons_of_mem _ (List.mem_append_right _ h)) hown hK hP 0 rfl rfl 13 (by decide) (hts _ fl_X1_leastCut_42) (fun _ h9 => h9) rfl dX1_leastCut_28 ?_
          refine lv_iload_n hx hb dX1_leastCut_31 rfl (lv_at hl 4 rfl) ?_
          refine lv_iload hx hb dX1_leastCut_32 (lv_at hl 0 rfl) ?_
          refine r_iast hx hb hK hP hD hS 11 0 rfl rfl (Nat.le_of_ble_eq_true rfl) (by omega) dX1_leastCut_34 (fun H locs hP hD hS => ?_)
          have hP : va_P D vwCl (wN cy A (su (su σ 13 g) 13 (up g w i))) H := hP
          have hD : va_D AA (wN cy A (su (su σ 13 g) 13 (up g w i))) := hD
          refine lv_aload_n hx hb dX1_leastCut_35 rfl (lv_at hl 3 rfl) ?_
          refine lv_iload_n hx hb dX1_leastCut_36 rfl (lv_at hl 5 rfl) ?_
          refine r_calli (va_runV (As := [.int (iI b)]) (rest := []) ⟨hx, hb, hml, hown, hts⟩ (c_X1_noneAbove l D cy A (su (su σ 13 g) 13 (up g w i)) b (inv_13 (inv_13 hI hgb) (up_bd hgb (by omega))) (by omega)) (cwV 1 hts gX1_leastCut_X1_noneAbove rfl rfl rfl (by decide +kernel) ⟨Nat.le_of_ble_eq_true rfl, Nat.le_of_ble_eq_true rfl⟩) (pv_ro (C := RX1) (T := TX1) (N := 19) (ci := 1) (q0 := 0) hP hK rfl rfl) rfl rfl hl.1 rfl (lv_room (Nat.le_of_ble_eq_true rfl)) dX1_leastCut_37 ⟨Nat.le_of_ble_eq_true rfl, Nat.le_of_ble_eq_true rfl⟩) ?_
          have hf5 := nNone_01 (su (su σ 13 g) 13 (up g w i)) b
          have hNe := nNone_13 σ hg i b
          refine r_if_eq (tgt := 47) hx hb dX1_leastCut_40 (by decide) (by omega) (fun h7 => ?_) (fun h7 => ?_)
          · -- 40 to 47
            refine r_iinc (a := i) (b := (i + 5)) (lv2 := [(5, .int (iI (i + 5))), (4, .int (iI f)), (3, .int (iI (σ 13 w))), (0, .ref (A 100)), (1, .int (iI w)), (2, .int (iI b))]) hx hb dX1_leastCut_47 hl (k := 0) rfl (by omega) (by decide) rfl (fun ls hl => ?_)
            refine lv_goto (tgt := 13) hx hb dX1_leastCut_50 (by decide) ?_
            exact ihlp13_2 (i + 5) f (up g w i) _ _ ls (by omega) (fun k hk => by rw [up_n _ _ hk]; exact hg k hk) (up_bd hgb (by omega)) (by first | exact least_a hNe hi (by omega) hf (by omega) (by omega) | exact least_b hNe hi (by omega) hf (by omega) (by omega)) hP hD hS (by omega) (lv_sub hl [0, 1, 2, 3, 4, 5] rfl)
          · -- 40 to 43
            refine lv_iload hx hb dX1_leastCut_43 (lv_at hl 0 rfl) ?_
            refine lv_istore (lv' := [(4, .int (iI i)), (5, .int (iI i)), (3, .int (iI (σ 13 w))), (0, .ref (A 100)), (1, .int (iI w)), (2, .int (iI b))]) hx hb dX1_leastCut_45 hl (by decide) rfl (fun ls hl => ?_)
            refine r_iinc (a := i) (b := (i + 5)) (lv2 := [(5, .int (iI (i + 5))), (4, .int (iI i)), (3, .int (iI (σ 13 w))), (0, .ref (A 100)), (1, .int (iI w)), (2, .int (iI b))]) hx hb dX1_leastCut_47 hl (k := 1) rfl (by omega) (by decide) rfl (fun ls hl => ?_)
            refine lv_goto (tgt := 13) hx hb dX1_leastCut_50 (by decide) ?_
            exact ihlp13_2 (i + 5) i (up g w i) _ _ ls (by omega) (fun k hk => by rw [up_n _ _ hk]; exact hg k hk) (up_bd hgb (by omega)) (by first | exact least_a hNe hi (by omega) hf (by omega) (by omega) | exact least_b hNe hi (by omega) hf (by omega) (by omega)) hP hD hS (by omega) (lv_sub hl [0, 1, 2, 3, 4, 5] rfl)
  exact lp13_2 _ 0 (-1) (σ 13) s.heap [] ls (by omega) (fun _ _ => rfl) hB13 (Or.inl ⟨rfl, rfl⟩) hP hD hS (lt_tn _) (lv_sub hl [0, 1, 2, 3, 4, 5] rfl)
theorem fl_X1_addPiece_61 : Cond.fieldLink RX1 61 "NoiseLamps$Noise" "pieces" "I" ∈ wsX1_addPiece := by decide +kernel
theorem fl_X1_addPiece_11 : Cond.fieldLink RX1 11 "NoiseLamps$Noise" "pieceX" "[I" ∈ wsX1_addPiece := by decide +kernel
theorem fl_X1_addPiece_15 : Cond.fieldLink RX1 15 "NoiseLamps$Noise" "pieceY" "[I" ∈ wsX1_addPiece := by decide +kernel
theorem fl_X1_addPiece_18 : Cond.fieldLink RX1 18 "NoiseLamps$Noise" "pieceLevel" "[I" ∈ wsX1_addPiece := by decide +kernel
theorem fl_X1_addPiece_64 : Cond.fieldLink RX1 64 "NoiseLamps$Noise" "houses" "I" ∈ wsX1_addPiece := by decide +kernel
set_option maxHeartbeats 4000000 in
set_option maxRecDepth 100000 in
theorem c_X1_addPiece (l : Launch) (D : va_G) (cy : ClassId) (A : Nat → Nat) (σ : Nat → Int → Int) (sz : Nat) (x y a b t : Int) (hI : invN σ) (hx1 : -5000 ≤ x ∧ x ≤ 5000) (hy1 : -5000 ≤ y ∧ y ≤ 5000) (ha : 0 ≤ a ∧ a ≤ 1200) (hb2 : 0 ≤ b ∧ b ≤ 1200) (ht : 0 ≤ t ∧ t ≤ 1200) : MetM l yX1_addPiece wsX1_addPiece ({ frames := 5, cells := 0, slots := 0, locals := 123 } : Room) D cy (wN cy A σ) ([.ref (A 100), .int (iI x), .int (iI y), .int (iI a), .int (iI b), .int (iI t)] : List Value) sz (fun _ : Unit => (if 12 ≤ σ 0 0 then -1 else σ 0 0)) (fun _ : Unit => True) (fun _ : Unit => wN cy A (nAddP σ x y a b t)) := by
  refine met_M (cc := cX1_addPiece) (maxL := 8) (ret := (some .int)) (by decide) rfl (Nat.le_of_ble_eq_true rfl) ?_
  intro p e s m below meth c AA hAA hx hb hr hml hts hown hlocks hP hK hD hA ls hl
  have hS : va_S AA s.heap s.heap [] := va_S.rf
  have hown : s.vm.findClass RX1 = some m.cls := hown
  have hl : lv_has ls 8 [(0, .ref (A 100)), (1, .int (iI x)), (2, .int (iI y)), (3, .int (iI a)), (4, .int (iI b)), (5, .int (iI t))] := hl
  obtain ⟨hN0, hN4, hN8, hN14, hB1, hB2, hB3, hB5, hB6, hB7, hB9, hB10, hB11, hB12, hB13, hB15, hB16, hB17⟩ := id hI
  refine lv_aload_n hx hb dX1_addPiece_0 rfl (lv_at hl 0 rfl) ?_
  refine va_get (D := D) (ci := 1) (v := .int (iI (σ 0 0))) (C := RX1) (T := TX1) (N := 19) hx hb hts (fun _ h => List.mem_cons_of_mem _ (List.mem_append_right _ h)) hown hK hP 0 rfl rfl 0 (by decide) (hts _ fl_X1_addPiece_61) (fun _ h9 => h9) rfl dX1_addPiece_1 ?_
  refine lv_bipush (v := iI 12) hx hb dX1_addPiece_4 (by decide +kernel) ?_
  refine r_icmp_lt (tgt := 11) hx hb dX1_addPiece_6 (by decide) (by omega) (by omega) (fun h1 => ?_) (fun h1 => ?_)
  · -- 6 to 11
    refine lv_aload_n hx hb dX1_addPiece_11 rfl (lv_at hl 0 rfl) ?_
    refine va_get (D := D) (ci := 1) (v := .int (iI (σ 0 0))) (C := RX1) (T := TX1) (N := 19) hx hb hts (fun _ h => List.mem_cons_of_mem _ (List.mem_append_right _ h)) hown hK hP 0 rfl rfl 0 (by decide) (hts _ fl_X1_addPiece_61) (fun _ h9 => h9) rfl dX1_addPiece_12 ?_
    refine lv_istore (lv' := [(6, .int (iI (σ 0 0))), (0, .ref (A 100)), (1, .int (iI x)), (2, .int (iI y)), (3, .int (iI a)), (4, .int (iI b)), (5, .int (iI t))]) hx hb dX1_addPiece_15 hl (by decide) rfl (fun ls hl => ?_)
    refine lv_aload_n hx hb dX1_addPiece_17 rfl (lv_at hl 1 rfl) ?_
    refine lv_dup hx hb dX1_addPiece_18 rfl ?_
    refine va_get (D := D) (ci := 1) (v := .int (iI (σ 0 0))) (C := RX1) (T := TX1) (N := 19) hx hb hts (fun _ h => List.mem_cons_of_mem _ (List.mem_append_right _ h)) hown hK hP 0 rfl rfl 0 (by decide) (hts _ fl_X1_addPiece_61) (fun _ h9 => h9) rfl dX1_addPiece_19 ?_
    refine lv_iconst (v := iI 1) hx hb dX1_addPiece_22 rfl ?_
    refine r_iadd hx hb dX1_addPiece_23 ?_
    refine va_put (D := D) (ci := 1) (v := .int (iI ((σ 0 0) + 1))) (ty := .int) (C := RX1) (T := TX1) (N := 19) hx hb hts (fun _ h => List.mem_cons_of_mem _ (List.mem_append_right _ h)) tyX1 tyX1_ok nmX1 hown hK hP hD hS 0 rfl rfl 0 (by decide) (hts _ fl_X1_addPiece_61) (fun _ h9 => h9) rfl (by decide +kernel) rfl rfl (Nat.le_of_ble_eq_true rfl) dX1_addPiece_24 (fun H locs hP hD hS => ?_)
    have hP : va_P D vwCl (wN cy A (su σ 0 (fun _ => ((σ 0 0) + 1)))) H := hP
    have hD : va_D AA (wN cy A (su σ 0 (fun _ => ((σ 0 0) + 1)))) := hD
    refine lv_aload_n hx hb dX1_addPiece_27 rfl (lv_at hl 1 rfl) ?_
    refine va_get (D := D) (ci := 1) (v := .ref (A 1)) (C := RX1) (T := TX1) (N := 19) hx hb hts (fun _ h => List.mem_cons_of_mem _ (List.mem_append_right _ h)) hown hK hP 0 rfl rfl 1 (by decide) (hts _ fl_X1_addPiece_11) (fun _ h9 => h9) rfl dX1_addPiece_28 ?_
    refine lv_iload hx hb dX1_addPiece_31 (lv_at hl 0 rfl) ?_
    refine lv_iload_n hx hb dX1_addPiece_33 rfl (lv_at hl 2 rfl) ?_
    refine r_iast hx hb hK hP hD hS 1 0 rfl rfl (Nat.le_of_ble_eq_true rfl) (by omega) dX1_addPiece_34 (fun H locs hP hD hS => ?_)
    have hP : va_P D vwCl (wN cy A (su (su σ 0 (fun _ => ((σ 0 0) + 1))) 1 (up (σ 1) (σ 0 0) x))) H := hP
    have hD : va_D AA (wN cy A (su (su σ 0 (fun _ => ((σ 0 0) + 1))) 1 (up (σ 1) (σ 0 0) x))) := hD
    refine lv_aload_n hx hb dX1_addPiece_35 rfl (lv_at hl 1 rfl) ?_
    refine va_get (D := D) (ci := 1) (v := .ref (A 2)) (C := RX1) (T := TX1) (N := 19) hx hb hts (fun _ h => List.mem_cons_of_mem _ (List.mem_append_right _ h)) hown hK hP 0 rfl rfl 2 (by decide) (hts _ fl_X1_addPiece_15) (fun _ h9 => h9) rfl dX1_addPiece_36 ?_
    refine lv_iload hx hb dX1_addPiece_39 (lv_at hl 0 rfl) ?_
    refine lv_iload_n hx hb dX1_addPiece_41 rfl (lv_at hl 3 rfl) ?_
    refine r_iast hx hb hK hP hD hS 2 0 rfl rfl (Nat.le_of_ble_eq_true rfl) (by omega) dX1_addPiece_42 (fun H locs hP hD hS => ?_)
    have hP : va_P D vwCl (wN cy A (su (su (su σ 0 (fun _ => ((σ 0 0) + 1))) 1 (up (σ 1) (σ 0 0) x)) 2 (up (σ 2) (σ 0 0) y))) H := hP
    have hD : va_D AA (wN cy A (su (su (su σ 0 (fun _ => ((σ 0 0) + 1))) 1 (up (σ 1) (σ 0 0) x)) 2 (up (σ 2) (σ 0 0) y))) := hD
    refine lv_aload_n hx hb dX1_addPiece_43 rfl (lv_at hl 1 rfl) ?_
    refine va_get (D := D) (ci := 1) (v := .ref (A 3)) (C := RX1) (T := TX1) (N := 19) hx hb hts (fun _ h => List.mem_cons_of_mem _ (List.mem_append_right _ h)) hown hK hP 0 rfl rfl 3 (by decide) (hts _ fl_X1_addPiece_18) (fun _ h9 => h9) rfl dX1_addPiece_44 ?_
    refine lv_iload hx hb dX1_addPiece_47 (lv_at hl 0 rfl) ?_
    refine lv_iconst (v := iI 3) hx hb dX1_addPiece_49 rfl ?_
    refine r_imul hx hb dX1_addPiece_50 ?_
    refine lv_iload_n hx hb dX1_addPiece_51 rfl (lv_at hl 4 rfl) ?_
    refine r_iast hx hb hK hP hD hS 3 0 rfl rfl (Nat.le_of_ble_eq_true rfl) (by omega) dX1_addPiece_52 (fun H locs hP hD hS => ?_)
    have hP : va_P D vwCl (wN cy A (su (su (su (su σ 0 (fun _ => ((σ 0 0) + 1))) 1 (up (σ 1) (σ 0 0) x)) 2 (up (σ 2) (σ 0 0) y)) 3 (up (σ 3) ((σ 0 0) * 3) a))) H := hP
    have hD : va_D AA (wN cy A (su (su (su (su σ 0 (fun _ => ((σ 0 0) + 1))) 1 (up (σ 1) (σ 0 0) x)) 2 (up (σ 2) (σ 0 0) y)) 3 (up (σ 3) ((σ 0 0) * 3) a))) := hD
    refine lv_aload_n hx hb dX1_addPiece_53 rfl (lv_at hl 1 rfl) ?_
    refine va_get (D := D) (ci := 1) (v := .ref (A 3)) (C := RX1) (T := TX1) (N := 19) hx hb hts (fun _ h => List.mem_cons_of_mem _ (List.mem_append_right _ h)) hown hK hP 0 rfl rfl 3 (by decide) (hts _ fl_X1_addPiece_18) (fun _ h9 => h9) rfl dX1_addPiece_54 ?_
    refine lv_iload hx hb dX1_addPiece_57 (lv_at hl 0 rfl) ?_
    refine lv_iconst (v := iI 3) hx hb dX1_addPiece_59 rfl ?_
    refine r_imul hx hb dX1_addPiece_60 ?_
    refine lv_iconst (v := iI 1) hx hb dX1_addPiece_61 rfl ?_
    refine r_iadd hx hb dX1_addPiece_62 ?_
    refine lv_iload hx hb dX1_addPiece_63 (lv_at hl 5 rfl) ?_
    refine r_iast hx hb hK hP hD hS 3 0 rfl rfl (Nat.le_of_ble_eq_true rfl) (by omega) dX1_addPiece_65 (fun H locs hP hD hS => ?_)
    have hP : va_P D vwCl (wN cy A (su (su (su (su (su σ 0 (fun _ => ((σ 0 0) + 1))) 1 (up (σ 1) (σ 0 0) x)) 2 (up (σ 2) (σ 0 0) y)) 3 (up (σ 3) ((σ 0 0) * 3) a)) 3 (up (up (σ 3) ((σ 0 0) * 3) a) (((σ 0 0) * 3) + 1) b))) H := hP
    have hD : va_D AA (wN cy A (su (su (su (su (su σ 0 (fun _ => ((σ 0 0) + 1))) 1 (up (σ 1) (σ 0 0) x)) 2 (up (σ 2) (σ 0 0) y)) 3 (up (σ 3) ((σ 0 0) * 3) a)) 3 (up (up (σ 3) ((σ 0 0) * 3) a) (((σ 0 0) * 3) + 1) b))) := hD
    refine lv_aload_n hx hb dX1_addPiece_66 rfl (lv_at hl 1 rfl) ?_
    refine va_get (D := D) (ci := 1) (v := .ref (A 3)) (C := RX1) (T := TX1) (N := 19) hx hb hts (fun _ h => List.mem_cons_of_mem _ (List.mem_append_right _ h)) hown hK hP 0 rfl rfl 3 (by decide) (hts _ fl_X1_addPiece_18) (fun _ h9 => h9) rfl dX1_addPiece_67 ?_
    refine lv_iload hx hb dX1_addPiece_70 (lv_at hl 0 rfl) ?_
    refine lv_iconst (v := iI 3) hx hb dX1_addPiece_72 rfl ?_
    refine r_imul hx hb dX1_addPiece_73 ?_
    refine lv_iconst (v := iI 2) hx hb dX1_addPiece_74 rfl ?_
    refine r_iadd hx hb dX1_addPiece_75 ?_
    refine lv_iload hx hb dX1_addPiece_76 (lv_at hl 6 rfl) ?_
    refine r_iast hx hb hK hP hD hS 3 0 rfl rfl (Nat.le_of_ble_eq_true rfl) (by omega) dX1_addPiece_78 (fun H locs hP hD hS => ?_)
    have hP : va_P D vwCl (wN cy A (su (su (su (su (su (su σ 0 (fun _ => ((σ 0 0) + 1))) 1 (up (σ 1) (σ 0 0) x)) 2 (up (σ 2) (σ 0 0) y)) 3 (up (σ 3) ((σ 0 0) * 3) a)) 3 (up (up (σ 3) ((σ 0 0) * 3) a) (((σ 0 0) * 3) + 1) b)) 3 (up (up (up (σ 3) ((σ 0 0) * 3) a) (((σ 0 0) * 3) + 1) b) (((σ 0 0) * 3) + 2) t))) H := hP
    have hD : va_D AA (wN cy A (su (su (su (su (su (su σ 0 (fun _ => ((σ 0 0) + 1))) 1 (up (σ 1) (σ 0 0) x)) 2 (up (σ 2) (σ 0 0) y)) 3 (up (σ 3) ((σ 0 0) * 3) a)) 3 (up (up (σ 3) ((σ 0 0) * 3) a) (((σ 0 0) * 3) + 1) b)) 3 (up (up (up (σ 3) ((σ 0 0) * 3) a) (((σ 0 0) * 3) + 1) b) (((σ 0 0) * 3) + 2) t))) := hD
    refine lv_iconst (v := iI 0) hx hb dX1_addPiece_79 rfl ?_
    refine lv_istore (lv' := [(7, .int (iI 0)), (6, .int (iI (σ 0 0))), (0, .ref (A 100)), (1, .int (iI x)), (2, .int (iI y)), (3, .int (iI a)), (4, .int (iI b)), (5, .int (iI t))]) hx hb dX1_addPiece_80 hl (by decide) rfl (fun ls hl => ?_)
    have hIp := inv_3 (inv_2 (inv_1 (inv_0 (g := fun _ => σ 0 0 + 1) hI (by omega)) (up_bd (i := σ 0 0) hB1 hx1)) (up_bd (i := σ 0 0) hB2 hy1)) (up_bd (i := σ 0 0 * 3 + 2) (up_bd (i := σ 0 0 * 3 + 1) (up_bd (i := σ 0 0 * 3) hB3 ha) hb2) ht)
    have lp82_2 : ∀ (nlp82_2 : Nat) (i : Int) (d : (Int → Int)) (g : (Int → Int)) (H : Heap) (locs : List Loc) (ls : Array Slot), (0 ≤ i ∧ i ≤ σ 4 0) → (d = fo (fun d h => nMeaD (nPutP σ x y a b t) (σ 0 0) h d) (σ 16) i) → (g = fo (fun m h => nMeaB (nPutP σ x y a b t) (σ 0 0) h m) (σ 17) i) → (∀ k, 0 ≤ d k ∧ d k ≤ 10) → (∀ k, 0 ≤ g k ∧ g k < 256) → va_P D vwCl (wN cy A (su (su (su (su (su (su (su (su σ 0 (fun _ => ((σ 0 0) + 1))) 1 (up (σ 1) (σ 0 0) x)) 2 (up (σ 2) (σ 0 0) y)) 3 (up (σ 3) ((σ 0 0) * 3) a)) 3 (up (up (σ 3) ((σ 0 0) * 3) a) (((σ 0 0) * 3) + 1) b)) 3 (up (up (up (σ 3) ((σ 0 0) * 3) a) (((σ 0 0) * 3) + 1) b) (((σ 0 0) * 3) + 2) t)) 16 d) 17 g)) H → va_D AA (wN cy A (su (su (su (su (su (su (su (su σ 0 (fun _ => ((σ 0 0) + 1))) 1 (up (σ 1) (σ 0 0) x)) 2 (up (σ 2) (σ 0 0) y)) 3 (up (σ 3) ((σ 0 0) * 3) a)) 3 (up (up (σ 3) ((σ 0 0) * 3) a) (((σ 0 0) * 3) + 1) b)) 3 (up (up (up (σ 3) ((σ 0 0) * 3) a) (((σ 0 0) * 3) + 1) b) (((σ 0 0) * 3) + 2) t)) 16 d) 17 g)) → va_S AA s.heap H locs → (σ 4 0 - i < (nlp82_2 : Int)) → lv_has ls 8 [(7, .int (iI i)), (6, .int (iI (σ 0 0))), (0, .ref (A 100)), (1, .int (iI x)), (2, .int (iI y)), (3, .int (iI a)), (4, .int (iI b)), (5, .int (iI t))] → W p l e ({ frames := 5, cells := 0, slots := 0, locals := 123 } : Room) s m ([.ref (A 100), .int (iI x), .int (iI y), .int (iI a), .int (iI b), .int (iI t)] : List Value).toArray below meth c H locs 0 0 (MQ below (va_Qi (fun r (u : Unit) => r = iI ((fun _ : Unit => (if 12 ≤ σ 0 0 then -1 else σ 0 0)) u) ∧ (fun _ : Unit => True) u) (fun (u : Unit) tz => va_P D vwCl ((fun _ : Unit => wN cy A (nAddP σ x y a b t)) u) tz.heap) AA) ([.ref (A 100), .int (iI x), .int (iI y), .int (iI a), .int (iI b), .int (iI t)] : List Value).toArray s 0 0 AA) (F0 m 82 ls []) := by
      intro nlp82_2
      induction nlp82_2 with
      | zero => intro i d g H locs ls hi hd1 hg hdb hgb hP hD hS hn hl; exact absurd hn (by omega)
      | succ nlp82_2 ihlp82_2 =>
        intro i d g H locs ls hi hd1 hg hdb hgb hP hD hS hn hl
        refine lv_iload hx hb dX1_addPiece_82 (lv_at hl 0 rfl) ?_
        refine lv_aload_n hx hb dX1_addPiece_84 rfl (lv_at hl 2 rfl) ?_
        refine va_get (D := D) (ci := 1) (v := .int (iI (σ 4 0))) (C := RX1) (T := TX1) (N := 19) hx hb hts (fun _ h => List.mem_cons_of_mem _ (List.mem_append_right _ h)) hown hK hP 0 rfl rfl 4 (by decide) (hts _ fl_X1_addPiece_64) (fun _ h9 => h9) rfl dX1_addPiece_85 ?_
        refine r_icmp_ge (tgt := 105) hx hb dX1_addPiece_88 (by decide) (by omega) (by omega) (fun h3 => ?_) (fun h3 => ?_)
        · -- 88 to 105
          refine lv_iload hx hb dX1_addPiece_105 (lv_at hl 1 rfl) ?_
          exact r_retM () hx hb hr hlocks hS dX1_addPiece_107 (by rw [if_neg (by omega)]) trivial (by unfold nAddP; rw [if_neg (by omega), show σ 4 0 = i from by omega, ← hd1, ← hg]; exact hP)
        · -- 88 to 91
          refine lv_aload_n hx hb dX1_addPiece_91 rfl (lv_at hl 2 rfl) ?_
          refine lv_iload hx hb dX1_addPiece_92 (lv_at hl 1 rfl) ?_
          refine lv_iload hx hb dX1_addPiece_94 (lv_at hl 0 rfl) ?_
          refine r_callV (w1 := ([] : va_W)) (w2 := ([] : va_W)) (va_runV (As := [.int (iI (σ 0 0)), .int (iI i)]) (rest := []) ⟨hx, hb, hml, hown, hts⟩ (c_X1_measurePair l D cy A (su (su (su (su (su (su (su (su σ 0 (fun _ => ((σ 0 0) + 1))) 1 (up (σ 1) (σ 0 0) x)) 2 (up (σ 2) (σ 0 0) y)) 3 (up (σ 3) ((σ 0 0) * 3) a)) 3 (up (up (σ 3) ((σ 0 0) * 3) a) (((σ 0 0) * 3) + 1) b)) 3 (up (up (up (σ 3) ((σ 0 0) * 3) a) (((σ 0 0) * 3) + 1) b) (((σ 0 0) * 3) + 2) t)) 16 d) 17 g) (H.size) (σ 0 0) i (inv_17 (inv_16 hIp hdb) hgb) (by omega) (by omega)) (cwV 2 hts gX1_addPiece_X1_measurePair rfl rfl rfl (by decide +kernel) ⟨Nat.le_of_ble_eq_true rfl, Nat.le_of_ble_eq_true rfl⟩) (pv_rw (C := RX1) (T := TX1) (N := 19) (ci := 1) (q0 := 0) hP hK hD rfl rfl) rfl rfl hl.1 rfl (lv_room (Nat.le_of_ble_eq_true rfl)) dX1_addPiece_96 ⟨Nat.le_of_ble_eq_true rfl, Nat.le_of_ble_eq_true rfl⟩) hP hD hS hA (fun _ => rfl) (fun u4 H locs hp5 hP hD hS => ?_)
          have hP : va_P D vwCl (wN cy A (su (su (su (su (su (su (su (su (su (su σ 0 (fun _ => ((σ 0 0) + 1))) 1 (up (σ 1) (σ 0 0) x)) 2 (up (σ 2) (σ 0 0) y)) 3 (up (σ 3) ((σ 0 0) * 3) a)) 3 (up (up (σ 3) ((σ 0 0) * 3) a) (((σ 0 0) * 3) + 1) b)) 3 (up (up (up (σ 3) ((σ 0 0) * 3) a) (((σ 0 0) * 3) + 1) b) (((σ 0 0) * 3) + 2) t)) 16 d) 17 g) 16 (up ((su (su (su (su (su (su (su (su σ 0 (fun _ => ((σ 0 0) + 1))) 1 (up (σ 1) (σ 0 0) x)) 2 (up (σ 2) (σ 0 0) y)) 3 (up (σ 3) ((σ 0 0) * 3) a)) 3 (up (up (σ 3) ((σ 0 0) * 3) a) (((σ 0 0) * 3) + 1) b)) 3 (up (up (up (σ 3) ((σ 0 0) * 3) a) (((σ 0 0) * 3) + 1) b) (((σ 0 0) * 3) + 2) t)) 16 d) 17 g) 16) ((σ 0 0) * 20 + i) (nDbl (d2Z (su (su (su (su (su (su (su (su σ 0 (fun _ => ((σ 0 0) + 1))) 1 (up (σ 1) (σ 0 0) x)) 2 (up (σ 2) (σ 0 0) y)) 3 (up (σ 3) ((σ 0 0) * 3) a)) 3 (up (up (σ 3) ((σ 0 0) * 3) a) (((σ 0 0) * 3) + 1) b)) 3 (up (up (up (σ 3) ((σ 0 0) * 3) a) (((σ 0 0) * 3) + 1) b) (((σ 0 0) * 3) + 2) t)) 16 d) 17 g) (σ 0 0) i)))) 17 (up ((su (su (su (su (su (su (su (su σ 0 (fun _ => ((σ 0 0) + 1))) 1 (up (σ 1) (σ 0 0) x)) 2 (up (σ 2) (σ 0 0) y)) 3 (up (σ 3) ((σ 0 0) * 3) a)) 3 (up (up (σ 3) ((σ 0 0) * 3) a) (((σ 0 0) * 3) + 1) b)) 3 (up (up (up (σ 3) ((σ 0 0) * 3) a) (((σ 0 0) * 3) + 1) b) (((σ 0 0) * 3) + 2) t)) 16 d) 17 g) 17) ((σ 0 0) * 20 + i) (nMsk (su (su (su (su (su (su (su (su σ 0 (fun _ => ((σ 0 0) + 1))) 1 (up (σ 1) (σ 0 0) x)) 2 (up (σ 2) (σ 0 0) y)) 3 (up (σ 3) ((σ 0 0) * 3) a)) 3 (up (up (σ 3) ((σ 0 0) * 3) a) (((σ 0 0) * 3) + 1) b)) 3 (up (up (up (σ 3) ((σ 0 0) * 3) a) (((σ 0 0) * 3) + 1) b) (((σ 0 0) * 3) + 2) t)) 16 d) 17 g) (σ 0 0) i ((su (su (su (su (su (su (su (su σ 0 (fun _ => ((σ 0 0) + 1))) 1 (up (σ 1) (σ 0 0) x)) 2 (up (σ 2) (σ 0 0) y)) 3 (up (σ 3) ((σ 0 0) * 3) a)) 3 (up (up (σ 3) ((σ 0 0) * 3) a) (((σ 0 0) * 3) + 1) b)) 3 (up (up (up (σ 3) ((σ 0 0) * 3) a) (((σ 0 0) * 3) + 1) b) (((σ 0 0) * 3) + 2) t)) 16 d) 17 g) 17 ((σ 0 0) * 20 + i)))))) H := hP
          have hD : va_D AA (wN cy A (su (su (su (su (su (su (su (su (su (su σ 0 (fun _ => ((σ 0 0) + 1))) 1 (up (σ 1) (σ 0 0) x)) 2 (up (σ 2) (σ 0 0) y)) 3 (up (σ 3) ((σ 0 0) * 3) a)) 3 (up (up (σ 3) ((σ 0 0) * 3) a) (((σ 0 0) * 3) + 1) b)) 3 (up (up (up (σ 3) ((σ 0 0) * 3) a) (((σ 0 0) * 3) + 1) b) (((σ 0 0) * 3) + 2) t)) 16 d) 17 g) 16 (up ((su (su (su (su (su (su (su (su σ 0 (fun _ => ((σ 0 0) + 1))) 1 (up (σ 1) (σ 0 0) x)) 2 (up (σ 2) (σ 0 0) y)) 3 (up (σ 3) ((σ 0 0) * 3) a)) 3 (up (up (σ 3) ((σ 0 0) * 3) a) (((σ 0 0) * 3) + 1) b)) 3 (up (up (up (σ 3) ((σ 0 0) * 3) a) (((σ 0 0) * 3) + 1) b) (((σ 0 0) * 3) + 2) t)) 16 d) 17 g) 16) ((σ 0 0) * 20 + i) (nDbl (d2Z (su (su (su (su (su (su (su (su σ 0 (fun _ => ((σ 0 0) + 1))) 1 (up (σ 1) (σ 0 0) x)) 2 (up (σ 2) (σ 0 0) y)) 3 (up (σ 3) ((σ 0 0) * 3) a)) 3 (up (up (σ 3) ((σ 0 0) * 3) a) (((σ 0 0) * 3) + 1) b)) 3 (up (up (up (σ 3) ((σ 0 0) * 3) a) (((σ 0 0) * 3) + 1) b) (((σ 0 0) * 3) + 2) t)) 16 d) 17 g) (σ 0 0) i)))) 17 (up ((su (su (su (su (su (su (su (su σ 0 (fun _ => ((σ 0 0) + 1))) 1 (up (σ 1) (σ 0 0) x)) 2 (up (σ 2) (σ 0 0) y)) 3 (up (σ 3) ((σ 0 0) * 3) a)) 3 (up (up (σ 3) ((σ 0 0) * 3) a) (((σ 0 0) * 3) + 1) b)) 3 (up (up (up (σ 3) ((σ 0 0) * 3) a) (((σ 0 0) * 3) + 1) b) (((σ 0 0) * 3) + 2) t)) 16 d) 17 g) 17) ((σ 0 0) * 20 + i) (nMsk (su (su (su (su (su (su (su (su σ 0 (fun _ => ((σ 0 0) + 1))) 1 (up (σ 1) (σ 0 0) x)) 2 (up (σ 2) (σ 0 0) y)) 3 (up (σ 3) ((σ 0 0) * 3) a)) 3 (up (up (σ 3) ((σ 0 0) * 3) a) (((σ 0 0) * 3) + 1) b)) 3 (up (up (up (σ 3) ((σ 0 0) * 3) a) (((σ 0 0) * 3) + 1) b) (((σ 0 0) * 3) + 2) t)) 16 d) 17 g) (σ 0 0) i ((su (su (su (su (su (su (su (su σ 0 (fun _ => ((σ 0 0) + 1))) 1 (up (σ 1) (σ 0 0) x)) 2 (up (σ 2) (σ 0 0) y)) 3 (up (σ 3) ((σ 0 0) * 3) a)) 3 (up (up (σ 3) ((σ 0 0) * 3) a) (((σ 0 0) * 3) + 1) b)) 3 (up (up (up (σ 3) ((σ 0 0) * 3) a) (((σ 0 0) * 3) + 1) b) (((σ 0 0) * 3) + 2) t)) 16 d) 17 g) 17 ((σ 0 0) * 20 + i)))))) := hD
          refine r_iinc (a := i) (b := (i + 1)) (lv2 := [(7, .int (iI (i + 1))), (6, .int (iI (σ 0 0))), (0, .ref (A 100)), (1, .int (iI x)), (2, .int (iI y)), (3, .int (iI a)), (4, .int (iI b)), (5, .int (iI t))]) hx hb dX1_addPiece_99 hl (k := 0) rfl (by omega) (by decide) rfl (fun ls hl => ?_)
          refine lv_goto (tgt := 82) hx hb dX1_addPiece_102 (by decide) ?_
          exact ihlp82_2 (i + 1) (up ((su (su (su (su (su (su (su (su σ 0 (fun _ => ((σ 0 0) + 1))) 1 (up (σ 1) (σ 0 0) x)) 2 (up (σ 2) (σ 0 0) y)) 3 (up (σ 3) ((σ 0 0) * 3) a)) 3 (up (up (σ 3) ((σ 0 0) * 3) a) (((σ 0 0) * 3) + 1) b)) 3 (up (up (up (σ 3) ((σ 0 0) * 3) a) (((σ 0 0) * 3) + 1) b) (((σ 0 0) * 3) + 2) t)) 16 d) 17 g) 16) ((σ 0 0) * 20 + i) (nDbl (d2Z (su (su (su (su (su (su (su (su σ 0 (fun _ => ((σ 0 0) + 1))) 1 (up (σ 1) (σ 0 0) x)) 2 (up (σ 2) (σ 0 0) y)) 3 (up (σ 3) ((σ 0 0) * 3) a)) 3 (up (up (σ 3) ((σ 0 0) * 3) a) (((σ 0 0) * 3) + 1) b)) 3 (up (up (up (σ 3) ((σ 0 0) * 3) a) (((σ 0 0) * 3) + 1) b) (((σ 0 0) * 3) + 2) t)) 16 d) 17 g) (σ 0 0) i))) (up ((su (su (su (su (su (su (su (su σ 0 (fun _ => ((σ 0 0) + 1))) 1 (up (σ 1) (σ 0 0) x)) 2 (up (σ 2) (σ 0 0) y)) 3 (up (σ 3) ((σ 0 0) * 3) a)) 3 (up (up (σ 3) ((σ 0 0) * 3) a) (((σ 0 0) * 3) + 1) b)) 3 (up (up (up (σ 3) ((σ 0 0) * 3) a) (((σ 0 0) * 3) + 1) b) (((σ 0 0) * 3) + 2) t)) 16 d) 17 g) 17) ((σ 0 0) * 20 + i) (nMsk (su (su (su (su (su (su (su (su σ 0 (fun _ => ((σ 0 0) + 1))) 1 (up (σ 1) (σ 0 0) x)) 2 (up (σ 2) (σ 0 0) y)) 3 (up (σ 3) ((σ 0 0) * 3) a)) 3 (up (up (σ 3) ((σ 0 0) * 3) a) (((σ 0 0) * 3) + 1) b)) 3 (up (up (up (σ 3) ((σ 0 0) * 3) a) (((σ 0 0) * 3) + 1) b) (((σ 0 0) * 3) + 2) t)) 16 d) 17 g) (σ 0 0) i ((su (su (su (su (su (su (su (su σ 0 (fun _ => ((σ 0 0) + 1))) 1 (up (σ 1) (σ 0 0) x)) 2 (up (σ 2) (σ 0 0) y)) 3 (up (σ 3) ((σ 0 0) * 3) a)) 3 (up (up (σ 3) ((σ 0 0) * 3) a) (((σ 0 0) * 3) + 1) b)) 3 (up (up (up (σ 3) ((σ 0 0) * 3) a) (((σ 0 0) * 3) + 1) b) (((σ 0 0) * 3) + 2) t)) 16 d) 17 g) 17 ((σ 0 0) * 20 + i)))) _ _ ls (by omega) (by rw [fo_s _ _ (by omega), ← hd1]; rfl) (by rw [fo_s _ _ (by omega), ← hg]; rfl) (up_bd hdb (nDbl_bd _)) (up_bl hgb (nMsk_bd (inv_17 (inv_16 hIp hdb) hgb) _ _ (hgb _))) hP hD hS (by omega) (lv_sub hl [0, 1, 2, 3, 4, 5, 6, 7] rfl)
    exact lp82_2 _ 0 (σ 16) (σ 17) _ _ ls (by omega) rfl rfl hB16 hB17 hP hD hS (lt_tn _) (lv_sub hl [0, 1, 2, 3, 4, 5, 6, 7] rfl)
  · -- 6 to 9
    refine lv_iconst (v := iI (-1)) hx hb dX1_addPiece_9 rfl ?_
    exact r_retM () hx hb hr hlocks hS dX1_addPiece_10 (by rw [if_pos (by omega)]) trivial (by unfold nAddP; rw [if_pos (by omega)]; exact hP)
theorem fl_X1_addHouse_64 : Cond.fieldLink RX1 64 "NoiseLamps$Noise" "houses" "I" ∈ wsX1_addHouse := by decide +kernel
theorem fl_X1_addHouse_21 : Cond.fieldLink RX1 21 "NoiseLamps$Noise" "houseX" "[I" ∈ wsX1_addHouse := by decide +kernel
theorem fl_X1_addHouse_24 : Cond.fieldLink RX1 24 "NoiseLamps$Noise" "houseY" "[I" ∈ wsX1_addHouse := by decide +kernel
theorem fl_X1_addHouse_27 : Cond.fieldLink RX1 27 "NoiseLamps$Noise" "housePeople" "[I" ∈ wsX1_addHouse := by decide +kernel
theorem fl_X1_addHouse_61 : Cond.fieldLink RX1 61 "NoiseLamps$Noise" "pieces" "I" ∈ wsX1_addHouse := by decide +kernel
set_option maxHeartbeats 4000000 in
set_option maxRecDepth 100000 in
theorem c_X1_addHouse (l : Launch) (D : va_G) (cy : ClassId) (A : Nat → Nat) (σ : Nat → Int → Int) (sz : Nat) (x y n : Int) (hI : invN σ) (hx1 : -5000 ≤ x ∧ x ≤ 5000) (hy1 : -5000 ≤ y ∧ y ≤ 5000) (hn1 : 0 ≤ n ∧ n ≤ 1000) : MetM l yX1_addHouse wsX1_addHouse ({ frames := 5, cells := 0, slots := 0, locals := 123 } : Room) D cy (wN cy A σ) ([.ref (A 100), .int (iI x), .int (iI y), .int (iI n)] : List Value) sz (fun _ : Unit => (if 20 ≤ σ 4 0 then -1 else σ 4 0)) (fun _ : Unit => True) (fun _ : Unit => wN cy A (nAddH σ x y n)) := by
  refine met_M (cc := cX1_addHouse) (maxL := 6) (ret := (some .int)) (by decide) rfl (Nat.le_of_ble_eq_true rfl) ?_
  intro p e s m below meth c AA hAA hx hb hr hml hts hown hlocks hP hK hD hA ls hl
  have hS : va_S AA s.heap s.heap [] := va_S.rf
  have hown : s.vm.findClass RX1 = some m.cls := hown
  have hl : lv_has ls 6 [(0, .ref (A 100)), (1, .int (iI x)), (2, .int (iI y)), (3, .int (iI n))] := hl
  obtain ⟨hN0, hN4, hN8, hN14, hB1, hB2, hB3, hB5, hB6, hB7, hB9, hB10, hB11, hB12, hB13, hB15, hB16, hB17⟩ := id hI
  refine lv_aload_n hx hb dX1_addHouse_0 rfl (lv_at hl 0 rfl) ?_
  refine va_get (D := D) (ci := 1) (v := .int (iI (σ 4 0))) (C := RX1) (T := TX1) (N := 19) hx hb hts (fun _ h => List.mem_cons_of_mem _ (List.mem_append_right _ h)) hown hK hP 0 rfl rfl 4 (by decide) (hts _ fl_X1_addHouse_64) (fun _ h9 => h9) rfl dX1_addHouse_1 ?_
  refine lv_bipush (v := iI 20) hx hb dX1_addHouse_4 (by decide +kernel) ?_
  refine r_icmp_lt (tgt := 11) hx hb dX1_addHouse_6 (by decide) (by omega) (by omega) (fun h1 => ?_) (fun h1 => ?_)
  · -- 6 to 11
    refine lv_aload_n hx hb dX1_addHouse_11 rfl (lv_at hl 0 rfl) ?_
    refine va_get (D := D) (ci := 1) (v := .int (iI (σ 4 0))) (C := RX1) (T := TX1) (N := 19) hx hb hts (fun _ h => List.mem_cons_of_mem _ (List.mem_append_right _ h)) hown hK hP 0 rfl rfl 4 (by decide) (hts _ fl_X1_addHouse_64) (fun _ h9 => h9) rfl dX1_addHouse_12 ?_
    refine lv_istore (lv' := [(4, .int (iI (σ 4 0))), (0, .ref (A 100)), (1, .int (iI x)), (2, .int (iI y)), (3, .int (iI n))]) hx hb dX1_addHouse_15 hl (by decide) rfl (fun ls hl => ?_)
    refine lv_aload_n hx hb dX1_addHouse_17 rfl (lv_at hl 1 rfl) ?_
    refine lv_dup hx hb dX1_addHouse_18 rfl ?_
    refine va_get (D := D) (ci := 1) (v := .int (iI (σ 4 0))) (C := RX1) (T := TX1) (N := 19) hx hb hts (fun _ h => List.mem_cons_of_mem _ (List.mem_append_right _ h)) hown hK hP 0 rfl rfl 4 (by decide) (hts _ fl_X1_addHouse_64) (fun _ h9 => h9) rfl dX1_addHouse_19 ?_
    refine lv_iconst (v := iI 1) hx hb dX1_addHouse_22 rfl ?_
    refine r_iadd hx hb dX1_addHouse_23 ?_
    refine va_put (D := D) (ci := 1) (v := .int (iI ((σ 4 0) + 1))) (ty := .int) (C := RX1) (T := TX1) (N := 19) hx hb hts (fun _ h => List.mem_cons_of_mem _ (List.mem_append_right _ h)) tyX1 tyX1_ok nmX1 hown hK hP hD hS 0 rfl rfl 4 (by decide) (hts _ fl_X1_addHouse_64) (fun _ h9 => h9) rfl (by decide +kernel) rfl rfl (Nat.le_of_ble_eq_true rfl) dX1_addHouse_24 (fun H locs hP hD hS => ?_)
    have hP : va_P D vwCl (wN cy A (su σ 4 (fun _ => ((σ 4 0) + 1)))) H := hP
    have hD : va_D AA (wN cy A (su σ 4 (fun _ => ((σ 4 0) + 1)))) := hD
    refine lv_aload_n hx hb dX1_addHouse_27 rfl (lv_at hl 1 rfl) ?_
    refine va_get (D := D) (ci := 1) (v := .ref (A 5)) (C := RX1) (T := TX1) (N := 19) hx hb hts (fun _ h => List.mem_cons_of_mem _ (List.mem_append_right _ h)) hown hK hP 0 rfl rfl 5 (by decide) (hts _ fl_X1_addHouse_21) (fun _ h9 => h9) rfl dX1_addHouse_28 ?_
    refine lv_iload hx hb dX1_addHouse_31 (lv_at hl 0 rfl) ?_
    refine lv_iload_n hx hb dX1_addHouse_33 rfl (lv_at hl 2 rfl) ?_
    refine r_iast hx hb hK hP hD hS 4 0 rfl rfl (Nat.le_of_ble_eq_true rfl) (by omega) dX1_addHouse_34 (fun H locs hP hD hS => ?_)
    have hP : va_P D vwCl (wN cy A (su (su σ 4 (fun _ => ((σ 4 0) + 1))) 5 (up (σ 5) (σ 4 0) x))) H := hP
    have hD : va_D AA (wN cy A (su (su σ 4 (fun _ => ((σ 4 0) + 1))) 5 (up (σ 5) (σ 4 0) x))) := hD
    refine lv_aload_n hx hb dX1_addHouse_35 rfl (lv_at hl 1 rfl) ?_
    refine va_get (D := D) (ci := 1) (v := .ref (A 6)) (C := RX1) (T := TX1) (N := 19) hx hb hts (fun _ h => List.mem_cons_of_mem _ (List.mem_append_right _ h)) hown hK hP 0 rfl rfl 6 (by decide) (hts _ fl_X1_addHouse_24) (fun _ h9 => h9) rfl dX1_addHouse_36 ?_
    refine lv_iload hx hb dX1_addHouse_39 (lv_at hl 0 rfl) ?_
    refine lv_iload_n hx hb dX1_addHouse_41 rfl (lv_at hl 3 rfl) ?_
    refine r_iast hx hb hK hP hD hS 5 0 rfl rfl (Nat.le_of_ble_eq_true rfl) (by omega) dX1_addHouse_42 (fun H locs hP hD hS => ?_)
    have hP : va_P D vwCl (wN cy A (su (su (su σ 4 (fun _ => ((σ 4 0) + 1))) 5 (up (σ 5) (σ 4 0) x)) 6 (up (σ 6) (σ 4 0) y))) H := hP
    have hD : va_D AA (wN cy A (su (su (su σ 4 (fun _ => ((σ 4 0) + 1))) 5 (up (σ 5) (σ 4 0) x)) 6 (up (σ 6) (σ 4 0) y))) := hD
    refine lv_aload_n hx hb dX1_addHouse_43 rfl (lv_at hl 1 rfl) ?_
    refine va_get (D := D) (ci := 1) (v := .ref (A 7)) (C := RX1) (T := TX1) (N := 19) hx hb hts (fun _ h => List.mem_cons_of_mem _ (List.mem_append_right _ h)) hown hK hP 0 rfl rfl 7 (by decide) (hts _ fl_X1_addHouse_27) (fun _ h9 => h9) rfl dX1_addHouse_44 ?_
    refine lv_iload hx hb dX1_addHouse_47 (lv_at hl 0 rfl) ?_
    refine lv_iload_n hx hb dX1_addHouse_49 rfl (lv_at hl 4 rfl) ?_
    refine r_iast hx hb hK hP hD hS 6 0 rfl rfl (Nat.le_of_ble_eq_true rfl) (by omega) dX1_addHouse_50 (fun H locs hP hD hS => ?_)
    have hP : va_P D vwCl (wN cy A (su (su (su (su σ 4 (fun _ => ((σ 4 0) + 1))) 5 (up (σ 5) (σ 4 0) x)) 6 (up (σ 6) (σ 4 0) y)) 7 (up (σ 7) (σ 4 0) n))) H := hP
    have hD : va_D AA (wN cy A (su (su (su (su σ 4 (fun _ => ((σ 4 0) + 1))) 5 (up (σ 5) (σ 4 0) x)) 6 (up (σ 6) (σ 4 0) y)) 7 (up (σ 7) (σ 4 0) n))) := hD
    refine lv_iconst (v := iI 0) hx hb dX1_addHouse_51 rfl ?_
    refine lv_istore (lv' := [(5, .int (iI 0)), (4, .int (iI (σ 4 0))), (0, .ref (A 100)), (1, .int (iI x)), (2, .int (iI y)), (3, .int (iI n))]) hx hb dX1_addHouse_52 hl (by decide) rfl (fun ls hl => ?_)
    have hIp := inv_7 (inv_6 (inv_5 (inv_4 (g := fun _ => σ 4 0 + 1) hI (by omega)) (up_bd (i := σ 4 0) hB5 hx1)) (up_bd (i := σ 4 0) hB6 hy1)) (up_bd (i := σ 4 0) hB7 hn1)
    have lp54_2 : ∀ (nlp54_2 : Nat) (i : Int) (d : (Int → Int)) (g : (Int → Int)) (H : Heap) (locs : List Loc) (ls : Array Slot), (0 ≤ i ∧ i ≤ σ 0 0) → (d = fo (fun d p => nMeaD (nPutH σ x y n) p (σ 4 0) d) (σ 16) i) → (g = fo (fun m p => nMeaB (nPutH σ x y n) p (σ 4 0) m) (σ 17) i) → (∀ k, 0 ≤ d k ∧ d k ≤ 10) → (∀ k, 0 ≤ g k ∧ g k < 256) → va_P D vwCl (wN cy A (su (su (su (su (su (su σ 4 (fun _ => ((σ 4 0) + 1))) 5 (up (σ 5) (σ 4 0) x)) 6 (up (σ 6) (σ 4 0) y)) 7 (up (σ 7) (σ 4 0) n)) 16 d) 17 g)) H → va_D AA (wN cy A (su (su (su (su (su (su σ 4 (fun _ => ((σ 4 0) + 1))) 5 (up (σ 5) (σ 4 0) x)) 6 (up (σ 6) (σ 4 0) y)) 7 (up (σ 7) (σ 4 0) n)) 16 d) 17 g)) → va_S AA s.heap H locs → (σ 0 0 - i < (nlp54_2 : Int)) → lv_has ls 6 [(5, .int (iI i)), (4, .int (iI (σ 4 0))), (0, .ref (A 100)), (1, .int (iI x)), (2, .int (iI y)), (3, .int (iI n))] → W p l e ({ frames := 5, cells := 0, slots := 0, locals := 123 } : Room) s m ([.ref (A 100), .int (iI x), .int (iI y), .int (iI n)] : List Value).toArray below meth c H locs 0 0 (MQ below (va_Qi (fun r (u : Unit) => r = iI ((fun _ : Unit => (if 20 ≤ σ 4 0 then -1 else σ 4 0)) u) ∧ (fun _ : Unit => True) u) (fun (u : Unit) tz => va_P D vwCl ((fun _ : Unit => wN cy A (nAddH σ x y n)) u) tz.heap) AA) ([.ref (A 100), .int (iI x), .int (iI y), .int (iI n)] : List Value).toArray s 0 0 AA) (F0 m 54 ls []) := by
      intro nlp54_2
      induction nlp54_2 with
      | zero => intro i d g H locs ls hi hd1 hg hdb hgb hP hD hS hn hl; exact absurd hn (by omega)
      | succ nlp54_2 ihlp54_2 =>
        intro i d g H locs ls hi hd1 hg hdb hgb hP hD hS hn hl
        refine lv_iload hx hb dX1_addHouse_54 (lv_at hl 0 rfl) ?_
        refine lv_aload_n hx hb dX1_addHouse_56 rfl (lv_at hl 2 rfl) ?_
        refine va_get (D := D) (ci := 1) (v := .int (iI (σ 0 0))) (C := RX1) (T := TX1) (N := 19) hx hb hts (fun _ h => List.mem_cons_of_mem _ (List.mem_append_right _ h)) hown hK hP 0 rfl rfl 0 (by decide) (hts _ fl_X1_addHouse_61) (fun _ h9 => h9) rfl dX1_addHouse_57 ?_
        refine r_icmp_ge (tgt := 77) hx hb dX1_addHouse_60 (by decide) (by omega) (by omega) (fun h3 => ?_) (fun h3 => ?_)
        · -- 60 to 77
          refine lv_iload hx hb dX1_addHouse_77 (lv_at hl 1 rfl) ?_
          exact r_retM () hx hb hr hlocks hS dX1_addHouse_79 (by rw [if_neg (by omega)]) trivial (by unfold nAddH; rw [if_neg (by omega), show σ 0 0 = i from by omega, ← hd1, ← hg]; exact hP)
        · -- 60 to 63
          refine lv_aload_n hx hb dX1_addHouse_63 rfl (lv_at hl 2 rfl) ?_
          refine lv_iload hx hb dX1_addHouse_64 (lv_at hl 0 rfl) ?_
          refine lv_iload hx hb dX1_addHouse_66 (lv_at hl 1 rfl) ?_
          refine r_callV (w1 := ([] : va_W)) (w2 := ([] : va_W)) (va_runV (As := [.int (iI i), .int (iI (σ 4 0))]) (rest := []) ⟨hx, hb, hml, hown, hts⟩ (c_X1_measurePair l D cy A (su (su (su (su (su (su σ 4 (fun _ => ((σ 4 0) + 1))) 5 (up (σ 5) (σ 4 0) x)) 6 (up (σ 6) (σ 4 0) y)) 7 (up (σ 7) (σ 4 0) n)) 16 d) 17 g) (H.size) i (σ 4 0) (inv_17 (inv_16 hIp hdb) hgb) (by omega) (by omega)) (cwV 2 hts gX1_addHouse_X1_measurePair rfl rfl rfl (by decide +kernel) ⟨Nat.le_of_ble_eq_true rfl, Nat.le_of_ble_eq_true rfl⟩) (pv_rw (C := RX1) (T := TX1) (N := 19) (ci := 1) (q0 := 0) hP hK hD rfl rfl) rfl rfl hl.1 rfl (lv_room (Nat.le_of_ble_eq_true rfl)) dX1_addHouse_68 ⟨Nat.le_of_ble_eq_true rfl, Nat.le_of_ble_eq_true rfl⟩) hP hD hS hA (fun _ => rfl) (fun u4 H locs hp5 hP hD hS => ?_)
          have hP : va_P D vwCl (wN cy A (su (su (su (su (su (su (su (su σ 4 (fun _ => ((σ 4 0) + 1))) 5 (up (σ 5) (σ 4 0) x)) 6 (up (σ 6) (σ 4 0) y)) 7 (up (σ 7) (σ 4 0) n)) 16 d) 17 g) 16 (up ((su (su (su (su (su (su σ 4 (fun _ => ((σ 4 0) + 1))) 5 (up (σ 5) (σ 4 0) x)) 6 (up (σ 6) (σ 4 0) y)) 7 (up (σ 7) (σ 4 0) n)) 16 d) 17 g) 16) (i * 20 + (σ 4 0)) (nDbl (d2Z (su (su (su (su (su (su σ 4 (fun _ => ((σ 4 0) + 1))) 5 (up (σ 5) (σ 4 0) x)) 6 (up (σ 6) (σ 4 0) y)) 7 (up (σ 7) (σ 4 0) n)) 16 d) 17 g) i (σ 4 0))))) 17 (up ((su (su (su (su (su (su σ 4 (fun _ => ((σ 4 0) + 1))) 5 (up (σ 5) (σ 4 0) x)) 6 (up (σ 6) (σ 4 0) y)) 7 (up (σ 7) (σ 4 0) n)) 16 d) 17 g) 17) (i * 20 + (σ 4 0)) (nMsk (su (su (su (su (su (su σ 4 (fun _ => ((σ 4 0) + 1))) 5 (up (σ 5) (σ 4 0) x)) 6 (up (σ 6) (σ 4 0) y)) 7 (up (σ 7) (σ 4 0) n)) 16 d) 17 g) i (σ 4 0) ((su (su (su (su (su (su σ 4 (fun _ => ((σ 4 0) + 1))) 5 (up (σ 5) (σ 4 0) x)) 6 (up (σ 6) (σ 4 0) y)) 7 (up (σ 7) (σ 4 0) n)) 16 d) 17 g) 17 (i * 20 + (σ 4 0))))))) H := hP
          have hD : va_D AA (wN cy A (su (su (su (su (su (su (su (su σ 4 (fun _ => ((σ 4 0) + 1))) 5 (up (σ 5) (σ 4 0) x)) 6 (up (σ 6) (σ 4 0) y)) 7 (up (σ 7) (σ 4 0) n)) 16 d) 17 g) 16 (up ((su (su (su (su (su (su σ 4 (fun _ => ((σ 4 0) + 1))) 5 (up (σ 5) (σ 4 0) x)) 6 (up (σ 6) (σ 4 0) y)) 7 (up (σ 7) (σ 4 0) n)) 16 d) 17 g) 16) (i * 20 + (σ 4 0)) (nDbl (d2Z (su (su (su (su (su (su σ 4 (fun _ => ((σ 4 0) + 1))) 5 (up (σ 5) (σ 4 0) x)) 6 (up (σ 6) (σ 4 0) y)) 7 (up (σ 7) (σ 4 0) n)) 16 d) 17 g) i (σ 4 0))))) 17 (up ((su (su (su (su (su (su σ 4 (fun _ => ((σ 4 0) + 1))) 5 (up (σ 5) (σ 4 0) x)) 6 (up (σ 6) (σ 4 0) y)) 7 (up (σ 7) (σ 4 0) n)) 16 d) 17 g) 17) (i * 20 + (σ 4 0)) (nMsk (su (su (su (su (su (su σ 4 (fun _ => ((σ 4 0) + 1))) 5 (up (σ 5) (σ 4 0) x)) 6 (up (σ 6) (σ 4 0) y)) 7 (up (σ 7) (σ 4 0) n)) 16 d) 17 g) i (σ 4 0) ((su (su (su (su (su (su σ 4 (fun _ => ((σ 4 0) + 1))) 5 (up (σ 5) (σ 4 0) x)) 6 (up (σ 6) (σ 4 0) y)) 7 (up (σ 7) (σ 4 0) n)) 16 d) 17 g) 17 (i * 20 + (σ 4 0))))))) := hD
          refine r_iinc (a := i) (b := (i + 1)) (lv2 := [(5, .int (iI (i + 1))), (4, .int (iI (σ 4 0))), (0, .ref (A 100)), (1, .int (iI x)), (2, .int (iI y)), (3, .int (iI n))]) hx hb dX1_addHouse_71 hl (k := 0) rfl (by omega) (by decide) rfl (fun ls hl => ?_)
          refine lv_goto (tgt := 54) hx hb dX1_addHouse_74 (by decide) ?_
          exact ihlp54_2 (i + 1) (up ((su (su (su (su (su (su σ 4 (fun _ => ((σ 4 0) + 1))) 5 (up (σ 5) (σ 4 0) x)) 6 (up (σ 6) (σ 4 0) y)) 7 (up (σ 7) (σ 4 0) n)) 16 d) 17 g) 16) (i * 20 + (σ 4 0)) (nDbl (d2Z (su (su (su (su (su (su σ 4 (fun _ => ((σ 4 0) + 1))) 5 (up (σ 5) (σ 4 0) x)) 6 (up (σ 6) (σ 4 0) y)) 7 (up (σ 7) (σ 4 0) n)) 16 d) 17 g) i (σ 4 0)))) (up ((su (su (su (su (su (su σ 4 (fun _ => ((σ 4 0) + 1))) 5 (up (σ 5) (σ 4 0) x)) 6 (up (σ 6) (σ 4 0) y)) 7 (up (σ 7) (σ 4 0) n)) 16 d) 17 g) 17) (i * 20 + (σ 4 0)) (nMsk (su (su (su (su (su (su σ 4 (fun _ => ((σ 4 0) + 1))) 5 (up (σ 5) (σ 4 0) x)) 6 (up (σ 6) (σ 4 0) y)) 7 (up (σ 7) (σ 4 0) n)) 16 d) 17 g) i (σ 4 0) ((su (su (su (su (su (su σ 4 (fun _ => ((σ 4 0) + 1))) 5 (up (σ 5) (σ 4 0) x)) 6 (up (σ 6) (σ 4 0) y)) 7 (up (σ 7) (σ 4 0) n)) 16 d) 17 g) 17 (i * 20 + (σ 4 0))))) _ _ ls (by omega) (by rw [fo_s _ _ (by omega), ← hd1]; rfl) (by rw [fo_s _ _ (by omega), ← hg]; rfl) (up_bd hdb (nDbl_bd _)) (up_bl hgb (nMsk_bd (inv_17 (inv_16 hIp hdb) hgb) _ _ (hgb _))) hP hD hS (by omega) (lv_sub hl [0, 1, 2, 3, 4, 5] rfl)
    exact lp54_2 _ 0 (σ 16) (σ 17) _ _ ls (by omega) rfl rfl hB16 hB17 hP hD hS (lt_tn _) (lv_sub hl [0, 1, 2, 3, 4, 5] rfl)
  · -- 6 to 9
    refine lv_iconst (v := iI (-1)) hx hb dX1_addHouse_9 rfl ?_
    exact r_retM () hx hb hr hlocks hS dX1_addHouse_10 (by rw [if_pos (by omega)]) trivial (by unfold nAddH; rw [if_pos (by omega)]; exact hP)
theorem fl_X1_addWall_67 : Cond.fieldLink RX1 67 "NoiseLamps$Noise" "walls" "I" ∈ wsX1_addWall := by decide +kernel
theorem fl_X1_addWall_30 : Cond.fieldLink RX1 30 "NoiseLamps$Noise" "wallX0" "[I" ∈ wsX1_addWall := by decide +kernel
theorem fl_X1_addWall_33 : Cond.fieldLink RX1 33 "NoiseLamps$Noise" "wallY0" "[I" ∈ wsX1_addWall := by decide +kernel
theorem fl_X1_addWall_36 : Cond.fieldLink RX1 36 "NoiseLamps$Noise" "wallX1" "[I" ∈ wsX1_addWall := by decide +kernel
theorem fl_X1_addWall_39 : Cond.fieldLink RX1 39 "NoiseLamps$Noise" "wallY1" "[I" ∈ wsX1_addWall := by decide +kernel
theorem fl_X1_addWall_42 : Cond.fieldLink RX1 42 "NoiseLamps$Noise" "wallCut" "[I" ∈ wsX1_addWall := by decide +kernel
theorem fl_X1_addWall_61 : Cond.fieldLink RX1 61 "NoiseLamps$Noise" "pieces" "I" ∈ wsX1_addWall := by decide +kernel
theorem fl_X1_addWall_64 : Cond.fieldLink RX1 64 "NoiseLamps$Noise" "houses" "I" ∈ wsX1_addWall := by decide +kernel
set_option maxHeartbeats 4000000 in
set_option maxRecDepth 100000 in
theorem c_X1_addWall (l : Launch) (D : va_G) (cy : ClassId) (A : Nat → Nat) (σ : Nat → Int → Int) (sz : Nat) (x y z w v : Int) (hI : invN σ) (hx1 : -5000 ≤ x ∧ x ≤ 5000) (hy1 : -5000 ≤ y ∧ y ≤ 5000) (hz1 : -5000 ≤ z ∧ z ≤ 5000) (hw1 : -5000 ≤ w ∧ w ≤ 5000) (hv1 : 0 ≤ v ∧ v ≤ 300) : MetM l yX1_addWall wsX1_addWall ({ frames := 4, cells := 0, slots := 0, locals := 98 } : Room) D cy (wN cy A σ) ([.ref (A 100), .int (iI x), .int (iI y), .int (iI z), .int (iI w), .int (iI v)] : List Value) sz (fun _ : Unit => (if 8 ≤ σ 8 0 then -1 else σ 8 0)) (fun _ : Unit => True) (fun _ : Unit => wN cy A (nAddW σ x y z w v)) := by
  refine met_M (cc := cX1_addWall) (maxL := 9) (ret := (some .int)) (by decide) rfl (Nat.le_of_ble_eq_true rfl) ?_
  intro p e s m below meth c AA hAA hx hb hr hml hts hown hlocks hP hK hD hA ls hl
  have hS : va_S AA s.heap s.heap [] := va_S.rf
  have hown : s.vm.findClass RX1 = some m.cls := hown
  have hl : lv_has ls 9 [(0, .ref (A 100)), (1, .int (iI x)), (2, .int (iI y)), (3, .int (iI z)), (4, .int (iI w)), (5, .int (iI v))] := hl
  obtain ⟨hN0, hN4, hN8, hN14, hB1, hB2, hB3, hB5, hB6, hB7, hB9, hB10, hB11, hB12, hB13, hB15, hB16, hB17⟩ := id hI
  refine lv_aload_n hx hb dX1_addWall_0 rfl (lv_at hl 0 rfl) ?_
  refine va_get (D := D) (ci := 1) (v := .int (iI (σ 8 0))) (C := RX1) (T := TX1) (N := 19) hx hb hts (fun _ h => List.mem_cons_of_mem _ (List.mem_append_right _ h)) hown hK hP 0 rfl rfl 8 (by decide) (hts _ fl_X1_addWall_67) (fun _ h9 => h9) rfl dX1_addWall_1 ?_
  refine lv_bipush (v := iI 8) hx hb dX1_addWall_4 (by decide +kernel) ?_
  refine r_icmp_lt (tgt := 11) hx hb dX1_addWall_6 (by decide) (by omega) (by omega) (fun h1 => ?_) (fun h1 => ?_)
  · -- 6 to 11
    refine lv_aload_n hx hb dX1_addWall_11 rfl (lv_at hl 0 rfl) ?_
    refine va_get (D := D) (ci := 1) (v := .int (iI (σ 8 0))) (C := RX1) (T := TX1) (N := 19) hx hb hts (fun _ h => List.mem_cons_of_mem _ (List.mem_append_right _ h)) hown hK hP 0 rfl rfl 8 (by decide) (hts _ fl_X1_addWall_67) (fun _ h9 => h9) rfl dX1_addWall_12 ?_
    refine lv_istore (lv' := [(6, .int (iI (σ 8 0))), (0, .ref (A 100)), (1, .int (iI x)), (2, .int (iI y)), (3, .int (iI z)), (4, .int (iI w)), (5, .int (iI v))]) hx hb dX1_addWall_15 hl (by decide) rfl (fun ls hl => ?_)
    refine lv_aload_n hx hb dX1_addWall_17 rfl (lv_at hl 1 rfl) ?_
    refine lv_dup hx hb dX1_addWall_18 rfl ?_
    refine va_get (D := D) (ci := 1) (v := .int (iI (σ 8 0))) (C := RX1) (T := TX1) (N := 19) hx hb hts (fun _ h => List.mem_cons_of_mem _ (List.mem_append_right _ h)) hown hK hP 0 rfl rfl 8 (by decide) (hts _ fl_X1_addWall_67) (fun _ h9 => h9) rfl dX1_addWall_19 ?_
    refine lv_iconst (v := iI 1) hx hb dX1_addWall_22 rfl ?_
    refine r_iadd hx hb dX1_addWall_23 ?_
    refine va_put (D := D) (ci := 1) (v := .int (iI ((σ 8 0) + 1))) (ty := .int) (C := RX1) (T := TX1) (N := 19) hx hb hts (fun _ h => List.mem_cons_of_mem _ (List.mem_append_right _ h)) tyX1 tyX1_ok nmX1 hown hK hP hD hS 0 rfl rfl 8 (by decide) (hts _ fl_X1_addWall_67) (fun _ h9 => h9) rfl (by decide +kernel) rfl rfl (Nat.le_of_ble_eq_true rfl) dX1_addWall_24 (fun H locs hP hD hS => ?_)
    have hP : va_P D vwCl (wN cy A (su σ 8 (fun _ => ((σ 8 0) + 1)))) H := hP
    have hD : va_D AA (wN cy A (su σ 8 (fun _ => ((σ 8 0) + 1)))) := hD
    refine lv_aload_n hx hb dX1_addWall_27 rfl (lv_at hl 1 rfl) ?_
    refine va_get (D := D) (ci := 1) (v := .ref (A 9)) (C := RX1) (T := TX1) (N := 19) hx hb hts (fun _ h => List.mem_cons_of_mem _ (List.mem_append_right _ h)) hown hK hP 0 rfl rfl 9 (by decide) (hts _ fl_X1_addWall_30) (fun _ h9 => h9) rfl dX1_addWall_28 ?_
    refine lv_iload hx hb dX1_addWall_31 (lv_at hl 0 rfl) ?_
    refine lv_iload_n hx hb dX1_addWall_33 rfl (lv_at hl 2 rfl) ?_
    refine r_iast hx hb hK hP hD hS 7 0 rfl rfl (Nat.le_of_ble_eq_true rfl) (by omega) dX1_addWall_34 (fun H locs hP hD hS => ?_)
    have hP : va_P D vwCl (wN cy A (su (su σ 8 (fun _ => ((σ 8 0) + 1))) 9 (up (σ 9) (σ 8 0) x))) H := hP
    have hD : va_D AA (wN cy A (su (su σ 8 (fun _ => ((σ 8 0) + 1))) 9 (up (σ 9) (σ 8 0) x))) := hD
    refine lv_aload_n hx hb dX1_addWall_35 rfl (lv_at hl 1 rfl) ?_
    refine va_get (D := D) (ci := 1) (v := .ref (A 10)) (C := RX1) (T := TX1) (N := 19) hx hb hts (fun _ h => List.mem_cons_of_mem _ (List.mem_append_right _ h)) hown hK hP 0 rfl rfl 10 (by decide) (hts _ fl_X1_addWall_33) (fun _ h9 => h9) rfl dX1_addWall_36 ?_
    refine lv_iload hx hb dX1_addWall_39 (lv_at hl 0 rfl) ?_
    refine lv_iload_n hx hb dX1_addWall_41 rfl (lv_at hl 3 rfl) ?_
    refine r_iast hx hb hK hP hD hS 8 0 rfl rfl (Nat.le_of_ble_eq_true rfl) (by omega) dX1_addWall_42 (fun H locs hP hD hS => ?_)
    have hP : va_P D vwCl (wN cy A (su (su (su σ 8 (fun _ => ((σ 8 0) + 1))) 9 (up (σ 9) (σ 8 0) x)) 10 (up (σ 10) (σ 8 0) y))) H := hP
    have hD : va_D AA (wN cy A (su (su (su σ 8 (fun _ => ((σ 8 0) + 1))) 9 (up (σ 9) (σ 8 0) x)) 10 (up (σ 10) (σ 8 0) y))) := hD
    refine lv_aload_n hx hb dX1_addWall_43 rfl (lv_at hl 1 rfl) ?_
    refine va_get (D := D) (ci := 1) (v := .ref (A 11)) (C := RX1) (T := TX1) (N := 19) hx hb hts (fun _ h => List.mem_cons_of_mem _ (List.mem_append_right _ h)) hown hK hP 0 rfl rfl 11 (by decide) (hts _ fl_X1_addWall_36) (fun _ h9 => h9) rfl dX1_addWall_44 ?_
    refine lv_iload hx hb dX1_addWall_47 (lv_at hl 0 rfl) ?_
    refine lv_iload_n hx hb dX1_addWall_49 rfl (lv_at hl 4 rfl) ?_
    refine r_iast hx hb hK hP hD hS 9 0 rfl rfl (Nat.le_of_ble_eq_true rfl) (by omega) dX1_addWall_50 (fun H locs hP hD hS => ?_)
    have hP : va_P D vwCl (wN cy A (su (su (su (su σ 8 (fun _ => ((σ 8 0) + 1))) 9 (up (σ 9) (σ 8 0) x)) 10 (up (σ 10) (σ 8 0) y)) 11 (up (σ 11) (σ 8 0) z))) H := hP
    have hD : va_D AA (wN cy A (su (su (su (su σ 8 (fun _ => ((σ 8 0) + 1))) 9 (up (σ 9) (σ 8 0) x)) 10 (up (σ 10) (σ 8 0) y)) 11 (up (σ 11) (σ 8 0) z))) := hD
    refine lv_aload_n hx hb dX1_addWall_51 rfl (lv_at hl 1 rfl) ?_
    refine va_get (D := D) (ci := 1) (v := .ref (A 12)) (C := RX1) (T := TX1) (N := 19) hx hb hts (fun _ h => List.mem_cons_of_mem _ (List.mem_append_right _ h)) hown hK hP 0 rfl rfl 12 (by decide) (hts _ fl_X1_addWall_39) (fun _ h9 => h9) rfl dX1_addWall_52 ?_
    refine lv_iload hx hb dX1_addWall_55 (lv_at hl 0 rfl) ?_
    refine lv_iload hx hb dX1_addWall_57 (lv_at hl 5 rfl) ?_
    refine r_iast hx hb hK hP hD hS 10 0 rfl rfl (Nat.le_of_ble_eq_true rfl) (by omega) dX1_addWall_59 (fun H locs hP hD hS => ?_)
    have hP : va_P D vwCl (wN cy A (su (su (su (su (su σ 8 (fun _ => ((σ 8 0) + 1))) 9 (up (σ 9) (σ 8 0) x)) 10 (up (σ 10) (σ 8 0) y)) 11 (up (σ 11) (σ 8 0) z)) 12 (up (σ 12) (σ 8 0) w))) H := hP
    have hD : va_D AA (wN cy A (su (su (su (su (su σ 8 (fun _ => ((σ 8 0) + 1))) 9 (up (σ 9) (σ 8 0) x)) 10 (up (σ 10) (σ 8 0) y)) 11 (up (σ 11) (σ 8 0) z)) 12 (up (σ 12) (σ 8 0) w))) := hD
    refine lv_aload_n hx hb dX1_addWall_60 rfl (lv_at hl 1 rfl) ?_
    refine va_get (D := D) (ci := 1) (v := .ref (A 13)) (C := RX1) (T := TX1) (N := 19) hx hb hts (fun _ h => List.mem_cons_of_mem _ (List.mem_append_right _ h)) hown hK hP 0 rfl rfl 13 (by decide) (hts _ fl_X1_addWall_42) (fun _ h9 => h9) rfl dX1_addWall_61 ?_
    refine lv_iload hx hb dX1_addWall_64 (lv_at hl 0 rfl) ?_
    refine lv_iload hx hb dX1_addWall_66 (lv_at hl 6 rfl) ?_
    refine r_iast hx hb hK hP hD hS 11 0 rfl rfl (Nat.le_of_ble_eq_true rfl) (by omega) dX1_addWall_68 (fun H locs hP hD hS => ?_)
    have hP : va_P D vwCl (wN cy A (su (su (su (su (su (su σ 8 (fun _ => ((σ 8 0) + 1))) 9 (up (σ 9) (σ 8 0) x)) 10 (up (σ 10) (σ 8 0) y)) 11 (up (σ 11) (σ 8 0) z)) 12 (up (σ 12) (σ 8 0) w)) 13 (up (σ 13) (σ 8 0) v))) H := hP
    have hD : va_D AA (wN cy A (su (su (su (su (su (su σ 8 (fun _ => ((σ 8 0) + 1))) 9 (up (σ 9) (σ 8 0) x)) 10 (up (σ 10) (σ 8 0) y)) 11 (up (σ 11) (σ 8 0) z)) 12 (up (σ 12) (σ 8 0) w)) 13 (up (σ 13) (σ 8 0) v))) := hD
    refine lv_iconst (v := iI 0) hx hb dX1_addWall_69 rfl ?_
    refine lv_istore (lv' := [(7, .int (iI 0)), (6, .int (iI (σ 8 0))), (0, .ref (A 100)), (1, .int (iI x)), (2, .int (iI y)), (3, .int (iI z)), (4, .int (iI w)), (5, .int (iI v))]) hx hb dX1_addWall_70 hl (by decide) rfl (fun ls hl => ?_)
    have hIp := inv_13 (inv_12 (inv_11 (inv_10 (inv_9 (inv_8 (g := fun _ => σ 8 0 + 1) hI (by omega)) (up_bd (i := σ 8 0) hB9 hx1)) (up_bd (i := σ 8 0) hB10 hy1)) (up_bd (i := σ 8 0) hB11 hz1)) (up_bd (i := σ 8 0) hB12 hw1)) (up_bd (i := σ 8 0) hB13 hv1)
    have lp72_2 : ∀ (nlp72_2 : Nat) (i : Int) (g : (Int → Int)) (H : Heap) (locs : List Loc) (ls : Array Slot), (0 ≤ i ∧ i ≤ σ 0 0) → (g = fo (fun m p => nRowS (nPutW σ x y z w v) (σ 8 0) p (σ 4 0) m) (σ 17) i) → (∀ k, 0 ≤ g k ∧ g k < 256) → va_P D vwCl (wN cy A (su (su (su (su (su (su (su σ 8 (fun _ => ((σ 8 0) + 1))) 9 (up (σ 9) (σ 8 0) x)) 10 (up (σ 10) (σ 8 0) y)) 11 (up (σ 11) (σ 8 0) z)) 12 (up (σ 12) (σ 8 0) w)) 13 (up (σ 13) (σ 8 0) v)) 17 g)) H → va_D AA (wN cy A (su (su (su (su (su (su (su σ 8 (fun _ => ((σ 8 0) + 1))) 9 (up (σ 9) (σ 8 0) x)) 10 (up (σ 10) (σ 8 0) y)) 11 (up (σ 11) (σ 8 0) z)) 12 (up (σ 12) (σ 8 0) w)) 13 (up (σ 13) (σ 8 0) v)) 17 g)) → va_S AA s.heap H locs → (σ 0 0 - i < (nlp72_2 : Int)) → lv_has ls 9 [(7, .int (iI i)), (6, .int (iI (σ 8 0))), (0, .ref (A 100)), (1, .int (iI x)), (2, .int (iI y)), (3, .int (iI z)), (4, .int (iI w)), (5, .int (iI v))] → W p l e ({ frames := 4, cells := 0, slots := 0, locals := 98 } : Room) s m ([.ref (A 100), .int (iI x), .int (iI y), .int (iI z), .int (iI w), .int (iI v)] : List Value).toArray below meth c H locs 0 0 (MQ below (va_Qi (fun r (u : Unit) => r = iI ((fun _ : Unit => (if 8 ≤ σ 8 0 then -1 else σ 8 0)) u) ∧ (fun _ : Unit => True) u) (fun (u : Unit) tz => va_P D vwCl ((fun _ : Unit => wN cy A (nAddW σ x y z w v)) u) tz.heap) AA) ([.ref (A 100), .int (iI x), .int (iI y), .int (iI z), .int (iI w), .int (iI v)] : List Value).toArray s 0 0 AA) (F0 m 72 ls []) := by
      intro nlp72_2
      induction nlp72_2 with
      | zero => intro i g H locs ls hi hg hgb hP hD hS hn hl; exact absurd hn (by omega)
      | succ nlp72_2 ihlp72_2 =>
        intro i g H locs ls hi hg hgb hP hD hS hn hl
        refine lv_iload hx hb dX1_addWall_72 (lv_at hl 0 rfl) ?_
        refine lv_aload_n hx hb dX1_addWall_74 rfl (lv_at hl 2 rfl) ?_
        refine va_get (D := D) (ci := 1) (v := .int (iI (σ 0 0))) (C := RX1) (T := TX1) (N := 19) hx hb hts (fun _ h => List.mem_cons_of_mem _ (List.mem_append_right _ h)) hown hK hP 0 rfl rfl 0 (by decide) (hts _ fl_X1_addWall_61) (fun _ h9 => h9) rfl dX1_addWall_75 ?_
        refine r_icmp_ge (tgt := 115) hx hb dX1_addWall_78 (by decide) (by omega) (by omega) (fun h3 => ?_) (fun h3 => ?_)
        · -- 78 to 115
          refine lv_iload hx hb dX1_addWall_115 (lv_at hl 1 rfl) ?_
          exact r_retM () hx hb hr hlocks hS dX1_addWall_117 (by rw [if_neg (by omega)]) trivial (by unfold nAddW; rw [if_neg (by omega), show σ 0 0 = i from by omega, ← hg]; exact hP)
        · -- 78 to 81
          refine lv_iconst (v := iI 0) hx hb dX1_addWall_81 rfl ?_
          refine lv_istore (lv' := [(8, .int (iI 0)), (7, .int (iI i)), (6, .int (iI (σ 8 0))), (0, .ref (A 100)), (1, .int (iI x)), (2, .int (iI y)), (3, .int (iI z)), (4, .int (iI w)), (5, .int (iI v))]) hx hb dX1_addWall_82 hl (by decide) rfl (fun ls hl => ?_)
          have lp84_4 : ∀ (nlp84_4 : Nat) (j : Int) (q : (Int → Int)) (H : Heap) (locs : List Loc) (ls : Array Slot), (0 ≤ j ∧ j ≤ σ 4 0) → (q = fo (fun m h => nNoteS (nPutW σ x y z w v) (σ 8 0) i h m) g j) → (∀ k, 0 ≤ q k ∧ q k < 256) → va_P D vwCl (wN cy A (su (su (su (su (su (su (su (su σ 8 (fun _ => ((σ 8 0) + 1))) 9 (up (σ 9) (σ 8 0) x)) 10 (up (σ 10) (σ 8 0) y)) 11 (up (σ 11) (σ 8 0) z)) 12 (up (σ 12) (σ 8 0) w)) 13 (up (σ 13) (σ 8 0) v)) 17 g) 17 q)) H → va_D AA (wN cy A (su (su (su (su (su (su (su (su σ 8 (fun _ => ((σ 8 0) + 1))) 9 (up (σ 9) (σ 8 0) x)) 10 (up (σ 10) (σ 8 0) y)) 11 (up (σ 11) (σ 8 0) z)) 12 (up (σ 12) (σ 8 0) w)) 13 (up (σ 13) (σ 8 0) v)) 17 g) 17 q)) → va_S AA s.heap H locs → (σ 4 0 - j < (nlp84_4 : Int)) → lv_has ls 9 [(8, .int (iI j)), (7, .int (iI i)), (6, .int (iI (σ 8 0))), (0, .ref (A 100)), (1, .int (iI x)), (2, .int (iI y)), (3, .int (iI z)), (4, .int (iI w)), (5, .int (iI v))] → W p l e ({ frames := 4, cells := 0, slots := 0, locals := 98 } : Room) s m ([.ref (A 100), .int (iI x), .int (iI y), .int (iI z), .int (iI w), .int (iI v)] : List Value).toArray below meth c H locs 0 0 (MQ below (va_Qi (fun r (u : Unit) => r = iI ((fun _ : Unit => (if 8 ≤ σ 8 0 then -1 else σ 8 0)) u) ∧ (fun _ : Unit => True) u) (fun (u : Unit) tz => va_P D vwCl ((fun _ : Unit => wN cy A (nAddW σ x y z w v)) u) tz.heap) AA) ([.ref (A 100), .int (iI x), .int (iI y), .int (iI z), .int (iI w), .int (iI v)] : List Value).toArray s 0 0 AA) (F0 m 84 ls []) := by
            intro nlp84_4
            induction nlp84_4 with
            | zero => intro j q H locs ls hj hq hqb hP hD hS hn hl; exact absurd hn (by omega)
            | succ nlp84_4 ihlp84_4 =>
              intro j q H locs ls hj hq hqb hP hD hS hn hl
              refine lv_iload hx hb dX1_addWall_84 (lv_at hl 0 rfl) ?_
              refine lv_aload_n hx hb dX1_addWall_86 rfl (lv_at hl 3 rfl) ?_
              refine va_get (D := D) (ci := 1) (v := .int (iI (σ 4 0))) (C := RX1) (T := TX1) (N := 19) hx hb hts (fun _ h => List.mem_cons_of_mem _ (List.mem_append_right _ h)) hown hK hP 0 rfl rfl 4 (by decide) (hts _ fl_X1_addWall_64) (fun _ h9 => h9) rfl dX1_addWall_87 ?_
              refine r_icmp_ge (tgt := 109) hx hb dX1_addWall_90 (by decide) (by omega) (by omega) (fun h5 => ?_) (fun h5 => ?_)
              · -- 90 to 109
                refine r_iinc (a := i) (b := (i + 1)) (lv2 := [(7, .int (iI (i + 1))), (8, .int (iI j)), (6, .int (iI (σ 8 0))), (0, .ref (A 100)), (1, .int (iI x)), (2, .int (iI y)), (3, .int (iI z)), (4, .int (iI w)), (5, .int (iI v))]) hx hb dX1_addWall_109 hl (k := 1) rfl (by omega) (by decide) rfl (fun ls hl => ?_)
                refine lv_goto (tgt := 72) hx hb dX1_addWall_112 (by decide) ?_
                exact ihlp72_2 (i + 1) q _ _ ls (by omega) (by rw [fo_s _ _ (by omega), ← hg, hq, show j = σ 4 0 from by omega]; rfl) hqb hP hD hS (by omega) (lv_sub hl [0, 2, 3, 4, 5, 6, 7, 8] rfl)
              · -- 90 to 93
                refine lv_aload_n hx hb dX1_addWall_93 rfl (lv_at hl 3 rfl) ?_
                refine lv_iload hx hb dX1_addWall_94 (lv_at hl 2 rfl) ?_
                refine lv_iload hx hb dX1_addWall_96 (lv_at hl 1 rfl) ?_
                refine lv_iload hx hb dX1_addWall_98 (lv_at hl 0 rfl) ?_
                refine r_callV (w1 := ([] : va_W)) (w2 := ([] : va_W)) (va_runV (As := [.int (iI (σ 8 0)), .int (iI i), .int (iI j)]) (rest := []) ⟨hx, hb, hml, hown, hts⟩ (c_X1_noteIfBetween l D cy A (su (su (su (su (su (su (su (su σ 8 (fun _ => ((σ 8 0) + 1))) 9 (up (σ 9) (σ 8 0) x)) 10 (up (σ 10) (σ 8 0) y)) 11 (up (σ 11) (σ 8 0) z)) 12 (up (σ 12) (σ 8 0) w)) 13 (up (σ 13) (σ 8 0) v)) 17 g) 17 q) (H.size) (σ 8 0) i j (inv_17 (inv_17 hIp hgb) hqb) (by omega) (by omega) (by omega)) (cwV 3 hts gX1_addWall_X1_noteIfBetween rfl rfl rfl (by decide +kernel) ⟨Nat.le_of_ble_eq_true rfl, Nat.le_of_ble_eq_true rfl⟩) (pv_rw (C := RX1) (T := TX1) (N := 19) (ci := 1) (q0 := 0) hP hK hD rfl rfl) rfl rfl hl.1 rfl (lv_room (Nat.le_of_ble_eq_true rfl)) dX1_addWall_100 ⟨Nat.le_of_ble_eq_true rfl, Nat.le_of_ble_eq_true rfl⟩) hP hD hS hA (fun _ => rfl) (fun u6 H locs hp7 hP hD hS => ?_)
                have hP : va_P D vwCl (wN cy A (su (su (su (su (su (su (su (su (su σ 8 (fun _ => ((σ 8 0) + 1))) 9 (up (σ 9) (σ 8 0) x)) 10 (up (σ 10) (σ 8 0) y)) 11 (up (σ 11) (σ 8 0) z)) 12 (up (σ 12) (σ 8 0) w)) 13 (up (σ 13) (σ 8 0) v)) 17 g) 17 q) 17 (nNoteF (su (su (su (su (su (su (su (su σ 8 (fun _ => ((σ 8 0) + 1))) 9 (up (σ 9) (σ 8 0) x)) 10 (up (σ 10) (σ 8 0) y)) 11 (up (σ 11) (σ 8 0) z)) 12 (up (σ 12) (σ 8 0) w)) 13 (up (σ 13) (σ 8 0) v)) 17 g) 17 q) (σ 8 0) i j))) H := hP
                have hD : va_D AA (wN cy A (su (su (su (su (su (su (su (su (su σ 8 (fun _ => ((σ 8 0) + 1))) 9 (up (σ 9) (σ 8 0) x)) 10 (up (σ 10) (σ 8 0) y)) 11 (up (σ 11) (σ 8 0) z)) 12 (up (σ 12) (σ 8 0) w)) 13 (up (σ 13) (σ 8 0) v)) 17 g) 17 q) 17 (nNoteF (su (su (su (su (su (su (su (su σ 8 (fun _ => ((σ 8 0) + 1))) 9 (up (σ 9) (σ 8 0) x)) 10 (up (σ 10) (σ 8 0) y)) 11 (up (σ 11) (σ 8 0) z)) 12 (up (σ 12) (σ 8 0) w)) 13 (up (σ 13) (σ 8 0) v)) 17 g) 17 q) (σ 8 0) i j))) := hD
                refine r_iinc (a := j) (b := (j + 1)) (lv2 := [(8, .int (iI (j + 1))), (7, .int (iI i)), (6, .int (iI (σ 8 0))), (0, .ref (A 100)), (1, .int (iI x)), (2, .int (iI y)), (3, .int (iI z)), (4, .int (iI w)), (5, .int (iI v))]) hx hb dX1_addWall_103 hl (k := 0) rfl (by omega) (by decide) rfl (fun ls hl => ?_)
                refine lv_goto (tgt := 84) hx hb dX1_addWall_106 (by decide) ?_
                exact ihlp84_4 (j + 1) (nNoteF (su (su (su (su (su (su (su (su σ 8 (fun _ => ((σ 8 0) + 1))) 9 (up (σ 9) (σ 8 0) x)) 10 (up (σ 10) (σ 8 0) y)) 11 (up (σ 11) (σ 8 0) z)) 12 (up (σ 12) (σ 8 0) w)) 13 (up (σ 13) (σ 8 0) v)) 17 g) 17 q) (σ 8 0) i j) _ _ ls (by omega) (by rw [fo_s _ _ (by omega), ← hq]; rfl) (note_bd (inv_17 (inv_17 hIp hgb) hqb) (by omega) _ _) hP hD hS (by omega) (lv_sub hl [0, 1, 2, 3, 4, 5, 6, 7, 8] rfl)
          exact lp84_4 _ 0 g _ _ ls (by omega) rfl hgb hP hD hS (lt_tn _) (lv_sub hl [0, 1, 2, 3, 4, 5, 6, 7, 8] rfl)
    exact lp72_2 _ 0 (σ 17) _ _ ls (by omega) rfl hB17 hP hD hS (lt_tn _) (lv_sub hl [0, 1, 2, 3, 4, 5, 6, 7] rfl)
  · -- 6 to 9
    refine lv_iconst (v := iI (-1)) hx hb dX1_addWall_9 rfl ?_
    exact r_retM () hx hb hr hlocks hS dX1_addWall_10 (by rw [if_pos (by omega)]) trivial (by unfold nAddW; rw [if_pos (by omega)]; exact hP)
end
