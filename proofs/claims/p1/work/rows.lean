section
-- ===== PART A: goes FIRST, ahead of the names: the tables' words, and 'selects' of the private methods out of them =====
/-- a private method of a class that the tables say can be made, by its rows of tables_1 -/
def lw_okq (q : MethodName × Nat) : Prop := (q.1.cls ≠ "java/lang/invoke/MethodHandle" ∧ q.1.cls ≠ "java/lang/invoke/VarHandle") ∧ Cond.instantiable q.1.cls q.2 ∈ tables_1 ∧ Cond.privateMethod q.1 ∈ tables_1 ∧ Cond.instanceMethod q.1 ∈ tables_1
theorem lw_p0 : lw_okq (⟨"SaltPool$Pool", "partAmong", "(I)V"⟩, 13) := ⟨⟨by decide +kernel, by decide +kernel⟩, List.mem_of_getElem? (i := 23) (by decide +kernel), List.mem_of_getElem? (i := 339) (by decide +kernel), List.mem_of_getElem? (i := 340) (by decide +kernel)⟩
theorem lw_p1 : lw_okq (⟨"SaltPool$Pool", "partsAmong", "()I"⟩, 13) := ⟨⟨by decide +kernel, by decide +kernel⟩, List.mem_of_getElem? (i := 23) (by decide +kernel), List.mem_of_getElem? (i := 343) (by decide +kernel), List.mem_of_getElem? (i := 344) (by decide +kernel)⟩
theorem lw_p2 : lw_okq (⟨"SaltPool$Pool", "raiseGreatestRests", "(I)V"⟩, 13) := ⟨⟨by decide +kernel, by decide +kernel⟩, List.mem_of_getElem? (i := 23) (by decide +kernel), List.mem_of_getElem? (i := 347) (by decide +kernel), List.mem_of_getElem? (i := 348) (by decide +kernel)⟩
theorem lw_p3 : lw_okq (⟨"SaltPool$Pool", "lentTo", "(III)I"⟩, 13) := ⟨⟨by decide +kernel, by decide +kernel⟩, List.mem_of_getElem? (i := 23) (by decide +kernel), List.mem_of_getElem? (i := 355) (by decide +kernel), List.mem_of_getElem? (i := 356) (by decide +kernel)⟩
theorem lw_p4 : lw_okq (⟨"SaltPool", "isAsked", "(III)Z"⟩, 8) := ⟨⟨by decide +kernel, by decide +kernel⟩, List.mem_of_getElem? (i := 15) (by decide +kernel), List.mem_of_getElem? (i := 374) (by decide +kernel), List.mem_of_getElem? (i := 375) (by decide +kernel)⟩
theorem lw_p5 : lw_okq (⟨"SaltPool$Tape", "readPair", "(I)Z"⟩, 4) := ⟨⟨by decide +kernel, by decide +kernel⟩, List.mem_of_getElem? (i := 75) (by decide +kernel), List.mem_of_getElem? (i := 416) (by decide +kernel), List.mem_of_getElem? (i := 417) (by decide +kernel)⟩
theorem lw_p6 : lw_okq (⟨"SaltPool$Tape", "readNumber", "(II)I"⟩, 4) := ⟨⟨by decide +kernel, by decide +kernel⟩, List.mem_of_getElem? (i := 75) (by decide +kernel), List.mem_of_getElem? (i := 420) (by decide +kernel), List.mem_of_getElem? (i := 421) (by decide +kernel)⟩
theorem lw_p7 : lw_okq (⟨"SaltPool$Tape", "skipBlanks", "()V"⟩, 4) := ⟨⟨by decide +kernel, by decide +kernel⟩, List.mem_of_getElem? (i := 75) (by decide +kernel), List.mem_of_getElem? (i := 424) (by decide +kernel), List.mem_of_getElem? (i := 425) (by decide +kernel)⟩
theorem lw_p8 : lw_okq (⟨"SaltPool$Tape", "readSign", "(C)Z"⟩, 4) := ⟨⟨by decide +kernel, by decide +kernel⟩, List.mem_of_getElem? (i := 75) (by decide +kernel), List.mem_of_getElem? (i := 432) (by decide +kernel), List.mem_of_getElem? (i := 433) (by decide +kernel)⟩
theorem lw_p9 : lw_okq (⟨"SaltPool$Mole", "seek", "(LSaltPool$Fleet;LSaltPool$Sea;IIII)V"⟩, 8) := ⟨⟨by decide +kernel, by decide +kernel⟩, List.mem_of_getElem? (i := 196) (by decide +kernel), List.mem_of_getElem? (i := 539) (by decide +kernel), List.mem_of_getElem? (i := 540) (by decide +kernel)⟩
theorem lw_p10 : lw_okq (⟨"SaltPool$Mole", "keepCheapest", "(LSaltPool$Fleet;LSaltPool$Sea;I)V"⟩, 8) := ⟨⟨by decide +kernel, by decide +kernel⟩, List.mem_of_getElem? (i := 196) (by decide +kernel), List.mem_of_getElem? (i := 567) (by decide +kernel), List.mem_of_getElem? (i := 568) (by decide +kernel)⟩
theorem lw_p11 : lw_okq (⟨"SaltPoolModel", "isWorks", "(I)Z"⟩, 46) := ⟨⟨by decide +kernel, by decide +kernel⟩, List.mem_of_getElem? (i := 611) (by decide +kernel), List.mem_of_getElem? (i := 772) (by decide +kernel), List.mem_of_getElem? (i := 773) (by decide +kernel)⟩
theorem lw_p12 : lw_okq (⟨"SaltPoolModel", "isLot", "(I)Z"⟩, 46) := ⟨⟨by decide +kernel, by decide +kernel⟩, List.mem_of_getElem? (i := 611) (by decide +kernel), List.mem_of_getElem? (i := 780) (by decide +kernel), List.mem_of_getElem? (i := 781) (by decide +kernel)⟩
theorem lw_p13 : lw_okq (⟨"SaltPoolModel", "inHolds", "(I)I"⟩, 46) := ⟨⟨by decide +kernel, by decide +kernel⟩, List.mem_of_getElem? (i := 611) (by decide +kernel), List.mem_of_getElem? (i := 788) (by decide +kernel), List.mem_of_getElem? (i := 789) (by decide +kernel)⟩
theorem lw_p14 : lw_okq (⟨"SaltPoolModel", "quotas", "(II)V"⟩, 46) := ⟨⟨by decide +kernel, by decide +kernel⟩, List.mem_of_getElem? (i := 611) (by decide +kernel), List.mem_of_getElem? (i := 802) (by decide +kernel), List.mem_of_getElem? (i := 803) (by decide +kernel)⟩
theorem lw_p15 : lw_okq (⟨"SaltPoolModel", "isOpen", "(III)Z"⟩, 46) := ⟨⟨by decide +kernel, by decide +kernel⟩, List.mem_of_getElem? (i := 611) (by decide +kernel), List.mem_of_getElem? (i := 806) (by decide +kernel), List.mem_of_getElem? (i := 807) (by decide +kernel)⟩
def lw_privs_1 : List (MethodName × Nat) := [(⟨"SaltPool$Pool", "partAmong", "(I)V"⟩, 13), (⟨"SaltPool$Pool", "partsAmong", "()I"⟩, 13), (⟨"SaltPool$Pool", "raiseGreatestRests", "(I)V"⟩, 13), (⟨"SaltPool$Pool", "lentTo", "(III)I"⟩, 13), (⟨"SaltPool", "isAsked", "(III)Z"⟩, 8), (⟨"SaltPool$Tape", "readPair", "(I)Z"⟩, 4), (⟨"SaltPool$Tape", "readNumber", "(II)I"⟩, 4), (⟨"SaltPool$Tape", "skipBlanks", "()V"⟩, 4), (⟨"SaltPool$Tape", "readSign", "(C)Z"⟩, 4), (⟨"SaltPool$Mole", "seek", "(LSaltPool$Fleet;LSaltPool$Sea;IIII)V"⟩, 8), (⟨"SaltPool$Mole", "keepCheapest", "(LSaltPool$Fleet;LSaltPool$Sea;I)V"⟩, 8), (⟨"SaltPoolModel", "isWorks", "(I)Z"⟩, 46), (⟨"SaltPoolModel", "isLot", "(I)Z"⟩, 46), (⟨"SaltPoolModel", "inHolds", "(I)I"⟩, 46), (⟨"SaltPoolModel", "quotas", "(II)V"⟩, 46), (⟨"SaltPoolModel", "isOpen", "(III)Z"⟩, 46)]
theorem lw_r1 : ∀ q ∈ lw_privs_1, lw_okq q := List.forall_mem_cons.mpr ⟨lw_p0, List.forall_mem_cons.mpr ⟨lw_p1, List.forall_mem_cons.mpr ⟨lw_p2, List.forall_mem_cons.mpr ⟨lw_p3, List.forall_mem_cons.mpr ⟨lw_p4, List.forall_mem_cons.mpr ⟨lw_p5, List.forall_mem_cons.mpr ⟨lw_p6, List.forall_mem_cons.mpr ⟨lw_p7, List.forall_mem_cons.mpr ⟨lw_p8, List.forall_mem_cons.mpr ⟨lw_p9, List.forall_mem_cons.mpr ⟨lw_p10, List.forall_mem_cons.mpr ⟨lw_p11, List.forall_mem_cons.mpr ⟨lw_p12, List.forall_mem_cons.mpr ⟨lw_p13, List.forall_mem_cons.mpr ⟨lw_p14, List.forall_mem_cons.mpr ⟨lw_p15, fun _ h => absurd h List.not_mem_nil⟩⟩⟩⟩⟩⟩⟩⟩⟩⟩⟩⟩⟩⟩⟩⟩
theorem lw_p16 : lw_okq (⟨"SaltPoolModel", "part", "(JI)V"⟩, 46) := ⟨⟨by decide +kernel, by decide +kernel⟩, List.mem_of_getElem? (i := 611) (by decide +kernel), List.mem_of_getElem? (i := 810) (by decide +kernel), List.mem_of_getElem? (i := 811) (by decide +kernel)⟩
theorem lw_p17 : lw_okq (⟨"SaltPoolModel", "entry", "(IIIII)I"⟩, 46) := ⟨⟨by decide +kernel, by decide +kernel⟩, List.mem_of_getElem? (i := 611) (by decide +kernel), List.mem_of_getElem? (i := 814) (by decide +kernel), List.mem_of_getElem? (i := 815) (by decide +kernel)⟩
theorem lw_p18 : lw_okq (⟨"SaltPoolModel", "isAsOf", "(III)Z"⟩, 46) := ⟨⟨by decide +kernel, by decide +kernel⟩, List.mem_of_getElem? (i := 611) (by decide +kernel), List.mem_of_getElem? (i := 826) (by decide +kernel), List.mem_of_getElem? (i := 827) (by decide +kernel)⟩
theorem lw_p19 : lw_okq (⟨"SaltPoolModel", "leftOf", "(I)I"⟩, 46) := ⟨⟨by decide +kernel, by decide +kernel⟩, List.mem_of_getElem? (i := 611) (by decide +kernel), List.mem_of_getElem? (i := 839) (by decide +kernel), List.mem_of_getElem? (i := 840) (by decide +kernel)⟩
theorem lw_p20 : lw_okq (⟨"SaltPoolModel", "reads", "()I"⟩, 46) := ⟨⟨by decide +kernel, by decide +kernel⟩, List.mem_of_getElem? (i := 611) (by decide +kernel), List.mem_of_getElem? (i := 852) (by decide +kernel), List.mem_of_getElem? (i := 853) (by decide +kernel)⟩
theorem lw_p21 : lw_okq (⟨"SaltPoolModel", "number", "(II)I"⟩, 46) := ⟨⟨by decide +kernel, by decide +kernel⟩, List.mem_of_getElem? (i := 611) (by decide +kernel), List.mem_of_getElem? (i := 856) (by decide +kernel), List.mem_of_getElem? (i := 857) (by decide +kernel)⟩
theorem lw_p22 : lw_okq (⟨"SaltPoolModel", "next", "()I"⟩, 46) := ⟨⟨by decide +kernel, by decide +kernel⟩, List.mem_of_getElem? (i := 611) (by decide +kernel), List.mem_of_getElem? (i := 860) (by decide +kernel), List.mem_of_getElem? (i := 861) (by decide +kernel)⟩
theorem lw_p23 : lw_okq (⟨"SaltPoolModel", "isShip", "(I)Z"⟩, 46) := ⟨⟨by decide +kernel, by decide +kernel⟩, List.mem_of_getElem? (i := 611) (by decide +kernel), List.mem_of_getElem? (i := 872) (by decide +kernel), List.mem_of_getElem? (i := 873) (by decide +kernel)⟩
theorem lw_p24 : lw_okq (⟨"SaltPoolModel", "inHold", "(I)I"⟩, 46) := ⟨⟨by decide +kernel, by decide +kernel⟩, List.mem_of_getElem? (i := 611) (by decide +kernel), List.mem_of_getElem? (i := 876) (by decide +kernel), List.mem_of_getElem? (i := 877) (by decide +kernel)⟩
theorem lw_p25 : lw_okq (⟨"SaltPoolModel", "taken", "(I)I"⟩, 46) := ⟨⟨by decide +kernel, by decide +kernel⟩, List.mem_of_getElem? (i := 611) (by decide +kernel), List.mem_of_getElem? (i := 892) (by decide +kernel), List.mem_of_getElem? (i := 893) (by decide +kernel)⟩
theorem lw_p26 : lw_okq (⟨"SaltPoolModel", "costOf", "(I)I"⟩, 46) := ⟨⟨by decide +kernel, by decide +kernel⟩, List.mem_of_getElem? (i := 611) (by decide +kernel), List.mem_of_getElem? (i := 904) (by decide +kernel), List.mem_of_getElem? (i := 905) (by decide +kernel)⟩
theorem lw_p27 : lw_okq (⟨"SaltPoolModel", "endOf", "(II)I"⟩, 46) := ⟨⟨by decide +kernel, by decide +kernel⟩, List.mem_of_getElem? (i := 611) (by decide +kernel), List.mem_of_getElem? (i := 908) (by decide +kernel), List.mem_of_getElem? (i := 909) (by decide +kernel)⟩
theorem lw_p28 : lw_okq (⟨"SaltPoolModel", "lets", "(I)Z"⟩, 46) := ⟨⟨by decide +kernel, by decide +kernel⟩, List.mem_of_getElem? (i := 611) (by decide +kernel), List.mem_of_getElem? (i := 912) (by decide +kernel), List.mem_of_getElem? (i := 913) (by decide +kernel)⟩
theorem lw_p29 : lw_okq (⟨"SaltPoolModel", "keep", "(I)V"⟩, 46) := ⟨⟨by decide +kernel, by decide +kernel⟩, List.mem_of_getElem? (i := 611) (by decide +kernel), List.mem_of_getElem? (i := 916) (by decide +kernel), List.mem_of_getElem? (i := 917) (by decide +kernel)⟩
theorem lw_p30 : lw_okq (⟨"SaltPoolModel", "countsUp", "(I)Z"⟩, 46) := ⟨⟨by decide +kernel, by decide +kernel⟩, List.mem_of_getElem? (i := 611) (by decide +kernel), List.mem_of_getElem? (i := 920) (by decide +kernel), List.mem_of_getElem? (i := 921) (by decide +kernel)⟩
theorem lw_p31 : lw_okq (⟨"SaltPoolModel", "swap", "(II)V"⟩, 46) := ⟨⟨by decide +kernel, by decide +kernel⟩, List.mem_of_getElem? (i := 611) (by decide +kernel), List.mem_of_getElem? (i := 924) (by decide +kernel), List.mem_of_getElem? (i := 925) (by decide +kernel)⟩
def lw_privs_2 : List (MethodName × Nat) := [(⟨"SaltPoolModel", "part", "(JI)V"⟩, 46), (⟨"SaltPoolModel", "entry", "(IIIII)I"⟩, 46), (⟨"SaltPoolModel", "isAsOf", "(III)Z"⟩, 46), (⟨"SaltPoolModel", "leftOf", "(I)I"⟩, 46), (⟨"SaltPoolModel", "reads", "()I"⟩, 46), (⟨"SaltPoolModel", "number", "(II)I"⟩, 46), (⟨"SaltPoolModel", "next", "()I"⟩, 46), (⟨"SaltPoolModel", "isShip", "(I)Z"⟩, 46), (⟨"SaltPoolModel", "inHold", "(I)I"⟩, 46), (⟨"SaltPoolModel", "taken", "(I)I"⟩, 46), (⟨"SaltPoolModel", "costOf", "(I)I"⟩, 46), (⟨"SaltPoolModel", "endOf", "(II)I"⟩, 46), (⟨"SaltPoolModel", "lets", "(I)Z"⟩, 46), (⟨"SaltPoolModel", "keep", "(I)V"⟩, 46), (⟨"SaltPoolModel", "countsUp", "(I)Z"⟩, 46), (⟨"SaltPoolModel", "swap", "(II)V"⟩, 46)]
theorem lw_r2 : ∀ q ∈ lw_privs_2, lw_okq q := List.forall_mem_cons.mpr ⟨lw_p16, List.forall_mem_cons.mpr ⟨lw_p17, List.forall_mem_cons.mpr ⟨lw_p18, List.forall_mem_cons.mpr ⟨lw_p19, List.forall_mem_cons.mpr ⟨lw_p20, List.forall_mem_cons.mpr ⟨lw_p21, List.forall_mem_cons.mpr ⟨lw_p22, List.forall_mem_cons.mpr ⟨lw_p23, List.forall_mem_cons.mpr ⟨lw_p24, List.forall_mem_cons.mpr ⟨lw_p25, List.forall_mem_cons.mpr ⟨lw_p26, List.forall_mem_cons.mpr ⟨lw_p27, List.forall_mem_cons.mpr ⟨lw_p28, List.forall_mem_cons.mpr ⟨lw_p29, List.forall_mem_cons.mpr ⟨lw_p30, List.forall_mem_cons.mpr ⟨lw_p31, fun _ h => absurd h List.not_mem_nil⟩⟩⟩⟩⟩⟩⟩⟩⟩⟩⟩⟩⟩⟩⟩⟩
theorem lw_p32 : lw_okq (⟨"SaltPoolModel", "isWithin", "(III)Z"⟩, 46) := ⟨⟨by decide +kernel, by decide +kernel⟩, List.mem_of_getElem? (i := 611) (by decide +kernel), List.mem_of_getElem? (i := 955) (by decide +kernel), List.mem_of_getElem? (i := 956) (by decide +kernel)⟩
def lw_privs_3 : List (MethodName × Nat) := [(⟨"SaltPoolModel", "isWithin", "(III)Z"⟩, 46)]
theorem lw_r3 : ∀ q ∈ lw_privs_3, lw_okq q := List.forall_mem_cons.mpr ⟨lw_p32, fun _ h => absurd h List.not_mem_nil⟩
def lw_privs : List (MethodName × Nat) := lw_privs_1 ++ (lw_privs_2 ++ (lw_privs_3))
def lw_tbl : List Cond := k2_sels lw_privs ++ tables_1
theorem lw_privs_ok : ∀ q ∈ lw_privs, lw_okq q := by
  show ∀ q ∈ lw_privs_1 ++ (lw_privs_2 ++ (lw_privs_3)), lw_okq q
  exact List.forall_mem_append.mpr ⟨lw_r1, List.forall_mem_append.mpr ⟨lw_r2, lw_r3⟩⟩
end
section
/-! ===== BEGIN words of one list among another's, by their places ===== -/
theorem goodIn_r {big : List Cond} (ws : List Cond) (ps : List Nat) (hp : ws = ps.filterMap (fun i => big[i]?)) (h : ws.all goodWord = true) : GoodIn big ws := by
  intro w hw
  have h1 := List.all_eq_true.mp h w hw
  rw [hp] at hw
  obtain ⟨i, -, hi⟩ := List.mem_filterMap.mp hw
  have hm : w ∈ big := by first | exact List.mem_of_getElem? hi | exact List.getElem?_mem hi
  exact ⟨hm, good_of_word h1⟩
theorem goodIn_app {big a b : List Cond} (ha : GoodIn big a) (hb : GoodIn big b) : GoodIn big (a ++ b) := fun w h => (List.mem_append.mp h).elim (ha w) (hb w)
theorem goodIn_ca {big a b : List Cond} {c : Cond} (ha : GoodIn big (c :: a)) (hb : GoodIn big b) : GoodIn big (c :: (a ++ b)) := fun w h => (List.mem_cons.mp h).elim (fun e => ha w (List.mem_cons.mpr (Or.inl e))) (fun h => (List.mem_append.mp h).elim (fun h => ha w (List.mem_cons.mpr (Or.inr h))) (hb w))
theorem goodIn_sub {big ws : List Cond} (hm : ∀ w ∈ ws, w ∈ big) (h : ws.all goodWord = true) : GoodIn big ws := fun w hw => ⟨hm w hw, good_of_word (List.all_eq_true.mp h w hw)⟩
/-! ===== END ===== -/

/-! ===== BEGIN printed: names, fields, word lists, decode rows ===== -/
def RX0 : String := "SaltPool$Fleet"
def TX0 : u_T := fun k => match k with
  | 0 => ("SaltPool$Fleet", "arrival", "[I", true)
  | 1 => ("SaltPool$Fleet", "room", "[I", true)
  | 2 => ("SaltPool$Fleet", "rate", "[I", true)
  | 3 => ("SaltPool$Fleet", "layDays", "[I", true)
  | 4 => ("SaltPool$Fleet", "due", "[I", true)
  | 5 => ("SaltPool$Fleet", "stowed", "[I", true)
  | 6 => ("SaltPool$Fleet", "stowedLots", "[I", true)
  | _ => ("SaltPool$Fleet", "count", "I", false)
def tyX0 : Nat → FieldType := fun k => match k with
  | 0 => .array .int
  | 1 => .array .int
  | 2 => .array .int
  | 3 => .array .int
  | 4 => .array .int
  | 5 => .array .int
  | 6 => .array .int
  | _ => .int
abbrev wsX00 : List Cond := u_ws RX0 TX0 8
theorem nmX0 : ∀ a, a < 8 → ∀ b, b < 8 → a ≠ b → (TX0 a).2.1 ≠ (TX0 b).2.1 := by decide +kernel
theorem tyX0_ok : ∀ k, k < 8 → parseFieldDescriptor (TX0 k).2.2.1 = some (tyX0 k) := by decide +kernel
abbrev cX0_init : ByteArray := prog_2_method_1_code
def yX0_init : MethodName := ⟨RX0, "<init>", "()V"⟩
abbrev cX0_has : ByteArray := prog_2_method_2_code
def yX0_has : MethodName := ⟨RX0, "has", "(I)Z"⟩
abbrev cX0_add : ByteArray := prog_2_method_3_code
def yX0_add : MethodName := ⟨RX0, "add", "(IIIII)I"⟩
abbrev cX0_freeRoom : ByteArray := prog_2_method_4_code
def yX0_freeRoom : MethodName := ⟨RX0, "freeRoom", "(I)I"⟩
abbrev cX0_stow : ByteArray := prog_2_method_5_code
def yX0_stow : MethodName := ⟨RX0, "stow", "(III)I"⟩
abbrev cX0_stowedOf : ByteArray := prog_2_method_6_code
def yX0_stowedOf : MethodName := ⟨RX0, "stowedOf", "(II)I"⟩
abbrev cX0_turnBehind : ByteArray := prog_2_method_7_code
def yX0_turnBehind : MethodName := ⟨RX0, "turnBehind", "(II)I"⟩
abbrev cX0_loadingDays : ByteArray := prog_2_method_8_code
def yX0_loadingDays : MethodName := ⟨RX0, "loadingDays", "(I)I"⟩
abbrev cX0_costOf : ByteArray := prog_2_method_9_code
def yX0_costOf : MethodName := ⟨RX0, "costOf", "(II)I"⟩
def RX1 : String := "SaltPool$Lots"
def TX1 : u_T := fun k => match k with
  | 0 => ("SaltPool$Lots", "works", "[I", true)
  | 1 => ("SaltPool$Lots", "grade", "[I", true)
  | 2 => ("SaltPool$Lots", "week", "[I", true)
  | 3 => ("SaltPool$Lots", "inPit", "[I", true)
  | 4 => ("SaltPool$Lots", "atPort", "[I", true)
  | 5 => ("SaltPool$Lots", "inHolds", "[I", true)
  | _ => ("SaltPool$Lots", "count", "I", false)
def tyX1 : Nat → FieldType := fun k => match k with
  | 0 => .array .int
  | 1 => .array .int
  | 2 => .array .int
  | 3 => .array .int
  | 4 => .array .int
  | 5 => .array .int
  | _ => .int
abbrev wsX10 : List Cond := u_ws RX1 TX1 7
theorem nmX1 : ∀ a, a < 7 → ∀ b, b < 7 → a ≠ b → (TX1 a).2.1 ≠ (TX1 b).2.1 := by decide +kernel
theorem tyX1_ok : ∀ k, k < 7 → parseFieldDescriptor (TX1 k).2.2.1 = some (tyX1 k) := by decide +kernel
abbrev cX1_init : ByteArray := prog_3_method_1_code
def yX1_init : MethodName := ⟨RX1, "<init>", "()V"⟩
abbrev cX1_has : ByteArray := prog_3_method_2_code
def yX1_has : MethodName := ⟨RX1, "has", "(I)Z"⟩
abbrev cX1_add : ByteArray := prog_3_method_3_code
def yX1_add : MethodName := ⟨RX1, "add", "(IIII)I"⟩
abbrev cX1_moveToPort : ByteArray := prog_3_method_4_code
def yX1_moveToPort : MethodName := ⟨RX1, "moveToPort", "(II)V"⟩
abbrev cX1_moveToHolds : ByteArray := prog_3_method_5_code
def yX1_moveToHolds : MethodName := ⟨RX1, "moveToHolds", "(II)V"⟩
abbrev cX1_sumOf : ByteArray := prog_3_method_6_code
def yX1_sumOf : MethodName := ⟨RX1, "sumOf", "([I)I"⟩
def RX2 : String := "SaltPool$Mole"
def TX2 : u_T := fun k => match k with
  | 0 => ("SaltPool$Mole", "place", "[I", true)
  | 1 => ("SaltPool$Mole", "turn", "[I", true)
  | 2 => ("SaltPool$Mole", "end", "[I", true)
  | 3 => ("SaltPool$Mole", "cost", "[I", true)
  | 4 => ("SaltPool$Mole", "hasOrder", "Z", false)
  | 5 => ("SaltPool$Mole", "order", "[I", true)
  | 6 => ("SaltPool$Mole", "cheapest", "[I", true)
  | _ => ("SaltPool$Mole", "least", "I", false)
def tyX2 : Nat → FieldType := fun k => match k with
  | 0 => .array .int
  | 1 => .array .int
  | 2 => .array .int
  | 3 => .array .int
  | 4 => .boolean
  | 5 => .array .int
  | 6 => .array .int
  | _ => .int
abbrev wsX20 : List Cond := u_ws RX2 TX2 8
theorem nmX2 : ∀ a, a < 8 → ∀ b, b < 8 → a ≠ b → (TX2 a).2.1 ≠ (TX2 b).2.1 := by decide +kernel
theorem tyX2_ok : ∀ k, k < 8 → parseFieldDescriptor (TX2 k).2.2.1 = some (tyX2 k) := by decide +kernel
abbrev cX2_init : ByteArray := prog_4_method_1_code
def yX2_init : MethodName := ⟨RX2, "<init>", "()V"⟩
abbrev cX2_layCheapest : ByteArray := prog_4_method_2_code
def yX2_layCheapest : MethodName := ⟨RX2, "layCheapest", "(LSaltPool$Fleet;LSaltPool$Sea;I)I"⟩
abbrev cX2_seek : ByteArray := prog_4_method_3_code
def yX2_seek : MethodName := ⟨RX2, "seek", "(LSaltPool$Fleet;LSaltPool$Sea;IIII)V"⟩
abbrev cX2_keepCheapest : ByteArray := prog_4_method_4_code
def yX2_keepCheapest : MethodName := ⟨RX2, "keepCheapest", "(LSaltPool$Fleet;LSaltPool$Sea;I)V"⟩
def RX3 : String := "SaltPool$Pool"
def TX3 : u_T := fun k => match k with
  | 0 => ("SaltPool$Pool", "part", "[I", true)
  | 1 => ("SaltPool$Pool", "shipped", "[I", true)
  | 2 => ("SaltPool$Pool", "works", "I", false)
  | 3 => ("SaltPool$Pool", "total", "I", false)
  | 4 => ("SaltPool$Pool", "kind", "[I", true)
  | 5 => ("SaltPool$Pool", "of", "[I", true)
  | 6 => ("SaltPool$Pool", "to", "[I", true)
  | 7 => ("SaltPool$Pool", "sacks", "[I", true)
  | 8 => ("SaltPool$Pool", "week", "[I", true)
  | 9 => ("SaltPool$Pool", "entries", "I", false)
  | 10 => ("SaltPool$Pool", "share", "[I", true)
  | 11 => ("SaltPool$Pool", "rest", "[I", true)
  | _ => ("SaltPool$Pool", "among", "[Z", true)
def tyX3 : Nat → FieldType := fun k => match k with
  | 0 => .array .int
  | 1 => .array .int
  | 2 => .int
  | 3 => .int
  | 4 => .array .int
  | 5 => .array .int
  | 6 => .array .int
  | 7 => .array .int
  | 8 => .array .int
  | 9 => .int
  | 10 => .array .int
  | 11 => .array .int
  | _ => .array .boolean
abbrev wsX30 : List Cond := u_ws RX3 TX3 13
theorem nmX3 : ∀ a, a < 13 → ∀ b, b < 13 → a ≠ b → (TX3 a).2.1 ≠ (TX3 b).2.1 := by decide +kernel
theorem tyX3_ok : ∀ k, k < 13 → parseFieldDescriptor (TX3 k).2.2.1 = some (tyX3 k) := by decide +kernel
abbrev cX3_init : ByteArray := prog_5_method_1_code
def yX3_init : MethodName := ⟨RX3, "<init>", "()V"⟩
abbrev cX3_hasWorks : ByteArray := prog_5_method_2_code
def yX3_hasWorks : MethodName := ⟨RX3, "hasWorks", "(I)Z"⟩
abbrev cX3_addWorks : ByteArray := prog_5_method_3_code
def yX3_addWorks : MethodName := ⟨RX3, "addWorks", "(I)I"⟩
abbrev cX3_addEntry : ByteArray := prog_5_method_4_code
def yX3_addEntry : MethodName := ⟨RX3, "addEntry", "(IIIII)I"⟩
abbrev cX3_takeParts : ByteArray := prog_5_method_5_code
def yX3_takeParts : MethodName := ⟨RX3, "takeParts", "([I)V"⟩
abbrev cX3_unshipped : ByteArray := prog_5_method_6_code
def yX3_unshipped : MethodName := ⟨RX3, "unshipped", "(II)I"⟩
abbrev cX3_isOpen : ByteArray := prog_5_method_7_code
def yX3_isOpen : MethodName := ⟨RX3, "isOpen", "(III)Z"⟩
abbrev cX3_quotaOf : ByteArray := prog_5_method_8_code
def yX3_quotaOf : MethodName := ⟨RX3, "quotaOf", "(III)I"⟩
abbrev cX3_lentTo : ByteArray := prog_5_method_9_code
def yX3_lentTo : MethodName := ⟨RX3, "lentTo", "(III)I"⟩
abbrev cX3_partAmong : ByteArray := prog_5_method_10_code
def yX3_partAmong : MethodName := ⟨RX3, "partAmong", "(I)V"⟩
abbrev cX3_partsAmong : ByteArray := prog_5_method_11_code
def yX3_partsAmong : MethodName := ⟨RX3, "partsAmong", "()I"⟩
abbrev cX3_raiseGreatestRests : ByteArray := prog_5_method_12_code
def yX3_raiseGreatestRests : MethodName := ⟨RX3, "raiseGreatestRests", "(I)V"⟩
def RX4 : String := "SaltPool$Sea"
def TX4 : u_T := fun k => match k with
  | 0 => ("SaltPool$Sea", "surf", "[I", true)
  | 1 => ("SaltPool$Sea", "bar", "I", false)
  | 2 => ("SaltPool$Sea", "loadable", "[I", true)
  | 3 => ("SaltPool$Sea", "loadableBefore", "[I", true)
  | 4 => ("SaltPool$Sea", "loadables", "I", false)
  | _ => ("SaltPool$Sea", "loadsForEver", "Z", false)
def tyX4 : Nat → FieldType := fun k => match k with
  | 0 => .array .int
  | 1 => .int
  | 2 => .array .int
  | 3 => .array .int
  | 4 => .int
  | _ => .boolean
abbrev wsX40 : List Cond := u_ws RX4 TX4 6
theorem nmX4 : ∀ a, a < 6 → ∀ b, b < 6 → a ≠ b → (TX4 a).2.1 ≠ (TX4 b).2.1 := by decide +kernel
theorem tyX4_ok : ∀ k, k < 6 → parseFieldDescriptor (TX4 k).2.2.1 = some (tyX4 k) := by decide +kernel
abbrev cX4_init : ByteArray := prog_6_method_1_code
def yX4_init : MethodName := ⟨RX4, "<init>", "()V"⟩
abbrev cX4_takenOn : ByteArray := prog_6_method_2_code
def yX4_takenOn : MethodName := ⟨RX4, "takenOn", "(I)I"⟩
abbrev cX4_countLoadableDays : ByteArray := prog_6_method_3_code
def yX4_countLoadableDays : MethodName := ⟨RX4, "countLoadableDays", "()V"⟩
abbrev cX4_endFrom : ByteArray := prog_6_method_4_code
def yX4_endFrom : MethodName := ⟨RX4, "endFrom", "(II)I"⟩
def RX5 : String := "SaltPool$Sheet"
def TX5 : u_T := fun k => match k with
  | 0 => ("SaltPool$Sheet", "items", "[I", true)
  | 1 => ("SaltPool$Sheet", "lane", "I", false)
  | _ => ("SaltPool$Sheet", "length", "I", false)
def tyX5 : Nat → FieldType := fun k => match k with
  | 0 => .array .int
  | 1 => .int
  | _ => .int
abbrev wsX50 : List Cond := u_ws RX5 TX5 3
theorem nmX5 : ∀ a, a < 3 → ∀ b, b < 3 → a ≠ b → (TX5 a).2.1 ≠ (TX5 b).2.1 := by decide +kernel
theorem tyX5_ok : ∀ k, k < 3 → parseFieldDescriptor (TX5 k).2.2.1 = some (tyX5 k) := by decide +kernel
abbrev cX5_init : ByteArray := prog_7_method_1_code
def yX5_init : MethodName := ⟨RX5, "<init>", "()V"⟩
abbrev cX5_isNothing : ByteArray := prog_7_method_2_code
def yX5_isNothing : MethodName := ⟨RX5, "isNothing", "()Z"⟩
abbrev cX5_begin : ByteArray := prog_7_method_3_code
def yX5_begin : MethodName := ⟨RX5, "begin", "(II)V"⟩
abbrev cX5_hasItems : ByteArray := prog_7_method_4_code
def yX5_hasItems : MethodName := ⟨RX5, "hasItems", "(II)Z"⟩
abbrev cX5_faultAs : ByteArray := prog_7_method_5_code
def yX5_faultAs : MethodName := ⟨RX5, "faultAs", "(III)I"⟩
abbrev cX5_hasAbove : ByteArray := prog_7_method_6_code
def yX5_hasAbove : MethodName := ⟨RX5, "hasAbove", "(III)Z"⟩
abbrev cX5_put : ByteArray := prog_7_method_7_code
def yX5_put : MethodName := ⟨RX5, "put", "(II)V"⟩
def RX6 : String := "SaltPool$Tape"
def TX6 : u_T := fun k => match k with
  | 0 => ("SaltPool$Tape", "told", "[I", true)
  | 1 => ("SaltPool$Tape", "bytes", "[B", true)
  | 2 => ("SaltPool$Tape", "length", "I", false)
  | _ => ("SaltPool$Tape", "at", "I", false)
def tyX6 : Nat → FieldType := fun k => match k with
  | 0 => .array .int
  | 1 => .array .byte
  | 2 => .int
  | _ => .int
abbrev wsX60 : List Cond := u_ws RX6 TX6 4
theorem nmX6 : ∀ a, a < 4 → ∀ b, b < 4 → a ≠ b → (TX6 a).2.1 ≠ (TX6 b).2.1 := by decide +kernel
theorem tyX6_ok : ∀ k, k < 4 → parseFieldDescriptor (TX6 k).2.2.1 = some (tyX6 k) := by decide +kernel
abbrev cX6_init : ByteArray := prog_8_method_1_code
def yX6_init : MethodName := ⟨RX6, "<init>", "()V"⟩
abbrev cX6_canHold : ByteArray := prog_8_method_2_code
def yX6_canHold : MethodName := ⟨RX6, "canHold", "(JI)Z"⟩
abbrev cX6_byteOf : ByteArray := prog_8_method_3_code
def yX6_byteOf : MethodName := ⟨RX6, "byteOf", "(JI)I"⟩
abbrev cX6_append : ByteArray := prog_8_method_4_code
def yX6_append : MethodName := ⟨RX6, "append", "(JI)I"⟩
abbrev cX6_readPairs : ByteArray := prog_8_method_5_code
def yX6_readPairs : MethodName := ⟨RX6, "readPairs", "(I)I"⟩
abbrev cX6_readPair : ByteArray := prog_8_method_6_code
def yX6_readPair : MethodName := ⟨RX6, "readPair", "(I)Z"⟩
abbrev cX6_readSign : ByteArray := prog_8_method_7_code
def yX6_readSign : MethodName := ⟨RX6, "readSign", "(C)Z"⟩
abbrev cX6_readNumber : ByteArray := prog_8_method_8_code
def yX6_readNumber : MethodName := ⟨RX6, "readNumber", "(II)I"⟩
abbrev cX6_skipBlanks : ByteArray := prog_8_method_9_code
def yX6_skipBlanks : MethodName := ⟨RX6, "skipBlanks", "()V"⟩
def RX7 : String := "SaltPool"
def TX7 : u_T := fun k => match k with
  | 0 => ("SaltPool", "pool", "LSaltPool$Pool;", true)
  | 1 => ("SaltPool", "tape", "LSaltPool$Tape;", true)
  | 2 => ("SaltPool", "lots", "LSaltPool$Lots;", true)
  | 3 => ("SaltPool", "fleet", "LSaltPool$Fleet;", true)
  | 4 => ("SaltPool", "sea", "LSaltPool$Sea;", true)
  | 5 => ("SaltPool", "mole", "LSaltPool$Mole;", true)
  | 6 => ("SaltPool", "sheets", "[LSaltPool$Sheet;", true)
  | _ => ("SaltPool", "now", "I", false)
def tyX7 : Nat → FieldType := fun k => match k with
  | 0 => .object "SaltPool$Pool"
  | 1 => .object "SaltPool$Tape"
  | 2 => .object "SaltPool$Lots"
  | 3 => .object "SaltPool$Fleet"
  | 4 => .object "SaltPool$Sea"
  | 5 => .object "SaltPool$Mole"
  | 6 => .array (.object "SaltPool$Sheet")
  | _ => .int
abbrev wsX70 : List Cond := u_ws RX7 TX7 8
theorem nmX7 : ∀ a, a < 8 → ∀ b, b < 8 → a ≠ b → (TX7 a).2.1 ≠ (TX7 b).2.1 := by decide +kernel
theorem tyX7_ok : ∀ k, k < 8 → parseFieldDescriptor (TX7 k).2.2.1 = some (tyX7 k) := by decide +kernel
abbrev cX7_init : ByteArray := prog_1_method_1_code
def yX7_init : MethodName := ⟨RX7, "<init>", "()V"⟩
abbrev cX7_works : ByteArray := prog_1_method_2_code
def yX7_works : MethodName := ⟨RX7, "works", "(I)I"⟩
abbrev cX7_weeks : ByteArray := prog_1_method_3_code
def yX7_weeks : MethodName := ⟨RX7, "weeks", "(I)I"⟩
abbrev cX7_lot : ByteArray := prog_1_method_4_code
def yX7_lot : MethodName := ⟨RX7, "lot", "(III)I"⟩
abbrev cX7_rail : ByteArray := prog_1_method_5_code
def yX7_rail : MethodName := ⟨RX7, "rail", "(II)I"⟩
abbrev cX7_told : ByteArray := prog_1_method_6_code
def yX7_told : MethodName := ⟨RX7, "told", "(II)I"⟩
abbrev cX7_total : ByteArray := prog_1_method_7_code
def yX7_total : MethodName := ⟨RX7, "total", "(I)I"⟩
abbrev cX7_lend : ByteArray := prog_1_method_8_code
def yX7_lend : MethodName := ⟨RX7, "lend", "(III)I"⟩
abbrev cX7_shut : ByteArray := prog_1_method_9_code
def yX7_shut : MethodName := ⟨RX7, "shut", "(IZI)I"⟩
abbrev cX7_open : ByteArray := prog_1_method_10_code
def yX7_open : MethodName := ⟨RX7, "open", "(III)I"⟩
abbrev cX7_quota : ByteArray := prog_1_method_11_code
def yX7_quota : MethodName := ⟨RX7, "quota", "(III)I"⟩
abbrev cX7_left : ByteArray := prog_1_method_12_code
def yX7_left : MethodName := ⟨RX7, "left", "(I)I"⟩
abbrev cX7_type : ByteArray := prog_1_method_13_code
def yX7_type : MethodName := ⟨RX7, "type", "(JI)I"⟩
abbrev cX7_parts : ByteArray := prog_1_method_14_code
def yX7_parts : MethodName := ⟨RX7, "parts", "()I"⟩
abbrev cX7_ship : ByteArray := prog_1_method_15_code
def yX7_ship : MethodName := ⟨RX7, "ship", "(IIIII)I"⟩
abbrev cX7_load : ByteArray := prog_1_method_16_code
def yX7_load : MethodName := ⟨RX7, "load", "(III)I"⟩
abbrev cX7_held : ByteArray := prog_1_method_17_code
def yX7_held : MethodName := ⟨RX7, "held", "(II)I"⟩
abbrev cX7_grade : ByteArray := prog_1_method_18_code
def yX7_grade : MethodName := ⟨RX7, "grade", "(I)I"⟩
abbrev cX7_surf : ByteArray := prog_1_method_19_code
def yX7_surf : MethodName := ⟨RX7, "surf", "(IIIII)I"⟩
abbrev cX7_sea : ByteArray := prog_1_method_20_code
def yX7_sea : MethodName := ⟨RX7, "sea", "(I)I"⟩
abbrev cX7_bar : ByteArray := prog_1_method_21_code
def yX7_bar : MethodName := ⟨RX7, "bar", "(I)I"⟩
abbrev cX7_lay : ByteArray := prog_1_method_22_code
def yX7_lay : MethodName := ⟨RX7, "lay", "(I)I"⟩
abbrev cX7_laid : ByteArray := prog_1_method_23_code
def yX7_laid : MethodName := ⟨RX7, "laid", "(II)I"⟩
abbrev cX7_count : ByteArray := prog_1_method_24_code
def yX7_count : MethodName := ⟨RX7, "count", "(I)I"⟩
abbrev cX7_sheet : ByteArray := prog_1_method_25_code
def yX7_sheet : MethodName := ⟨RX7, "sheet", "(III)I"⟩
abbrev cX7_drop : ByteArray := prog_1_method_26_code
def yX7_drop : MethodName := ⟨RX7, "drop", "(I)I"⟩
abbrev cX7_item : ByteArray := prog_1_method_27_code
def yX7_item : MethodName := ⟨RX7, "item", "(IIII)I"⟩
abbrev cX7_copy : ByteArray := prog_1_method_28_code
def yX7_copy : MethodName := ⟨RX7, "copy", "(IIIII)I"⟩
abbrev cX7_isWithin : ByteArray := prog_1_method_29_code
def yX7_isWithin : MethodName := ⟨RX7, "isWithin", "(III)Z"⟩
abbrev cX7_isWeek : ByteArray := prog_1_method_30_code
def yX7_isWeek : MethodName := ⟨RX7, "isWeek", "(I)Z"⟩
abbrev cX7_isDay : ByteArray := prog_1_method_31_code
def yX7_isDay : MethodName := ⟨RX7, "isDay", "(I)Z"⟩
abbrev cX7_isSheet : ByteArray := prog_1_method_32_code
def yX7_isSheet : MethodName := ⟨RX7, "isSheet", "(I)Z"⟩
abbrev cX7_isLane : ByteArray := prog_1_method_33_code
def yX7_isLane : MethodName := ⟨RX7, "isLane", "(I)Z"⟩
abbrev cX7_isAsked : ByteArray := prog_1_method_34_code
def yX7_isAsked : MethodName := ⟨RX7, "isAsked", "(III)Z"⟩
def RX8 : String := "SaltPoolModel"
def TX8 : u_T := fun k => match k with
  | 0 => ("SaltPoolModel", "works", "I", false)
  | 1 => ("SaltPoolModel", "parts", "[I", true)
  | 2 => ("SaltPoolModel", "shipped", "[I", true)
  | 3 => ("SaltPoolModel", "now", "I", false)
  | 4 => ("SaltPoolModel", "lots", "I", false)
  | 5 => ("SaltPoolModel", "lotWorks", "[I", true)
  | 6 => ("SaltPoolModel", "grades", "[I", true)
  | 7 => ("SaltPoolModel", "inPit", "[I", true)
  | 8 => ("SaltPoolModel", "atPort", "[I", true)
  | 9 => ("SaltPoolModel", "weeksOf", "[I", true)
  | 10 => ("SaltPoolModel", "total", "I", false)
  | 11 => ("SaltPoolModel", "entries", "I", false)
  | 12 => ("SaltPoolModel", "entryKind", "[I", true)
  | 13 => ("SaltPoolModel", "entryA", "[I", true)
  | 14 => ("SaltPoolModel", "entryB", "[I", true)
  | 15 => ("SaltPoolModel", "entryMany", "[I", true)
  | 16 => ("SaltPoolModel", "entryWeek", "[I", true)
  | 17 => ("SaltPoolModel", "shares", "[J", true)
  | 18 => ("SaltPoolModel", "given", "[Z", true)
  | 19 => ("SaltPoolModel", "tape", "[I", true)
  | 20 => ("SaltPoolModel", "taped", "I", false)
  | 21 => ("SaltPoolModel", "at", "I", false)
  | 22 => ("SaltPoolModel", "wrong", "I", false)
  | 23 => ("SaltPoolModel", "readParts", "[I", true)
  | 24 => ("SaltPoolModel", "ships", "I", false)
  | 25 => ("SaltPoolModel", "days", "[I", true)
  | 26 => ("SaltPoolModel", "rooms", "[I", true)
  | 27 => ("SaltPoolModel", "rates", "[I", true)
  | 28 => ("SaltPoolModel", "lays", "[I", true)
  | 29 => ("SaltPoolModel", "dues", "[I", true)
  | 30 => ("SaltPoolModel", "holds", "[I", true)
  | 31 => ("SaltPoolModel", "surfs", "[I", true)
  | 32 => ("SaltPoolModel", "bar", "I", false)
  | 33 => ("SaltPoolModel", "row", "[I", true)
  | 34 => ("SaltPoolModel", "rowTurn", "[I", true)
  | 35 => ("SaltPoolModel", "rowEnd", "[I", true)
  | 36 => ("SaltPoolModel", "rowCost", "[I", true)
  | 37 => ("SaltPoolModel", "hasLaid", "Z", false)
  | 38 => ("SaltPoolModel", "laidAt", "[I", true)
  | 39 => ("SaltPoolModel", "laidTurn", "[I", true)
  | 40 => ("SaltPoolModel", "laidEnd", "[I", true)
  | 41 => ("SaltPoolModel", "laidCost", "[I", true)
  | 42 => ("SaltPoolModel", "lanes", "[I", true)
  | 43 => ("SaltPoolModel", "sizes", "[I", true)
  | 44 => ("SaltPoolModel", "items", "[I", true)
  | _ => ("SaltPoolModel", "moved", "[I", true)
def tyX8 : Nat → FieldType := fun k => match k with
  | 0 => .int
  | 1 => .array .int
  | 2 => .array .int
  | 3 => .int
  | 4 => .int
  | 5 => .array .int
  | 6 => .array .int
  | 7 => .array .int
  | 8 => .array .int
  | 9 => .array .int
  | 10 => .int
  | 11 => .int
  | 12 => .array .int
  | 13 => .array .int
  | 14 => .array .int
  | 15 => .array .int
  | 16 => .array .int
  | 17 => .array .long
  | 18 => .array .boolean
  | 19 => .array .int
  | 20 => .int
  | 21 => .int
  | 22 => .int
  | 23 => .array .int
  | 24 => .int
  | 25 => .array .int
  | 26 => .array .int
  | 27 => .array .int
  | 28 => .array .int
  | 29 => .array .int
  | 30 => .array .int
  | 31 => .array .int
  | 32 => .int
  | 33 => .array .int
  | 34 => .array .int
  | 35 => .array .int
  | 36 => .array .int
  | 37 => .boolean
  | 38 => .array .int
  | 39 => .array .int
  | 40 => .array .int
  | 41 => .array .int
  | 42 => .array .int
  | 43 => .array .int
  | 44 => .array .int
  | _ => .array .int
abbrev wsX80 : List Cond := u_ws RX8 TX8 46
theorem nmX8 : ∀ a, a < 46 → ∀ b, b < 46 → a ≠ b → (TX8 a).2.1 ≠ (TX8 b).2.1 := by decide +kernel
theorem tyX8_ok : ∀ k, k < 46 → parseFieldDescriptor (TX8 k).2.2.1 = some (tyX8 k) := by decide +kernel
abbrev cX8_in : ByteArray := prog_10_method_2_code
def yX8_in : MethodName := ⟨RX8, "in", "(III)Z"⟩
abbrev cX8_init : ByteArray := prog_10_method_3_code
def yX8_init : MethodName := ⟨RX8, "<init>", "()V"⟩
abbrev cX8_isWorks : ByteArray := prog_10_method_4_code
def yX8_isWorks : MethodName := ⟨RX8, "isWorks", "(I)Z"⟩
abbrev cX8_isLot : ByteArray := prog_10_method_5_code
def yX8_isLot : MethodName := ⟨RX8, "isLot", "(I)Z"⟩
abbrev cX8_works : ByteArray := prog_10_method_6_code
def yX8_works : MethodName := ⟨RX8, "works", "(I)I"⟩
abbrev cX8_weeks : ByteArray := prog_10_method_7_code
def yX8_weeks : MethodName := ⟨RX8, "weeks", "(I)I"⟩
abbrev cX8_lot : ByteArray := prog_10_method_8_code
def yX8_lot : MethodName := ⟨RX8, "lot", "(III)I"⟩
abbrev cX8_rail : ByteArray := prog_10_method_9_code
def yX8_rail : MethodName := ⟨RX8, "rail", "(II)I"⟩
abbrev cX8_inHolds : ByteArray := prog_10_method_10_code
def yX8_inHolds : MethodName := ⟨RX8, "inHolds", "(I)I"⟩
abbrev cX8_told : ByteArray := prog_10_method_11_code
def yX8_told : MethodName := ⟨RX8, "told", "(II)I"⟩
abbrev cX8_total : ByteArray := prog_10_method_12_code
def yX8_total : MethodName := ⟨RX8, "total", "(I)I"⟩
abbrev cX8_entry : ByteArray := prog_10_method_13_code
def yX8_entry : MethodName := ⟨RX8, "entry", "(IIIII)I"⟩
abbrev cX8_isOpen : ByteArray := prog_10_method_14_code
def yX8_isOpen : MethodName := ⟨RX8, "isOpen", "(III)Z"⟩
abbrev cX8_part : ByteArray := prog_10_method_15_code
def yX8_part : MethodName := ⟨RX8, "part", "(JI)V"⟩
abbrev cX8_quotas : ByteArray := prog_10_method_16_code
def yX8_quotas : MethodName := ⟨RX8, "quotas", "(II)V"⟩
abbrev cX8_lend : ByteArray := prog_10_method_17_code
def yX8_lend : MethodName := ⟨RX8, "lend", "(III)I"⟩
abbrev cX8_shut : ByteArray := prog_10_method_18_code
def yX8_shut : MethodName := ⟨RX8, "shut", "(IZI)I"⟩
abbrev cX8_isAsOf : ByteArray := prog_10_method_19_code
def yX8_isAsOf : MethodName := ⟨RX8, "isAsOf", "(III)Z"⟩
abbrev cX8_open : ByteArray := prog_10_method_20_code
def yX8_open : MethodName := ⟨RX8, "open", "(III)I"⟩
abbrev cX8_quota : ByteArray := prog_10_method_21_code
def yX8_quota : MethodName := ⟨RX8, "quota", "(III)I"⟩
abbrev cX8_leftOf : ByteArray := prog_10_method_22_code
def yX8_leftOf : MethodName := ⟨RX8, "leftOf", "(I)I"⟩
abbrev cX8_left : ByteArray := prog_10_method_23_code
def yX8_left : MethodName := ⟨RX8, "left", "(I)I"⟩
abbrev cX8_type : ByteArray := prog_10_method_24_code
def yX8_type : MethodName := ⟨RX8, "type", "(JI)I"⟩
abbrev cX8_next : ByteArray := prog_10_method_25_code
def yX8_next : MethodName := ⟨RX8, "next", "()I"⟩
abbrev cX8_number : ByteArray := prog_10_method_26_code
def yX8_number : MethodName := ⟨RX8, "number", "(II)I"⟩
abbrev cX8_reads : ByteArray := prog_10_method_27_code
def yX8_reads : MethodName := ⟨RX8, "reads", "()I"⟩
abbrev cX8_parts : ByteArray := prog_10_method_28_code
def yX8_parts : MethodName := ⟨RX8, "parts", "()I"⟩
abbrev cX8_isShip : ByteArray := prog_10_method_29_code
def yX8_isShip : MethodName := ⟨RX8, "isShip", "(I)Z"⟩
abbrev cX8_ship : ByteArray := prog_10_method_30_code
def yX8_ship : MethodName := ⟨RX8, "ship", "(IIIII)I"⟩
abbrev cX8_inHold : ByteArray := prog_10_method_31_code
def yX8_inHold : MethodName := ⟨RX8, "inHold", "(I)I"⟩
abbrev cX8_load : ByteArray := prog_10_method_32_code
def yX8_load : MethodName := ⟨RX8, "load", "(III)I"⟩
abbrev cX8_held : ByteArray := prog_10_method_33_code
def yX8_held : MethodName := ⟨RX8, "held", "(II)I"⟩
abbrev cX8_grade : ByteArray := prog_10_method_34_code
def yX8_grade : MethodName := ⟨RX8, "grade", "(I)I"⟩
abbrev cX8_taken : ByteArray := prog_10_method_35_code
def yX8_taken : MethodName := ⟨RX8, "taken", "(I)I"⟩
abbrev cX8_sea : ByteArray := prog_10_method_36_code
def yX8_sea : MethodName := ⟨RX8, "sea", "(I)I"⟩
abbrev cX8_bar : ByteArray := prog_10_method_37_code
def yX8_bar : MethodName := ⟨RX8, "bar", "(I)I"⟩
abbrev cX8_lets : ByteArray := prog_10_method_38_code
def yX8_lets : MethodName := ⟨RX8, "lets", "(I)Z"⟩
abbrev cX8_endOf : ByteArray := prog_10_method_39_code
def yX8_endOf : MethodName := ⟨RX8, "endOf", "(II)I"⟩
abbrev cX8_costOf : ByteArray := prog_10_method_40_code
def yX8_costOf : MethodName := ⟨RX8, "costOf", "(I)I"⟩
abbrev cX8_keep : ByteArray := prog_10_method_41_code
def yX8_keep : MethodName := ⟨RX8, "keep", "(I)V"⟩
abbrev cX8_countsUp : ByteArray := prog_10_method_42_code
def yX8_countsUp : MethodName := ⟨RX8, "countsUp", "(I)Z"⟩
abbrev cX8_swap : ByteArray := prog_10_method_43_code
def yX8_swap : MethodName := ⟨RX8, "swap", "(II)V"⟩
abbrev cX8_lay : ByteArray := prog_10_method_44_code
def yX8_lay : MethodName := ⟨RX8, "lay", "(I)I"⟩
abbrev cX8_laid : ByteArray := prog_10_method_45_code
def yX8_laid : MethodName := ⟨RX8, "laid", "(II)I"⟩
abbrev cX8_count : ByteArray := prog_10_method_46_code
def yX8_count : MethodName := ⟨RX8, "count", "(I)I"⟩
abbrev cX8_isSheet : ByteArray := prog_10_method_47_code
def yX8_isSheet : MethodName := ⟨RX8, "isSheet", "(I)Z"⟩
abbrev cX8_sheet : ByteArray := prog_10_method_48_code
def yX8_sheet : MethodName := ⟨RX8, "sheet", "(III)I"⟩
abbrev cX8_drop : ByteArray := prog_10_method_49_code
def yX8_drop : MethodName := ⟨RX8, "drop", "(I)I"⟩
abbrev cX8_item : ByteArray := prog_10_method_50_code
def yX8_item : MethodName := ⟨RX8, "item", "(IIII)I"⟩
abbrev cX8_isWithin : ByteArray := prog_10_method_51_code
def yX8_isWithin : MethodName := ⟨RX8, "isWithin", "(III)Z"⟩
abbrev cX8_copy : ByteArray := prog_10_method_52_code
def yX8_copy : MethodName := ⟨RX8, "copy", "(IIIII)I"⟩
abbrev cX8_surf : ByteArray := prog_10_method_53_code
def yX8_surf : MethodName := ⟨RX8, "surf", "(IIIII)I"⟩
def RJ6 : String := "java/lang/Integer"
def TJ6 : u_T := fun k => match k with
  | _ => ("", "", "", false)
def tyJ6 : Nat → FieldType := fun k => match k with
  | _ => .int
abbrev wsJ60 : List Cond := u_ws RJ6 TJ6 0
theorem nmJ6 : ∀ a, a < 0 → ∀ b, b < 0 → a ≠ b → (TJ6 a).2.1 ≠ (TJ6 b).2.1 := by decide +kernel
theorem tyJ6_ok : ∀ k, k < 0 → parseFieldDescriptor (TJ6 k).2.2.1 = some (tyJ6 k) := by decide +kernel
abbrev cJ6_bitCount_0f7a4 : ByteArray := prog_11_method_49_code
def yJ6_bitCount_0f7a4 : MethodName := ⟨RJ6, "bitCount", "(I)I"⟩
def RJ9 : String := "java/lang/Math"
def TJ9 : u_T := fun k => match k with
  | _ => ("", "", "", false)
def tyJ9 : Nat → FieldType := fun k => match k with
  | _ => .int
abbrev wsJ90 : List Cond := u_ws RJ9 TJ9 0
theorem nmJ9 : ∀ a, a < 0 → ∀ b, b < 0 → a ≠ b → (TJ9 a).2.1 ≠ (TJ9 b).2.1 := by decide +kernel
theorem tyJ9_ok : ∀ k, k < 0 → parseFieldDescriptor (TJ9 k).2.2.1 = some (tyJ9 k) := by decide +kernel
abbrev cJ9_max_7cf53 : ByteArray := prog_12_method_65_code
def yJ9_max_7cf53 : MethodName := ⟨RJ9, "max", "(II)I"⟩
abbrev cJ9_min_7cf53 : ByteArray := prog_12_method_69_code
def yJ9_min_7cf53 : MethodName := ⟨RJ9, "min", "(II)I"⟩
def RJ10 : String := "java/lang/System"
def TJ10 : u_T := fun k => match k with
  | _ => ("", "", "", false)
def tyJ10 : Nat → FieldType := fun k => match k with
  | _ => .int
abbrev wsJ100 : List Cond := u_ws RJ10 TJ10 0
theorem nmJ10 : ∀ a, a < 0 → ∀ b, b < 0 → a ≠ b → (TJ10 a).2.1 ≠ (TJ10 b).2.1 := by decide +kernel
theorem tyJ10_ok : ∀ k, k < 0 → parseFieldDescriptor (TJ10 k).2.2.1 = some (tyJ10 k) := by decide +kernel
def RJ7 : String := "java/util/Arrays"
def TJ7 : u_T := fun k => match k with
  | _ => ("", "", "", false)
def tyJ7 : Nat → FieldType := fun k => match k with
  | _ => .int
abbrev wsJ70 : List Cond := u_ws RJ7 TJ7 0
theorem nmJ7 : ∀ a, a < 0 → ∀ b, b < 0 → a ≠ b → (TJ7 a).2.1 ≠ (TJ7 b).2.1 := by decide +kernel
theorem tyJ7_ok : ∀ k, k < 0 → parseFieldDescriptor (TJ7 k).2.2.1 = some (tyJ7 k) := by decide +kernel
abbrev cJ7_fill_53178 : ByteArray := prog_14_method_103_code
def yJ7_fill_53178 : MethodName := ⟨RJ7, "fill", "([II)V"⟩
def RL : String := "SaltPoolLaw"
abbrev cL_law : ByteArray := code
def yL_law : MethodName := ⟨RL, "law", "([I)Z"⟩
abbrev vwCl : List vw_C := [(RX0, TX0, 8), (RX1, TX1, 7), (RX2, TX2, 8), (RX3, TX3, 13), (RX4, TX4, 6), (RX5, TX5, 3), (RX6, TX6, 4), (RX7, TX7, 8), (RX8, TX8, 46)]
end
section
/-! A small machine over a shape of cells that stays: values, places, a step as a condition; its steps are steps of the machine -/
abbrev mv_V : Type := Int32 ⊕ (Int64 ⊕ Nat)
abbrev mv_L : Type := List (Option mv_V)
abbrev mv_I : Type := Nat → Nat → Int32
abbrev mv_J : Type := Nat → Nat → Int64
abbrev mv_Q : Type := Option mv_V → mv_I → mv_J → Prop
abbrev mv_K : Type := Nat → mv_L → List mv_V → mv_I → mv_J → Prop
/-- a cell's shape: an object (its number, its fields: a cell, or an int), or a row (0 ints, 1 longs, 2 bytes, 3 booleans, 4 cells; its length) -/
abbrev mv_E : Type := (Nat × List (Option Nat)) ⊕ (Nat × Nat)
/-- an instruction, the place behind it, where it jumps to, its number -/
abbrev mv_R : Type := Instr × Nat × Nat × Int32 × Int64
def mv_val (ad : Nat → Nat) : mv_V → Value
  | .inl x => .int x
  | .inr (.inl x) => .long x
  | .inr (.inr k) => .ref (ad k)
def mv_cat : mv_V → Nat
  | .inl _ => 1
  | .inr (.inl _) => 2
  | .inr (.inr _) => 1
theorem mv_cat_val (ad : Nat → Nat) (v : mv_V) : (mv_val ad v).category = mv_cat v := by rcases v with x | x | x <;> rfl
def mv_nth {α : Type} : Nat → List α → Option α
  | _, [] => none
  | 0, a :: _ => some a
  | n + 1, _ :: t => mv_nth n t
theorem mv_nth_eq {α : Type} : ∀ (n : Nat) (l : List α), mv_nth n l = l[n]?
  | _, [] => by simp [mv_nth]
  | 0, a :: t => by simp [mv_nth]
  | n + 1, a :: t => by simp [mv_nth, mv_nth_eq n t]
/-! the world -/
def mv_fs (ad : Nat → Nat) (f : Nat → Int32) : Nat → List (Option Nat) → List Value
  | _, [] => []
  | j, some r :: t => .ref (ad r) :: mv_fs ad f (j + 1) t
  | j, none :: t => .int (f j) :: mv_fs ad f (j + 1) t
def mv_sc (j : Nat) : Nat := 8 + j
def mv_row (ad : Nat → Nat) (f : Nat → Int32) (g : Nat → Int64) : Nat → ((Nat → Int32) ⊕ (Nat → Int64) ⊕ (Nat → UInt32) ⊕ (Nat → UInt64) ⊕ (Nat → Option Nat))
  | 1 => .inr (.inl g)
  | 4 => .inr (.inr (.inr (.inr (fun j => some (ad (mv_sc j))))))
  | _ => .inl f
def mv_cell (cy : Nat → ClassId) (ad : Nat → Nat) (I : mv_I) (J : mv_J) (k : Nat) (e : mv_E) : va_E := match e with
  | .inl o => .inr (o.1, mv_fs ad (I k) 0 o.2)
  | .inr a => .inl (cy a.1, a.2, mv_row ad (I k) (J k) a.1)
def mv_wsg (cy : Nat → ClassId) (ad : Nat → Nat) (I : mv_I) (J : mv_J) : Nat → List mv_E → va_W
  | _, [] => []
  | k, e :: t => (ad k, mv_cell cy ad I J k e) :: mv_wsg cy ad I J (k + 1) t
abbrev mv_ws (cy : Nat → ClassId) (ad : Nat → Nat) (sh : List mv_E) (I : mv_I) (J : mv_J) : va_W := mv_wsg cy ad I J 0 sh
theorem mv_wsg_get (cy : Nat → ClassId) (ad : Nat → Nat) (I : mv_I) (J : mv_J) : ∀ (sh : List mv_E) (k j : Nat), (mv_wsg cy ad I J k sh)[j]? = (mv_nth j sh).map (fun e => (ad (k + j), mv_cell cy ad I J (k + j) e))
  | [], k, j => by simp [mv_wsg, mv_nth]
  | e :: t, k, 0 => by simp [mv_wsg, mv_nth]
  | e :: t, k, j + 1 => by
    have h := mv_wsg_get cy ad I J t (k + 1) j
    simp only [mv_wsg, mv_nth, List.getElem?_cons_succ]
    rw [h, show k + 1 + j = k + (j + 1) by omega]
theorem mv_ws_get {cy : Nat → ClassId} {ad : Nat → Nat} {I : mv_I} {J : mv_J} {sh : List mv_E} {a : Nat} {e : mv_E} (h : mv_nth a sh = some e) : (mv_ws cy ad sh I J)[a]? = some (ad a, mv_cell cy ad I J a e) := by
  rw [mv_wsg_get, h]
  simp
theorem mv_ws_set {cy : Nat → ClassId} {ad : Nat → Nat} {I I' : mv_I} {J J' : mv_J} {sh : List mv_E} {a : Nat} {e : mv_E} (h : mv_nth a sh = some e) (hI : ∀ j, j ≠ a → I' j = I j) (hJ : ∀ j, j ≠ a → J' j = J j) :
    (mv_ws cy ad sh I J).set a (ad a, mv_cell cy ad I' J' a e) = mv_ws cy ad sh I' J' := by
  apply List.ext_getElem?
  intro j
  rw [List.getElem?_set, mv_wsg_get, mv_wsg_get]
  by_cases hj : a = j
  · subst hj
    have hl : a < (mv_ws cy ad sh I J).length := (List.getElem?_eq_some_iff.mp (mv_ws_get (cy := cy) (ad := ad) (I := I) (J := J) h)).1
    rw [if_pos rfl, h]
    simp [hl]
  · rw [if_neg hj]
    cases mv_nth j sh with
    | none => rfl
    | some e =>
      have h1 := hI j (fun q => hj q.symm)
      have h2 := hJ j (fun q => hj q.symm)
      rcases e with o | o <;> simp [mv_cell, h1, h2]
theorem mv_ws_at {cy : Nat → ClassId} {ad : Nat → Nat} {I : mv_I} {J : mv_J} {sh : List mv_E} {j : Nat} {q : Nat × va_E} (h : (mv_ws cy ad sh I J)[j]? = some q) : q.1 = ad j ∧ ∃ e, mv_nth j sh = some e := by
  rw [mv_wsg_get] at h
  cases he : mv_nth j sh with
  | none => rw [he] at h; cases h
  | some e =>
    rw [he] at h
    have := (Option.some.inj h).symm
    subst this
    exact ⟨by simp, e, rfl⟩
theorem mv_D_any {cy : Nat → ClassId} {ad : Nat → Nat} {sh : List mv_E} {A : Nat → Prop} {I I' : mv_I} {J J' : mv_J} (h : va_D A (mv_ws cy ad sh I J)) : va_D A (mv_ws cy ad sh I' J') := by
  have key : ∀ (k : Nat) (q : Nat × va_E), (mv_ws cy ad sh I' J')[k]? = some q → ∃ q0, (mv_ws cy ad sh I J)[k]? = some q0 ∧ q0.1 = q.1 := by
    intro k q hq
    obtain ⟨h1, e, he⟩ := mv_ws_at hq
    exact ⟨_, mv_ws_get he, h1.symm⟩
  refine ⟨fun i j p q hp hq hpq => ?_, fun k q hq => ?_⟩
  · obtain ⟨p0, e1, e2⟩ := key i p hp
    obtain ⟨q0, e3, e4⟩ := key j q hq
    exact h.1 i j p0 q0 e1 e3 (by rw [e2, e4]; exact hpq)
  · obtain ⟨q0, e3, e4⟩ := key k q hq
    rw [← e4]
    exact h.2 k q0 e3
def mv_tys (cy : Nat → ClassId) : List (ClassId × FieldType) := [(cy 0, .int), (cy 1, .long), (cy 2, .byte), (cy 3, .boolean), (cy 4, .object "SaltPool$Sheet")]
/-! places and stacks, with what goes on behind them -/
def mv_asI (v : mv_V) (f : Int32 → Prop) : Prop := match v with
  | .inl x => f x
  | .inr _ => False
def mv_asL (v : mv_V) (f : Int64 → Prop) : Prop := match v with
  | .inr (.inl x) => f x
  | _ => False
def mv_asA (v : mv_V) (f : Nat → Prop) : Prop := match v with
  | .inr (.inr x) => f x
  | _ => False
theorem mv_asI_inv {v : mv_V} {f : Int32 → Prop} (h : mv_asI v f) : ∃ x, v = .inl x ∧ f x := by
  rcases v with x | x | x
  · exact ⟨x, rfl, h⟩
  · exact h.elim
  · exact h.elim
theorem mv_asL_inv {v : mv_V} {f : Int64 → Prop} (h : mv_asL v f) : ∃ x, v = .inr (.inl x) ∧ f x := by
  rcases v with x | x | x
  · exact h.elim
  · exact ⟨x, rfl, h⟩
  · exact h.elim
theorem mv_asA_inv {v : mv_V} {f : Nat → Prop} (h : mv_asA v f) : ∃ x, v = .inr (.inr x) ∧ f x := by
  rcases v with x | x | x
  · exact h.elim
  · exact h.elim
  · exact ⟨x, rfl, h⟩
def mv_pI (st : List mv_V) (f : Int32 → List mv_V → Prop) : Prop := match st with
  | v :: r => mv_asI v (fun x => f x r)
  | [] => False
def mv_pL (st : List mv_V) (f : Int64 → List mv_V → Prop) : Prop := match st with
  | v :: r => mv_asL v (fun x => f x r)
  | [] => False
def mv_pA (st : List mv_V) (f : Nat → List mv_V → Prop) : Prop := match st with
  | v :: r => mv_asA v (fun x => f x r)
  | [] => False
theorem mv_pI_inv {st : List mv_V} {f : Int32 → List mv_V → Prop} (h : mv_pI st f) : ∃ x r, st = .inl x :: r ∧ f x r := by
  cases st with
  | nil => exact h.elim
  | cons v r => obtain ⟨x, rfl, h⟩ := mv_asI_inv h; exact ⟨x, r, rfl, h⟩
theorem mv_pL_inv {st : List mv_V} {f : Int64 → List mv_V → Prop} (h : mv_pL st f) : ∃ x r, st = .inr (.inl x) :: r ∧ f x r := by
  cases st with
  | nil => exact h.elim
  | cons v r => obtain ⟨x, rfl, h⟩ := mv_asL_inv h; exact ⟨x, r, rfl, h⟩
theorem mv_pA_inv {st : List mv_V} {f : Nat → List mv_V → Prop} (h : mv_pA st f) : ∃ x r, st = .inr (.inr x) :: r ∧ f x r := by
  cases st with
  | nil => exact h.elim
  | cons v r => obtain ⟨x, rfl, h⟩ := mv_asA_inv h; exact ⟨x, r, rfl, h⟩
def mv_get : Nat → mv_L → (mv_V → Prop) → Prop
  | 0, some v :: _, f => f v
  | n + 1, _ :: t, f => mv_get n t f
  | _, _, _ => False
theorem mv_get_inv : ∀ {i : Nat} {ls : mv_L} {f : mv_V → Prop}, mv_get i ls f → ∃ v, mv_nth i ls = some (some v) ∧ f v
  | 0, [], _, h => h.elim
  | 0, none :: _, _, h => h.elim
  | 0, some v :: _, _, h => ⟨v, rfl, h⟩
  | _ + 1, [], _, h => h.elim
  | n + 1, _ :: t, _, h => mv_get_inv (i := n) (ls := t) h
def mv_set0 (v : mv_V) (t : mv_L) (f : mv_L → Prop) : Prop := match v with
  | .inl x => f (some (.inl x) :: t)
  | .inr (.inr x) => f (some (.inr (.inr x)) :: t)
  | .inr (.inl x) => (match t with
    | _ :: t' => f (some (.inr (.inl x)) :: none :: t')
    | [] => False)
def mv_dr (h : Option mv_V) (f : Option mv_V → Prop) : Prop := match h with
  | some (.inr (.inl _)) => f none
  | some (.inl x) => f (some (.inl x))
  | some (.inr (.inr x)) => f (some (.inr (.inr x)))
  | none => f none
def mv_set : Nat → mv_V → mv_L → (mv_L → Prop) → Prop
  | 0, v, _ :: t, f => mv_set0 v t f
  | 1, v, h :: t, f => mv_set 0 v t (fun t' => mv_dr h (fun h' => f (h' :: t')))
  | n + 2, v, h :: t, f => mv_set (n + 1) v t (fun t' => f (h :: t'))
  | _, _, [], _ => False
theorem mv_dr_inv {h : Option mv_V} {f : Option mv_V → Prop} (k : mv_dr h f) : ∃ h', f h' ∧ ∀ w, h' = some w → h = some w ∧ mv_cat w ≠ 2 := by
  rcases h with _ | x | x | x
  · exact ⟨none, k, fun w e => by cases e⟩
  · exact ⟨_, k, fun w e => by cases e; exact ⟨rfl, fun q => by cases q⟩⟩
  · exact ⟨none, k, fun w e => by cases e⟩
  · exact ⟨_, k, fun w e => by cases e; exact ⟨rfl, fun q => by cases q⟩⟩
def mv_setR (i : Nat) (v : mv_V) (ls ls' : mv_L) : Prop := ls'.length = ls.length ∧ i < ls.length ∧ (mv_cat v = 2 → i + 1 < ls.length) ∧ ∀ j w, mv_nth j ls' = some (some w) → (j = i ∧ w = v) ∨ (mv_nth j ls = some (some w) ∧ j ≠ i ∧ ¬ (j + 1 = i ∧ mv_cat w = 2) ∧ ¬ (mv_cat v = 2 ∧ j = i + 1))
theorem mv_set0_inv {v : mv_V} {h : Option mv_V} {t : mv_L} {f : mv_L → Prop} (k : mv_set0 v t f) : ∃ ls', f ls' ∧ mv_setR 0 v (h :: t) ls' := by
  rcases v with x | x | x
  · refine ⟨_, k, rfl, by simp, fun e => (by cases e), fun j w hj => ?_⟩
    cases j with
    | zero => exact Or.inl ⟨rfl, (Option.some.inj (Option.some.inj hj)).symm⟩
    | succ j => exact Or.inr ⟨hj, by omega, by omega, fun e => by cases e.1⟩
  · cases t with
    | nil => exact k.elim
    | cons h2 t =>
      refine ⟨_, k, rfl, by simp, fun _ => by simp, fun j w hj => ?_⟩
      match j, hj with
      | 0, hj => exact Or.inl ⟨rfl, (Option.some.inj (Option.some.inj hj)).symm⟩
      | 1, hj => cases hj
      | j + 2, hj => exact Or.inr ⟨hj, by omega, by omega, by omega⟩
  · refine ⟨_, k, rfl, by simp, fun e => (by cases e), fun j w hj => ?_⟩
    cases j with
    | zero => exact Or.inl ⟨rfl, (Option.some.inj (Option.some.inj hj)).symm⟩
    | succ j => exact Or.inr ⟨hj, by omega, by omega, fun e => by cases e.1⟩
theorem mv_set_inv : ∀ {i : Nat} {v : mv_V} {ls : mv_L} {f : mv_L → Prop}, mv_set i v ls f → ∃ ls', f ls' ∧ mv_setR i v ls ls'
  | 0, v, [], f, k => k.elim
  | 0, v, h :: t, f, k => mv_set0_inv k
  | 1, v, [], f, k => k.elim
  | 1, v, h :: t, f, k => by
    obtain ⟨t', k, e1, e2, e3, e4⟩ := mv_set_inv (i := 0) (v := v) (ls := t) k
    obtain ⟨h', k, eh⟩ := mv_dr_inv k
    refine ⟨_, k, by simp [e1], by simp; omega, fun c => by have := e3 c; simp; omega, fun j w hj => ?_⟩
    cases j with
    | zero =>
      have q := eh w (Option.some.inj hj)
      exact Or.inr ⟨by rw [q.1]; rfl, by omega, fun z => q.2 z.2, by omega⟩
    | succ j =>
      rcases e4 j w hj with ⟨z1, z2⟩ | ⟨z1, z2, z3, z4⟩
      · exact Or.inl ⟨by omega, z2⟩
      · exact Or.inr ⟨z1, by omega, fun z => by omega, fun z => z4 ⟨z.1, by omega⟩⟩
  | n + 2, v, [], f, k => k.elim
  | n + 2, v, h :: t, f, k => by
    obtain ⟨t', k, e1, e2, e3, e4⟩ := mv_set_inv (i := n + 1) (v := v) (ls := t) k
    refine ⟨_, k, by simp [e1], by simp; omega, fun c => by have := e3 c; simp; omega, fun j w hj => ?_⟩
    cases j with
    | zero => exact Or.inr ⟨hj, by omega, by omega, by omega⟩
    | succ j =>
      rcases e4 j w hj with ⟨z1, z2⟩ | ⟨z1, z2, z3, z4⟩
      · exact Or.inl ⟨by omega, z2⟩
      · exact Or.inr ⟨z1, by omega, fun z => z3 ⟨by omega, z.2⟩, fun z => z4 ⟨z.1, by omega⟩⟩
def mv_prs (ad : Nat → Nat) : Nat → mv_L → List (Nat × Value)
  | _, [] => []
  | j, none :: t => mv_prs ad (j + 1) t
  | j, some v :: t => (j, mv_val ad v) :: mv_prs ad (j + 1) t
theorem mv_prs_in (ad : Nat → Nat) : ∀ (ls : mv_L) (k j : Nat) (w : mv_V), mv_nth j ls = some (some w) → (k + j, mv_val ad w) ∈ mv_prs ad k ls
  | [], _, _, _, h => by simp [mv_nth] at h
  | none :: t, k, 0, w, h => by cases h
  | some v :: t, k, 0, w, h => by
    have : v = w := Option.some.inj (Option.some.inj h)
    subst this
    exact List.mem_cons_self
  | none :: t, k, j + 1, w, h => by
    have := mv_prs_in ad t (k + 1) j w h
    rw [show k + (j + 1) = k + 1 + j by omega]
    exact this
  | some v :: t, k, j + 1, w, h => by
    have := mv_prs_in ad t (k + 1) j w h
    rw [show k + (j + 1) = k + 1 + j by omega]
    exact List.mem_cons_of_mem _ this
theorem mv_prs_of (ad : Nat → Nat) : ∀ (ls : mv_L) (k : Nat) (q : Nat × Value), q ∈ mv_prs ad k ls → ∃ j w, mv_nth j ls = some (some w) ∧ q = (k + j, mv_val ad w)
  | [], _, _, h => by cases h
  | none :: t, k, q, h => by
    obtain ⟨j, w, h1, h2⟩ := mv_prs_of ad t (k + 1) q h
    exact ⟨j + 1, w, h1, by rw [h2, show k + 1 + j = k + (j + 1) by omega]⟩
  | some v :: t, k, q, h => by
    rcases List.mem_cons.mp h with h | h
    · exact ⟨0, v, rfl, h⟩
    · obtain ⟨j, w, h1, h2⟩ := mv_prs_of ad t (k + 1) q h
      exact ⟨j + 1, w, h1, by rw [h2, show k + 1 + j = k + (j + 1) by omega]⟩
def mv_LS (ad : Nat → Nat) (ls : mv_L) (arr : Array Slot) : Prop := arr.size = ls.length ∧ lv_wf arr ∧ ∀ j w, mv_nth j ls = some (some w) → arr[j]? = some (.val (mv_val ad w))
theorem mv_LS.has {ad : Nat → Nat} {ls : mv_L} {arr : Array Slot} (h : mv_LS ad ls arr) : lv_has arr ls.length (mv_prs ad 0 ls) := by
  refine ⟨h.1, h.2.1, fun q hq => ?_⟩
  obtain ⟨j, w, h1, rfl⟩ := mv_prs_of ad ls 0 q hq
  rw [show (0 + j, mv_val ad w).1 = j by simp]
  exact h.2.2 j w h1
theorem mv_LS.set1 {ad : Nat → Nat} {ls ls' : mv_L} {i : Nat} {v : mv_V} (hc : mv_cat v = 1) (hr : mv_setR i v ls ls') {arr' : Array Slot} (h : lv_has arr' ls.length ((i, mv_val ad v) :: (mv_prs ad 0 ls).filter (fun q => !(q.1 == i) && !(q.1 + 1 == i && q.2.category == 2)))) : mv_LS ad ls' arr' := by
  refine ⟨by rw [hr.1]; exact h.1, h.2.1, fun j w hj => ?_⟩
  rcases hr.2.2.2 j w hj with ⟨rfl, rfl⟩ | ⟨h1, h2, h3, -⟩
  · exact h.2.2 _ List.mem_cons_self
  · refine h.2.2 (j, mv_val ad w) (List.mem_cons_of_mem _ (List.mem_filter.mpr ⟨?_, ?_⟩))
    · have := mv_prs_in ad ls 0 j w h1
      rwa [Nat.zero_add] at this
    · simp only [mv_cat_val, Bool.and_eq_true, Bool.not_eq_true', beq_eq_false_iff_ne, Bool.and_eq_false_imp, beq_iff_eq]
      exact ⟨h2, fun e c => h3 ⟨e, c⟩⟩
theorem mv_LS.set2 {ad : Nat → Nat} {ls ls' : mv_L} {i : Nat} {v : mv_V} (hc : mv_cat v = 2) (hr : mv_setR i v ls ls') {arr' : Array Slot} (h : lv_has arr' ls.length ((i, mv_val ad v) :: (mv_prs ad 0 ls).filter (fun q => !(q.1 == i) && (!(q.1 == i + 1) && !(q.1 + 1 == i && q.2.category == 2))))) : mv_LS ad ls' arr' := by
  refine ⟨by rw [hr.1]; exact h.1, h.2.1, fun j w hj => ?_⟩
  rcases hr.2.2.2 j w hj with ⟨rfl, rfl⟩ | ⟨h1, h2, h3, h4⟩
  · exact h.2.2 _ List.mem_cons_self
  · refine h.2.2 (j, mv_val ad w) (List.mem_cons_of_mem _ (List.mem_filter.mpr ⟨?_, ?_⟩))
    · have := mv_prs_in ad ls 0 j w h1
      rwa [Nat.zero_add] at this
    · simp only [mv_cat_val, Bool.and_eq_true, Bool.not_eq_true', beq_eq_false_iff_ne, Bool.and_eq_false_imp, beq_iff_eq]
      exact ⟨h2, fun e => h4 ⟨hc, e⟩, fun e c => h3 ⟨e, c⟩⟩
/-! a step -/
def mv_if (c : Jvm.ClassFile.Cond) (x : Int32) (A B : Prop) : Prop := match c with
  | .eq => (x = 0 → A) ∧ (¬ x = 0 → B)
  | .ne => (¬ x = 0 → A) ∧ (x = 0 → B)
  | .lt => (x < 0 → A) ∧ (¬ x < 0 → B)
  | .ge => (0 ≤ x → A) ∧ (¬ 0 ≤ x → B)
  | .gt => (0 < x → A) ∧ (¬ 0 < x → B)
  | .le => (x ≤ 0 → A) ∧ (¬ x ≤ 0 → B)
def mv_ic (c : Jvm.ClassFile.Cond) (x y : Int32) (A B : Prop) : Prop := match c with
  | .eq => (x = y → A) ∧ (¬ x = y → B)
  | .ne => (¬ x = y → A) ∧ (x = y → B)
  | .lt => (x < y → A) ∧ (¬ x < y → B)
  | .ge => (y ≤ x → A) ∧ (¬ y ≤ x → B)
  | .gt => (y < x → A) ∧ (¬ y < x → B)
  | .le => (x ≤ y → A) ∧ (¬ x ≤ y → B)
def mv_sw (x : Int32) (f : Nat → Prop) (pc : Nat) : Int → List Int → Prop
  | _, [] => True
  | lo, o :: os => (x.toInt = lo → f (Int.toNat ((pc : Int) + o))) ∧ mv_sw x f pc (lo + 1) os
theorem mv_sw_at {x : Int32} {f : Nat → Prop} {pc : Nat} : ∀ {lo : Int} {os : List Int}, mv_sw x f pc lo os → ∀ (j : Nat) (o : Int), os[j]? = some o → x.toInt = lo + (j : Int) → f (Int.toNat ((pc : Int) + o))
  | _, [], _, j, o, h, _ => by simp at h
  | lo, o' :: os, k, 0, o, h, e => by
    have : o' = o := by simpa using h
    subst this
    exact k.1 (by simpa using e)
  | lo, o' :: os, k, j + 1, o, h, e => mv_sw_at k.2 j o (by simpa using h) (by rw [e]; omega)
def mv_obj (e : mv_E) (ci fi : Nat) (fR : Nat → Prop) (fI : Prop) : Prop := match e with
  | .inl o => bif Nat.beq ci o.1 then (match mv_nth fi o.2 with
    | some (some r) => fR r
    | some none => fI
    | none => False) else False
  | .inr _ => False
def mv_is (e : mv_E) (ci : Nat) (P : Prop) : Prop := match e with
  | .inl o => bif Nat.beq ci o.1 then P else False
  | .inr _ => False
def mv_arr (e : mv_E) (f : Nat → Nat → Prop) : Prop := match e with
  | .inr (t, n) => f t n
  | .inl _ => False
def mv_at (sh : List mv_E) (a : Nat) (f : mv_E → Prop) : Prop := match mv_nth a sh with
  | some e => f e
  | none => False
def mv_pop : Nat → List mv_V → List mv_V → (List mv_V → List mv_V → Prop) → Prop
  | 0, st, acc, f => f acc st
  | n + 1, v :: st, acc, f => mv_pop n st (v :: acc) f
  | _ + 1, [], _, _ => False
def mv_cs : List mv_V → Nat
  | [] => 0
  | v :: t => mv_cat v + mv_cs t
def mv_hd (l : List mv_V) (f : Nat → Prop) : Prop := match l with
  | v :: _ => mv_asA v f
  | [] => False
/-- which int fields are booleans -/
def mv_isZ (ci fi : Nat) : Bool := (Nat.beq ci 2 && Nat.beq fi 4) || (Nat.beq ci 4 && Nat.beq fi 5) || (Nat.beq ci 8 && Nat.beq fi 37)
def mv_back (k : mv_K) (nx : Nat) (ls : mv_L) (st : List mv_V) : mv_Q := fun r I J => match r with
  | some v => k nx ls (v :: st) I J
  | none => k nx ls st I J
def mv_static (call : Nat → List mv_V → mv_I → mv_J → mv_Q → Prop) (sh : List mv_E) (mid na nx : Nat) (ls : mv_L) (st : List mv_V) (I : mv_I) (J : mv_J) (k : mv_K) : Prop := match mid with
  | 1000 => mv_pI st fun y r => mv_pI r fun x r => bif Nat.ble (mv_cs r) 8 then k nx ls (.inl (if x < y then y else x) :: r) I J else False
  | 1001 => mv_pI st fun y r => mv_pI r fun x r => bif Nat.ble (mv_cs r) 8 then k nx ls (.inl (if y < x then y else x) :: r) I J else False
  | 1002 => mv_pI st fun n r => mv_pI r fun dp r => mv_pA r fun a r => mv_pI r fun sp r => mv_pA r fun a0 r => bif Nat.ble (mv_cs r) 8 then mv_at sh a0 (fun e0 => mv_arr e0 fun t0 n0 => mv_at sh a (fun e => mv_arr e fun t1 n1 => bif Nat.beq t0 0 && Nat.beq t1 0 then (¬ sp < 0 ∧ ¬ dp < 0 ∧ ¬ n < 0 ∧ sp.toNatClampNeg + n.toNatClampNeg ≤ n0 ∧ dp.toNatClampNeg + n.toNatClampNeg ≤ n1 ∧ k nx ls r (va_up I a (va_cpy (I a0) (I a) sp.toNatClampNeg dp.toNatClampNeg n.toNatClampNeg)) J) else False)) else False
  | mid => mv_pop na st [] fun as r => bif Nat.ble (mv_cs r) 8 then call mid as I J (mv_back k nx ls r) else False
/-- what a method gives back: 0 nothing, 1 an int, 2 a boolean -/
def mv_rq (rb : Nat) (x : Int32) (P : Prop) : Prop := match rb with
  | 1 => P
  | 2 => (x = 0 ∨ x = 1) ∧ P
  | _ => False
def mv_rv (rb : Nat) (P : Prop) : Prop := match rb with
  | 0 => P
  | _ => False
def mv_step (call : Nat → List mv_V → mv_I → mv_J → mv_Q → Prop) (sh : List mv_E) (X : Option (Nat × (Nat → Int32))) (fl : Nat → Option (Nat × Nat)) (cs : Nat → Option (Nat × Nat × Nat)) (rb : Nat) (pc : Nat) (i : Instr) (nx tg : Nat) (cst : Int32) (cl : Int64) (ls : mv_L) (st : List mv_V) (I : mv_I) (J : mv_J) (k : mv_K) (Q : mv_Q) : Prop :=
  match i with
  | .iload_n n => mv_get n.val ls fun v => mv_asI v fun x => k nx ls (.inl x :: st) I J
  | .iload n => mv_get n ls fun v => mv_asI v fun x => k nx ls (.inl x :: st) I J
  | .lload_n n => mv_get n.val ls fun v => mv_asL v fun x => k nx ls (.inr (.inl x) :: st) I J
  | .lload n => mv_get n ls fun v => mv_asL v fun x => k nx ls (.inr (.inl x) :: st) I J
  | .aload_n n => mv_get n.val ls fun v => mv_asA v fun x => k nx ls (.inr (.inr x) :: st) I J
  | .aload n => mv_get n ls fun v => mv_asA v fun x => k nx ls (.inr (.inr x) :: st) I J
  | .istore_n n => mv_pI st fun x r => mv_set n.val (.inl x) ls fun ls => k nx ls r I J
  | .istore n => mv_pI st fun x r => mv_set n (.inl x) ls fun ls => k nx ls r I J
  | .lstore_n n => mv_pL st fun x r => mv_set n.val (.inr (.inl x)) ls fun ls => k nx ls r I J
  | .lstore n => mv_pL st fun x r => mv_set n (.inr (.inl x)) ls fun ls => k nx ls r I J
  | .astore_n n => mv_pA st fun x r => mv_set n.val (.inr (.inr x)) ls fun ls => k nx ls r I J
  | .astore n => mv_pA st fun x r => mv_set n (.inr (.inr x)) ls fun ls => k nx ls r I J
  | .iinc n _ => mv_get n ls fun v => mv_asI v fun x => mv_set n (.inl (x + cst)) ls fun ls => k nx ls st I J
  | .iconst _ => k nx ls (.inl cst :: st) I J
  | .bipush _ => k nx ls (.inl cst :: st) I J
  | .sipush _ => k nx ls (.inl cst :: st) I J
  | .ldc _ => k nx ls (.inl cst :: st) I J
  | .ldc_w _ => k nx ls (.inl cst :: st) I J
  | .lconst _ => k nx ls (.inr (.inl cl) :: st) I J
  | .ldc2_w _ => k nx ls (.inr (.inl cl) :: st) I J
  | .iadd => mv_pI st fun y r => mv_pI r fun x r => k nx ls (.inl (x + y) :: r) I J
  | .isub => mv_pI st fun y r => mv_pI r fun x r => k nx ls (.inl (x - y) :: r) I J
  | .imul => mv_pI st fun y r => mv_pI r fun x r => k nx ls (.inl (x * y) :: r) I J
  | .iand => mv_pI st fun y r => mv_pI r fun x r => k nx ls (.inl (x &&& y) :: r) I J
  | .ior => mv_pI st fun y r => mv_pI r fun x r => k nx ls (.inl (x ||| y) :: r) I J
  | .ixor => mv_pI st fun y r => mv_pI r fun x r => k nx ls (.inl (x ^^^ y) :: r) I J
  | .idiv => mv_pI st fun y r => mv_pI r fun x r => ¬ y = 0 ∧ k nx ls (.inl (x / y) :: r) I J
  | .irem => mv_pI st fun y r => mv_pI r fun x r => ¬ y = 0 ∧ k nx ls (.inl (x - x / y * y) :: r) I J
  | .ishl => mv_pI st fun y r => mv_pI r fun x r => k nx ls (.inl (x <<< (y &&& 31)) :: r) I J
  | .ishr => mv_pI st fun y r => mv_pI r fun x r => k nx ls (.inl (x >>> (y &&& 31)) :: r) I J
  | .iushr => mv_pI st fun y r => mv_pI r fun x r => k nx ls (.inl ((x.toUInt32 >>> (y.toUInt32 &&& Int32.toUInt32 31)).toInt32) :: r) I J
  | .ladd => mv_pL st fun y r => mv_pL r fun x r => k nx ls (.inr (.inl (x + y)) :: r) I J
  | .lsub => mv_pL st fun y r => mv_pL r fun x r => k nx ls (.inr (.inl (x - y)) :: r) I J
  | .lmul => mv_pL st fun y r => mv_pL r fun x r => k nx ls (.inr (.inl (x * y)) :: r) I J
  | .land => mv_pL st fun y r => mv_pL r fun x r => k nx ls (.inr (.inl (x &&& y)) :: r) I J
  | .lor => mv_pL st fun y r => mv_pL r fun x r => k nx ls (.inr (.inl (x ||| y)) :: r) I J
  | .ldiv => mv_pL st fun y r => mv_pL r fun x r => ¬ y = 0 ∧ k nx ls (.inr (.inl (x / y)) :: r) I J
  | .lrem => mv_pL st fun y r => mv_pL r fun x r => ¬ y = 0 ∧ k nx ls (.inr (.inl (x - x / y * y)) :: r) I J
  | .lcmp => mv_pL st fun y r => mv_pL r fun x r => k nx ls (.inl (lg_cmp x y) :: r) I J
  | .lshl => mv_pI st fun y r => mv_pL r fun x r => k nx ls (.inr (.inl (x <<< (y.toInt64 &&& 63))) :: r) I J
  | .lshr => mv_pI st fun y r => mv_pL r fun x r => k nx ls (.inr (.inl (x >>> (y.toInt64 &&& 63))) :: r) I J
  | .i2l => mv_pI st fun x r => k nx ls (.inr (.inl x.toInt64) :: r) I J
  | .l2i => mv_pL st fun x r => k nx ls (.inl x.toInt32 :: r) I J
  | .i2b => mv_pI st fun x r => k nx ls (.inl x.toInt8.toInt32 :: r) I J
  | .i2s => mv_pI st fun x r => k nx ls (.inl x.toInt16.toInt32 :: r) I J
  | .dup => (match st with
    | .inl x :: r => k nx ls (.inl x :: .inl x :: r) I J
    | .inr (.inr x) :: r => k nx ls (.inr (.inr x) :: .inr (.inr x) :: r) I J
    | _ => False)
  | .dup2 => mv_pI st fun y r => mv_pA r fun x r => k nx ls (.inl y :: .inr (.inr x) :: .inl y :: .inr (.inr x) :: r) I J
  | .pop => mv_pI st fun _ r => k nx ls r I J
  | .goto _ => k tg ls st I J
  | .ifCond c _ => mv_pI st fun x r => mv_if c x (k tg ls r I J) (k nx ls r I J)
  | .if_icmp c _ => mv_pI st fun y r => mv_pI r fun x r => mv_ic c x y (k tg ls r I J) (k nx ls r I J)
  | .tableswitch _ lo hi offs => mv_pI st fun x r => (x.toInt < lo ∨ hi < x.toInt → k tg ls r I J) ∧ mv_sw x (fun t => k t ls r I J) pc lo offs.toList
  | .getfield idx => mv_pA st fun a r => (match fl idx with
    | some (ci, fi) => mv_at sh a fun e => mv_obj e ci fi (fun q => k nx ls (.inr (.inr q) :: r) I J) (k nx ls (.inl (I a fi) :: r) I J)
    | none => False)
  | .putfield idx => mv_pI st fun v r => mv_pA r fun a r => (match fl idx with
    | some (ci, fi) => mv_at sh a fun e => mv_obj e ci fi (fun _ => False) (bif mv_isZ ci fi then (v = 0 ∨ v = 1) ∧ k nx ls r (va_up I a (upd (I a) fi v)) J else k nx ls r (va_up I a (upd (I a) fi v)) J)
    | none => False)
  | .iaload => mv_pI st fun j r => mv_pA r fun a r => (match mv_nth a sh with
    | some e => mv_arr e fun ty n => bif Nat.beq ty 0 then vp_in j n ∧ k nx ls (.inl (I a j.toNatClampNeg) :: r) I J else False
    | none => (match X with
      | some (L, xs) => bif Nat.beq a 999 then vp_in j L ∧ k nx ls (.inl (xs j.toNatClampNeg) :: r) I J else False
      | none => False))
  | .baload => mv_pI st fun j r => mv_pA r fun a r => mv_at sh a fun e => mv_arr e fun ty n => bif Nat.beq ty 2 || Nat.beq ty 3 then vp_in j n ∧ k nx ls (.inl (I a j.toNatClampNeg) :: r) I J else False
  | .laload => mv_pI st fun j r => mv_pA r fun a r => mv_at sh a fun e => mv_arr e fun ty n => bif Nat.beq ty 1 then vp_in j n ∧ k nx ls (.inr (.inl (J a j.toNatClampNeg)) :: r) I J else False
  | .aaload => mv_pI st fun j r => mv_pA r fun a r => mv_at sh a fun e => mv_arr e fun ty n => bif Nat.beq ty 4 && Nat.beq n 4 then vp_in j 4 ∧ (j = 0 → k nx ls (.inr (.inr 8) :: r) I J) ∧ (j = 1 → k nx ls (.inr (.inr 9) :: r) I J) ∧ (j = 2 → k nx ls (.inr (.inr 10) :: r) I J) ∧ (j = 3 → k nx ls (.inr (.inr 11) :: r) I J) else False
  | .arraylength => mv_pA st fun a r => (match mv_nth a sh with
    | some e => mv_arr e fun ty n => bif Nat.blt ty 5 then k nx ls (.inl (nI n) :: r) I J else False
    | none => (match X with
      | some (L, _) => bif Nat.beq a 999 then k nx ls (.inl (nI L) :: r) I J else False
      | none => False))
  | .iastore => mv_pI st fun v r => mv_pI r fun j r => mv_pA r fun a r => mv_at sh a fun e => mv_arr e fun ty n => bif Nat.beq ty 0 then vp_in j n ∧ k nx ls r (va_up I a (upd (I a) j.toNatClampNeg v)) J else False
  | .bastore => mv_pI st fun v r => mv_pI r fun j r => mv_pA r fun a r => mv_at sh a fun e => mv_arr e fun ty n => bif Nat.beq ty 2 then vp_in j n ∧ k nx ls r (va_up I a (upd (I a) j.toNatClampNeg (vp_nar .byte v))) J else bif Nat.beq ty 3 then vp_in j n ∧ k nx ls r (va_up I a (upd (I a) j.toNatClampNeg (vp_nar .boolean v))) J else False
  | .lastore => mv_pL st fun v r => mv_pI r fun j r => mv_pA r fun a r => mv_at sh a fun e => mv_arr e fun ty n => bif Nat.beq ty 1 then vp_in j n ∧ k nx ls r I (va_up J a (vp_updL (J a) j.toNatClampNeg v)) else False
  | .invokestatic idx => (match cs idx with
    | some (mid, na, ci) => bif Nat.ble 100 ci then mv_static call sh mid na nx ls st I J k else False
    | none => False)
  | .invokevirtual idx => (match cs idx with
    | some (mid, na, ci) => bif Nat.ble 100 ci then False else mv_pop na st [] fun as r => mv_hd as fun a => mv_at sh a fun e => mv_is e ci (bif Nat.ble (mv_cs r) 8 then call mid as I J (mv_back k nx ls r) else False)
    | none => False)
  | .ireturn => mv_pI st fun x r => (match r with
    | [] => mv_rq rb x (Q (some (.inl x)) I J)
    | _ :: _ => False)
  | .return_ => (match st with
    | [] => mv_rv rb (Q none I J)
    | _ :: _ => False)
  | _ => False
/-- a row that is the head of a loop: a load with 1 where others have the place that they jump to -/
def mv_hdr (r : Option mv_R) : Bool := match r with
  | some (.iload_n _, _, t, _, _) => Nat.beq t 1
  | some (.iload _, _, t, _, _) => Nat.beq t 1
  | some (.aload_n _, _, t, _, _) => Nat.beq t 1
  | some (.aload _, _, t, _, _) => Nat.beq t 1
  | some (.lload_n _, _, t, _, _) => Nat.beq t 1
  | some (.lload _, _, t, _, _) => Nat.beq t 1
  | _ => false
def mv_cut (b : Bool) (P : Prop) : Prop := bif b then P ∧ True else P
theorem mv_cut_inv {b : Bool} {P : Prop} (h : mv_cut b P) : P := by
  cases b
  · exact h
  · exact h.1
def mv_wp (call : Nat → List mv_V → mv_I → mv_J → mv_Q → Prop) (sh : List mv_E) (X : Option (Nat × (Nat → Int32))) (tb : Nat → Option mv_R) (fl : Nat → Option (Nat × Nat)) (cs : Nat → Option (Nat × Nat × Nat)) (rb : Nat) (stop : mv_K) (Q : mv_Q) : Nat → mv_K
  | 0 => fun _ _ _ _ _ => False
  | n + 1 => fun pc ls st I J => match tb pc with
    | some (i, nx, tg, cst, cl) => mv_step call sh X fl cs rb pc i nx tg cst cl ls st I J (fun pc ls st I J => mv_cut (mv_hdr (tb pc)) (mv_wp call sh X tb fl cs rb stop Q n pc ls st I J)) Q
    | none => stop pc ls st I J
def mv_nn : Nat → (mv_L → Prop) → Prop
  | 0, f => f []
  | n + 1, f => mv_nn n (fun t => f (none :: t))
def mv_ini : List mv_V → Nat → (mv_L → Prop) → Prop
  | [], n, f => mv_nn n f
  | .inl x :: t, n + 1, f => mv_ini t n (fun l => f (some (.inl x) :: l))
  | .inr (.inr x) :: t, n + 1, f => mv_ini t n (fun l => f (some (.inr (.inr x)) :: l))
  | .inr (.inl x) :: t, n + 2, f => mv_ini t n (fun l => f (some (.inr (.inl x)) :: none :: l))
  | _, _, _ => False
/-- a method: its name, code, places, answer, owner, instructions, fields, calls -/
abbrev mv_N : Type := MethodName × ByteArray × Nat × Option FieldType × String × (Nat → Option mv_R) × (Nat → Option (Nat × Nat)) × (Nat → Option (Nat × Nat × Nat))
def mv_rk (ret : Option FieldType) : Nat := match ret with
  | none => 0
  | some .int => 1
  | some .boolean => 2
  | some _ => 3
def mv_wpM (tab : List mv_N) (sh : List mv_E) : Nat → Nat → List mv_V → mv_I → mv_J → mv_Q → Prop
  | 0 => fun _ _ _ _ _ => False
  | d + 1 => fun mid as I J Q => match mv_nth mid tab with
    | some (_, _, maxL, ret, _, tb, fl, cs) => mv_ini as maxL (fun ls => ∃ n, mv_wp (mv_wpM tab sh d) sh none tb fl cs (mv_rk ret) (fun _ _ _ _ _ => False) Q n 0 ls [] I J)
    | none => False
end
section
/-! what the small machine does, the machine does -/
def mv_len : Instr → Nat
  | .aload _ => 2
  | .iload _ => 2
  | .lload _ => 2
  | .astore _ => 2
  | .istore _ => 2
  | .lstore _ => 2
  | .bipush _ => 2
  | .ldc _ => 2
  | .getfield _ => 3
  | .putfield _ => 3
  | .invokevirtual _ => 3
  | .invokestatic _ => 3
  | .ifCond _ _ => 3
  | .if_icmp _ _ => 3
  | .goto _ => 3
  | .iinc _ _ => 3
  | .sipush _ => 3
  | .ldc_w _ => 3
  | .ldc2_w _ => 3
  | .tableswitch _ _ _ _ => 0
  | _ => 1
def mv_arg (own : String) (Ts : List Jvm.Cond) (pc : Nat) (i : Instr) (tg : Nat) (cst : Int32) (cl : Int64) : Bool := match i with
  | .iconst n => decide (Int32.ofInt n = cst)
  | .bipush n => decide ((Int8.ofInt n).toInt32 = cst)
  | .sipush n => decide ((Int16.ofInt n).toInt32 = cst)
  | .lconst n => decide (Int64.ofNat n.val = cl)
  | .iinc _ n => decide (Int32.ofInt n = cst)
  | .ldc idx => decide (Jvm.Cond.constant own idx cst ∈ Ts)
  | .ldc_w idx => decide (Jvm.Cond.constant own idx cst ∈ Ts)
  | .ldc2_w idx => decide (Jvm.Cond.constantLong own idx cl ∈ Ts)
  | .goto off => decide ((pc : Int) + off = (tg : Int))
  | .ifCond _ off => decide ((pc : Int) + off = (tg : Int))
  | .if_icmp _ off => decide ((pc : Int) + off = (tg : Int))
  | .tableswitch d lo hi offs => decide ((pc : Int) + d = (tg : Int)) && offs.toList.all (fun o => decide (0 ≤ (pc : Int) + o)) && decide (lo + (offs.toList.length : Int) = hi + 1)
  | _ => true
def mv_chk (cc : ByteArray) (own : String) (Ts : List Jvm.Cond) (pc : Nat) (r : Option mv_R) : Bool := match r with
  | none => true
  | some (i, nx, tg, cst, cl) => decide (decode cc pc = .ok (i, nx - pc)) && (Nat.beq (mv_len i) 0 || Nat.beq nx (pc + mv_len i)) && mv_arg own Ts pc i tg cst cl
/-- a table of a method's instructions: it is the code's -/
def mv_tbB (cc : ByteArray) (own : String) (Ts : List Jvm.Cond) (tb : Nat → Option mv_R) : Prop := ∀ pc, mv_chk cc own Ts pc (tb pc) = true
theorem mv_tb_at {cc : ByteArray} {own : String} {Ts : List Jvm.Cond} {tb : Nat → Option mv_R} (h : mv_tbB cc own Ts tb) {pc : Nat} {i : Instr} {nx tg : Nat} {cst : Int32} {cl : Int64} (e : tb pc = some (i, nx, tg, cst, cl)) :
    decode cc pc = .ok (i, nx - pc) ∧ (mv_len i ≠ 0 → decode cc pc = .ok (i, mv_len i) ∧ nx = pc + mv_len i) ∧ mv_arg own Ts pc i tg cst cl = true := by
  have h1 := h pc
  rw [e] at h1
  simp only [mv_chk, Bool.and_eq_true, Bool.or_eq_true, decide_eq_true_eq] at h1
  obtain ⟨⟨h1, h2⟩, h3⟩ := h1
  have h2 := h2.imp Nat.eq_of_beq_eq_true Nat.eq_of_beq_eq_true
  refine ⟨h1, fun hn => ?_, h3⟩
  rcases h2 with h2 | h2
  · exact absurd h2 hn
  · exact ⟨by rw [h1, h2]; congr 2; omega, h2⟩
/-- a table of the fields that the instructions name -/
def mv_flB (cl0 : List vw_C) (own : String) (Ts : List Jvm.Cond) (fl : Nat → Option (Nat × Nat)) : Prop := ∀ idx ci fi, fl idx = some (ci, fi) → ∃ (C : String) (T : u_T) (N : Nat) (ty0 : Nat → FieldType), cl0[ci]? = some (C, T, N) ∧ fi < N ∧ (∀ w ∈ u_ws C T N, w ∈ Ts) ∧ Jvm.Cond.fieldLink own idx (T fi).1 (T fi).2.1 (T fi).2.2.1 ∈ Ts ∧ (∀ k, k < N → parseFieldDescriptor (T k).2.2.1 = some (ty0 k)) ∧ (∀ a, a < N → ∀ b, b < N → a ≠ b → (T a).2.1 ≠ (T b).2.1)
/-- int fields may be written -/
def mv_shB (cl0 : List vw_C) (sh : List mv_E) : Prop := ∀ (a : Nat) (o : Nat × List (Option Nat)) (fi : Nat), mv_nth a sh = some (.inl o) → mv_nth fi o.2 = some none → ∀ (q : vw_C), cl0[o.1]? = some q → (q.2.1 fi).2.2.2 = false ∧ parseFieldDescriptor (q.2.1 fi).2.2.1 = some (bif mv_isZ o.1 fi then .boolean else .int)
theorem mv_fs_ref (ad : Nat → Nat) (f : Nat → Int32) : ∀ (fs : List (Option Nat)) (j fi r : Nat), mv_nth fi fs = some (some r) → (mv_fs ad f j fs)[fi]? = some (.ref (ad r))
  | [], _, _, _, h => by simp [mv_nth] at h
  | some q :: t, j, 0, r, h => by
    have : q = r := Option.some.inj (Option.some.inj h)
    subst this
    rfl
  | none :: t, j, 0, r, h => by cases h
  | some q :: t, j, fi + 1, r, h => by simpa [mv_fs] using mv_fs_ref ad f t (j + 1) fi r h
  | none :: t, j, fi + 1, r, h => by simpa [mv_fs] using mv_fs_ref ad f t (j + 1) fi r h
theorem mv_fs_int (ad : Nat → Nat) (f : Nat → Int32) : ∀ (fs : List (Option Nat)) (j fi : Nat), mv_nth fi fs = some none → (mv_fs ad f j fs)[fi]? = some (.int (f (j + fi)))
  | [], _, _, h => by simp [mv_nth] at h
  | some q :: t, j, 0, h => by cases h
  | none :: t, j, 0, h => rfl
  | some q :: t, j, fi + 1, h => by
    have := mv_fs_int ad f t (j + 1) fi h
    rw [show j + (fi + 1) = j + 1 + fi by omega]
    simpa [mv_fs] using this
  | none :: t, j, fi + 1, h => by
    have := mv_fs_int ad f t (j + 1) fi h
    rw [show j + (fi + 1) = j + 1 + fi by omega]
    simpa [mv_fs] using this
theorem mv_fs_len (ad : Nat → Nat) (f : Nat → Int32) : ∀ (fs : List (Option Nat)) (j : Nat), (mv_fs ad f j fs).length = fs.length
  | [], _ => rfl
  | some _ :: t, j => by simp [mv_fs, mv_fs_len ad f t (j + 1)]
  | none :: t, j => by simp [mv_fs, mv_fs_len ad f t (j + 1)]
theorem mv_fs_keep (ad : Nat → Nat) {f g : Nat → Int32} : ∀ (fs : List (Option Nat)) (j : Nat), (∀ i, j ≤ i → g i = f i) → mv_fs ad g j fs = mv_fs ad f j fs
  | [], _, _ => rfl
  | some _ :: t, j, h => by simp [mv_fs, mv_fs_keep ad t (j + 1) (fun i hi => h i (by omega))]
  | none :: t, j, h => by simp [mv_fs, mv_fs_keep ad t (j + 1) (fun i hi => h i (by omega)), h j (Nat.le_refl j)]
theorem mv_fs_set (ad : Nat → Nat) (f : Nat → Int32) (v : Int32) : ∀ (fs : List (Option Nat)) (j fi : Nat), mv_nth fi fs = some none → (mv_fs ad f j fs).set fi (.int v) = mv_fs ad (upd f (j + fi) v) j fs
  | [], _, _, h => by simp [mv_nth] at h
  | some q :: t, j, 0, h => by cases h
  | none :: t, j, 0, h => by
    simp only [mv_fs, List.set_cons_zero, Nat.add_zero]
    rw [mv_fs_keep ad (f := f) (g := upd f j v) t (j + 1) (fun i hi => by simp only [upd]; rw [if_neg (by omega)])]
    simp [upd]
  | some q :: t, j, fi + 1, h => by
    simp only [mv_fs, List.set_cons_succ]
    rw [mv_fs_set ad f v t (j + 1) fi h, show j + 1 + fi = j + (fi + 1) by omega]
  | none :: t, j, fi + 1, h => by
    simp only [mv_fs, List.set_cons_succ]
    rw [mv_fs_set ad f v t (j + 1) fi h, show j + 1 + fi = j + (fi + 1) by omega]
    simp only [upd]
    rw [if_neg (show ¬ j = j + (fi + 1) by omega)]
theorem mv_at_inv {sh : List mv_E} {a : Nat} {f : mv_E → Prop} (h : mv_at sh a f) : ∃ e, mv_nth a sh = some e ∧ f e := by
  unfold mv_at at h
  cases he : mv_nth a sh with
  | none => rw [he] at h; exact h.elim
  | some e => rw [he] at h; exact ⟨e, rfl, h⟩
theorem mv_arr_inv {e : mv_E} {f : Nat → Nat → Prop} (h : mv_arr e f) : ∃ ty n, e = .inr (ty, n) ∧ f ty n := by
  rcases e with o | ⟨ty, n⟩
  · exact h.elim
  · exact ⟨ty, n, rfl, h⟩
theorem mv_bif {b : Bool} {P : Prop} (h : bif b then P else False) : b = true ∧ P := by
  cases b
  · exact h.elim
  · exact ⟨rfl, h⟩
theorem mv_obj_inv {e : mv_E} {ci fi : Nat} {fR : Nat → Prop} {fI : Prop} (h : mv_obj e ci fi fR fI) : ∃ fs, e = .inl (ci, fs) ∧ ((∃ r, mv_nth fi fs = some (some r) ∧ fR r) ∨ (mv_nth fi fs = some none ∧ fI)) := by
  rcases e with ⟨cj, fs⟩ | o
  · obtain ⟨h1, h2⟩ := mv_bif (h : bif Nat.beq ci cj then _ else False)
    have h1 : ci = cj := Nat.eq_of_beq_eq_true h1
    subst h1
    refine ⟨fs, rfl, ?_⟩
    match hq : mv_nth fi fs, h2 with
    | some (some r), h2 => exact Or.inl ⟨r, rfl, h2⟩
    | some none, h2 => exact Or.inr ⟨rfl, h2⟩
    | none, h2 => exact h2.elim
  · exact h.elim
theorem mv_is_inv {e : mv_E} {ci : Nat} {P : Prop} (h : mv_is e ci P) : ∃ fs, e = .inl (ci, fs) ∧ P := by
  rcases e with ⟨cj, fs⟩ | o
  · obtain ⟨h1, h2⟩ := mv_bif (h : bif Nat.beq ci cj then P else False)
    have h1 : ci = cj := Nat.eq_of_beq_eq_true h1
    subst h1
    exact ⟨fs, rfl, h2⟩
  · exact h.elim
theorem mv_pop_inv : ∀ {n : Nat} {st acc : List mv_V} {f : List mv_V → List mv_V → Prop}, mv_pop n st acc f → ∃ as r, st = as.reverse ++ r ∧ as.length = n ∧ f (as ++ acc) r
  | 0, st, acc, f, h => ⟨[], st, rfl, rfl, h⟩
  | n + 1, [], acc, f, h => h.elim
  | n + 1, v :: st, acc, f, h => by
    obtain ⟨as, r, h1, h2, h3⟩ := mv_pop_inv (n := n) (st := st) (acc := v :: acc) h
    exact ⟨as ++ [v], r, by simp [h1], by simp [h2], by simpa using h3⟩
theorem mv_cs_eq (ad : Nat → Nat) : ∀ st : List mv_V, ((st.map (mv_val ad)).map fun v => v.category).sum = mv_cs st
  | [] => rfl
  | v :: t => by simp [mv_cs, mv_cat_val, ← mv_cs_eq ad t]
/-- the calls between nest mates, and that they link -/
def mv_nw : List (String × Nat × MethodName × String) := [("SaltPool$Tape", 23, ⟨"SaltPool", "isWithin", "(III)Z"⟩, "SaltPool")]
def mv_NW (U : State) : Prop := ∀ q ∈ mv_nw, va_Nw (.methodLinkNest q.1 q.2.1 q.2.2.1 q.2.2.2) U
theorem mv_NW.warm {s U : State} (hW : s.WarmedH U.vm) (h : mv_NW s) : mv_NW U := fun q hq => va_Nw.warmM hW (h q hq)
theorem mv_NW.same {u U : State} (e : u.vm = U.vm) (h : mv_NW u) : mv_NW U := fun q hq => va_Nw.same rfl e (h q hq)
/-- a callee's world -/
def mv_Pc (cl0 : List vw_C) (dC : Nat → ClassId) (dI : Nat → Nat → Nat) (cy : Nat → ClassId) (ad : Nat → Nat) (sh : List mv_E) (sz : Nat) (as : List mv_V) (I : mv_I) (J : mv_J) : Array Value → State → Prop :=
  va_Pc (as.map (mv_val ad)) (fun U => U.heap.size = sz ∧ va_P (dC, dI) cl0 (mv_ws cy ad sh I J) U.heap ∧ va_K (dC, dI) cl0 (mv_tys cy) U ∧ va_D (fun _ => True) (mv_ws cy ad sh I J) ∧ mv_NW U)
def mv_Bt (cl0 : List vw_C) (dC : Nat → ClassId) (dI : Nat → Nat → Nat) (cy : Nat → ClassId) (ad : Nat → Nat) (sh : List mv_E) : mv_I × mv_J → State → Prop := fun u t => va_P (dC, dI) cl0 (mv_ws cy ad sh u.1 u.2) t.heap
/-- a callee's contract, out of what the small machine says of it -/
def mv_Mt (l : Launch) (cl0 : List vw_C) (dC : Nat → ClassId) (dI : Nat → Nat → Nat) (cy : Nat → ClassId) (ad : Nat → Nat) (sh : List mv_E) (y : MethodName) (ws : List Jvm.Cond) (rm : Room) (as : List mv_V) (I : mv_I) (J : mv_J) (Q : mv_Q) : Prop :=
  ∀ sz : Nat, Met l y ws rm (mv_Pc cl0 dC dI cy ad sh sz as I J) (va_Qi (fun (r : Int32) (u : mv_I × mv_J) => Q (some (.inl r)) u.1 u.2) (mv_Bt cl0 dC dI cy ad sh) (va_A (mv_ws cy ad sh I J) sz)) 0 0 (va_A (mv_ws cy ad sh I J) sz) ∨
    Met l y ws rm (mv_Pc cl0 dC dI cy ad sh sz as I J) (va_Qv (fun (u : mv_I × mv_J) => Q none u.1 u.2) (mv_Bt cl0 dC dI cy ad sh) (va_A (mv_ws cy ad sh I J) sz)) 0 0 (va_A (mv_ws cy ad sh I J) sz)
/-- what a call needs, but for the callee's contract -/
def mv_site (cl0 : List vw_C) (own : String) (Ts : List Jvm.Cond) (idx na ci : Nat) (y : MethodName) (bytes : ByteArray) (maxL : Nat) (ret : Option FieldType) (ws ws' : List Jvm.Cond) : Prop :=
  ws = Jvm.Cond.code y bytes maxL ret :: ws' ∧ (y.cls ≠ "java/lang/invoke/MethodHandle" ∧ y.cls ≠ "java/lang/invoke/VarHandle") ∧ maxL ≤ 21 ∧
    (bif Nat.ble 100 ci then (bif Nat.beq ci 100 then GoodIn Ts (va_wsS own idx y ws) else GoodIn Ts ws ∧ Jvm.Cond.static y ∈ Ts ∧ Jvm.Cond.initialized y.cls ∈ Ts ∧ ∃ host, (own, idx, y, host) ∈ mv_nw) ∧ (parseMethodDescriptor y.desc).map (fun d => d.parameters.length) = some na
     else GoodIn Ts (wsV own idx y.cls y ws) ∧ (∃ n, na = n + 1 ∧ (parseMethodDescriptor y.desc).map (fun d => d.parameters.length) = some n) ∧ ∃ q : vw_C, cl0[ci]? = some q ∧ q.1 = y.cls)
def mv_csB (l : Launch) (R : Room) (cl0 : List vw_C) (dC : Nat → ClassId) (dI : Nat → Nat → Nat) (cy : Nat → ClassId) (ad : Nat → Nat) (sh : List mv_E) (own : String) (Ts : List Jvm.Cond) (cs : Nat → Option (Nat × Nat × Nat)) (call : Nat → List mv_V → mv_I → mv_J → mv_Q → Prop) : Prop :=
  ∀ idx mid na ci, cs idx = some (mid, na, ci) → ∀ as I J Q, as.length = na → call mid as I J Q → ∃ (y : MethodName) (bytes : ByteArray) (maxL : Nat) (ret : Option FieldType) (ws ws' : List Jvm.Cond) (rm : Room), mv_site cl0 own Ts idx na ci y bytes maxL ret ws ws' ∧ rm.cells = 0 ∧ rm.slots = 0 ∧ rm.frames + 1 ≤ R.frames ∧ 40 + rm.locals ≤ R.locals ∧ mv_Mt l cl0 dC dI cy ad sh y ws rm as I J Q
/-- the three of the JDK -/
def mv_jdB (own : String) (Ts : List Jvm.Cond) (cs : Nat → Option (Nat × Nat × Nat)) : Prop :=
  (∀ idx na ci, cs idx = some (1000, na, ci) → Jvm.Cond.methodLink own idx Lib.Math.max.name ∈ Ts ∧ Jvm.Cond.static Lib.Math.max.name ∈ Ts ∧ Jvm.Cond.initialized "java/lang/Math" ∈ Ts ∧ Jvm.Cond.code Lib.Math.max.name Lib.Math.max.code 2 (some .int) ∈ Ts) ∧
  (∀ idx na ci, cs idx = some (1001, na, ci) → Jvm.Cond.methodLink own idx Lib.Math.min.name ∈ Ts ∧ Jvm.Cond.static Lib.Math.min.name ∈ Ts ∧ Jvm.Cond.initialized "java/lang/Math" ∈ Ts ∧ Jvm.Cond.code Lib.Math.min.name Lib.Math.min.code 2 (some .int) ∈ Ts) ∧
  (∀ idx na ci, cs idx = some (1002, na, ci) → Jvm.Cond.methodLink own idx arraycopyName ∈ Ts ∧ Jvm.Cond.native arraycopyName ∈ Ts ∧ Jvm.Cond.static arraycopyName ∈ Ts ∧ Jvm.Cond.initialized "java/lang/System" ∈ Ts)
end
section
theorem mv_ws_put {cy : Nat → ClassId} {ad : Nat → Nat} {sh : List mv_E} {I : mv_I} {J : mv_J} {a ci fi : Nat} {fs : List (Option Nat)} {v : Int32} (he : mv_nth a sh = some (.inl (ci, fs))) (hq : mv_nth fi fs = some none) : (mv_ws cy ad sh I J).set a (ad a, .inr (ci, (mv_fs ad (I a) 0 fs).set fi (.int v))) = mv_ws cy ad sh (va_up I a (upd (I a) fi v)) J := by
  rw [mv_fs_set ad (I a) v fs 0 fi hq, Nat.zero_add]
  have h := mv_ws_set (cy := cy) (ad := ad) (I := I) (I' := va_up I a (upd (I a) fi v)) (J := J) (J' := J) he (fun j hj => va_up_ne _ _ hj) (fun _ _ => rfl)
  rw [← h]
  simp only [mv_cell, va_up_self]
theorem mv_ws_row {cy : Nat → ClassId} {ad : Nat → Nat} {sh : List mv_E} {I : mv_I} {J : mv_J} {a ty n : Nat} (f : Nat → Int32) (he : mv_nth a sh = some (.inr (ty, n))) (hr : ∀ f g, mv_row ad f g ty = .inl f) : (mv_ws cy ad sh I J).set a (ad a, .inl (cy ty, n, .inl f)) = mv_ws cy ad sh (va_up I a f) J := by
  have h := mv_ws_set (cy := cy) (ad := ad) (I := I) (I' := va_up I a f) (J := J) (J' := J) he (fun j hj => va_up_ne _ _ hj) (fun _ _ => rfl)
  rw [← h]
  simp only [mv_cell, va_up_self, hr]
theorem mv_ws_rowL {cy : Nat → ClassId} {ad : Nat → Nat} {sh : List mv_E} {I : mv_I} {J : mv_J} {a n : Nat} (g : Nat → Int64) (he : mv_nth a sh = some (.inr (1, n))) : (mv_ws cy ad sh I J).set a (ad a, .inl (cy 1, n, .inr (.inl g))) = mv_ws cy ad sh I (va_up J a g) := by
  have h := mv_ws_set (cy := cy) (ad := ad) (I := I) (I' := I) (J := J) (J' := va_up J a g) he (fun _ _ => rfl) (fun j hj => va_up_ne _ _ hj)
  rw [← h]
  simp only [mv_cell, va_up_self, mv_row]
section MVS
variable {p : Program} {l : Launch} {e : Env} {R : Room} {s : State} {m : MethodId} {args : Array Value} {below : List Frame} {meth : Method} {c : Code} {cells slots : Nat} {Qf : State → Prop}
variable {cc : ByteArray} {own : String} {Ts : List Jvm.Cond} {nL : Nat} {dC : Nat → ClassId} {dI : Nat → Nat → Nat} {cl0 : List vw_C} {cy : Nat → ClassId} {ad : Nat → Nat} {sh : List mv_E} {A : Nat → Prop} {H0 : Heap}
set_option maxHeartbeats 4000000 in
set_option maxRecDepth 100000 in
theorem mv_step_sound (hx : p.tables.exec = Jvm.exec) (hb : c.code = cc) (hml : c.maxLocals = nL) (hown : s.vm.findClass own = some m.cls) (hts : ∀ w ∈ Ts, w.before args s = true) (hK : va_K (dC, dI) cl0 (mv_tys cy) s) (hD : ∀ I J, va_D A (mv_ws cy ad sh I J)) (hA : ∀ q : Nat, H0.size ≤ q → A q) (hR : 1 ≤ R.frames ∧ 60 ≤ R.locals ∧ cells ≤ R.cells ∧ slots ≤ R.slots)
    {X : Option (Nat × (Nat → Int32))} (hX : ∀ L xs, X = some (L, xs) → va_X (ad 999) L xs s H0 ∧ ad 999 < H0.size ∧ ¬ A (ad 999)) {fl : Nat → Option (Nat × Nat)} {cs : Nat → Option (Nat × Nat × Nat)} {call : Nat → List mv_V → mv_I → mv_J → mv_Q → Prop} {rb : Nat} {k : mv_K} {Q : mv_Q}
    (hNW : mv_NW s) (hF : mv_flB cl0 own Ts fl) (hSh : mv_shB cl0 sh) (hC : mv_csB l R cl0 dC dI cy ad sh own Ts cs call) (hJ : mv_jdB own Ts cs)
    (hret : ∀ (pc : Nat) (x : Int32) (I : mv_I) (J : mv_J) (H : Heap) (locs : List Loc) (arr : Array Slot), decode cc pc = .ok (.ireturn, 1) → mv_rq rb x (Q (some (.inl x)) I J) → va_P (dC, dI) cl0 (mv_ws cy ad sh I J) H → va_S A H0 H locs → W p l e R s m args below meth c H locs cells slots Qf (F0 m pc arr [.int x]))
    (hvret : ∀ (pc : Nat) (I : mv_I) (J : mv_J) (H : Heap) (locs : List Loc) (arr : Array Slot), decode cc pc = .ok (.return_, 1) → mv_rv rb (Q none I J) → va_P (dC, dI) cl0 (mv_ws cy ad sh I J) H → va_S A H0 H locs → W p l e R s m args below meth c H locs cells slots Qf (F0 m pc arr []))
    (hk : ∀ (pc : Nat) (ls : mv_L) (st : List mv_V) (I : mv_I) (J : mv_J) (H : Heap) (locs : List Loc) (arr : Array Slot), k pc ls st I J → va_P (dC, dI) cl0 (mv_ws cy ad sh I J) H → va_S A H0 H locs → mv_LS ad ls arr → ls.length = nL → W p l e R s m args below meth c H locs cells slots Qf (F0 m pc arr (st.map (mv_val ad))))
    {pc : Nat} {i : Instr} {nx tg : Nat} {cst : Int32} {cl : Int64} (hraw : decode cc pc = .ok (i, nx - pc)) (hd : mv_len i ≠ 0 → decode cc pc = .ok (i, mv_len i) ∧ nx = pc + mv_len i) (hg : mv_arg own Ts pc i tg cst cl = true)
    {ls : mv_L} {st : List mv_V} {I : mv_I} {J : mv_J} {H : Heap} {locs : List Loc} {arr : Array Slot} (h : mv_step call sh X fl cs rb pc i nx tg cst cl ls st I J k Q) (hP : va_P (dC, dI) cl0 (mv_ws cy ad sh I J) H) (hS : va_S A H0 H locs) (hL : mv_LS ad ls arr) (hn : ls.length = nL) :
    W p l e R s m args below meth c H locs cells slots Qf (F0 m pc arr (st.map (mv_val ad))) := by
  have hFc : ∀ q, va_A (mv_ws cy ad sh I J) H.size q → A q := by
    intro q hq
    rcases hq with ⟨kq, eq, hq⟩ | hq
    · exact (hD I J).2 kq (q, eq) hq
    · exact hA q (Nat.le_trans hS.1 hq)
  cases i with
  | iload_n n =>
    obtain ⟨hdd, rfl⟩ := hd (Nat.succ_ne_zero _)
    replace h := mv_get_inv h
    obtain ⟨v, hv, h⟩ := h
    replace h := mv_asI_inv h
    obtain ⟨x, rfl, h⟩ := h
    exact lv_iload_n hx hb hdd rfl (hL.2.2 _ _ hv) (hk _ _ _ _ _ _ _ _ h hP hS hL hn)
  | iload n =>
    obtain ⟨hdd, rfl⟩ := hd (Nat.succ_ne_zero _)
    replace h := mv_get_inv h
    obtain ⟨v, hv, h⟩ := h
    replace h := mv_asI_inv h
    obtain ⟨x, rfl, h⟩ := h
    exact lv_iload hx hb hdd (hL.2.2 _ _ hv) (hk _ _ _ _ _ _ _ _ h hP hS hL hn)
  | istore_n n =>
    obtain ⟨hdd, rfl⟩ := hd (Nat.succ_ne_zero _)
    replace h := mv_pI_inv h
    obtain ⟨x, r, rfl, h⟩ := h
    obtain ⟨ls', h, hr⟩ := mv_set_inv h
    exact lv_istore_n hx hb hdd rfl hL.has hr.2.1 rfl (fun arr' ha => hk _ _ _ _ _ _ _ _ h hP hS (mv_LS.set1 rfl hr ha) (hr.1.trans hn))
  | istore n =>
    obtain ⟨hdd, rfl⟩ := hd (Nat.succ_ne_zero _)
    replace h := mv_pI_inv h
    obtain ⟨x, r, rfl, h⟩ := h
    obtain ⟨ls', h, hr⟩ := mv_set_inv h
    exact lv_istore hx hb hdd hL.has hr.2.1 rfl (fun arr' ha => hk _ _ _ _ _ _ _ _ h hP hS (mv_LS.set1 rfl hr ha) (hr.1.trans hn))
  | lload_n n =>
    obtain ⟨hdd, rfl⟩ := hd (Nat.succ_ne_zero _)
    replace h := mv_get_inv h
    obtain ⟨v, hv, h⟩ := h
    replace h := mv_asL_inv h
    obtain ⟨x, rfl, h⟩ := h
    exact lv_lload_n hx hb hdd rfl (hL.2.2 _ _ hv) (hk _ _ _ _ _ _ _ _ h hP hS hL hn)
  | lload n =>
    obtain ⟨hdd, rfl⟩ := hd (Nat.succ_ne_zero _)
    replace h := mv_get_inv h
    obtain ⟨v, hv, h⟩ := h
    replace h := mv_asL_inv h
    obtain ⟨x, rfl, h⟩ := h
    exact lv_lload hx hb hdd (hL.2.2 _ _ hv) (hk _ _ _ _ _ _ _ _ h hP hS hL hn)
  | lstore_n n =>
    obtain ⟨hdd, rfl⟩ := hd (Nat.succ_ne_zero _)
    replace h := mv_pL_inv h
    obtain ⟨x, r, rfl, h⟩ := h
    obtain ⟨ls', h, hr⟩ := mv_set_inv h
    exact lv_lstore_n hx hb hdd rfl hL.has (hr.2.2.1 rfl) rfl (fun arr' ha => hk _ _ _ _ _ _ _ _ h hP hS (mv_LS.set2 rfl hr ha) (hr.1.trans hn))
  | lstore n =>
    obtain ⟨hdd, rfl⟩ := hd (Nat.succ_ne_zero _)
    replace h := mv_pL_inv h
    obtain ⟨x, r, rfl, h⟩ := h
    obtain ⟨ls', h, hr⟩ := mv_set_inv h
    exact lv_lstore hx hb hdd hL.has (hr.2.2.1 rfl) rfl (fun arr' ha => hk _ _ _ _ _ _ _ _ h hP hS (mv_LS.set2 rfl hr ha) (hr.1.trans hn))
  | aload_n n =>
    obtain ⟨hdd, rfl⟩ := hd (Nat.succ_ne_zero _)
    replace h := mv_get_inv h
    obtain ⟨v, hv, h⟩ := h
    replace h := mv_asA_inv h
    obtain ⟨x, rfl, h⟩ := h
    exact lv_aload_n hx hb hdd rfl (hL.2.2 _ _ hv) (hk _ _ _ _ _ _ _ _ h hP hS hL hn)
  | aload n =>
    obtain ⟨hdd, rfl⟩ := hd (Nat.succ_ne_zero _)
    replace h := mv_get_inv h
    obtain ⟨v, hv, h⟩ := h
    replace h := mv_asA_inv h
    obtain ⟨x, rfl, h⟩ := h
    exact lv_aload hx hb hdd (hL.2.2 _ _ hv) (hk _ _ _ _ _ _ _ _ h hP hS hL hn)
  | astore_n n =>
    obtain ⟨hdd, rfl⟩ := hd (Nat.succ_ne_zero _)
    replace h := mv_pA_inv h
    obtain ⟨x, r, rfl, h⟩ := h
    obtain ⟨ls', h, hr⟩ := mv_set_inv h
    exact lv_astore_n hx hb hdd rfl hL.has hr.2.1 rfl (fun arr' ha => hk _ _ _ _ _ _ _ _ h hP hS (mv_LS.set1 rfl hr ha) (hr.1.trans hn))
  | astore n =>
    obtain ⟨hdd, rfl⟩ := hd (Nat.succ_ne_zero _)
    replace h := mv_pA_inv h
    obtain ⟨x, r, rfl, h⟩ := h
    obtain ⟨ls', h, hr⟩ := mv_set_inv h
    exact lv_astore hx hb hdd hL.has hr.2.1 rfl (fun arr' ha => hk _ _ _ _ _ _ _ _ h hP hS (mv_LS.set1 rfl hr ha) (hr.1.trans hn))
  | iinc n z =>
    obtain ⟨hdd, rfl⟩ := hd (Nat.succ_ne_zero _)
    replace h := mv_get_inv h
    obtain ⟨v, hv, h⟩ := h
    replace h := mv_asI_inv h
    obtain ⟨x, rfl, h⟩ := h
    obtain ⟨ls', h, hr⟩ := mv_set_inv h
    have hmem := mv_prs_in ad ls 0 n (.inl x) hv
    rw [Nat.zero_add] at hmem
    obtain ⟨kk, hkk⟩ := List.getElem?_of_mem hmem
    exact lv_iinc (k := kk) (v := x + cst) hx hb hdd hL.has hkk (by rw [of_decide_eq_true hg]) hr.2.1 rfl (fun arr' ha => hk _ _ _ _ _ _ _ _ h hP hS (mv_LS.set1 rfl hr ha) (hr.1.trans hn))
  | iconst n =>
    obtain ⟨hdd, rfl⟩ := hd (Nat.succ_ne_zero _)
    exact lv_iconst hx hb hdd (of_decide_eq_true hg) (hk _ _ _ _ _ _ _ _ h hP hS hL hn)
  | bipush n =>
    obtain ⟨hdd, rfl⟩ := hd (Nat.succ_ne_zero _)
    exact lv_bipush hx hb hdd (of_decide_eq_true hg) (hk _ _ _ _ _ _ _ _ h hP hS hL hn)
  | sipush n =>
    obtain ⟨hdd, rfl⟩ := hd (Nat.succ_ne_zero _)
    exact lv_sipush hx hb hdd (of_decide_eq_true hg) (hk _ _ _ _ _ _ _ _ h hP hS hL hn)
  | lconst n =>
    obtain ⟨hdd, rfl⟩ := hd (Nat.succ_ne_zero _)
    exact lv_lconst hx hb hdd (of_decide_eq_true hg) (hk _ _ _ _ _ _ _ _ h hP hS hL hn)
  | ldc idx =>
    obtain ⟨hdd, rfl⟩ := hd (Nat.succ_ne_zero _)
    exact lv_ldc hx hb hown (hts _ (of_decide_eq_true hg)) hdd (hk _ _ _ _ _ _ _ _ h hP hS hL hn)
  | ldc_w idx =>
    obtain ⟨hdd, rfl⟩ := hd (Nat.succ_ne_zero _)
    exact lv_ldcw hx hb hown (hts _ (of_decide_eq_true hg)) hdd (hk _ _ _ _ _ _ _ _ h hP hS hL hn)
  | ldc2_w idx =>
    obtain ⟨hdd, rfl⟩ := hd (Nat.succ_ne_zero _)
    exact lv_ldc2 hx hb hown (hts _ (of_decide_eq_true hg)) hdd (hk _ _ _ _ _ _ _ _ h hP hS hL hn)
  | iadd =>
    obtain ⟨hdd, rfl⟩ := hd (Nat.succ_ne_zero _)
    replace h := mv_pI_inv h
    obtain ⟨y, r, rfl, h⟩ := h
    replace h := mv_pI_inv h
    obtain ⟨x, r, rfl, h⟩ := h
    exact lv_iadd hx hb hdd (hk _ _ _ _ _ _ _ _ h hP hS hL hn)
  | isub =>
    obtain ⟨hdd, rfl⟩ := hd (Nat.succ_ne_zero _)
    replace h := mv_pI_inv h
    obtain ⟨y, r, rfl, h⟩ := h
    replace h := mv_pI_inv h
    obtain ⟨x, r, rfl, h⟩ := h
    exact lv_isub hx hb hdd (hk _ _ _ _ _ _ _ _ h hP hS hL hn)
  | imul =>
    obtain ⟨hdd, rfl⟩ := hd (Nat.succ_ne_zero _)
    replace h := mv_pI_inv h
    obtain ⟨y, r, rfl, h⟩ := h
    replace h := mv_pI_inv h
    obtain ⟨x, r, rfl, h⟩ := h
    exact lv_imul hx hb hdd (hk _ _ _ _ _ _ _ _ h hP hS hL hn)
  | iand =>
    obtain ⟨hdd, rfl⟩ := hd (Nat.succ_ne_zero _)
    replace h := mv_pI_inv h
    obtain ⟨y, r, rfl, h⟩ := h
    replace h := mv_pI_inv h
    obtain ⟨x, r, rfl, h⟩ := h
    exact lv_iand hx hb hdd (hk _ _ _ _ _ _ _ _ h hP hS hL hn)
  | ior =>
    obtain ⟨hdd, rfl⟩ := hd (Nat.succ_ne_zero _)
    replace h := mv_pI_inv h
    obtain ⟨y, r, rfl, h⟩ := h
    replace h := mv_pI_inv h
    obtain ⟨x, r, rfl, h⟩ := h
    exact lv_ior hx hb hdd (hk _ _ _ _ _ _ _ _ h hP hS hL hn)
  | ixor =>
    obtain ⟨hdd, rfl⟩ := hd (Nat.succ_ne_zero _)
    replace h := mv_pI_inv h
    obtain ⟨y, r, rfl, h⟩ := h
    replace h := mv_pI_inv h
    obtain ⟨x, r, rfl, h⟩ := h
    exact lv_ixor hx hb hdd (hk _ _ _ _ _ _ _ _ h hP hS hL hn)
  | ishl =>
    obtain ⟨hdd, rfl⟩ := hd (Nat.succ_ne_zero _)
    replace h := mv_pI_inv h
    obtain ⟨y, r, rfl, h⟩ := h
    replace h := mv_pI_inv h
    obtain ⟨x, r, rfl, h⟩ := h
    exact lv_ishl hx hb hdd (hk _ _ _ _ _ _ _ _ h hP hS hL hn)
  | ishr =>
    obtain ⟨hdd, rfl⟩ := hd (Nat.succ_ne_zero _)
    replace h := mv_pI_inv h
    obtain ⟨y, r, rfl, h⟩ := h
    replace h := mv_pI_inv h
    obtain ⟨x, r, rfl, h⟩ := h
    exact lv_ishr hx hb hdd (hk _ _ _ _ _ _ _ _ h hP hS hL hn)
  | idiv =>
    obtain ⟨hdd, rfl⟩ := hd (Nat.succ_ne_zero _)
    replace h := mv_pI_inv h
    obtain ⟨y, r, rfl, h⟩ := h
    replace h := mv_pI_inv h
    obtain ⟨x, r, rfl, h⟩ := h
    exact lv_idiv hx hb hdd h.1 (hk _ _ _ _ _ _ _ _ h.2 hP hS hL hn)
  | irem =>
    obtain ⟨hdd, rfl⟩ := hd (Nat.succ_ne_zero _)
    replace h := mv_pI_inv h
    obtain ⟨y, r, rfl, h⟩ := h
    replace h := mv_pI_inv h
    obtain ⟨x, r, rfl, h⟩ := h
    exact lv_irem hx hb hdd h.1 (hk _ _ _ _ _ _ _ _ h.2 hP hS hL hn)
  | iushr =>
    obtain ⟨hdd, rfl⟩ := hd (Nat.succ_ne_zero _)
    replace h := mv_pI_inv h
    obtain ⟨y, r, rfl, h⟩ := h
    replace h := mv_pI_inv h
    obtain ⟨x, r, rfl, h⟩ := h
    exact lv_iushr hx hb hdd rfl (hk _ _ _ _ _ _ _ _ h hP hS hL hn)
  | ladd =>
    obtain ⟨hdd, rfl⟩ := hd (Nat.succ_ne_zero _)
    replace h := mv_pL_inv h
    obtain ⟨y, r, rfl, h⟩ := h
    replace h := mv_pL_inv h
    obtain ⟨x, r, rfl, h⟩ := h
    exact lv_ladd hx hb hdd (hk _ _ _ _ _ _ _ _ h hP hS hL hn)
  | lsub =>
    obtain ⟨hdd, rfl⟩ := hd (Nat.succ_ne_zero _)
    replace h := mv_pL_inv h
    obtain ⟨y, r, rfl, h⟩ := h
    replace h := mv_pL_inv h
    obtain ⟨x, r, rfl, h⟩ := h
    exact lv_lsub hx hb hdd (hk _ _ _ _ _ _ _ _ h hP hS hL hn)
  | lmul =>
    obtain ⟨hdd, rfl⟩ := hd (Nat.succ_ne_zero _)
    replace h := mv_pL_inv h
    obtain ⟨y, r, rfl, h⟩ := h
    replace h := mv_pL_inv h
    obtain ⟨x, r, rfl, h⟩ := h
    exact lv_lmul hx hb hdd (hk _ _ _ _ _ _ _ _ h hP hS hL hn)
  | land =>
    obtain ⟨hdd, rfl⟩ := hd (Nat.succ_ne_zero _)
    replace h := mv_pL_inv h
    obtain ⟨y, r, rfl, h⟩ := h
    replace h := mv_pL_inv h
    obtain ⟨x, r, rfl, h⟩ := h
    exact lv_land hx hb hdd (hk _ _ _ _ _ _ _ _ h hP hS hL hn)
  | lor =>
    obtain ⟨hdd, rfl⟩ := hd (Nat.succ_ne_zero _)
    replace h := mv_pL_inv h
    obtain ⟨y, r, rfl, h⟩ := h
    replace h := mv_pL_inv h
    obtain ⟨x, r, rfl, h⟩ := h
    exact lv_lor hx hb hdd (hk _ _ _ _ _ _ _ _ h hP hS hL hn)
  | ldiv =>
    obtain ⟨hdd, rfl⟩ := hd (Nat.succ_ne_zero _)
    replace h := mv_pL_inv h
    obtain ⟨y, r, rfl, h⟩ := h
    replace h := mv_pL_inv h
    obtain ⟨x, r, rfl, h⟩ := h
    exact lv_ldiv hx hb hdd h.1 (hk _ _ _ _ _ _ _ _ h.2 hP hS hL hn)
  | lrem =>
    obtain ⟨hdd, rfl⟩ := hd (Nat.succ_ne_zero _)
    replace h := mv_pL_inv h
    obtain ⟨y, r, rfl, h⟩ := h
    replace h := mv_pL_inv h
    obtain ⟨x, r, rfl, h⟩ := h
    exact lv_lrem hx hb hdd h.1 (hk _ _ _ _ _ _ _ _ h.2 hP hS hL hn)
  | lcmp =>
    obtain ⟨hdd, rfl⟩ := hd (Nat.succ_ne_zero _)
    replace h := mv_pL_inv h
    obtain ⟨y, r, rfl, h⟩ := h
    replace h := mv_pL_inv h
    obtain ⟨x, r, rfl, h⟩ := h
    exact W.lcmp hx hb hdd (hk _ _ _ _ _ _ _ _ h hP hS hL hn)
  | lshl =>
    obtain ⟨hdd, rfl⟩ := hd (Nat.succ_ne_zero _)
    replace h := mv_pI_inv h
    obtain ⟨y, r, rfl, h⟩ := h
    replace h := mv_pL_inv h
    obtain ⟨x, r, rfl, h⟩ := h
    exact lv_lshl hx hb hdd rfl (hk _ _ _ _ _ _ _ _ h hP hS hL hn)
  | lshr =>
    obtain ⟨hdd, rfl⟩ := hd (Nat.succ_ne_zero _)
    replace h := mv_pI_inv h
    obtain ⟨y, r, rfl, h⟩ := h
    replace h := mv_pL_inv h
    obtain ⟨x, r, rfl, h⟩ := h
    exact lv_lshr hx hb hdd rfl (hk _ _ _ _ _ _ _ _ h hP hS hL hn)
  | i2l =>
    obtain ⟨hdd, rfl⟩ := hd (Nat.succ_ne_zero _)
    replace h := mv_pI_inv h
    obtain ⟨x, r, rfl, h⟩ := h
    exact lv_i2l hx hb hdd rfl (hk _ _ _ _ _ _ _ _ h hP hS hL hn)
  | l2i =>
    obtain ⟨hdd, rfl⟩ := hd (Nat.succ_ne_zero _)
    replace h := mv_pL_inv h
    obtain ⟨x, r, rfl, h⟩ := h
    exact lv_l2i hx hb hdd rfl (hk _ _ _ _ _ _ _ _ h hP hS hL hn)
  | i2b =>
    obtain ⟨hdd, rfl⟩ := hd (Nat.succ_ne_zero _)
    replace h := mv_pI_inv h
    obtain ⟨x, r, rfl, h⟩ := h
    exact lv_i2b hx hb hdd rfl (hk _ _ _ _ _ _ _ _ h hP hS hL hn)
  | i2s =>
    obtain ⟨hdd, rfl⟩ := hd (Nat.succ_ne_zero _)
    replace h := mv_pI_inv h
    obtain ⟨x, r, rfl, h⟩ := h
    exact lv_i2s hx hb hdd rfl (hk _ _ _ _ _ _ _ _ h hP hS hL hn)
  | dup =>
    obtain ⟨hdd, rfl⟩ := hd (Nat.succ_ne_zero _)
    match st, h with
    | .inl x :: r, h => exact lv_dup hx hb hdd rfl (hk _ _ _ _ _ _ _ _ h hP hS hL hn)
    | .inr (.inr x) :: r, h => exact lv_dup hx hb hdd rfl (hk _ _ _ _ _ _ _ _ h hP hS hL hn)
    | .inr (.inl x) :: r, h => exact h.elim
    | [], h => exact h.elim
  | dup2 =>
    obtain ⟨hdd, rfl⟩ := hd (Nat.succ_ne_zero _)
    replace h := mv_pI_inv h
    obtain ⟨y, r, rfl, h⟩ := h
    replace h := mv_pA_inv h
    obtain ⟨x, r, rfl, h⟩ := h
    exact lv_dup2_11 hx hb hdd rfl rfl (hk _ _ _ _ _ _ _ _ h hP hS hL hn)
  | pop =>
    obtain ⟨hdd, rfl⟩ := hd (Nat.succ_ne_zero _)
    replace h := mv_pI_inv h
    obtain ⟨y, r, rfl, h⟩ := h
    exact lv_pop hx hb hdd rfl (hk _ _ _ _ _ _ _ _ h hP hS hL hn)
  | goto off =>
    obtain ⟨hdd, rfl⟩ := hd (Nat.succ_ne_zero _)
    exact lv_goto hx hb hdd (of_decide_eq_true hg) (hk _ _ _ _ _ _ _ _ h hP hS hL hn)
  | ifCond z off =>
    obtain ⟨hdd, rfl⟩ := hd (Nat.succ_ne_zero _)
    replace h := mv_pI_inv h
    obtain ⟨x, r, rfl, h⟩ := h
    cases z with
    | eq => exact lv_if_eq hx hb hdd (of_decide_eq_true hg) (fun q => hk _ _ _ _ _ _ _ _ (h.1 q) hP hS hL hn) (fun q => hk _ _ _ _ _ _ _ _ (h.2 q) hP hS hL hn)
    | ne => exact lv_if_ne hx hb hdd (of_decide_eq_true hg) (fun q => hk _ _ _ _ _ _ _ _ (h.1 q) hP hS hL hn) (fun q => hk _ _ _ _ _ _ _ _ (h.2 q) hP hS hL hn)
    | lt => exact lv_if_lt hx hb hdd (of_decide_eq_true hg) (fun q => hk _ _ _ _ _ _ _ _ (h.1 q) hP hS hL hn) (fun q => hk _ _ _ _ _ _ _ _ (h.2 q) hP hS hL hn)
    | ge => exact lv_if_ge hx hb hdd (of_decide_eq_true hg) (fun q => hk _ _ _ _ _ _ _ _ (h.1 q) hP hS hL hn) (fun q => hk _ _ _ _ _ _ _ _ (h.2 q) hP hS hL hn)
    | gt => exact lv_if_gt hx hb hdd (of_decide_eq_true hg) (fun q => hk _ _ _ _ _ _ _ _ (h.1 q) hP hS hL hn) (fun q => hk _ _ _ _ _ _ _ _ (h.2 q) hP hS hL hn)
    | le => exact lv_if_le hx hb hdd (of_decide_eq_true hg) (fun q => hk _ _ _ _ _ _ _ _ (h.1 q) hP hS hL hn) (fun q => hk _ _ _ _ _ _ _ _ (h.2 q) hP hS hL hn)
  | if_icmp z off =>
    obtain ⟨hdd, rfl⟩ := hd (Nat.succ_ne_zero _)
    replace h := mv_pI_inv h
    obtain ⟨y, r, rfl, h⟩ := h
    replace h := mv_pI_inv h
    obtain ⟨x, r, rfl, h⟩ := h
    cases z with
    | eq => exact lv_icmp_eq hx hb hdd (of_decide_eq_true hg) (fun q => hk _ _ _ _ _ _ _ _ (h.1 q) hP hS hL hn) (fun q => hk _ _ _ _ _ _ _ _ (h.2 q) hP hS hL hn)
    | ne => exact lv_icmp_ne hx hb hdd (of_decide_eq_true hg) (fun q => hk _ _ _ _ _ _ _ _ (h.1 q) hP hS hL hn) (fun q => hk _ _ _ _ _ _ _ _ (h.2 q) hP hS hL hn)
    | lt => exact lv_icmp_lt hx hb hdd (of_decide_eq_true hg) (fun q => hk _ _ _ _ _ _ _ _ (h.1 q) hP hS hL hn) (fun q => hk _ _ _ _ _ _ _ _ (h.2 q) hP hS hL hn)
    | ge => exact lv_icmp_ge hx hb hdd (of_decide_eq_true hg) (fun q => hk _ _ _ _ _ _ _ _ (h.1 q) hP hS hL hn) (fun q => hk _ _ _ _ _ _ _ _ (h.2 q) hP hS hL hn)
    | gt => exact lv_icmp_gt hx hb hdd (of_decide_eq_true hg) (fun q => hk _ _ _ _ _ _ _ _ (h.1 q) hP hS hL hn) (fun q => hk _ _ _ _ _ _ _ _ (h.2 q) hP hS hL hn)
    | le => exact lv_icmp_le hx hb hdd (of_decide_eq_true hg) (fun q => hk _ _ _ _ _ _ _ _ (h.1 q) hP hS hL hn) (fun q => hk _ _ _ _ _ _ _ _ (h.2 q) hP hS hL hn)
  | tableswitch d lo hi offs =>
    replace h := mv_pI_inv h
    obtain ⟨x, r, rfl, h⟩ := h
    have hg : (decide ((pc : Int) + d = (tg : Int)) && offs.toList.all (fun o => decide (0 ≤ (pc : Int) + o)) && decide (lo + (offs.toList.length : Int) = hi + 1)) = true := hg
    simp only [Bool.and_eq_true, decide_eq_true_eq, List.all_eq_true] at hg
    obtain ⟨⟨g1, g2⟩, g3⟩ := hg
    by_cases ho : x.toInt < lo ∨ hi < x.toInt
    · exact lv_tableOut hx hb hraw ho g1 (hk _ _ _ _ _ _ _ _ (h.1 ho) hP hS hL hn)
    · have h1 : ¬ x.toInt < lo := fun q => ho (Or.inl q)
      have h2 : ¬ hi < x.toInt := fun q => ho (Or.inr q)
      have hj : (x.toInt - lo).toNat < offs.toList.length := by omega
      have hj2 : offs.toList[(x.toInt - lo).toNat]? = some (offs.toList[(x.toInt - lo).toNat]) := List.getElem?_eq_getElem hj
      have hpos := g2 _ (List.getElem_mem hj)
      exact lv_tableIn hx hb hraw h1 h2 (by rw [← Array.getElem?_toList]; exact hj2) (by rw [Int.toNat_of_nonneg hpos]) (hk _ _ _ _ _ _ _ _ (mv_sw_at h.2 _ _ hj2 (by omega)) hP hS hL hn)
  | getfield idx =>
    obtain ⟨hdd, rfl⟩ := hd (Nat.succ_ne_zero _)
    replace h := mv_pA_inv h
    obtain ⟨a, r, rfl, h⟩ := h
    cases hf : fl idx with
    | none => simp only [hf] at h
    | some q =>
      obtain ⟨ci, fi⟩ := q
      simp only [hf] at h
      replace h := mv_at_inv h
      obtain ⟨o, he, h⟩ := h
      replace h := mv_obj_inv h
      obtain ⟨fs, rfl, h⟩ := h
      obtain ⟨C, T, N, ty0, c1, c2, c3, c4, c5, c6⟩ := hF idx ci fi hf
      rcases h with ⟨q, hq, h⟩ | ⟨hq, h⟩
      · exact va_get (D := (dC, dI)) (ci := ci) (v := .ref (ad q)) (C := C) (T := T) (N := N) hx hb hts c3 hown hK hP a (mv_ws_get he) c1 fi c2 (hts _ c4) (fun _ h9 => h9) (mv_fs_ref ad (I a) fs 0 fi q hq) hdd (hk _ _ _ _ _ _ _ _ h hP hS hL hn)
      · have hv := mv_fs_int ad (I a) fs 0 fi hq
        rw [Nat.zero_add] at hv
        exact va_get (D := (dC, dI)) (ci := ci) (v := .int (I a fi)) (C := C) (T := T) (N := N) hx hb hts c3 hown hK hP a (mv_ws_get he) c1 fi c2 (hts _ c4) (fun _ h9 => h9) hv hdd (hk _ _ _ _ _ _ _ _ h hP hS hL hn)
  | putfield idx =>
    obtain ⟨hdd, rfl⟩ := hd (Nat.succ_ne_zero _)
    replace h := mv_pI_inv h
    obtain ⟨v, r, rfl, h⟩ := h
    replace h := mv_pA_inv h
    obtain ⟨a, r, rfl, h⟩ := h
    cases hf : fl idx with
    | none => simp only [hf] at h
    | some q =>
      obtain ⟨ci, fi⟩ := q
      simp only [hf] at h
      replace h := mv_at_inv h
      obtain ⟨o, he, h⟩ := h
      replace h := mv_obj_inv h
      obtain ⟨fs, rfl, h⟩ := h
      obtain ⟨C, T, N, ty0, c1, c2, c3, c4, c5, c6⟩ := hF idx ci fi hf
      rcases h with ⟨q, hq, h⟩ | ⟨hq, h⟩
      · exact h.elim
      · obtain ⟨z1, z2⟩ := hSh a (ci, fs) fi he hq (C, T, N) c1
        have hlt : fi < (mv_fs ad (I a) 0 fs).length := (List.getElem?_eq_some_iff.mp (mv_fs_int ad (I a) fs 0 fi hq)).1
        cases hz : mv_isZ ci fi with
        | false =>
          simp only [hz, cond_false] at h z2
          exact va_put (D := (dC, dI)) (ci := ci) (v := .int v) (ty := .int) (C := C) (T := T) (N := N) hx hb hts c3 ty0 c5 c6 hown hK hP (hD I J) hS a (mv_ws_get he) c1 fi c2 (hts _ c4) (fun _ h9 => h9) z1 z2 rfl rfl hlt hdd (fun H1 locs1 hP1 _ hS1 => hk _ _ _ _ _ _ _ _ h (by rw [← mv_ws_put he hq]; exact hP1) hS1 hL hn)
        | true =>
          simp only [hz, cond_true] at h z2
          have hv : narrow .boolean (.int v) = .int v ∧ fits .boolean (.int v) = true := by rcases h.1 with rfl | rfl <;> exact ⟨rfl, rfl⟩
          exact va_put (D := (dC, dI)) (ci := ci) (v := .int v) (ty := .boolean) (C := C) (T := T) (N := N) hx hb hts c3 ty0 c5 c6 hown hK hP (hD I J) hS a (mv_ws_get he) c1 fi c2 (hts _ c4) (fun _ h9 => h9) z1 z2 hv.1 hv.2 hlt hdd (fun H1 locs1 hP1 _ hS1 => hk _ _ _ _ _ _ _ _ h.2 (by rw [← mv_ws_put he hq]; exact hP1) hS1 hL hn)
  | iaload =>
    obtain ⟨hdd, rfl⟩ := hd (Nat.succ_ne_zero _)
    replace h := mv_pI_inv h
    obtain ⟨j, r, rfl, h⟩ := h
    replace h := mv_pA_inv h
    obtain ⟨a, r, rfl, h⟩ := h
    cases he : mv_nth a sh with
    | none =>
      simp only [he] at h
      cases hX9 : X with
      | none => simp only [hX9] at h
      | some q =>
        obtain ⟨L, xs⟩ := q
        simp only [hX9] at h
        replace h := mv_bif h
        obtain ⟨h1, h⟩ := h
        have h1 := Nat.eq_of_beq_eq_true h1
        subst h1
        obtain ⟨x1, x2, x3⟩ := hX L xs hX9
        exact va_sld hx hb x1 x2 x3 hS h.1 hdd (hk _ _ _ _ _ _ _ _ h.2 hP hS hL hn)
    | some o =>
      simp only [he] at h
      replace h := mv_arr_inv h
      obtain ⟨ty, n, rfl, h⟩ := h
      replace h := mv_bif h
      obtain ⟨h1, h⟩ := h
      have h1 := Nat.eq_of_beq_eq_true h1
      subst h1
      exact va_iald hx hb hK hP a 0 (mv_ws_get he) rfl h.1 hdd (hk _ _ _ _ _ _ _ _ h.2 hP hS hL hn)
  | baload =>
    obtain ⟨hdd, rfl⟩ := hd (Nat.succ_ne_zero _)
    replace h := mv_pI_inv h
    obtain ⟨j, r, rfl, h⟩ := h
    replace h := mv_pA_inv h
    obtain ⟨a, r, rfl, h⟩ := h
    replace h := mv_at_inv h
    obtain ⟨o, he, h⟩ := h
    replace h := mv_arr_inv h
    obtain ⟨ty, n, rfl, h⟩ := h
    replace h := mv_bif h
    obtain ⟨h1, h⟩ := h
    rcases Bool.or_eq_true _ _ ▸ h1 with h1 | h1
    · have h1 := Nat.eq_of_beq_eq_true h1
      subst h1
      exact va_bald hx hb hK hP a 2 (mv_ws_get he) rfl h.1 hdd (hk _ _ _ _ _ _ _ _ h.2 hP hS hL hn)
    · have h1 := Nat.eq_of_beq_eq_true h1
      subst h1
      exact va_zald hx hb hK hP a 3 (mv_ws_get he) rfl h.1 hdd (hk _ _ _ _ _ _ _ _ h.2 hP hS hL hn)
  | laload =>
    obtain ⟨hdd, rfl⟩ := hd (Nat.succ_ne_zero _)
    replace h := mv_pI_inv h
    obtain ⟨j, r, rfl, h⟩ := h
    replace h := mv_pA_inv h
    obtain ⟨a, r, rfl, h⟩ := h
    replace h := mv_at_inv h
    obtain ⟨o, he, h⟩ := h
    replace h := mv_arr_inv h
    obtain ⟨ty, n, rfl, h⟩ := h
    replace h := mv_bif h
    obtain ⟨h1, h⟩ := h
    have h1 := Nat.eq_of_beq_eq_true h1
    subst h1
    exact va_lald hx hb hK hP a 1 (mv_ws_get he) rfl h.1 hdd (hk _ _ _ _ _ _ _ _ h.2 hP hS hL hn)
  | aaload =>
    obtain ⟨hdd, rfl⟩ := hd (Nat.succ_ne_zero _)
    replace h := mv_pI_inv h
    obtain ⟨j, r, rfl, h⟩ := h
    replace h := mv_pA_inv h
    obtain ⟨a, r, rfl, h⟩ := h
    replace h := mv_at_inv h
    obtain ⟨o, he, h⟩ := h
    replace h := mv_arr_inv h
    obtain ⟨ty, n, rfl, h⟩ := h
    replace h := mv_bif h
    obtain ⟨h1, h⟩ := h
    have h1 : Nat.beq ty 4 = true ∧ Nat.beq n 4 = true := by simpa only [Bool.and_eq_true] using h1
    obtain ⟨h1, h2⟩ := h1
    have h1 := Nat.eq_of_beq_eq_true h1
    have h2 := Nat.eq_of_beq_eq_true h2
    subst h1
    subst h2
    obtain ⟨h0, k0, k1, k2, k3⟩ := h
    refine va_aldq hx hb hK hP a 4 (mv_ws_get he) rfl h0 hdd ?_
    obtain ⟨z, hz, rfl⟩ := vp_in_of h0 (by decide)
    match z, hz with
    | 0, _ => exact hk _ _ _ _ _ _ _ _ (k0 (by decide)) hP hS hL hn
    | 1, _ => exact hk _ _ _ _ _ _ _ _ (k1 (by decide)) hP hS hL hn
    | 2, _ => exact hk _ _ _ _ _ _ _ _ (k2 (by decide)) hP hS hL hn
    | 3, _ => exact hk _ _ _ _ _ _ _ _ (k3 (by decide)) hP hS hL hn
    | z + 4, hz => omega
  | arraylength =>
    obtain ⟨hdd, rfl⟩ := hd (Nat.succ_ne_zero _)
    replace h := mv_pA_inv h
    obtain ⟨a, r, rfl, h⟩ := h
    cases he : mv_nth a sh with
    | none =>
      simp only [he] at h
      cases hX9 : X with
      | none => simp only [hX9] at h
      | some q =>
        obtain ⟨L, xs⟩ := q
        simp only [hX9] at h
        replace h := mv_bif h
        obtain ⟨h1, h⟩ := h
        have h1 := Nat.eq_of_beq_eq_true h1
        subst h1
        obtain ⟨x1, x2, x3⟩ := hX L xs hX9
        exact va_slen hx hb x1 x2 x3 hS hdd (hk _ _ _ _ _ _ _ _ h hP hS hL hn)
    | some o =>
      simp only [he] at h
      replace h := mv_arr_inv h
      obtain ⟨ty, n, rfl, h⟩ := h
      replace h := mv_bif h
      obtain ⟨h1, h⟩ := h
      have h1 : ty < 5 := Nat.le_of_ble_eq_true h1
      match ty, h1, he with
      | 0, _, he => exact va_alen hx hb hK hP a 0 (mv_ws_get he) rfl rfl hdd (hk _ _ _ _ _ _ _ _ h hP hS hL hn)
      | 1, _, he => exact va_alen hx hb hK hP a 1 (mv_ws_get he) rfl rfl hdd (hk _ _ _ _ _ _ _ _ h hP hS hL hn)
      | 2, _, he => exact va_alen hx hb hK hP a 2 (mv_ws_get he) rfl rfl hdd (hk _ _ _ _ _ _ _ _ h hP hS hL hn)
      | 3, _, he => exact va_alen hx hb hK hP a 3 (mv_ws_get he) rfl rfl hdd (hk _ _ _ _ _ _ _ _ h hP hS hL hn)
      | 4, _, he => exact va_alen hx hb hK hP a 4 (mv_ws_get he) rfl rfl hdd (hk _ _ _ _ _ _ _ _ h hP hS hL hn)
      | z + 5, h1, _ => omega
  | iastore =>
    obtain ⟨hdd, rfl⟩ := hd (Nat.succ_ne_zero _)
    replace h := mv_pI_inv h
    obtain ⟨v, r, rfl, h⟩ := h
    replace h := mv_pI_inv h
    obtain ⟨j, r, rfl, h⟩ := h
    replace h := mv_pA_inv h
    obtain ⟨a, r, rfl, h⟩ := h
    replace h := mv_at_inv h
    obtain ⟨o, he, h⟩ := h
    replace h := mv_arr_inv h
    obtain ⟨ty, n, rfl, h⟩ := h
    replace h := mv_bif h
    obtain ⟨h1, h⟩ := h
    have h1 := Nat.eq_of_beq_eq_true h1
    subst h1
    exact va_iast hx hb hK hP (hD I J) hS a 0 (mv_ws_get he) rfl h.1 hdd (fun H1 locs1 hP1 _ hS1 => hk _ _ _ _ _ _ _ _ h.2 (by rw [← mv_ws_row _ he (fun _ _ => rfl)]; exact hP1) hS1 hL hn)
  | bastore =>
    obtain ⟨hdd, rfl⟩ := hd (Nat.succ_ne_zero _)
    replace h := mv_pI_inv h
    obtain ⟨v, r, rfl, h⟩ := h
    replace h := mv_pI_inv h
    obtain ⟨j, r, rfl, h⟩ := h
    replace h := mv_pA_inv h
    obtain ⟨a, r, rfl, h⟩ := h
    replace h := mv_at_inv h
    obtain ⟨o, he, h⟩ := h
    replace h := mv_arr_inv h
    obtain ⟨ty, n, rfl, h⟩ := h
    cases h2 : Nat.beq ty 2 with
    | true =>
      have h1 := Nat.eq_of_beq_eq_true h2
      subst h1
      exact va_bast hx hb hK hP (hD I J) hS a 2 (mv_ws_get he) rfl h.1 hdd (fun H1 locs1 hP1 _ hS1 => hk _ _ _ _ _ _ _ _ h.2 (by rw [← mv_ws_row _ he (fun _ _ => rfl)]; exact hP1) hS1 hL hn)
    | false =>
      simp only [h2, cond_false] at h
      replace h := mv_bif h
      obtain ⟨h1, h⟩ := h
      have h1 := Nat.eq_of_beq_eq_true h1
      subst h1
      exact va_zast hx hb hK hP (hD I J) hS a 3 (mv_ws_get he) rfl h.1 hdd (fun H1 locs1 hP1 _ hS1 => hk _ _ _ _ _ _ _ _ h.2 (by rw [← mv_ws_row _ he (fun _ _ => rfl)]; exact hP1) hS1 hL hn)
  | lastore =>
    obtain ⟨hdd, rfl⟩ := hd (Nat.succ_ne_zero _)
    replace h := mv_pL_inv h
    obtain ⟨v, r, rfl, h⟩ := h
    replace h := mv_pI_inv h
    obtain ⟨j, r, rfl, h⟩ := h
    replace h := mv_pA_inv h
    obtain ⟨a, r, rfl, h⟩ := h
    replace h := mv_at_inv h
    obtain ⟨o, he, h⟩ := h
    replace h := mv_arr_inv h
    obtain ⟨ty, n, rfl, h⟩ := h
    replace h := mv_bif h
    obtain ⟨h1, h⟩ := h
    have h1 := Nat.eq_of_beq_eq_true h1
    subst h1
    exact va_last hx hb hK hP (hD I J) hS a 1 (mv_ws_get he) rfl h.1 hdd (fun H1 locs1 hP1 _ hS1 => hk _ _ _ _ _ _ _ _ h.2 (by rw [← mv_ws_rowL _ he]; exact hP1) hS1 hL hn)
  | invokestatic idx =>
    obtain ⟨hdd, rfl⟩ := hd (Nat.succ_ne_zero _)
    cases hf : cs idx with
    | none => simp only [mv_step, hf] at h
    | some q =>
      obtain ⟨mid, na, ci⟩ := q
      simp only [mv_step, hf] at h
      replace h := mv_bif h
      obtain ⟨hci, h⟩ := h
      have hsz : c.maxLocals = arr.size := by rw [hml, hL.1, hn]
      unfold mv_static at h
      split at h
      · replace h := mv_pI_inv h
        obtain ⟨y, r, rfl, h⟩ := h
        replace h := mv_pI_inv h
        obtain ⟨x, r, rfl, h⟩ := h
        replace h := mv_bif h
        obtain ⟨h8, h⟩ := h
        have h8 := Nat.le_of_ble_eq_true h8
        obtain ⟨j1, j2, j3, j4⟩ := hJ.1 idx na ci hf
        exact va_mmax hx hb hsz hown (hts _ j1) (hts _ j2) (hts _ j3) (hts _ j4) hR.1 (by rw [mv_cs_eq]; omega) hR.2.2.1 hR.2.2.2 hdd (hk _ _ _ _ _ _ _ _ h hP hS hL hn)
      · replace h := mv_pI_inv h
        obtain ⟨y, r, rfl, h⟩ := h
        replace h := mv_pI_inv h
        obtain ⟨x, r, rfl, h⟩ := h
        replace h := mv_bif h
        obtain ⟨h8, h⟩ := h
        have h8 := Nat.le_of_ble_eq_true h8
        obtain ⟨j1, j2, j3, j4⟩ := hJ.2.1 idx na ci hf
        exact va_mmin hx hb hsz hown (hts _ j1) (hts _ j2) (hts _ j3) (hts _ j4) hR.1 (by rw [mv_cs_eq]; omega) hR.2.2.1 hR.2.2.2 hdd (hk _ _ _ _ _ _ _ _ h hP hS hL hn)
      · replace h := mv_pI_inv h
        obtain ⟨n, r, rfl, h⟩ := h
        replace h := mv_pI_inv h
        obtain ⟨dp, r, rfl, h⟩ := h
        replace h := mv_pA_inv h
        obtain ⟨a, r, rfl, h⟩ := h
        replace h := mv_pI_inv h
        obtain ⟨sp, r, rfl, h⟩ := h
        replace h := mv_pA_inv h
        obtain ⟨a0, r, rfl, h⟩ := h
        replace h := mv_bif h
        obtain ⟨h8, h⟩ := h
        have h8 := Nat.le_of_ble_eq_true h8
        replace h := mv_at_inv h
        obtain ⟨o0, he0, h⟩ := h
        replace h := mv_arr_inv h
        obtain ⟨t0, n0, rfl, h⟩ := h
        replace h := mv_at_inv h
        obtain ⟨o, he, h⟩ := h
        replace h := mv_arr_inv h
        obtain ⟨t1, n1, rfl, h⟩ := h
        replace h := mv_bif h
        obtain ⟨h1, h⟩ := h
        have h1 : Nat.beq t0 0 = true ∧ Nat.beq t1 0 = true := by simpa only [Bool.and_eq_true] using h1
        obtain ⟨h1, h2⟩ := h1
        have h1 := Nat.eq_of_beq_eq_true h1
        have h2 := Nat.eq_of_beq_eq_true h2
        subst h1
        subst h2
        obtain ⟨y1, y2, y3, y4, y5, h⟩ := h
        obtain ⟨j1, j2, j3, j4⟩ := hJ.2.2 idx na ci hf
        exact va_copyi hx hb hsz hown (hts _ j1) (hts _ j2) (hts _ j3) (hts _ j4) hK hP (hD I J) hS a0 a 0 0 (ty := .int) (mv_ws_get he0) (mv_ws_get he) rfl rfl rfl y1 y2 y3 y4 y5 (fun _ _ => rfl) hR.1 (by rw [mv_cs_eq]; show mv_cs r + (7 + 11) ≤ R.locals; omega) hdd (fun H1 locs1 hP1 _ hS1 => hk _ _ _ _ _ _ _ _ h (by rw [← mv_ws_row _ he (fun _ _ => rfl)]; exact hP1) hS1 hL hn)
      · replace h := mv_pop_inv h
        obtain ⟨as, r, rfl, hlen, h⟩ := h
        rw [List.append_nil] at h
        replace h := mv_bif h
        obtain ⟨h8, h⟩ := h
        have h8 := Nat.le_of_ble_eq_true h8
        obtain ⟨y, bytes, maxL, ret, ws, ws', rm, ⟨e1, e2, e3, e4⟩, r1, r2, r3, r4, hM⟩ := hC idx _ na ci hf as I J _ hlen h
        simp only [hci, cond_true] at e4
        have hstk : (as.reverse ++ r).map (mv_val ad) = (as.map (mv_val ad)).reverse ++ r.map (mv_val ad) := by rw [List.map_append, List.map_reverse]
        cases hc2 : Nat.beq ci 100 with
        | true =>
          simp only [hc2, cond_true] at e4
          rcases hM H.size with hM | hM
          · exact va_calli (va_runS (As := as.map (mv_val ad)) (rest := r.map (mv_val ad)) ⟨hx, hb, hml, hown, hts⟩ hM (va_cwS na hts e4.1 e1 r1 r2 ⟨e2.1, e2.2, e4.2⟩ ⟨r3, by omega⟩) ⟨fun aa U g mk q => by obtain ⟨q0, q1, qP, qK, qD, qN⟩ := q; exact ⟨q0, q1, qP, va_K.moved (u := U) (U := U.calling g mk aa) (Vm.Alike.refl U.vm) qK, qD, mv_NW.same (u := U) (U := U.calling g mk aa) rfl qN⟩, fun U hU hW => ⟨rfl, by rw [hU], by rw [hU]; exact hP, va_K.moved hW.alike hK, (hD I J).weaken (fun _ _ _ _ => trivial), mv_NW.warm hW hNW⟩⟩ rfl (by rw [List.length_map]; exact hlen) (by rw [← hn]; exact hL.1) hstk (lv_room (by rw [mv_cs_eq]; exact h8)) hdd ⟨hR.2.2.1, hR.2.2.2⟩) hS (fun q _ h => hFc q h) hFc (fun r0 u t H1 locs1 ht hvm hw hB hz1 hk1 hS1 => hk _ _ _ _ _ _ _ _ hw (by rw [← ht]; exact hB) hS1 hL hn)
          · exact va_callv (va_runS (As := as.map (mv_val ad)) (rest := r.map (mv_val ad)) ⟨hx, hb, hml, hown, hts⟩ hM (va_cwS na hts e4.1 e1 r1 r2 ⟨e2.1, e2.2, e4.2⟩ ⟨r3, by omega⟩) ⟨fun aa U g mk q => by obtain ⟨q0, q1, qP, qK, qD, qN⟩ := q; exact ⟨q0, q1, qP, va_K.moved (u := U) (U := U.calling g mk aa) (Vm.Alike.refl U.vm) qK, qD, mv_NW.same (u := U) (U := U.calling g mk aa) rfl qN⟩, fun U hU hW => ⟨rfl, by rw [hU], by rw [hU]; exact hP, va_K.moved hW.alike hK, (hD I J).weaken (fun _ _ _ _ => trivial), mv_NW.warm hW hNW⟩⟩ rfl (by rw [List.length_map]; exact hlen) (by rw [← hn]; exact hL.1) hstk (lv_room (by rw [mv_cs_eq]; exact h8)) hdd ⟨hR.2.2.1, hR.2.2.2⟩) hS (fun q _ h => hFc q h) hFc (fun u t H1 locs1 ht hvm hw hB hz1 hk1 hS1 => hk _ _ _ _ _ _ _ _ hw (by rw [← ht]; exact hB) hS1 hL hn)
        | false =>
          simp only [hc2, cond_false] at e4
          obtain ⟨host, hh⟩ := e4.1.2.2.2
          rcases hM H.size with hM | hM
          · exact va_calli (va_runSN (As := as.map (mv_val ad)) (rest := r.map (mv_val ad)) ⟨hx, hb, hml, hown, hts⟩ hM ⟨va_cnB na hts e4.1.1 e1 r1 r2 (hNW _ hh) (hts _ e4.1.2.2.1) ⟨e2.1, e2.2, e4.2⟩ ⟨r3, by omega⟩, hts _ e4.1.2.1, trivial⟩ ⟨fun aa U g mk q => by obtain ⟨q0, q1, qP, qK, qD, qN⟩ := q; exact ⟨q0, q1, qP, va_K.moved (u := U) (U := U.calling g mk aa) (Vm.Alike.refl U.vm) qK, qD, mv_NW.same (u := U) (U := U.calling g mk aa) rfl qN⟩, fun U hU hW => ⟨rfl, by rw [hU], by rw [hU]; exact hP, va_K.moved hW.alike hK, (hD I J).weaken (fun _ _ _ _ => trivial), mv_NW.warm hW hNW⟩⟩ rfl (by rw [List.length_map]; exact hlen) (by rw [← hn]; exact hL.1) hstk (lv_room (by rw [mv_cs_eq]; exact h8)) hdd ⟨hR.2.2.1, hR.2.2.2⟩) hS (fun q _ h => hFc q h) hFc (fun r0 u t H1 locs1 ht hvm hw hB hz1 hk1 hS1 => hk _ _ _ _ _ _ _ _ hw (by rw [← ht]; exact hB) hS1 hL hn)
          · exact va_callv (va_runSN (As := as.map (mv_val ad)) (rest := r.map (mv_val ad)) ⟨hx, hb, hml, hown, hts⟩ hM ⟨va_cnB na hts e4.1.1 e1 r1 r2 (hNW _ hh) (hts _ e4.1.2.2.1) ⟨e2.1, e2.2, e4.2⟩ ⟨r3, by omega⟩, hts _ e4.1.2.1, trivial⟩ ⟨fun aa U g mk q => by obtain ⟨q0, q1, qP, qK, qD, qN⟩ := q; exact ⟨q0, q1, qP, va_K.moved (u := U) (U := U.calling g mk aa) (Vm.Alike.refl U.vm) qK, qD, mv_NW.same (u := U) (U := U.calling g mk aa) rfl qN⟩, fun U hU hW => ⟨rfl, by rw [hU], by rw [hU]; exact hP, va_K.moved hW.alike hK, (hD I J).weaken (fun _ _ _ _ => trivial), mv_NW.warm hW hNW⟩⟩ rfl (by rw [List.length_map]; exact hlen) (by rw [← hn]; exact hL.1) hstk (lv_room (by rw [mv_cs_eq]; exact h8)) hdd ⟨hR.2.2.1, hR.2.2.2⟩) hS (fun q _ h => hFc q h) hFc (fun u t H1 locs1 ht hvm hw hB hz1 hk1 hS1 => hk _ _ _ _ _ _ _ _ hw (by rw [← ht]; exact hB) hS1 hL hn)
  | invokevirtual idx =>
    obtain ⟨hdd, rfl⟩ := hd (Nat.succ_ne_zero _)
    cases hf : cs idx with
    | none => simp only [mv_step, hf] at h
    | some q =>
      obtain ⟨mid, na, ci⟩ := q
      simp only [mv_step, hf] at h
      cases hci : Nat.ble 100 ci with
      | true => simp only [hci, cond_true] at h
      | false =>
        simp only [hci, cond_false] at h
        replace h := mv_pop_inv h
        obtain ⟨as, r, rfl, hlen, h⟩ := h
        rw [List.append_nil] at h
        cases as with
        | nil => exact h.elim
        | cons v as =>
          replace h := mv_asA_inv h
          obtain ⟨a, rfl, h⟩ := h
          replace h := mv_at_inv h
          obtain ⟨o, he, h⟩ := h
          replace h := mv_is_inv h
          obtain ⟨fs, rfl, h⟩ := h
          replace h := mv_bif h
          obtain ⟨h8, h⟩ := h
          have h8 := Nat.le_of_ble_eq_true h8
          obtain ⟨y, bytes, maxL, ret, ws, ws', rm, ⟨e1, e2, e3, e4⟩, r1, r2, r3, r4, hM⟩ := hC idx _ na ci hf _ I J _ hlen h
          simp only [hci, cond_false] at e4
          obtain ⟨n, rfl, hnp⟩ := e4.2.1
          obtain ⟨qc, hqc, hqy⟩ := e4.2.2
          have hstk : ((.inr (.inr a) :: as).reverse ++ r).map (mv_val ad) = (as.map (mv_val ad)).reverse ++ .ref (ad a) :: r.map (mv_val ad) := by
            rw [List.map_append, List.map_reverse, List.map_cons, List.reverse_cons, List.append_assoc]
            rfl
          have hrcv := va_recv hK hP hqc (mv_ws_get he)
          rw [hqy] at hrcv
          rcases hM H.size with hM | hM
          · exact va_calli (va_runV (As := as.map (mv_val ad)) (rest := r.map (mv_val ad)) ⟨hx, hb, hml, hown, hts⟩ hM (cwV n hts e4.1 e1 r1 r2 ⟨rfl, e2.1, e2.2, hnp⟩ ⟨r3, by omega⟩) ⟨fun aa U g mk q => by obtain ⟨q0, q1, qP, qK, qD, qN⟩ := q; exact ⟨q0, q1, qP, va_K.moved (u := U) (U := U.calling g mk aa) (Vm.Alike.refl U.vm) qK, qD, mv_NW.same (u := U) (U := U.calling g mk aa) rfl qN⟩, hrcv, fun U hU hW => ⟨rfl, by rw [hU], by rw [hU]; exact hP, va_K.moved hW.alike hK, (hD I J).weaken (fun _ _ _ _ => trivial), mv_NW.warm hW hNW⟩⟩ rfl (by rw [List.length_map]; simpa using hlen) (by rw [← hn]; exact hL.1) hstk (lv_room (by rw [mv_cs_eq]; exact h8)) hdd ⟨hR.2.2.1, hR.2.2.2⟩) hS (fun q _ h => hFc q h) hFc (fun r0 u t H1 locs1 ht hvm hw hB hz1 hk1 hS1 => hk _ _ _ _ _ _ _ _ hw (by rw [← ht]; exact hB) hS1 hL hn)
          · exact va_callv (va_runV (As := as.map (mv_val ad)) (rest := r.map (mv_val ad)) ⟨hx, hb, hml, hown, hts⟩ hM (cwV n hts e4.1 e1 r1 r2 ⟨rfl, e2.1, e2.2, hnp⟩ ⟨r3, by omega⟩) ⟨fun aa U g mk q => by obtain ⟨q0, q1, qP, qK, qD, qN⟩ := q; exact ⟨q0, q1, qP, va_K.moved (u := U) (U := U.calling g mk aa) (Vm.Alike.refl U.vm) qK, qD, mv_NW.same (u := U) (U := U.calling g mk aa) rfl qN⟩, hrcv, fun U hU hW => ⟨rfl, by rw [hU], by rw [hU]; exact hP, va_K.moved hW.alike hK, (hD I J).weaken (fun _ _ _ _ => trivial), mv_NW.warm hW hNW⟩⟩ rfl (by rw [List.length_map]; simpa using hlen) (by rw [← hn]; exact hL.1) hstk (lv_room (by rw [mv_cs_eq]; exact h8)) hdd ⟨hR.2.2.1, hR.2.2.2⟩) hS (fun q _ h => hFc q h) hFc (fun u t H1 locs1 ht hvm hw hB hz1 hk1 hS1 => hk _ _ _ _ _ _ _ _ hw (by rw [← ht]; exact hB) hS1 hL hn)
  | ireturn =>
    obtain ⟨hdd, rfl⟩ := hd (Nat.succ_ne_zero _)
    replace h := mv_pI_inv h
    obtain ⟨x, r, rfl, h⟩ := h
    cases r with
    | nil => exact hret _ _ _ _ _ _ _ hdd h hP hS
    | cons _ _ => exact h.elim
  | return_ =>
    obtain ⟨hdd, rfl⟩ := hd (Nat.succ_ne_zero _)
    cases st with
    | nil => exact hvret _ _ _ _ _ _ hdd h hP hS
    | cons _ _ => exact h.elim
  | _ => exact False.elim h
end MVS
end
section
theorem mv_nn_inv : ∀ {n : Nat} {f : mv_L → Prop}, mv_nn n f → ∃ ls, f ls ∧ ls.length = n ∧ ∀ j w, ¬ mv_nth j ls = some (some w)
  | 0, f, h => ⟨[], h, rfl, fun j w q => by simp [mv_nth] at q⟩
  | n + 1, f, h => by
    obtain ⟨ls, h1, h2, h3⟩ := mv_nn_inv (n := n) h
    refine ⟨_, h1, by simp [h2], fun j w q => ?_⟩
    cases j with
    | zero => cases q
    | succ j => exact h3 j w q
theorem mv_ini_inv (ad : Nat → Nat) : ∀ {as : List mv_V} {n : Nat} {f : mv_L → Prop}, mv_ini as n f → ∃ ls, f ls ∧ ls.length = n ∧ (lg_sl (as.map (mv_val ad))).length ≤ n ∧ ∀ k j w, mv_nth j ls = some (some w) → (k + j, mv_val ad w) ∈ lv_args k (as.map (mv_val ad))
  | [], n, f, h => by
    obtain ⟨ls, h1, h2, h3⟩ := mv_nn_inv h
    exact ⟨ls, h1, h2, by simp [lg_sl], fun k j w q => absurd q (h3 j w)⟩
  | .inl x :: t, 0, f, h => by simp [mv_ini] at h
  | .inl x :: t, n + 1, f, h => by
    obtain ⟨ls, h1, h2, h3, h4⟩ := mv_ini_inv ad (as := t) (n := n) h
    refine ⟨_, h1, by simp [h2], ?_, fun k j w q => ?_⟩
    · simp only [lg_sl, List.map_cons, List.flatMap_cons, List.length_append] at h3 ⊢
      simp only [mv_val, Value.category] at h3 ⊢
      simp at h3 ⊢
      omega
    · cases j with
      | zero =>
        have : (.inl x : mv_V) = w := Option.some.inj (Option.some.inj q)
        subst this
        exact List.mem_cons_self
      | succ j =>
        have := h4 (k + 1) j w q
        rw [show k + (j + 1) = k + 1 + j by omega]
        exact List.mem_cons_of_mem _ this
  | .inr (.inr x) :: t, 0, f, h => by simp [mv_ini] at h
  | .inr (.inr x) :: t, n + 1, f, h => by
    obtain ⟨ls, h1, h2, h3, h4⟩ := mv_ini_inv ad (as := t) (n := n) h
    refine ⟨_, h1, by simp [h2], ?_, fun k j w q => ?_⟩
    · simp only [lg_sl, List.map_cons, List.flatMap_cons, List.length_append] at h3 ⊢
      simp only [mv_val, Value.category] at h3 ⊢
      simp at h3 ⊢
      omega
    · cases j with
      | zero =>
        have : (.inr (.inr x) : mv_V) = w := Option.some.inj (Option.some.inj q)
        subst this
        exact List.mem_cons_self
      | succ j =>
        have := h4 (k + 1) j w q
        rw [show k + (j + 1) = k + 1 + j by omega]
        exact List.mem_cons_of_mem _ this
  | .inr (.inl x) :: t, 0, f, h => by simp [mv_ini] at h
  | .inr (.inl x) :: t, 1, f, h => by simp [mv_ini] at h
  | .inr (.inl x) :: t, n + 2, f, h => by
    obtain ⟨ls, h1, h2, h3, h4⟩ := mv_ini_inv ad (as := t) (n := n) h
    refine ⟨_, h1, by simp [h2], ?_, fun k j w q => ?_⟩
    · simp only [lg_sl, List.map_cons, List.flatMap_cons, List.length_append] at h3 ⊢
      simp only [mv_val, Value.category] at h3 ⊢
      simp at h3 ⊢
      omega
    · match j, q with
      | 0, q =>
        have : (.inr (.inl x) : mv_V) = w := Option.some.inj (Option.some.inj q)
        subst this
        exact List.mem_cons_self
      | 1, q => cases q
      | j + 2, q =>
        have := h4 (k + 2) j w q
        rw [show k + (j + 2) = k + 2 + j by omega]
        exact List.mem_cons_of_mem _ this
section MVW
variable {p : Program} {l : Launch} {e : Env} {R : Room} {s : State} {m : MethodId} {args : Array Value} {below : List Frame} {meth : Method} {c : Code} {cells slots : Nat} {Qf : State → Prop}
variable {cc : ByteArray} {own : String} {Ts : List Jvm.Cond} {nL : Nat} {dC : Nat → ClassId} {dI : Nat → Nat → Nat} {cl0 : List vw_C} {cy : Nat → ClassId} {ad : Nat → Nat} {sh : List mv_E} {A : Nat → Prop} {H0 : Heap}
theorem mv_wp_sound (hx : p.tables.exec = Jvm.exec) (hb : c.code = cc) (hml : c.maxLocals = nL) (hown : s.vm.findClass own = some m.cls) (hts : ∀ w ∈ Ts, w.before args s = true) (hK : va_K (dC, dI) cl0 (mv_tys cy) s) (hD : ∀ I J, va_D A (mv_ws cy ad sh I J)) (hA : ∀ q : Nat, H0.size ≤ q → A q) (hR : 1 ≤ R.frames ∧ 60 ≤ R.locals ∧ cells ≤ R.cells ∧ slots ≤ R.slots)
    {X : Option (Nat × (Nat → Int32))} (hX : ∀ L xs, X = some (L, xs) → va_X (ad 999) L xs s H0 ∧ ad 999 < H0.size ∧ ¬ A (ad 999)) {tb : Nat → Option mv_R} {fl : Nat → Option (Nat × Nat)} {cs : Nat → Option (Nat × Nat × Nat)} {call : Nat → List mv_V → mv_I → mv_J → mv_Q → Prop} {rb : Nat} {stop : mv_K} {Q : mv_Q}
    (hNW : mv_NW s) (hT : mv_tbB cc own Ts tb) (hF : mv_flB cl0 own Ts fl) (hSh : mv_shB cl0 sh) (hC : mv_csB l R cl0 dC dI cy ad sh own Ts cs call) (hJ : mv_jdB own Ts cs)
    (hret : ∀ (pc : Nat) (x : Int32) (I : mv_I) (J : mv_J) (H : Heap) (locs : List Loc) (arr : Array Slot), decode cc pc = .ok (.ireturn, 1) → mv_rq rb x (Q (some (.inl x)) I J) → va_P (dC, dI) cl0 (mv_ws cy ad sh I J) H → va_S A H0 H locs → W p l e R s m args below meth c H locs cells slots Qf (F0 m pc arr [.int x]))
    (hvret : ∀ (pc : Nat) (I : mv_I) (J : mv_J) (H : Heap) (locs : List Loc) (arr : Array Slot), decode cc pc = .ok (.return_, 1) → mv_rv rb (Q none I J) → va_P (dC, dI) cl0 (mv_ws cy ad sh I J) H → va_S A H0 H locs → W p l e R s m args below meth c H locs cells slots Qf (F0 m pc arr []))
    (hstop : ∀ (pc : Nat) (ls : mv_L) (st : List mv_V) (I : mv_I) (J : mv_J) (H : Heap) (locs : List Loc) (arr : Array Slot), stop pc ls st I J → va_P (dC, dI) cl0 (mv_ws cy ad sh I J) H → va_S A H0 H locs → mv_LS ad ls arr → ls.length = nL → W p l e R s m args below meth c H locs cells slots Qf (F0 m pc arr (st.map (mv_val ad)))) :
    ∀ (n pc : Nat) (ls : mv_L) (st : List mv_V) (I : mv_I) (J : mv_J) (H : Heap) (locs : List Loc) (arr : Array Slot), mv_wp call sh X tb fl cs rb stop Q n pc ls st I J → va_P (dC, dI) cl0 (mv_ws cy ad sh I J) H → va_S A H0 H locs → mv_LS ad ls arr → ls.length = nL → W p l e R s m args below meth c H locs cells slots Qf (F0 m pc arr (st.map (mv_val ad))) := by
  intro n
  induction n with
  | zero => intro pc ls st I J H locs arr h; exact h.elim
  | succ n ih =>
    intro pc ls st I J H locs arr h hP hS hL hn
    cases ht : tb pc with
    | none =>
      simp only [mv_wp, ht] at h
      exact hstop pc ls st I J H locs arr h hP hS hL hn
    | some r =>
      obtain ⟨i, nx, tg, cst, cl⟩ := r
      simp only [mv_wp, ht] at h
      obtain ⟨h1, h2, h3⟩ := mv_tb_at hT ht
      exact mv_step_sound hx hb hml hown hts hK hD hA hR hX hNW hF hSh hC hJ hret hvret (fun pc ls st I J H locs arr hk => ih pc ls st I J H locs arr (mv_cut_inv hk)) h1 h2 h3 h hP hS hL hn
end MVW
def mv_room (d : Nat) : Room := { frames := d, cells := 0, slots := 0, locals := 60 * d }
/-- what the tables must say of a method -/
def mv_ok (cl0 : List vw_C) (TT : List Jvm.Cond) (tab : List mv_N) (q : mv_N) : Prop := match q with
  | (y, cc, maxL, ret, own, tb, fl, cs) => plainName y.cls = true ∧ y.cls = own ∧ mv_rk ret < 3 ∧ mv_tbB cc own TT tb ∧ mv_flB cl0 own TT fl ∧ mv_jdB own TT cs ∧
    ∀ idx mid na ci, cs idx = some (mid, na, ci) → ∀ y' cc' maxL' ret' z, mv_nth mid tab = some (y', cc', maxL', ret', z) → mv_site cl0 own TT idx na ci y' cc' maxL' ret' (Jvm.Cond.code y' cc' maxL' ret' :: TT) TT
set_option maxHeartbeats 4000000 in
theorem mv_met (l : Launch) {cl0 : List vw_C} {dC : Nat → ClassId} {dI : Nat → Nat → Nat} {cy : Nat → ClassId} {ad : Nat → Nat} {sh : List mv_E} {TT : List Jvm.Cond} {tab : List mv_N} (hok : ∀ mid q, mv_nth mid tab = some q → mv_ok cl0 TT tab q) (hSh : mv_shB cl0 sh) :
    ∀ (d mid : Nat) (as : List mv_V) (I : mv_I) (J : mv_J) (Q : mv_Q), mv_wpM tab sh d mid as I J Q → ∃ y cc maxL ret z, mv_nth mid tab = some (y, cc, maxL, ret, z) ∧ mv_Mt l cl0 dC dI cy ad sh y (Jvm.Cond.code y cc maxL ret :: TT) (mv_room d) as I J Q := by
  intro d
  induction d with
  | zero => intro mid as I J Q h; exact h.elim
  | succ d ih =>
    intro mid as I J Q h
    cases ht : mv_nth mid tab with
    | none => simp only [mv_wpM, ht] at h
    | some q =>
      obtain ⟨y, cc, maxL, ret, own, tb, fl, cs⟩ := q
      simp only [mv_wpM, ht] at h
      refine ⟨y, cc, maxL, ret, (own, tb, fl, cs), rfl, fun sz => ?_⟩
      obtain ⟨ls, ⟨n, hw⟩, hl1, hl2, hl3⟩ := mv_ini_inv ad h
      obtain ⟨o1, o2, o3, o4, o5, o6, o7⟩ := hok mid _ ht
      have hCs : mv_csB l (mv_room (d + 1)) cl0 dC dI cy ad sh own TT cs (mv_wpM tab sh d) := by
        intro idx mid2 na ci hf as2 I2 J2 Q2 _ hc
        obtain ⟨y2, cc2, maxL2, ret2, z2, t1, t2⟩ := ih mid2 as2 I2 J2 Q2 hc
        exact ⟨y2, cc2, maxL2, ret2, _, TT, mv_room d, o7 idx mid2 na ci hf y2 cc2 maxL2 ret2 z2 t1, rfl, rfl, Nat.le_refl _, by show 40 + 60 * d ≤ 60 * (d + 1); omega, t2⟩
      have body : ∀ (Qc : Array Value → State → Outcome → State → Prop), (∀ (p : Program) (e : Env) (s : State) (m : MethodId) (args : Array Value) (below : List Frame) (meth : Method) (c : Code), p.tables.exec = Jvm.exec → c.code = cc → meth.sig.returnType = ret → meth.locks = false → ∀ (pc : Nat) (x : Int32) (I2 : mv_I) (J2 : mv_J) (H : Heap) (locs : List Loc) (arr : Array Slot), decode cc pc = .ok (.ireturn, 1) → mv_rq (mv_rk ret) x (Q (some (.inl x)) I2 J2) → va_P (dC, dI) cl0 (mv_ws cy ad sh I2 J2) H → va_S (va_A (mv_ws cy ad sh I J) s.heap.size) s.heap H locs → s.heap.size = sz → W p l e (mv_room (d + 1)) s m args below meth c H locs 0 0 (MQ below Qc args s 0 0 (va_A (mv_ws cy ad sh I J) sz)) (F0 m pc arr [.int x])) → (∀ (p : Program) (e : Env) (s : State) (m : MethodId) (args : Array Value) (below : List Frame) (meth : Method) (c : Code), p.tables.exec = Jvm.exec → c.code = cc → meth.sig.returnType = ret → meth.locks = false → ∀ (pc : Nat) (I2 : mv_I) (J2 : mv_J) (H : Heap) (locs : List Loc) (arr : Array Slot), decode cc pc = .ok (.return_, 1) → mv_rv (mv_rk ret) (Q none I2 J2) → va_P (dC, dI) cl0 (mv_ws cy ad sh I2 J2) H → va_S (va_A (mv_ws cy ad sh I J) s.heap.size) s.heap H locs → s.heap.size = sz → W p l e (mv_room (d + 1)) s m args below meth c H locs 0 0 (MQ below Qc args s 0 0 (va_A (mv_ws cy ad sh I J) sz)) (F0 m pc arr [])) → Met l y (Jvm.Cond.code y cc maxL ret :: TT) (mv_room (d + 1)) (mv_Pc cl0 dC dI cy ad sh sz as I J) Qc 0 0 (va_A (mv_ws cy ad sh I J) sz) := by
        intro Qc q1 q2
        refine Met.ofW (cc := cc) (maxL := maxL) (ret := ret) o1 rfl ?_
        intro p e s m args below meth c s₁ B hml hv
        obtain ⟨rfl, hsz, hP, hK, hD0, hNW⟩ := hv
        have hts := atoms_spec (ws := Jvm.Cond.code y cc maxL ret :: TT) B.pre
        have hown : s.vm.findClass own = some m.cls := by rw [← o2]; exact findClass_of_methodNamed B.named
        subst hsz
        have hD := hD0.self (sz := s.heap.size)
        have hl := lv_entry (as.map (mv_val ad)) (n := maxL) hl2
        rw [lg_entry_eq]
        generalize (lg_sl (as.map (mv_val ad)) ++ List.replicate (maxL - (lg_sl (as.map (mv_val ad))).length) Slot.unset).toArray = arr at hl ⊢
        have hLS : mv_LS ad ls arr := ⟨by rw [hl1]; exact hl.1, hl.2.1, fun j w hj => by
          have := hl.2.2 _ (hl3 0 j w hj)
          rwa [Nat.zero_add] at this⟩
        exact mv_wp_sound (A := va_A (mv_ws cy ad sh I J) s.heap.size) (H0 := s.heap) (R := mv_room (d + 1)) B.exec B.bytes hml hown (fun w h => hts w (List.mem_cons_of_mem _ h)) hK (fun I2 J2 => mv_D_any hD) (fun q h => Or.inr h) ⟨Nat.succ_le_succ (Nat.zero_le _), by show 60 ≤ 60 * (d + 1); omega, Nat.le_refl _, Nat.le_refl _⟩ (X := none) (fun L xs h => by cases h) hNW o4 o5 hSh hCs o6 (fun pc x I2 J2 H locs arr h1 h2 h3 h4 => q1 p e s m _ below meth c B.exec B.bytes B.returns B.notSynchronized pc x I2 J2 H locs arr h1 h2 h3 h4 rfl) (fun pc I2 J2 H locs arr h1 h2 h3 h4 => q2 p e s m _ below meth c B.exec B.bytes B.returns B.notSynchronized pc I2 J2 H locs arr h1 h2 h3 h4 rfl) (fun _ _ _ _ _ _ _ _ h => h.elim) n 0 ls [] I J s.heap [] arr hw hP va_S.rf hLS hl1
      match ret, o3, body with
      | none, _, body =>
        refine Or.inr (body _ (fun p e s m args below meth c _ _ _ _ pc x I2 J2 H locs arr _ h => h.elim) (fun p e s m args below meth c hx hb hr hlocks pc I2 J2 H locs arr hd h hP hS hsz => ?_))
        subst hsz
        exact W.vret hx hb hr (fun t ht hW => ⟨⟨(I2, J2), rfl, h, by show va_P _ _ _ t.heap; rw [ht]; exact hP⟩, hS.F ht⟩) hS.2.2 hd hlocks
      | some .int, _, body =>
        refine Or.inl (body _ (fun p e s m args below meth c hx hb hr hlocks pc x I2 J2 H locs arr hd h hP hS hsz => ?_) (fun p e s m args below meth c _ _ _ _ pc I2 J2 H locs arr _ h => h.elim))
        subst hsz
        exact W.iret (v := x) hx hb hr (fun t ht hW => ⟨⟨x, (I2, J2), rfl, h, by show va_P _ _ _ t.heap; rw [ht]; exact hP⟩, hS.F ht⟩) hS.2.2 hd hlocks
      | some .boolean, _, body =>
        refine Or.inl (body _ (fun p e s m args below meth c hx hb hr hlocks pc x I2 J2 H locs arr hd h hP hS hsz => ?_) (fun p e s m args below meth c _ _ _ _ pc I2 J2 H locs arr _ h => h.elim))
        subst hsz
        exact W.zret (v := x) hx hb hr (by rcases h.1 with rfl | rfl <;> rfl) (fun t ht hW => ⟨⟨x, (I2, J2), rfl, h.2, by show va_P _ _ _ t.heap; rw [ht]; exact hP⟩, hS.F ht⟩) hS.2.2 hd hlocks
      | some .byte, o3, _ => exact absurd o3 (by decide)
      | some .char, o3, _ => exact absurd o3 (by decide)
      | some .short, o3, _ => exact absurd o3 (by decide)
      | some .long, o3, _ => exact absurd o3 (by decide)
      | some .float, o3, _ => exact absurd o3 (by decide)
      | some .double, o3, _ => exact absurd o3 (by decide)
      | some (.object _), o3, _ => exact absurd o3 (by simp [mv_rk])
      | some (.array _), o3, _ => exact absurd o3 (by simp [mv_rk])
end
section
/-- the cells: 0 SaltPool, 1 Pool, 2 Tape, 3 Lots, 4 Fleet, 5 Sea, 6 Mole, 7 ROW, 8 Sheet0, 9 Sheet1, 10 Sheet2, 11 Sheet3, 12 Model, 13 Pool.part, 14 Pool.shipped, 15 Pool.kind, 16 Pool.of, 17 Pool.to, 18 Pool.sacks, 19 Pool.week, 20 Pool.share, 21 Pool.rest, 22 Pool.among, 23 Tape.told, 24 Tape.bytes, 25 Lots.works, 26 Lots.grade, 27 Lots.week, 28 Lots.inPit, 29 Lots.atPort, 30 Lots.inHolds, 31 Fleet.arrival, 32 Fleet.room, 33 Fleet.rate, 34 Fleet.layDays, 35 Fleet.due, 36 Fleet.stowed, 37 Fleet.stowedLots, 38 Sea.surf, 39 Sea.loadable, 40 Sea.loadableBefore, 41 Mole.place, 42 Mole.turn, 43 Mole.end, 44 Mole.cost, 45 Mole.order, 46 Mole.cheapest, 47 Sheet0.items, 48 Sheet1.items, 49 Sheet2.items, 50 Sheet3.items, 51 Model.parts, 52 Model.shipped, 53 Model.lotWorks, 54 Model.grades, 55 Model.inPit, 56 Model.atPort, 57 Model.weeksOf, 58 Model.entryKind, 59 Model.entryA, 60 Model.entryB, 61 Model.entryMany, 62 Model.entryWeek, 63 Model.shares, 64 Model.given, 65 Model.tape, 66 Model.readParts, 67 Model.days, 68 Model.rooms, 69 Model.rates, 70 Model.lays, 71 Model.dues, 72 Model.holds, 73 Model.surfs, 74 Model.row, 75 Model.rowTurn, 76 Model.rowEnd, 77 Model.rowCost, 78 Model.laidAt, 79 Model.laidTurn, 80 Model.laidEnd, 81 Model.laidCost, 82 Model.lanes, 83 Model.sizes, 84 Model.items, 85 Model.moved -/
def mv_sh : List mv_E := [.inl (7, [some 1, some 2, some 3, some 4, some 5, some 6, some 7, none]), .inl (3, [some 13, some 14, none, none, some 15, some 16, some 17, some 18, some 19, none, some 20, some 21, some 22]), .inl (6, [some 23, some 24, none, none]), .inl (1, [some 25, some 26, some 27, some 28, some 29, some 30, none]), .inl (0, [some 31, some 32, some 33, some 34, some 35, some 36, some 37, none]), .inl (4, [some 38, none, some 39, some 40, none, none]), .inl (2, [some 41, some 42, some 43, some 44, none, some 45, some 46, none]), .inr (4, 4), .inl (5, [some 47, none, none]), .inl (5, [some 48, none, none]), .inl (5, [some 49, none, none]), .inl (5, [some 50, none, none]), .inl (8, [none, some 51, some 52, none, none, some 53, some 54, some 55, some 56, some 57, none, none, some 58, some 59, some 60, some 61, some 62, some 63, some 64, some 65, none, none, none, some 66, none, some 67, some 68, some 69, some 70, some 71, some 72, some 73, none, some 74, some 75, some 76, some 77, none, some 78, some 79, some 80, some 81, some 82, some 83, some 84, some 85]), .inr (0, 8), .inr (0, 8), .inr (0, 100), .inr (0, 100), .inr (0, 100), .inr (0, 100), .inr (0, 100), .inr (0, 8), .inr (0, 8), .inr (3, 8), .inr (0, 8), .inr (2, 70), .inr (0, 60), .inr (0, 60), .inr (0, 60), .inr (0, 60), .inr (0, 60), .inr (0, 60), .inr (0, 6), .inr (0, 6), .inr (0, 6), .inr (0, 6), .inr (0, 6), .inr (0, 6), .inr (0, 360), .inr (0, 60), .inr (0, 60), .inr (0, 60), .inr (0, 6), .inr (0, 6), .inr (0, 6), .inr (0, 6), .inr (0, 6), .inr (0, 6), .inr (0, 60), .inr (0, 60), .inr (0, 60), .inr (0, 60), .inr (0, 8), .inr (0, 8), .inr (0, 60), .inr (0, 60), .inr (0, 60), .inr (0, 60), .inr (0, 60), .inr (0, 100), .inr (0, 100), .inr (0, 100), .inr (0, 100), .inr (0, 100), .inr (1, 8), .inr (3, 8), .inr (0, 70), .inr (0, 8), .inr (0, 6), .inr (0, 6), .inr (0, 6), .inr (0, 6), .inr (0, 6), .inr (0, 360), .inr (0, 60), .inr (0, 6), .inr (0, 6), .inr (0, 6), .inr (0, 6), .inr (0, 6), .inr (0, 6), .inr (0, 6), .inr (0, 6), .inr (0, 4), .inr (0, 4), .inr (0, 240), .inr (0, 60)]
def mv_lim (N : Nat) (f : Nat → Option mv_R) : Nat → Option mv_R := fun pc => bif Nat.blt pc N then f pc else none
theorem mv_tbB_lim {cc : ByteArray} {own : String} {Ts : List Jvm.Cond} {N : Nat} {f : Nat → Option mv_R} (h : (List.range N).all (fun pc => mv_chk cc own Ts pc (mv_lim N f pc)) = true) : mv_tbB cc own Ts (mv_lim N f) := by
  intro pc
  by_cases hp : pc < N
  · exact List.all_eq_true.mp h pc (List.mem_range.mpr hp)
  · have : mv_lim N f pc = none := by
      unfold mv_lim
      cases hq : Nat.blt pc N with
      | false => rfl
      | true => exact absurd (Nat.le_of_ble_eq_true hq) hp
    rw [this]
    rfl
def mv_seg (lo hi : Nat) (f : Nat → Option mv_R) : Nat → Option mv_R := fun pc => bif Nat.ble lo pc && Nat.blt pc hi then f pc else none
theorem mv_tbB_seg {cc : ByteArray} {own : String} {Ts : List Jvm.Cond} {lo hi : Nat} {f : Nat → Option mv_R} (h : (List.range (hi - lo)).all (fun j => mv_chk cc own Ts (lo + j) (mv_seg lo hi f (lo + j))) = true) : mv_tbB cc own Ts (mv_seg lo hi f) := by
  intro pc
  by_cases hp : lo ≤ pc ∧ pc < hi
  · have := List.all_eq_true.mp h (pc - lo) (List.mem_range.mpr (by omega))
    rwa [show lo + (pc - lo) = pc by omega] at this
  · have : mv_seg lo hi f pc = none := by
      unfold mv_seg
      cases hq : (Nat.ble lo pc && Nat.blt pc hi) with
      | false => rfl
      | true =>
        simp only [Bool.and_eq_true] at hq
        exact absurd ⟨Nat.le_of_ble_eq_true hq.1, Nat.le_of_ble_eq_true hq.2⟩ hp
    rw [this]
    rfl
def mv_lk {α : Type} : List (Nat × α) → Nat → Option α
  | [], _ => none
  | q :: t, i => bif Nat.beq i q.1 then some q.2 else mv_lk t i
theorem mv_lk_in {α : Type} : ∀ {l : List (Nat × α)} {i : Nat} {v : α}, mv_lk l i = some v → (i, v) ∈ l
  | [], i, v, h => by cases h
  | q :: t, i, v, h => by
    unfold mv_lk at h
    cases hq : Nat.beq i q.1 with
    | true =>
      rw [hq] at h
      have h1 := Nat.eq_of_beq_eq_true hq
      have h2 := Option.some.inj h
      rw [h1, ← h2]
      exact List.mem_cons_self
    | false =>
      rw [hq] at h
      exact List.mem_cons_of_mem _ (mv_lk_in h)
theorem mv_flB_of {cl0 : List vw_C} {own : String} {Ts : List Jvm.Cond} {l : List (Nat × (Nat × Nat))} (h : ∀ q ∈ l, ∃ (C : String) (T : u_T) (N : Nat) (ty0 : Nat → FieldType), cl0[q.2.1]? = some (C, T, N) ∧ q.2.2 < N ∧ (∀ w ∈ u_ws C T N, w ∈ Ts) ∧ Jvm.Cond.fieldLink own q.1 (T q.2.2).1 (T q.2.2).2.1 (T q.2.2).2.2.1 ∈ Ts ∧ (∀ k, k < N → parseFieldDescriptor (T k).2.2.1 = some (ty0 k)) ∧ (∀ a, a < N → ∀ b, b < N → a ≠ b → (T a).2.1 ≠ (T b).2.1)) : mv_flB cl0 own Ts (mv_lk l) :=
  fun idx ci fi hq => h (idx, (ci, fi)) (mv_lk_in hq)
/-- a static call's words -/
theorem mv_siteS {cl0 : List vw_C} {own : String} {TT : List Jvm.Cond} (hgood : TT.all goodWord = true) {idx na : Nat} {y : MethodName} {bytes : ByteArray} {maxL : Nat} {ret : Option FieldType} (h1 : Jvm.Cond.methodLink own idx y ∈ TT) (h2 : Jvm.Cond.static y ∈ TT) (h3 : Jvm.Cond.initialized y.cls ∈ TT) (h4 : Jvm.Cond.code y bytes maxL ret ∈ TT) (h5 : (y.cls ≠ "java/lang/invoke/MethodHandle" ∧ y.cls ≠ "java/lang/invoke/VarHandle") ∧ maxL ≤ 21 ∧ (parseMethodDescriptor y.desc).map (fun d => d.parameters.length) = some na) : mv_site cl0 own TT idx na 100 y bytes maxL ret (Jvm.Cond.code y bytes maxL ret :: TT) TT := by
  refine ⟨rfl, h5.1, h5.2.1, ?_, h5.2.2⟩
  show GoodIn TT (va_wsS own idx y (Jvm.Cond.code y bytes maxL ret :: TT))
  have hm : ∀ w ∈ va_wsS own idx y (Jvm.Cond.code y bytes maxL ret :: TT), w ∈ TT := by
    intro w hw
    simp only [va_wsS, List.mem_append, List.mem_cons, List.not_mem_nil, or_false] at hw
    rcases hw with (rfl | rfl | rfl) | rfl | hw
    · exact h1
    · exact h2
    · exact h3
    · exact h4
    · exact hw
  exact fun w hw => ⟨hm w hw, good_of_word (List.all_eq_true.mp hgood w (hm w hw))⟩
theorem mv_siteV {cl0 : List vw_C} {own : String} {TT : List Jvm.Cond} (hgood : TT.all goodWord = true) {idx n ci : Nat} {y : MethodName} {bytes : ByteArray} {maxL : Nat} {ret : Option FieldType} (hci : Nat.ble 100 ci = false) (h1 : Jvm.Cond.methodLink own idx y ∈ TT) (h2 : Jvm.Cond.instanceMethod y ∈ TT) (h3 : Jvm.Cond.selects y.cls y y ∈ TT) (h3' : Jvm.Cond.initialized y.cls ∈ TT) (h4 : Jvm.Cond.code y bytes maxL ret ∈ TT) (h5 : (y.cls ≠ "java/lang/invoke/MethodHandle" ∧ y.cls ≠ "java/lang/invoke/VarHandle") ∧ maxL ≤ 21 ∧ (parseMethodDescriptor y.desc).map (fun d => d.parameters.length) = some n) {q : vw_C} (hq : cl0[ci]? = some q) (hq2 : q.1 = y.cls) : mv_site cl0 own TT idx (n + 1) ci y bytes maxL ret (Jvm.Cond.code y bytes maxL ret :: TT) TT := by
  refine ⟨rfl, h5.1, h5.2.1, ?_⟩
  rw [hci]
  refine ⟨?_, ⟨n, rfl, h5.2.2⟩, q, hq, hq2⟩
  have hm : ∀ w ∈ wsV own idx y.cls y (Jvm.Cond.code y bytes maxL ret :: TT), w ∈ TT := by
    intro w hw
    simp only [wsV, List.mem_append, List.mem_cons, List.not_mem_nil, or_false] at hw
    rcases hw with (rfl | rfl | rfl | rfl) | rfl | hw
    · exact h1
    · exact h2
    · exact h3
    · exact h3'
    · exact h4
    · exact hw
  exact fun w hw => ⟨hm w hw, good_of_word (List.all_eq_true.mp hgood w (hm w hw))⟩
/-- a nest mate's -/
theorem mv_siteN {cl0 : List vw_C} {own : String} {TT : List Jvm.Cond} (hgood : TT.all goodWord = true) {idx na : Nat} {y : MethodName} {bytes : ByteArray} {maxL : Nat} {ret : Option FieldType} {host : String} (h1 : (own, idx, y, host) ∈ mv_nw) (h2 : Jvm.Cond.static y ∈ TT) (h3 : Jvm.Cond.initialized y.cls ∈ TT) (h4 : Jvm.Cond.code y bytes maxL ret ∈ TT) (h5 : (y.cls ≠ "java/lang/invoke/MethodHandle" ∧ y.cls ≠ "java/lang/invoke/VarHandle") ∧ maxL ≤ 21 ∧ (parseMethodDescriptor y.desc).map (fun d => d.parameters.length) = some na) : mv_site cl0 own TT idx na 101 y bytes maxL ret (Jvm.Cond.code y bytes maxL ret :: TT) TT := by
  refine ⟨rfl, h5.1, h5.2.1, ⟨?_, h2, h3, host, h1⟩, h5.2.2⟩
  have hm : ∀ w ∈ Jvm.Cond.code y bytes maxL ret :: TT, w ∈ TT := by
    intro w hw
    rcases List.mem_cons.mp hw with rfl | hw
    · exact h4
    · exact hw
  exact fun w hw => ⟨hm w hw, good_of_word (List.all_eq_true.mp hgood w (hm w hw))⟩
/-- a call's row: it is one of the JDK's three, or the table has the callee and the words are there -/
def mv_cok (cl0 : List vw_C) (own : String) (TT : List Jvm.Cond) (tab : List mv_N) (q : Nat × (Nat × Nat × Nat)) : Prop := mv_nth q.2.1 tab = none ∨ ∃ y cc maxL ret z, mv_nth q.2.1 tab = some (y, cc, maxL, ret, z) ∧ mv_site cl0 own TT q.1 q.2.2.1 q.2.2.2 y cc maxL ret (Jvm.Cond.code y cc maxL ret :: TT) TT
theorem mv_cok_all {cl0 : List vw_C} {own : String} {TT : List Jvm.Cond} {tab : List mv_N} {l : List (Nat × (Nat × Nat × Nat))} (h : ∀ q ∈ l, mv_cok cl0 own TT tab q) : ∀ idx mid na ci, mv_lk l idx = some (mid, na, ci) → ∀ y' cc' maxL' ret' z, mv_nth mid tab = some (y', cc', maxL', ret', z) → mv_site cl0 own TT idx na ci y' cc' maxL' ret' (Jvm.Cond.code y' cc' maxL' ret' :: TT) TT := by
  intro idx mid na ci hq y' cc' maxL' ret' z ht
  rcases h _ (mv_lk_in hq) with h1 | ⟨y, cc, maxL, ret, z2, h1, h2⟩
  · rw [h1] at ht; cases ht
  · rw [h1] at ht
    cases ht
    exact h2
theorem mv_jdB_of {own : String} {Ts : List Jvm.Cond} {l : List (Nat × (Nat × Nat × Nat))} (h : ∀ q ∈ l, (q.2.1 = 1000 → Jvm.Cond.methodLink own q.1 Lib.Math.max.name ∈ Ts ∧ Jvm.Cond.static Lib.Math.max.name ∈ Ts ∧ Jvm.Cond.initialized "java/lang/Math" ∈ Ts ∧ Jvm.Cond.code Lib.Math.max.name Lib.Math.max.code 2 (some .int) ∈ Ts) ∧ (q.2.1 = 1001 → Jvm.Cond.methodLink own q.1 Lib.Math.min.name ∈ Ts ∧ Jvm.Cond.static Lib.Math.min.name ∈ Ts ∧ Jvm.Cond.initialized "java/lang/Math" ∈ Ts ∧ Jvm.Cond.code Lib.Math.min.name Lib.Math.min.code 2 (some .int) ∈ Ts) ∧ (q.2.1 = 1002 → Jvm.Cond.methodLink own q.1 arraycopyName ∈ Ts ∧ Jvm.Cond.native arraycopyName ∈ Ts ∧ Jvm.Cond.static arraycopyName ∈ Ts ∧ Jvm.Cond.initialized "java/lang/System" ∈ Ts)) : mv_jdB own Ts (mv_lk l) :=
  ⟨fun idx na ci hq => (h _ (mv_lk_in hq)).1 rfl, fun idx na ci hq => (h _ (mv_lk_in hq)).2.1 rfl, fun idx na ci hq => (h _ (mv_lk_in hq)).2.2 rfl⟩
theorem mv_jd_no {own : String} {Ts : List Jvm.Cond} {q : Nat × (Nat × Nat × Nat)} (h : q.2.1 < 1000) : (q.2.1 = 1000 → Jvm.Cond.methodLink own q.1 Lib.Math.max.name ∈ Ts ∧ Jvm.Cond.static Lib.Math.max.name ∈ Ts ∧ Jvm.Cond.initialized "java/lang/Math" ∈ Ts ∧ Jvm.Cond.code Lib.Math.max.name Lib.Math.max.code 2 (some .int) ∈ Ts) ∧ (q.2.1 = 1001 → Jvm.Cond.methodLink own q.1 Lib.Math.min.name ∈ Ts ∧ Jvm.Cond.static Lib.Math.min.name ∈ Ts ∧ Jvm.Cond.initialized "java/lang/Math" ∈ Ts ∧ Jvm.Cond.code Lib.Math.min.name Lib.Math.min.code 2 (some .int) ∈ Ts) ∧ (q.2.1 = 1002 → Jvm.Cond.methodLink own q.1 arraycopyName ∈ Ts ∧ Jvm.Cond.native arraycopyName ∈ Ts ∧ Jvm.Cond.static arraycopyName ∈ Ts ∧ Jvm.Cond.initialized "java/lang/System" ∈ Ts) := ⟨fun e => absurd e (by omega), fun e => absurd e (by omega), fun e => absurd e (by omega)⟩
def mv_TT : List Jvm.Cond := lw_tbl.filter goodWord
theorem mT0 : ∀ w ∈ k2_sels lw_privs, goodWord w = true → w ∈ mv_TT := fun _ h g => List.mem_filter.mpr ⟨List.mem_append_left _ h, g⟩
theorem mT1 : ∀ w ∈ tables_1_1, goodWord w = true → w ∈ mv_TT := fun _ h g => List.mem_filter.mpr ⟨List.mem_append_right _ (List.mem_append_left _ h), g⟩
theorem mT2 : ∀ w ∈ tables_1_2, goodWord w = true → w ∈ mv_TT := fun _ h g => List.mem_filter.mpr ⟨List.mem_append_right _ (List.mem_append_right _ (List.mem_append_left _ h)), g⟩
theorem mT3 : ∀ w ∈ tables_1_3, goodWord w = true → w ∈ mv_TT := fun _ h g => List.mem_filter.mpr ⟨List.mem_append_right _ (List.mem_append_right _ (List.mem_append_right _ (List.mem_append_left _ h))), g⟩
theorem mT4 : ∀ w ∈ tables_1_4, goodWord w = true → w ∈ mv_TT := fun _ h g => List.mem_filter.mpr ⟨List.mem_append_right _ (List.mem_append_right _ (List.mem_append_right _ (List.mem_append_right _ (List.mem_append_left _ h)))), g⟩
theorem mT5 : ∀ w ∈ tables_1_5, goodWord w = true → w ∈ mv_TT := fun _ h g => List.mem_filter.mpr ⟨List.mem_append_right _ (List.mem_append_right _ (List.mem_append_right _ (List.mem_append_right _ (List.mem_append_right _ h)))), g⟩
theorem mT_good : mv_TT.all goodWord = true := List.all_eq_true.mpr fun w h => (List.mem_filter.mp h).2
theorem mT_tbl : ∀ w ∈ mv_TT, w ∈ lw_tbl := fun w h => (List.mem_filter.mp h).1
end
section
def tbX0_has : Nat → Option mv_R := mv_lim 18 (fun pc => (bif Nat.blt pc 9 then (bif Nat.blt pc 4 then (bif Nat.blt pc 1 then (bif Nat.beq pc 0 then some (.iload_n 1, 1, 0, 0, 0) else none) else (bif Nat.beq pc 1 then some (.ifCond .lt 15, 4, 16, 0, 0) else none)) else (bif Nat.blt pc 5 then (bif Nat.beq pc 4 then some (.iload_n 1, 5, 0, 0, 0) else none) else (bif Nat.blt pc 6 then (bif Nat.beq pc 5 then some (.aload_n 0, 6, 0, 0, 0) else none) else (bif Nat.beq pc 6 then some (.getfield 33, 9, 0, 0, 0) else none)))) else (bif Nat.blt pc 13 then (bif Nat.blt pc 12 then (bif Nat.beq pc 9 then some (.if_icmp .ge 7, 12, 16, 0, 0) else none) else (bif Nat.beq pc 12 then some (.iconst 1, 13, 0, 1, 0) else none)) else (bif Nat.blt pc 16 then (bif Nat.beq pc 13 then some (.goto 4, 16, 17, 0, 0) else none) else (bif Nat.blt pc 17 then (bif Nat.beq pc 16 then some (.iconst 0, 17, 0, 0, 0) else none) else (bif Nat.beq pc 17 then some (.ireturn, 18, 0, 0, 0) else none))))))
def tbX0_add : Nat → Option mv_R := mv_lim 81 (fun pc => (bif Nat.blt pc 41 then (bif Nat.blt pc 21 then (bif Nat.blt pc 11 then (bif Nat.blt pc 4 then (bif Nat.blt pc 1 then (bif Nat.beq pc 0 then some (.aload_n 0, 1, 0, 0, 0) else none) else (bif Nat.beq pc 1 then some (.getfield 33, 4, 0, 0, 0) else none)) else (bif Nat.blt pc 6 then (bif Nat.beq pc 4 then some (.bipush 6, 6, 0, 6, 0) else none) else (bif Nat.blt pc 9 then (bif Nat.beq pc 6 then some (.if_icmp .lt 6, 9, 12, 0, 0) else none) else (bif Nat.beq pc 9 then some (.bipush (-3), 11, 0, (-3), 0) else none)))) else (bif Nat.blt pc 16 then (bif Nat.blt pc 12 then (bif Nat.beq pc 11 then some (.ireturn, 12, 0, 0, 0) else none) else (bif Nat.blt pc 13 then (bif Nat.beq pc 12 then some (.aload_n 0, 13, 0, 0, 0) else none) else (bif Nat.beq pc 13 then some (.getfield 9, 16, 0, 0, 0) else none))) else (bif Nat.blt pc 17 then (bif Nat.beq pc 16 then some (.aload_n 0, 17, 0, 0, 0) else none) else (bif Nat.blt pc 20 then (bif Nat.beq pc 17 then some (.getfield 33, 20, 0, 0, 0) else none) else (bif Nat.beq pc 20 then some (.iload_n 1, 21, 0, 0, 0) else none))))) else (bif Nat.blt pc 31 then (bif Nat.blt pc 26 then (bif Nat.blt pc 22 then (bif Nat.beq pc 21 then some (.iastore, 22, 0, 0, 0) else none) else (bif Nat.blt pc 23 then (bif Nat.beq pc 22 then some (.aload_n 0, 23, 0, 0, 0) else none) else (bif Nat.beq pc 23 then some (.getfield 15, 26, 0, 0, 0) else none))) else (bif Nat.blt pc 27 then (bif Nat.beq pc 26 then some (.aload_n 0, 27, 0, 0, 0) else none) else (bif Nat.blt pc 30 then (bif Nat.beq pc 27 then some (.getfield 33, 30, 0, 0, 0) else none) else (bif Nat.beq pc 30 then some (.iload_n 2, 31, 0, 0, 0) else none)))) else (bif Nat.blt pc 36 then (bif Nat.blt pc 32 then (bif Nat.beq pc 31 then some (.iastore, 32, 0, 0, 0) else none) else (bif Nat.blt pc 33 then (bif Nat.beq pc 32 then some (.aload_n 0, 33, 0, 0, 0) else none) else (bif Nat.beq pc 33 then some (.getfield 18, 36, 0, 0, 0) else none))) else (bif Nat.blt pc 37 then (bif Nat.beq pc 36 then some (.aload_n 0, 37, 0, 0, 0) else none) else (bif Nat.blt pc 40 then (bif Nat.beq pc 37 then some (.getfield 33, 40, 0, 0, 0) else none) else (bif Nat.beq pc 40 then some (.iload_n 3, 41, 0, 0, 0) else none)))))) else (bif Nat.blt pc 63 then (bif Nat.blt pc 52 then (bif Nat.blt pc 46 then (bif Nat.blt pc 42 then (bif Nat.beq pc 41 then some (.iastore, 42, 0, 0, 0) else none) else (bif Nat.blt pc 43 then (bif Nat.beq pc 42 then some (.aload_n 0, 43, 0, 0, 0) else none) else (bif Nat.beq pc 43 then some (.getfield 21, 46, 0, 0, 0) else none))) else (bif Nat.blt pc 47 then (bif Nat.beq pc 46 then some (.aload_n 0, 47, 0, 0, 0) else none) else (bif Nat.blt pc 50 then (bif Nat.beq pc 47 then some (.getfield 33, 50, 0, 0, 0) else none) else (bif Nat.beq pc 50 then some (.iload 4, 52, 0, 0, 0) else none)))) else (bif Nat.blt pc 57 then (bif Nat.blt pc 53 then (bif Nat.beq pc 52 then some (.iastore, 53, 0, 0, 0) else none) else (bif Nat.blt pc 54 then (bif Nat.beq pc 53 then some (.aload_n 0, 54, 0, 0, 0) else none) else (bif Nat.beq pc 54 then some (.getfield 24, 57, 0, 0, 0) else none))) else (bif Nat.blt pc 58 then (bif Nat.beq pc 57 then some (.aload_n 0, 58, 0, 0, 0) else none) else (bif Nat.blt pc 61 then (bif Nat.beq pc 58 then some (.getfield 33, 61, 0, 0, 0) else none) else (bif Nat.beq pc 61 then some (.iload 5, 63, 0, 0, 0) else none))))) else (bif Nat.blt pc 71 then (bif Nat.blt pc 66 then (bif Nat.blt pc 64 then (bif Nat.beq pc 63 then some (.iastore, 64, 0, 0, 0) else none) else (bif Nat.blt pc 65 then (bif Nat.beq pc 64 then some (.aload_n 0, 65, 0, 0, 0) else none) else (bif Nat.beq pc 65 then some (.dup, 66, 0, 0, 0) else none))) else (bif Nat.blt pc 69 then (bif Nat.beq pc 66 then some (.getfield 33, 69, 0, 0, 0) else none) else (bif Nat.blt pc 70 then (bif Nat.beq pc 69 then some (.iconst 1, 70, 0, 1, 0) else none) else (bif Nat.beq pc 70 then some (.iadd, 71, 0, 0, 0) else none)))) else (bif Nat.blt pc 78 then (bif Nat.blt pc 74 then (bif Nat.beq pc 71 then some (.putfield 33, 74, 0, 0, 0) else none) else (bif Nat.blt pc 75 then (bif Nat.beq pc 74 then some (.aload_n 0, 75, 0, 0, 0) else none) else (bif Nat.beq pc 75 then some (.getfield 33, 78, 0, 0, 0) else none))) else (bif Nat.blt pc 79 then (bif Nat.beq pc 78 then some (.iconst 1, 79, 0, 1, 0) else none) else (bif Nat.blt pc 80 then (bif Nat.beq pc 79 then some (.isub, 80, 0, 0, 0) else none) else (bif Nat.beq pc 80 then some (.ireturn, 81, 0, 0, 0) else none))))))))
def tbX0_freeRoom : Nat → Option mv_R := mv_lim 14 (fun pc => (bif Nat.blt pc 7 then (bif Nat.blt pc 4 then (bif Nat.blt pc 1 then (bif Nat.beq pc 0 then some (.aload_n 0, 1, 0, 0, 0) else none) else (bif Nat.beq pc 1 then some (.getfield 15, 4, 0, 0, 0) else none)) else (bif Nat.blt pc 5 then (bif Nat.beq pc 4 then some (.iload_n 1, 5, 0, 0, 0) else none) else (bif Nat.blt pc 6 then (bif Nat.beq pc 5 then some (.iaload, 6, 0, 0, 0) else none) else (bif Nat.beq pc 6 then some (.aload_n 0, 7, 0, 0, 0) else none)))) else (bif Nat.blt pc 11 then (bif Nat.blt pc 10 then (bif Nat.beq pc 7 then some (.getfield 27, 10, 0, 0, 0) else none) else (bif Nat.beq pc 10 then some (.iload_n 1, 11, 0, 0, 0) else none)) else (bif Nat.blt pc 12 then (bif Nat.beq pc 11 then some (.iaload, 12, 0, 0, 0) else none) else (bif Nat.blt pc 13 then (bif Nat.beq pc 12 then some (.isub, 13, 0, 0, 0) else none) else (bif Nat.beq pc 13 then some (.ireturn, 14, 0, 0, 0) else none))))))
def tbX0_stowedOf : Nat → Option mv_R := mv_lim 12 (fun pc => (bif Nat.blt pc 7 then (bif Nat.blt pc 4 then (bif Nat.blt pc 1 then (bif Nat.beq pc 0 then some (.aload_n 0, 1, 0, 0, 0) else none) else (bif Nat.beq pc 1 then some (.getfield 30, 4, 0, 0, 0) else none)) else (bif Nat.blt pc 5 then (bif Nat.beq pc 4 then some (.iload_n 1, 5, 0, 0, 0) else none) else (bif Nat.beq pc 5 then some (.bipush 60, 7, 0, 60, 0) else none))) else (bif Nat.blt pc 9 then (bif Nat.blt pc 8 then (bif Nat.beq pc 7 then some (.imul, 8, 0, 0, 0) else none) else (bif Nat.beq pc 8 then some (.iload_n 2, 9, 0, 0, 0) else none)) else (bif Nat.blt pc 10 then (bif Nat.beq pc 9 then some (.iadd, 10, 0, 0, 0) else none) else (bif Nat.blt pc 11 then (bif Nat.beq pc 10 then some (.iaload, 11, 0, 0, 0) else none) else (bif Nat.beq pc 11 then some (.ireturn, 12, 0, 0, 0) else none))))))
def tbX0_stow : Nat → Option mv_R := mv_lim 32 (fun pc => (bif Nat.blt pc 17 then (bif Nat.blt pc 8 then (bif Nat.blt pc 5 then (bif Nat.blt pc 1 then (bif Nat.beq pc 0 then some (.aload_n 0, 1, 0, 0, 0) else none) else (bif Nat.blt pc 4 then (bif Nat.beq pc 1 then some (.getfield 27, 4, 0, 0, 0) else none) else (bif Nat.beq pc 4 then some (.iload_n 1, 5, 0, 0, 0) else none))) else (bif Nat.blt pc 6 then (bif Nat.beq pc 5 then some (.dup2, 6, 0, 0, 0) else none) else (bif Nat.blt pc 7 then (bif Nat.beq pc 6 then some (.iaload, 7, 0, 0, 0) else none) else (bif Nat.beq pc 7 then some (.iload_n 3, 8, 0, 0, 0) else none)))) else (bif Nat.blt pc 11 then (bif Nat.blt pc 9 then (bif Nat.beq pc 8 then some (.iadd, 9, 0, 0, 0) else none) else (bif Nat.blt pc 10 then (bif Nat.beq pc 9 then some (.iastore, 10, 0, 0, 0) else none) else (bif Nat.beq pc 10 then some (.aload_n 0, 11, 0, 0, 0) else none))) else (bif Nat.blt pc 14 then (bif Nat.beq pc 11 then some (.getfield 30, 14, 0, 0, 0) else none) else (bif Nat.blt pc 15 then (bif Nat.beq pc 14 then some (.iload_n 1, 15, 0, 0, 0) else none) else (bif Nat.beq pc 15 then some (.bipush 60, 17, 0, 60, 0) else none))))) else (bif Nat.blt pc 23 then (bif Nat.blt pc 20 then (bif Nat.blt pc 18 then (bif Nat.beq pc 17 then some (.imul, 18, 0, 0, 0) else none) else (bif Nat.blt pc 19 then (bif Nat.beq pc 18 then some (.iload_n 2, 19, 0, 0, 0) else none) else (bif Nat.beq pc 19 then some (.iadd, 20, 0, 0, 0) else none))) else (bif Nat.blt pc 21 then (bif Nat.beq pc 20 then some (.dup2, 21, 0, 0, 0) else none) else (bif Nat.blt pc 22 then (bif Nat.beq pc 21 then some (.iaload, 22, 0, 0, 0) else none) else (bif Nat.beq pc 22 then some (.iload_n 3, 23, 0, 0, 0) else none)))) else (bif Nat.blt pc 26 then (bif Nat.blt pc 24 then (bif Nat.beq pc 23 then some (.iadd, 24, 0, 0, 0) else none) else (bif Nat.blt pc 25 then (bif Nat.beq pc 24 then some (.iastore, 25, 0, 0, 0) else none) else (bif Nat.beq pc 25 then some (.aload_n 0, 26, 0, 0, 0) else none))) else (bif Nat.blt pc 28 then (bif Nat.blt pc 27 then (bif Nat.beq pc 26 then some (.iload_n 1, 27, 0, 0, 0) else none) else (bif Nat.beq pc 27 then some (.iload_n 2, 28, 0, 0, 0) else none)) else (bif Nat.blt pc 31 then (bif Nat.beq pc 28 then some (.invokevirtual 37, 31, 0, 0, 0) else none) else (bif Nat.beq pc 31 then some (.ireturn, 32, 0, 0, 0) else none)))))))
def tbX0_turnBehind : Nat → Option mv_R := mv_lim 13 (fun pc => (bif Nat.blt pc 6 then (bif Nat.blt pc 4 then (bif Nat.blt pc 1 then (bif Nat.beq pc 0 then some (.aload_n 0, 1, 0, 0, 0) else none) else (bif Nat.beq pc 1 then some (.getfield 9, 4, 0, 0, 0) else none)) else (bif Nat.blt pc 5 then (bif Nat.beq pc 4 then some (.iload_n 1, 5, 0, 0, 0) else none) else (bif Nat.beq pc 5 then some (.iaload, 6, 0, 0, 0) else none))) else (bif Nat.blt pc 8 then (bif Nat.blt pc 7 then (bif Nat.beq pc 6 then some (.iload_n 2, 7, 0, 0, 0) else none) else (bif Nat.beq pc 7 then some (.iconst 1, 8, 0, 1, 0) else none)) else (bif Nat.blt pc 9 then (bif Nat.beq pc 8 then some (.iadd, 9, 0, 0, 0) else none) else (bif Nat.blt pc 12 then (bif Nat.beq pc 9 then some (.invokestatic 41, 12, 0, 0, 0) else none) else (bif Nat.beq pc 12 then some (.ireturn, 13, 0, 0, 0) else none))))))
def tbX0_loadingDays : Nat → Option mv_R := mv_lim 28 (fun pc => (bif Nat.blt pc 16 then (bif Nat.blt pc 7 then (bif Nat.blt pc 4 then (bif Nat.blt pc 1 then (bif Nat.beq pc 0 then some (.aload_n 0, 1, 0, 0, 0) else none) else (bif Nat.beq pc 1 then some (.getfield 18, 4, 0, 0, 0) else none)) else (bif Nat.blt pc 5 then (bif Nat.beq pc 4 then some (.iload_n 1, 5, 0, 0, 0) else none) else (bif Nat.blt pc 6 then (bif Nat.beq pc 5 then some (.iaload, 6, 0, 0, 0) else none) else (bif Nat.beq pc 6 then some (.istore_n 2, 7, 0, 0, 0) else none)))) else (bif Nat.blt pc 11 then (bif Nat.blt pc 8 then (bif Nat.beq pc 7 then some (.iload_n 2, 8, 0, 0, 0) else none) else (bif Nat.beq pc 8 then some (.ifCond .le 18, 11, 26, 0, 0) else none)) else (bif Nat.blt pc 12 then (bif Nat.beq pc 11 then some (.aload_n 0, 12, 0, 0, 0) else none) else (bif Nat.blt pc 15 then (bif Nat.beq pc 12 then some (.getfield 15, 15, 0, 0, 0) else none) else (bif Nat.beq pc 15 then some (.iload_n 1, 16, 0, 0, 0) else none))))) else (bif Nat.blt pc 21 then (bif Nat.blt pc 18 then (bif Nat.blt pc 17 then (bif Nat.beq pc 16 then some (.iaload, 17, 0, 0, 0) else none) else (bif Nat.beq pc 17 then some (.iload_n 2, 18, 0, 0, 0) else none)) else (bif Nat.blt pc 19 then (bif Nat.beq pc 18 then some (.iadd, 19, 0, 0, 0) else none) else (bif Nat.blt pc 20 then (bif Nat.beq pc 19 then some (.iconst 1, 20, 0, 1, 0) else none) else (bif Nat.beq pc 20 then some (.isub, 21, 0, 0, 0) else none)))) else (bif Nat.blt pc 23 then (bif Nat.blt pc 22 then (bif Nat.beq pc 21 then some (.iload_n 2, 22, 0, 0, 0) else none) else (bif Nat.beq pc 22 then some (.idiv, 23, 0, 0, 0) else none)) else (bif Nat.blt pc 26 then (bif Nat.beq pc 23 then some (.goto 4, 26, 27, 0, 0) else none) else (bif Nat.blt pc 27 then (bif Nat.beq pc 26 then some (.iconst 0, 27, 0, 0, 0) else none) else (bif Nat.beq pc 27 then some (.ireturn, 28, 0, 0, 0) else none)))))))
def tbX0_costOf : Nat → Option mv_R := mv_lim 31 (fun pc => (bif Nat.blt pc 15 then (bif Nat.blt pc 7 then (bif Nat.blt pc 2 then (bif Nat.blt pc 1 then (bif Nat.beq pc 0 then some (.iload_n 2, 1, 0, 0, 0) else none) else (bif Nat.beq pc 1 then some (.aload_n 0, 2, 0, 0, 0) else none)) else (bif Nat.blt pc 5 then (bif Nat.beq pc 2 then some (.getfield 9, 5, 0, 0, 0) else none) else (bif Nat.blt pc 6 then (bif Nat.beq pc 5 then some (.iload_n 1, 6, 0, 0, 0) else none) else (bif Nat.beq pc 6 then some (.iaload, 7, 0, 0, 0) else none)))) else (bif Nat.blt pc 10 then (bif Nat.blt pc 8 then (bif Nat.beq pc 7 then some (.isub, 8, 0, 0, 0) else none) else (bif Nat.blt pc 9 then (bif Nat.beq pc 8 then some (.iconst 1, 9, 0, 1, 0) else none) else (bif Nat.beq pc 9 then some (.iadd, 10, 0, 0, 0) else none))) else (bif Nat.blt pc 11 then (bif Nat.beq pc 10 then some (.aload_n 0, 11, 0, 0, 0) else none) else (bif Nat.blt pc 14 then (bif Nat.beq pc 11 then some (.getfield 21, 14, 0, 0, 0) else none) else (bif Nat.beq pc 14 then some (.iload_n 1, 15, 0, 0, 0) else none))))) else (bif Nat.blt pc 23 then (bif Nat.blt pc 18 then (bif Nat.blt pc 16 then (bif Nat.beq pc 15 then some (.iaload, 16, 0, 0, 0) else none) else (bif Nat.blt pc 17 then (bif Nat.beq pc 16 then some (.isub, 17, 0, 0, 0) else none) else (bif Nat.beq pc 17 then some (.istore_n 3, 18, 0, 0, 0) else none))) else (bif Nat.blt pc 19 then (bif Nat.beq pc 18 then some (.aload_n 0, 19, 0, 0, 0) else none) else (bif Nat.blt pc 22 then (bif Nat.beq pc 19 then some (.getfield 24, 22, 0, 0, 0) else none) else (bif Nat.beq pc 22 then some (.iload_n 1, 23, 0, 0, 0) else none)))) else (bif Nat.blt pc 26 then (bif Nat.blt pc 24 then (bif Nat.beq pc 23 then some (.iaload, 24, 0, 0, 0) else none) else (bif Nat.blt pc 25 then (bif Nat.beq pc 24 then some (.iconst 0, 25, 0, 0, 0) else none) else (bif Nat.beq pc 25 then some (.iload_n 3, 26, 0, 0, 0) else none))) else (bif Nat.blt pc 29 then (bif Nat.beq pc 26 then some (.invokestatic 41, 29, 0, 0, 0) else none) else (bif Nat.blt pc 30 then (bif Nat.beq pc 29 then some (.imul, 30, 0, 0, 0) else none) else (bif Nat.beq pc 30 then some (.ireturn, 31, 0, 0, 0) else none)))))))
def tbX1_has : Nat → Option mv_R := mv_lim 18 (fun pc => (bif Nat.blt pc 9 then (bif Nat.blt pc 4 then (bif Nat.blt pc 1 then (bif Nat.beq pc 0 then some (.iload_n 1, 1, 0, 0, 0) else none) else (bif Nat.beq pc 1 then some (.ifCond .lt 15, 4, 16, 0, 0) else none)) else (bif Nat.blt pc 5 then (bif Nat.beq pc 4 then some (.iload_n 1, 5, 0, 0, 0) else none) else (bif Nat.blt pc 6 then (bif Nat.beq pc 5 then some (.aload_n 0, 6, 0, 0, 0) else none) else (bif Nat.beq pc 6 then some (.getfield 30, 9, 0, 0, 0) else none)))) else (bif Nat.blt pc 13 then (bif Nat.blt pc 12 then (bif Nat.beq pc 9 then some (.if_icmp .ge 7, 12, 16, 0, 0) else none) else (bif Nat.beq pc 12 then some (.iconst 1, 13, 0, 1, 0) else none)) else (bif Nat.blt pc 16 then (bif Nat.beq pc 13 then some (.goto 4, 16, 17, 0, 0) else none) else (bif Nat.blt pc 17 then (bif Nat.beq pc 16 then some (.iconst 0, 17, 0, 0, 0) else none) else (bif Nat.beq pc 17 then some (.ireturn, 18, 0, 0, 0) else none))))))
def tbX1_add : Nat → Option mv_R := mv_lim 70 (fun pc => (bif Nat.blt pc 36 then (bif Nat.blt pc 20 then (bif Nat.blt pc 11 then (bif Nat.blt pc 4 then (bif Nat.blt pc 1 then (bif Nat.beq pc 0 then some (.aload_n 0, 1, 0, 0, 0) else none) else (bif Nat.beq pc 1 then some (.getfield 30, 4, 0, 0, 0) else none)) else (bif Nat.blt pc 6 then (bif Nat.beq pc 4 then some (.bipush 60, 6, 0, 60, 0) else none) else (bif Nat.blt pc 9 then (bif Nat.beq pc 6 then some (.if_icmp .lt 6, 9, 12, 0, 0) else none) else (bif Nat.beq pc 9 then some (.bipush (-3), 11, 0, (-3), 0) else none)))) else (bif Nat.blt pc 13 then (bif Nat.blt pc 12 then (bif Nat.beq pc 11 then some (.ireturn, 12, 0, 0, 0) else none) else (bif Nat.beq pc 12 then some (.aload_n 0, 13, 0, 0, 0) else none)) else (bif Nat.blt pc 16 then (bif Nat.beq pc 13 then some (.getfield 9, 16, 0, 0, 0) else none) else (bif Nat.blt pc 17 then (bif Nat.beq pc 16 then some (.aload_n 0, 17, 0, 0, 0) else none) else (bif Nat.beq pc 17 then some (.getfield 30, 20, 0, 0, 0) else none))))) else (bif Nat.blt pc 27 then (bif Nat.blt pc 22 then (bif Nat.blt pc 21 then (bif Nat.beq pc 20 then some (.iload_n 1, 21, 0, 0, 0) else none) else (bif Nat.beq pc 21 then some (.iastore, 22, 0, 0, 0) else none)) else (bif Nat.blt pc 23 then (bif Nat.beq pc 22 then some (.aload_n 0, 23, 0, 0, 0) else none) else (bif Nat.blt pc 26 then (bif Nat.beq pc 23 then some (.getfield 15, 26, 0, 0, 0) else none) else (bif Nat.beq pc 26 then some (.aload_n 0, 27, 0, 0, 0) else none)))) else (bif Nat.blt pc 31 then (bif Nat.blt pc 30 then (bif Nat.beq pc 27 then some (.getfield 30, 30, 0, 0, 0) else none) else (bif Nat.beq pc 30 then some (.iload_n 2, 31, 0, 0, 0) else none)) else (bif Nat.blt pc 32 then (bif Nat.beq pc 31 then some (.iastore, 32, 0, 0, 0) else none) else (bif Nat.blt pc 33 then (bif Nat.beq pc 32 then some (.aload_n 0, 33, 0, 0, 0) else none) else (bif Nat.beq pc 33 then some (.getfield 21, 36, 0, 0, 0) else none)))))) else (bif Nat.blt pc 53 then (bif Nat.blt pc 43 then (bif Nat.blt pc 40 then (bif Nat.blt pc 37 then (bif Nat.beq pc 36 then some (.aload_n 0, 37, 0, 0, 0) else none) else (bif Nat.beq pc 37 then some (.getfield 30, 40, 0, 0, 0) else none)) else (bif Nat.blt pc 41 then (bif Nat.beq pc 40 then some (.iload_n 3, 41, 0, 0, 0) else none) else (bif Nat.blt pc 42 then (bif Nat.beq pc 41 then some (.iastore, 42, 0, 0, 0) else none) else (bif Nat.beq pc 42 then some (.aload_n 0, 43, 0, 0, 0) else none)))) else (bif Nat.blt pc 47 then (bif Nat.blt pc 46 then (bif Nat.beq pc 43 then some (.getfield 18, 46, 0, 0, 0) else none) else (bif Nat.beq pc 46 then some (.aload_n 0, 47, 0, 0, 0) else none)) else (bif Nat.blt pc 50 then (bif Nat.beq pc 47 then some (.getfield 30, 50, 0, 0, 0) else none) else (bif Nat.blt pc 52 then (bif Nat.beq pc 50 then some (.iload 4, 52, 0, 0, 0) else none) else (bif Nat.beq pc 52 then some (.iastore, 53, 0, 0, 0) else none))))) else (bif Nat.blt pc 60 then (bif Nat.blt pc 55 then (bif Nat.blt pc 54 then (bif Nat.beq pc 53 then some (.aload_n 0, 54, 0, 0, 0) else none) else (bif Nat.beq pc 54 then some (.dup, 55, 0, 0, 0) else none)) else (bif Nat.blt pc 58 then (bif Nat.beq pc 55 then some (.getfield 30, 58, 0, 0, 0) else none) else (bif Nat.blt pc 59 then (bif Nat.beq pc 58 then some (.iconst 1, 59, 0, 1, 0) else none) else (bif Nat.beq pc 59 then some (.iadd, 60, 0, 0, 0) else none)))) else (bif Nat.blt pc 67 then (bif Nat.blt pc 63 then (bif Nat.beq pc 60 then some (.putfield 30, 63, 0, 0, 0) else none) else (bif Nat.blt pc 64 then (bif Nat.beq pc 63 then some (.aload_n 0, 64, 0, 0, 0) else none) else (bif Nat.beq pc 64 then some (.getfield 30, 67, 0, 0, 0) else none))) else (bif Nat.blt pc 68 then (bif Nat.beq pc 67 then some (.iconst 1, 68, 0, 1, 0) else none) else (bif Nat.blt pc 69 then (bif Nat.beq pc 68 then some (.isub, 69, 0, 0, 0) else none) else (bif Nat.beq pc 69 then some (.ireturn, 70, 0, 0, 0) else none))))))))
def tbX1_moveToPort : Nat → Option mv_R := mv_lim 21 (fun pc => (bif Nat.blt pc 10 then (bif Nat.blt pc 6 then (bif Nat.blt pc 4 then (bif Nat.blt pc 1 then (bif Nat.beq pc 0 then some (.aload_n 0, 1, 0, 0, 0) else none) else (bif Nat.beq pc 1 then some (.getfield 21, 4, 0, 0, 0) else none)) else (bif Nat.blt pc 5 then (bif Nat.beq pc 4 then some (.iload_n 1, 5, 0, 0, 0) else none) else (bif Nat.beq pc 5 then some (.dup2, 6, 0, 0, 0) else none))) else (bif Nat.blt pc 8 then (bif Nat.blt pc 7 then (bif Nat.beq pc 6 then some (.iaload, 7, 0, 0, 0) else none) else (bif Nat.beq pc 7 then some (.iload_n 2, 8, 0, 0, 0) else none)) else (bif Nat.blt pc 9 then (bif Nat.beq pc 8 then some (.isub, 9, 0, 0, 0) else none) else (bif Nat.beq pc 9 then some (.iastore, 10, 0, 0, 0) else none)))) else (bif Nat.blt pc 16 then (bif Nat.blt pc 14 then (bif Nat.blt pc 11 then (bif Nat.beq pc 10 then some (.aload_n 0, 11, 0, 0, 0) else none) else (bif Nat.beq pc 11 then some (.getfield 24, 14, 0, 0, 0) else none)) else (bif Nat.blt pc 15 then (bif Nat.beq pc 14 then some (.iload_n 1, 15, 0, 0, 0) else none) else (bif Nat.beq pc 15 then some (.dup2, 16, 0, 0, 0) else none))) else (bif Nat.blt pc 18 then (bif Nat.blt pc 17 then (bif Nat.beq pc 16 then some (.iaload, 17, 0, 0, 0) else none) else (bif Nat.beq pc 17 then some (.iload_n 2, 18, 0, 0, 0) else none)) else (bif Nat.blt pc 19 then (bif Nat.beq pc 18 then some (.iadd, 19, 0, 0, 0) else none) else (bif Nat.blt pc 20 then (bif Nat.beq pc 19 then some (.iastore, 20, 0, 0, 0) else none) else (bif Nat.beq pc 20 then some (.return_, 21, 0, 0, 0) else none)))))))
def tbX1_moveToHolds : Nat → Option mv_R := mv_lim 21 (fun pc => (bif Nat.blt pc 10 then (bif Nat.blt pc 6 then (bif Nat.blt pc 4 then (bif Nat.blt pc 1 then (bif Nat.beq pc 0 then some (.aload_n 0, 1, 0, 0, 0) else none) else (bif Nat.beq pc 1 then some (.getfield 24, 4, 0, 0, 0) else none)) else (bif Nat.blt pc 5 then (bif Nat.beq pc 4 then some (.iload_n 1, 5, 0, 0, 0) else none) else (bif Nat.beq pc 5 then some (.dup2, 6, 0, 0, 0) else none))) else (bif Nat.blt pc 8 then (bif Nat.blt pc 7 then (bif Nat.beq pc 6 then some (.iaload, 7, 0, 0, 0) else none) else (bif Nat.beq pc 7 then some (.iload_n 2, 8, 0, 0, 0) else none)) else (bif Nat.blt pc 9 then (bif Nat.beq pc 8 then some (.isub, 9, 0, 0, 0) else none) else (bif Nat.beq pc 9 then some (.iastore, 10, 0, 0, 0) else none)))) else (bif Nat.blt pc 16 then (bif Nat.blt pc 14 then (bif Nat.blt pc 11 then (bif Nat.beq pc 10 then some (.aload_n 0, 11, 0, 0, 0) else none) else (bif Nat.beq pc 11 then some (.getfield 27, 14, 0, 0, 0) else none)) else (bif Nat.blt pc 15 then (bif Nat.beq pc 14 then some (.iload_n 1, 15, 0, 0, 0) else none) else (bif Nat.beq pc 15 then some (.dup2, 16, 0, 0, 0) else none))) else (bif Nat.blt pc 18 then (bif Nat.blt pc 17 then (bif Nat.beq pc 16 then some (.iaload, 17, 0, 0, 0) else none) else (bif Nat.beq pc 17 then some (.iload_n 2, 18, 0, 0, 0) else none)) else (bif Nat.blt pc 19 then (bif Nat.beq pc 18 then some (.iadd, 19, 0, 0, 0) else none) else (bif Nat.blt pc 20 then (bif Nat.beq pc 19 then some (.iastore, 20, 0, 0, 0) else none) else (bif Nat.beq pc 20 then some (.return_, 21, 0, 0, 0) else none)))))))
def tbX1_sumOf : Nat → Option mv_R := mv_lim 26 (fun pc => (bif Nat.blt pc 13 then (bif Nat.blt pc 4 then (bif Nat.blt pc 2 then (bif Nat.blt pc 1 then (bif Nat.beq pc 0 then some (.iconst 0, 1, 0, 0, 0) else none) else (bif Nat.beq pc 1 then some (.istore_n 2, 2, 0, 0, 0) else none)) else (bif Nat.blt pc 3 then (bif Nat.beq pc 2 then some (.iconst 0, 3, 0, 0, 0) else none) else (bif Nat.beq pc 3 then some (.istore_n 3, 4, 0, 0, 0) else none))) else (bif Nat.blt pc 6 then (bif Nat.blt pc 5 then (bif Nat.beq pc 4 then some (.iload_n 3, 5, 1, 0, 0) else none) else (bif Nat.beq pc 5 then some (.aload_n 0, 6, 0, 0, 0) else none)) else (bif Nat.blt pc 9 then (bif Nat.beq pc 6 then some (.getfield 30, 9, 0, 0, 0) else none) else (bif Nat.blt pc 12 then (bif Nat.beq pc 9 then some (.if_icmp .ge 15, 12, 24, 0, 0) else none) else (bif Nat.beq pc 12 then some (.iload_n 2, 13, 0, 0, 0) else none))))) else (bif Nat.blt pc 17 then (bif Nat.blt pc 15 then (bif Nat.blt pc 14 then (bif Nat.beq pc 13 then some (.aload_n 1, 14, 0, 0, 0) else none) else (bif Nat.beq pc 14 then some (.iload_n 3, 15, 0, 0, 0) else none)) else (bif Nat.blt pc 16 then (bif Nat.beq pc 15 then some (.iaload, 16, 0, 0, 0) else none) else (bif Nat.beq pc 16 then some (.iadd, 17, 0, 0, 0) else none))) else (bif Nat.blt pc 21 then (bif Nat.blt pc 18 then (bif Nat.beq pc 17 then some (.istore_n 2, 18, 0, 0, 0) else none) else (bif Nat.beq pc 18 then some (.iinc 3 1, 21, 0, 1, 0) else none)) else (bif Nat.blt pc 24 then (bif Nat.beq pc 21 then some (.goto (-17), 24, 4, 0, 0) else none) else (bif Nat.blt pc 25 then (bif Nat.beq pc 24 then some (.iload_n 2, 25, 0, 0, 0) else none) else (bif Nat.beq pc 25 then some (.ireturn, 26, 0, 0, 0) else none)))))))
def tbX4_takenOn : Nat → Option mv_R := mv_lim 96 (fun pc => (bif Nat.blt pc 51 then (bif Nat.blt pc 23 then (bif Nat.blt pc 10 then (bif Nat.blt pc 3 then (bif Nat.blt pc 1 then (bif Nat.beq pc 0 then some (.iload_n 1, 1, 0, 0, 0) else none) else (bif Nat.blt pc 2 then (bif Nat.beq pc 1 then some (.istore_n 2, 2, 0, 0, 0) else none) else (bif Nat.beq pc 2 then some (.iload_n 2, 3, 1, 0, 0) else none))) else (bif Nat.blt pc 6 then (bif Nat.beq pc 3 then some (.ifCond .lt 18, 6, 21, 0, 0) else none) else (bif Nat.blt pc 7 then (bif Nat.beq pc 6 then some (.aload_n 0, 7, 0, 0, 0) else none) else (bif Nat.beq pc 7 then some (.getfield 9, 10, 0, 0, 0) else none)))) else (bif Nat.blt pc 15 then (bif Nat.blt pc 11 then (bif Nat.beq pc 10 then some (.iload_n 2, 11, 0, 0, 0) else none) else (bif Nat.blt pc 12 then (bif Nat.beq pc 11 then some (.iaload, 12, 0, 0, 0) else none) else (bif Nat.beq pc 12 then some (.ifCond .ge 9, 15, 21, 0, 0) else none))) else (bif Nat.blt pc 21 then (bif Nat.blt pc 18 then (bif Nat.beq pc 15 then some (.iinc 2 (-1), 18, 0, (-1), 0) else none) else (bif Nat.beq pc 18 then some (.goto (-16), 21, 2, 0, 0) else none)) else (bif Nat.blt pc 22 then (bif Nat.beq pc 21 then some (.iload_n 1, 22, 0, 0, 0) else none) else (bif Nat.beq pc 22 then some (.istore_n 3, 23, 0, 0, 0) else none))))) else (bif Nat.blt pc 35 then (bif Nat.blt pc 29 then (bif Nat.blt pc 24 then (bif Nat.beq pc 23 then some (.iload_n 3, 24, 1, 0, 0) else none) else (bif Nat.blt pc 26 then (bif Nat.beq pc 24 then some (.bipush 60, 26, 0, 60, 0) else none) else (bif Nat.beq pc 26 then some (.if_icmp .ge 18, 29, 44, 0, 0) else none))) else (bif Nat.blt pc 33 then (bif Nat.blt pc 30 then (bif Nat.beq pc 29 then some (.aload_n 0, 30, 0, 0, 0) else none) else (bif Nat.beq pc 30 then some (.getfield 9, 33, 0, 0, 0) else none)) else (bif Nat.blt pc 34 then (bif Nat.beq pc 33 then some (.iload_n 3, 34, 0, 0, 0) else none) else (bif Nat.beq pc 34 then some (.iaload, 35, 0, 0, 0) else none)))) else (bif Nat.blt pc 44 then (bif Nat.blt pc 38 then (bif Nat.beq pc 35 then some (.ifCond .ge 9, 38, 44, 0, 0) else none) else (bif Nat.blt pc 41 then (bif Nat.beq pc 38 then some (.iinc 3 1, 41, 0, 1, 0) else none) else (bif Nat.beq pc 41 then some (.goto (-18), 44, 23, 0, 0) else none))) else (bif Nat.blt pc 48 then (bif Nat.blt pc 45 then (bif Nat.beq pc 44 then some (.iload_n 2, 45, 0, 0, 0) else none) else (bif Nat.beq pc 45 then some (.ifCond .ge 20, 48, 65, 0, 0) else none)) else (bif Nat.blt pc 49 then (bif Nat.beq pc 48 then some (.iload_n 3, 49, 0, 0, 0) else none) else (bif Nat.beq pc 49 then some (.bipush 60, 51, 0, 60, 0) else none)))))) else (bif Nat.blt pc 76 then (bif Nat.blt pc 64 then (bif Nat.blt pc 58 then (bif Nat.blt pc 54 then (bif Nat.beq pc 51 then some (.if_icmp .ge 12, 54, 63, 0, 0) else none) else (bif Nat.blt pc 55 then (bif Nat.beq pc 54 then some (.aload_n 0, 55, 0, 0, 0) else none) else (bif Nat.beq pc 55 then some (.getfield 9, 58, 0, 0, 0) else none))) else (bif Nat.blt pc 60 then (bif Nat.blt pc 59 then (bif Nat.beq pc 58 then some (.iload_n 3, 59, 0, 0, 0) else none) else (bif Nat.beq pc 59 then some (.iaload, 60, 0, 0, 0) else none)) else (bif Nat.blt pc 63 then (bif Nat.beq pc 60 then some (.goto 4, 63, 64, 0, 0) else none) else (bif Nat.beq pc 63 then some (.iconst 0, 64, 0, 0, 0) else none)))) else (bif Nat.blt pc 68 then (bif Nat.blt pc 65 then (bif Nat.beq pc 64 then some (.ireturn, 65, 0, 0, 0) else none) else (bif Nat.blt pc 66 then (bif Nat.beq pc 65 then some (.iload_n 3, 66, 0, 0, 0) else none) else (bif Nat.beq pc 66 then some (.bipush 60, 68, 0, 60, 0) else none))) else (bif Nat.blt pc 72 then (bif Nat.blt pc 71 then (bif Nat.beq pc 68 then some (.if_icmp .ge 21, 71, 89, 0, 0) else none) else (bif Nat.beq pc 71 then some (.aload_n 0, 72, 0, 0, 0) else none)) else (bif Nat.blt pc 75 then (bif Nat.beq pc 72 then some (.getfield 9, 75, 0, 0, 0) else none) else (bif Nat.beq pc 75 then some (.iload_n 2, 76, 0, 0, 0) else none))))) else (bif Nat.blt pc 85 then (bif Nat.blt pc 81 then (bif Nat.blt pc 77 then (bif Nat.beq pc 76 then some (.iaload, 77, 0, 0, 0) else none) else (bif Nat.blt pc 78 then (bif Nat.beq pc 77 then some (.aload_n 0, 78, 0, 0, 0) else none) else (bif Nat.beq pc 78 then some (.getfield 9, 81, 0, 0, 0) else none))) else (bif Nat.blt pc 83 then (bif Nat.blt pc 82 then (bif Nat.beq pc 81 then some (.iload_n 3, 82, 0, 0, 0) else none) else (bif Nat.beq pc 82 then some (.iaload, 83, 0, 0, 0) else none)) else (bif Nat.blt pc 84 then (bif Nat.beq pc 83 then some (.iadd, 84, 0, 0, 0) else none) else (bif Nat.beq pc 84 then some (.iconst 2, 85, 0, 2, 0) else none)))) else (bif Nat.blt pc 90 then (bif Nat.blt pc 86 then (bif Nat.beq pc 85 then some (.idiv, 86, 0, 0, 0) else none) else (bif Nat.blt pc 89 then (bif Nat.beq pc 86 then some (.goto 9, 89, 95, 0, 0) else none) else (bif Nat.beq pc 89 then some (.aload_n 0, 90, 0, 0, 0) else none))) else (bif Nat.blt pc 94 then (bif Nat.blt pc 93 then (bif Nat.beq pc 90 then some (.getfield 9, 93, 0, 0, 0) else none) else (bif Nat.beq pc 93 then some (.iload_n 2, 94, 0, 0, 0) else none)) else (bif Nat.blt pc 95 then (bif Nat.beq pc 94 then some (.iaload, 95, 0, 0, 0) else none) else (bif Nat.beq pc 95 then some (.ireturn, 96, 0, 0, 0) else none))))))))
def tbX4_countLoadableDays : Nat → Option mv_R := mv_lim 84 (fun pc => (bif Nat.blt pc 40 then (bif Nat.blt pc 18 then (bif Nat.blt pc 7 then (bif Nat.blt pc 2 then (bif Nat.blt pc 1 then (bif Nat.beq pc 0 then some (.aload_n 0, 1, 0, 0, 0) else none) else (bif Nat.beq pc 1 then some (.iconst 0, 2, 0, 0, 0) else none)) else (bif Nat.blt pc 5 then (bif Nat.beq pc 2 then some (.putfield 31, 5, 0, 0, 0) else none) else (bif Nat.blt pc 6 then (bif Nat.beq pc 5 then some (.iconst 0, 6, 0, 0, 0) else none) else (bif Nat.beq pc 6 then some (.istore_n 1, 7, 0, 0, 0) else none)))) else (bif Nat.blt pc 13 then (bif Nat.blt pc 8 then (bif Nat.beq pc 7 then some (.iload_n 1, 8, 1, 0, 0) else none) else (bif Nat.blt pc 10 then (bif Nat.beq pc 8 then some (.bipush 60, 10, 0, 60, 0) else none) else (bif Nat.beq pc 10 then some (.if_icmp .ge 51, 13, 61, 0, 0) else none))) else (bif Nat.blt pc 14 then (bif Nat.beq pc 13 then some (.aload_n 0, 14, 0, 0, 0) else none) else (bif Nat.blt pc 17 then (bif Nat.beq pc 14 then some (.getfield 22, 17, 0, 0, 0) else none) else (bif Nat.beq pc 17 then some (.iload_n 1, 18, 0, 0, 0) else none))))) else (bif Nat.blt pc 28 then (bif Nat.blt pc 23 then (bif Nat.blt pc 19 then (bif Nat.beq pc 18 then some (.aload_n 0, 19, 0, 0, 0) else none) else (bif Nat.blt pc 22 then (bif Nat.beq pc 19 then some (.getfield 31, 22, 0, 0, 0) else none) else (bif Nat.beq pc 22 then some (.iastore, 23, 0, 0, 0) else none))) else (bif Nat.blt pc 24 then (bif Nat.beq pc 23 then some (.aload_n 0, 24, 0, 0, 0) else none) else (bif Nat.blt pc 25 then (bif Nat.beq pc 24 then some (.iload_n 1, 25, 0, 0, 0) else none) else (bif Nat.beq pc 25 then some (.invokevirtual 34, 28, 0, 0, 0) else none)))) else (bif Nat.blt pc 35 then (bif Nat.blt pc 29 then (bif Nat.beq pc 28 then some (.aload_n 0, 29, 0, 0, 0) else none) else (bif Nat.blt pc 32 then (bif Nat.beq pc 29 then some (.getfield 15, 32, 0, 0, 0) else none) else (bif Nat.beq pc 32 then some (.if_icmp .gt 23, 35, 55, 0, 0) else none))) else (bif Nat.blt pc 36 then (bif Nat.beq pc 35 then some (.aload_n 0, 36, 0, 0, 0) else none) else (bif Nat.blt pc 39 then (bif Nat.beq pc 36 then some (.getfield 19, 39, 0, 0, 0) else none) else (bif Nat.beq pc 39 then some (.aload_n 0, 40, 0, 0, 0) else none)))))) else (bif Nat.blt pc 61 then (bif Nat.blt pc 47 then (bif Nat.blt pc 44 then (bif Nat.blt pc 43 then (bif Nat.beq pc 40 then some (.getfield 31, 43, 0, 0, 0) else none) else (bif Nat.beq pc 43 then some (.iload_n 1, 44, 0, 0, 0) else none)) else (bif Nat.blt pc 45 then (bif Nat.beq pc 44 then some (.iastore, 45, 0, 0, 0) else none) else (bif Nat.blt pc 46 then (bif Nat.beq pc 45 then some (.aload_n 0, 46, 0, 0, 0) else none) else (bif Nat.beq pc 46 then some (.dup, 47, 0, 0, 0) else none)))) else (bif Nat.blt pc 52 then (bif Nat.blt pc 50 then (bif Nat.beq pc 47 then some (.getfield 31, 50, 0, 0, 0) else none) else (bif Nat.blt pc 51 then (bif Nat.beq pc 50 then some (.iconst 1, 51, 0, 1, 0) else none) else (bif Nat.beq pc 51 then some (.iadd, 52, 0, 0, 0) else none))) else (bif Nat.blt pc 55 then (bif Nat.beq pc 52 then some (.putfield 31, 55, 0, 0, 0) else none) else (bif Nat.blt pc 58 then (bif Nat.beq pc 55 then some (.iinc 1 1, 58, 0, 1, 0) else none) else (bif Nat.beq pc 58 then some (.goto (-51), 61, 7, 0, 0) else none))))) else (bif Nat.blt pc 72 then (bif Nat.blt pc 65 then (bif Nat.blt pc 62 then (bif Nat.beq pc 61 then some (.aload_n 0, 62, 0, 0, 0) else none) else (bif Nat.blt pc 63 then (bif Nat.beq pc 62 then some (.aload_n 0, 63, 0, 0, 0) else none) else (bif Nat.beq pc 63 then some (.bipush 59, 65, 0, 59, 0) else none))) else (bif Nat.blt pc 68 then (bif Nat.beq pc 65 then some (.invokevirtual 34, 68, 0, 0, 0) else none) else (bif Nat.blt pc 69 then (bif Nat.beq pc 68 then some (.aload_n 0, 69, 0, 0, 0) else none) else (bif Nat.beq pc 69 then some (.getfield 15, 72, 0, 0, 0) else none)))) else (bif Nat.blt pc 79 then (bif Nat.blt pc 75 then (bif Nat.beq pc 72 then some (.if_icmp .gt 7, 75, 79, 0, 0) else none) else (bif Nat.blt pc 76 then (bif Nat.beq pc 75 then some (.iconst 1, 76, 0, 1, 0) else none) else (bif Nat.beq pc 76 then some (.goto 4, 79, 80, 0, 0) else none))) else (bif Nat.blt pc 80 then (bif Nat.beq pc 79 then some (.iconst 0, 80, 0, 0, 0) else none) else (bif Nat.blt pc 83 then (bif Nat.beq pc 80 then some (.putfield 38, 83, 0, 0, 0) else none) else (bif Nat.beq pc 83 then some (.return_, 84, 0, 0, 0) else none))))))))
def tbX4_endFrom : Nat → Option mv_R := mv_lim 70 (fun pc => (bif Nat.blt pc 33 then (bif Nat.blt pc 18 then (bif Nat.blt pc 10 then (bif Nat.blt pc 3 then (bif Nat.blt pc 1 then (bif Nat.beq pc 0 then some (.iload_n 1, 1, 0, 0, 0) else none) else (bif Nat.beq pc 1 then some (.bipush 60, 3, 0, 60, 0) else none)) else (bif Nat.blt pc 6 then (bif Nat.beq pc 3 then some (.if_icmp .lt 20, 6, 23, 0, 0) else none) else (bif Nat.blt pc 7 then (bif Nat.beq pc 6 then some (.aload_n 0, 7, 0, 0, 0) else none) else (bif Nat.beq pc 7 then some (.getfield 38, 10, 0, 0, 0) else none)))) else (bif Nat.blt pc 15 then (bif Nat.blt pc 13 then (bif Nat.beq pc 10 then some (.ifCond .eq 11, 13, 21, 0, 0) else none) else (bif Nat.blt pc 14 then (bif Nat.beq pc 13 then some (.iload_n 1, 14, 0, 0, 0) else none) else (bif Nat.beq pc 14 then some (.iload_n 2, 15, 0, 0, 0) else none))) else (bif Nat.blt pc 16 then (bif Nat.beq pc 15 then some (.iadd, 16, 0, 0, 0) else none) else (bif Nat.blt pc 17 then (bif Nat.beq pc 16 then some (.iconst 1, 17, 0, 1, 0) else none) else (bif Nat.beq pc 17 then some (.isub, 18, 0, 0, 0) else none))))) else (bif Nat.blt pc 27 then (bif Nat.blt pc 22 then (bif Nat.blt pc 21 then (bif Nat.beq pc 18 then some (.goto 4, 21, 22, 0, 0) else none) else (bif Nat.beq pc 21 then some (.iconst (-1), 22, 0, (-1), 0) else none)) else (bif Nat.blt pc 23 then (bif Nat.beq pc 22 then some (.ireturn, 23, 0, 0, 0) else none) else (bif Nat.blt pc 24 then (bif Nat.beq pc 23 then some (.aload_n 0, 24, 0, 0, 0) else none) else (bif Nat.beq pc 24 then some (.getfield 22, 27, 0, 0, 0) else none)))) else (bif Nat.blt pc 30 then (bif Nat.blt pc 28 then (bif Nat.beq pc 27 then some (.iload_n 1, 28, 0, 0, 0) else none) else (bif Nat.blt pc 29 then (bif Nat.beq pc 28 then some (.iaload, 29, 0, 0, 0) else none) else (bif Nat.beq pc 29 then some (.iload_n 2, 30, 0, 0, 0) else none))) else (bif Nat.blt pc 31 then (bif Nat.beq pc 30 then some (.iadd, 31, 0, 0, 0) else none) else (bif Nat.blt pc 32 then (bif Nat.beq pc 31 then some (.iconst 1, 32, 0, 1, 0) else none) else (bif Nat.beq pc 32 then some (.isub, 33, 0, 0, 0) else none)))))) else (bif Nat.blt pc 50 then (bif Nat.blt pc 42 then (bif Nat.blt pc 35 then (bif Nat.blt pc 34 then (bif Nat.beq pc 33 then some (.istore_n 3, 34, 0, 0, 0) else none) else (bif Nat.beq pc 34 then some (.iload_n 3, 35, 0, 0, 0) else none)) else (bif Nat.blt pc 36 then (bif Nat.beq pc 35 then some (.aload_n 0, 36, 0, 0, 0) else none) else (bif Nat.blt pc 39 then (bif Nat.beq pc 36 then some (.getfield 31, 39, 0, 0, 0) else none) else (bif Nat.beq pc 39 then some (.if_icmp .ge 10, 42, 49, 0, 0) else none)))) else (bif Nat.blt pc 47 then (bif Nat.blt pc 43 then (bif Nat.beq pc 42 then some (.aload_n 0, 43, 0, 0, 0) else none) else (bif Nat.blt pc 46 then (bif Nat.beq pc 43 then some (.getfield 19, 46, 0, 0, 0) else none) else (bif Nat.beq pc 46 then some (.iload_n 3, 47, 0, 0, 0) else none))) else (bif Nat.blt pc 48 then (bif Nat.beq pc 47 then some (.iaload, 48, 0, 0, 0) else none) else (bif Nat.blt pc 49 then (bif Nat.beq pc 48 then some (.ireturn, 49, 0, 0, 0) else none) else (bif Nat.beq pc 49 then some (.aload_n 0, 50, 0, 0, 0) else none))))) else (bif Nat.blt pc 60 then (bif Nat.blt pc 56 then (bif Nat.blt pc 53 then (bif Nat.beq pc 50 then some (.getfield 38, 53, 0, 0, 0) else none) else (bif Nat.beq pc 53 then some (.ifCond .eq 15, 56, 68, 0, 0) else none)) else (bif Nat.blt pc 58 then (bif Nat.beq pc 56 then some (.bipush 60, 58, 0, 60, 0) else none) else (bif Nat.blt pc 59 then (bif Nat.beq pc 58 then some (.iload_n 3, 59, 0, 0, 0) else none) else (bif Nat.beq pc 59 then some (.iadd, 60, 0, 0, 0) else none)))) else (bif Nat.blt pc 65 then (bif Nat.blt pc 61 then (bif Nat.beq pc 60 then some (.aload_n 0, 61, 0, 0, 0) else none) else (bif Nat.blt pc 64 then (bif Nat.beq pc 61 then some (.getfield 31, 64, 0, 0, 0) else none) else (bif Nat.beq pc 64 then some (.isub, 65, 0, 0, 0) else none))) else (bif Nat.blt pc 68 then (bif Nat.beq pc 65 then some (.goto 4, 68, 69, 0, 0) else none) else (bif Nat.blt pc 69 then (bif Nat.beq pc 68 then some (.iconst (-1), 69, 0, (-1), 0) else none) else (bif Nat.beq pc 69 then some (.ireturn, 70, 0, 0, 0) else none))))))))
def tbX2_seek : Nat → Option mv_R := mv_lim 146 (fun pc => (bif Nat.blt pc 73 then (bif Nat.blt pc 35 then (bif Nat.blt pc 16 then (bif Nat.blt pc 7 then (bif Nat.blt pc 4 then (bif Nat.blt pc 1 then (bif Nat.beq pc 0 then some (.iload_n 3, 1, 0, 0, 0) else none) else (bif Nat.beq pc 1 then some (.ifCond .ne 25, 4, 26, 0, 0) else none)) else (bif Nat.blt pc 5 then (bif Nat.beq pc 4 then some (.aload_n 0, 5, 0, 0, 0) else none) else (bif Nat.beq pc 5 then some (.iload 6, 7, 0, 0, 0) else none))) else (bif Nat.blt pc 11 then (bif Nat.blt pc 10 then (bif Nat.beq pc 7 then some (.putfield 36, 10, 0, 0, 0) else none) else (bif Nat.beq pc 10 then some (.aload_n 0, 11, 0, 0, 0) else none)) else (bif Nat.blt pc 14 then (bif Nat.beq pc 11 then some (.getfield 24, 14, 0, 0, 0) else none) else (bif Nat.blt pc 15 then (bif Nat.beq pc 14 then some (.iconst 0, 15, 0, 0, 0) else none) else (bif Nat.beq pc 15 then some (.aload_n 0, 16, 0, 0, 0) else none))))) else (bif Nat.blt pc 26 then (bif Nat.blt pc 20 then (bif Nat.blt pc 19 then (bif Nat.beq pc 16 then some (.getfield 27, 19, 0, 0, 0) else none) else (bif Nat.beq pc 19 then some (.iconst 0, 20, 0, 0, 0) else none)) else (bif Nat.blt pc 22 then (bif Nat.beq pc 20 then some (.iload 4, 22, 0, 0, 0) else none) else (bif Nat.blt pc 25 then (bif Nat.beq pc 22 then some (.invokestatic 54, 25, 0, 0, 0) else none) else (bif Nat.beq pc 25 then some (.return_, 26, 0, 0, 0) else none)))) else (bif Nat.blt pc 30 then (bif Nat.blt pc 28 then (bif Nat.beq pc 26 then some (.iload 4, 28, 0, 0, 0) else none) else (bif Nat.beq pc 28 then some (.bipush 6, 30, 0, 6, 0) else none)) else (bif Nat.blt pc 33 then (bif Nat.beq pc 30 then some (.if_icmp .lt 4, 33, 34, 0, 0) else none) else (bif Nat.blt pc 34 then (bif Nat.beq pc 33 then some (.return_, 34, 0, 0, 0) else none) else (bif Nat.beq pc 34 then some (.iconst 0, 35, 0, 0, 0) else none)))))) else (bif Nat.blt pc 52 then (bif Nat.blt pc 46 then (bif Nat.blt pc 39 then (bif Nat.blt pc 37 then (bif Nat.beq pc 35 then some (.istore 7, 37, 0, 0, 0) else none) else (bif Nat.beq pc 37 then some (.iload 7, 39, 1, 0, 0) else none)) else (bif Nat.blt pc 40 then (bif Nat.beq pc 39 then some (.aload_n 1, 40, 0, 0, 0) else none) else (bif Nat.blt pc 43 then (bif Nat.beq pc 40 then some (.getfield 60, 43, 0, 0, 0) else none) else (bif Nat.beq pc 43 then some (.if_icmp .ge 102, 46, 145, 0, 0) else none)))) else (bif Nat.blt pc 49 then (bif Nat.blt pc 47 then (bif Nat.beq pc 46 then some (.iload_n 3, 47, 0, 0, 0) else none) else (bif Nat.beq pc 47 then some (.iload 7, 49, 0, 0, 0) else none)) else (bif Nat.blt pc 50 then (bif Nat.beq pc 49 then some (.ishr, 50, 0, 0, 0) else none) else (bif Nat.blt pc 51 then (bif Nat.beq pc 50 then some (.iconst 1, 51, 0, 1, 0) else none) else (bif Nat.beq pc 51 then some (.iand, 52, 0, 0, 0) else none))))) else (bif Nat.blt pc 62 then (bif Nat.blt pc 58 then (bif Nat.blt pc 55 then (bif Nat.beq pc 52 then some (.ifCond .ne 6, 55, 58, 0, 0) else none) else (bif Nat.beq pc 55 then some (.goto 84, 58, 139, 0, 0) else none)) else (bif Nat.blt pc 59 then (bif Nat.beq pc 58 then some (.aload_n 2, 59, 0, 0, 0) else none) else (bif Nat.blt pc 60 then (bif Nat.beq pc 59 then some (.aload_n 1, 60, 0, 0, 0) else none) else (bif Nat.beq pc 60 then some (.iload 7, 62, 0, 0, 0) else none)))) else (bif Nat.blt pc 67 then (bif Nat.blt pc 64 then (bif Nat.beq pc 62 then some (.iload 5, 64, 0, 0, 0) else none) else (bif Nat.beq pc 64 then some (.invokevirtual 65, 67, 0, 0, 0) else none)) else (bif Nat.blt pc 68 then (bif Nat.beq pc 67 then some (.aload_n 1, 68, 0, 0, 0) else none) else (bif Nat.blt pc 70 then (bif Nat.beq pc 68 then some (.iload 7, 70, 0, 0, 0) else none) else (bif Nat.beq pc 70 then some (.invokevirtual 69, 73, 0, 0, 0) else none))))))) else (bif Nat.blt pc 116 then (bif Nat.blt pc 96 then (bif Nat.blt pc 86 then (bif Nat.blt pc 78 then (bif Nat.blt pc 76 then (bif Nat.beq pc 73 then some (.invokevirtual 72, 76, 0, 0, 0) else none) else (bif Nat.beq pc 76 then some (.istore 8, 78, 0, 0, 0) else none)) else (bif Nat.blt pc 80 then (bif Nat.beq pc 78 then some (.iload 8, 80, 0, 0, 0) else none) else (bif Nat.blt pc 83 then (bif Nat.beq pc 80 then some (.ifCond .ge 6, 83, 86, 0, 0) else none) else (bif Nat.beq pc 83 then some (.goto 56, 86, 139, 0, 0) else none)))) else (bif Nat.blt pc 89 then (bif Nat.blt pc 88 then (bif Nat.beq pc 86 then some (.iload 6, 88, 0, 0, 0) else none) else (bif Nat.beq pc 88 then some (.aload_n 1, 89, 0, 0, 0) else none)) else (bif Nat.blt pc 91 then (bif Nat.beq pc 89 then some (.iload 7, 91, 0, 0, 0) else none) else (bif Nat.blt pc 93 then (bif Nat.beq pc 91 then some (.iload 8, 93, 0, 0, 0) else none) else (bif Nat.beq pc 93 then some (.invokevirtual 75, 96, 0, 0, 0) else none))))) else (bif Nat.blt pc 105 then (bif Nat.blt pc 99 then (bif Nat.blt pc 97 then (bif Nat.beq pc 96 then some (.iadd, 97, 0, 0, 0) else none) else (bif Nat.beq pc 97 then some (.istore 9, 99, 0, 0, 0) else none)) else (bif Nat.blt pc 101 then (bif Nat.beq pc 99 then some (.iload 9, 101, 0, 0, 0) else none) else (bif Nat.blt pc 102 then (bif Nat.beq pc 101 then some (.aload_n 0, 102, 0, 0, 0) else none) else (bif Nat.beq pc 102 then some (.getfield 36, 105, 0, 0, 0) else none)))) else (bif Nat.blt pc 109 then (bif Nat.blt pc 108 then (bif Nat.beq pc 105 then some (.if_icmp .ge 34, 108, 139, 0, 0) else none) else (bif Nat.beq pc 108 then some (.aload_n 0, 109, 0, 0, 0) else none)) else (bif Nat.blt pc 112 then (bif Nat.beq pc 109 then some (.getfield 24, 112, 0, 0, 0) else none) else (bif Nat.blt pc 114 then (bif Nat.beq pc 112 then some (.iload 4, 114, 0, 0, 0) else none) else (bif Nat.beq pc 114 then some (.iload 7, 116, 0, 0, 0) else none)))))) else (bif Nat.blt pc 127 then (bif Nat.blt pc 121 then (bif Nat.blt pc 118 then (bif Nat.blt pc 117 then (bif Nat.beq pc 116 then some (.iastore, 117, 0, 0, 0) else none) else (bif Nat.beq pc 117 then some (.aload_n 0, 118, 0, 0, 0) else none)) else (bif Nat.blt pc 119 then (bif Nat.beq pc 118 then some (.aload_n 1, 119, 0, 0, 0) else none) else (bif Nat.blt pc 120 then (bif Nat.beq pc 119 then some (.aload_n 2, 120, 0, 0, 0) else none) else (bif Nat.beq pc 120 then some (.iload_n 3, 121, 0, 0, 0) else none)))) else (bif Nat.blt pc 124 then (bif Nat.blt pc 122 then (bif Nat.beq pc 121 then some (.iconst 1, 122, 0, 1, 0) else none) else (bif Nat.beq pc 122 then some (.iload 7, 124, 0, 0, 0) else none)) else (bif Nat.blt pc 125 then (bif Nat.beq pc 124 then some (.ishl, 125, 0, 0, 0) else none) else (bif Nat.blt pc 126 then (bif Nat.beq pc 125 then some (.iconst (-1), 126, 0, (-1), 0) else none) else (bif Nat.beq pc 126 then some (.ixor, 127, 0, 0, 0) else none))))) else (bif Nat.blt pc 134 then (bif Nat.blt pc 130 then (bif Nat.blt pc 128 then (bif Nat.beq pc 127 then some (.iand, 128, 0, 0, 0) else none) else (bif Nat.beq pc 128 then some (.iload 4, 130, 0, 0, 0) else none)) else (bif Nat.blt pc 131 then (bif Nat.beq pc 130 then some (.iconst 1, 131, 0, 1, 0) else none) else (bif Nat.blt pc 132 then (bif Nat.beq pc 131 then some (.iadd, 132, 0, 0, 0) else none) else (bif Nat.beq pc 132 then some (.iload 8, 134, 0, 0, 0) else none)))) else (bif Nat.blt pc 139 then (bif Nat.blt pc 136 then (bif Nat.beq pc 134 then some (.iload 9, 136, 0, 0, 0) else none) else (bif Nat.beq pc 136 then some (.invokevirtual 40, 139, 0, 0, 0) else none)) else (bif Nat.blt pc 142 then (bif Nat.beq pc 139 then some (.iinc 7 1, 142, 0, 1, 0) else none) else (bif Nat.blt pc 145 then (bif Nat.beq pc 142 then some (.goto (-105), 145, 37, 0, 0) else none) else (bif Nat.beq pc 145 then some (.return_, 146, 0, 0, 0) else none)))))))))
def tbJ6_bitCount_0f7a4 : Nat → Option mv_R := mv_lim 53 (fun pc => (bif Nat.blt pc 27 then (bif Nat.blt pc 14 then (bif Nat.blt pc 7 then (bif Nat.blt pc 2 then (bif Nat.blt pc 1 then (bif Nat.beq pc 0 then some (.iload_n 0, 1, 0, 0, 0) else none) else (bif Nat.beq pc 1 then some (.iload_n 0, 2, 0, 0, 0) else none)) else (bif Nat.blt pc 3 then (bif Nat.beq pc 2 then some (.iconst 1, 3, 0, 1, 0) else none) else (bif Nat.blt pc 4 then (bif Nat.beq pc 3 then some (.iushr, 4, 0, 0, 0) else none) else (bif Nat.beq pc 4 then some (.ldc_w 265, 7, 0, 1431655765, 0) else none)))) else (bif Nat.blt pc 9 then (bif Nat.blt pc 8 then (bif Nat.beq pc 7 then some (.iand, 8, 0, 0, 0) else none) else (bif Nat.beq pc 8 then some (.isub, 9, 0, 0, 0) else none)) else (bif Nat.blt pc 10 then (bif Nat.beq pc 9 then some (.istore_n 0, 10, 0, 0, 0) else none) else (bif Nat.blt pc 11 then (bif Nat.beq pc 10 then some (.iload_n 0, 11, 0, 0, 0) else none) else (bif Nat.beq pc 11 then some (.ldc_w 266, 14, 0, 858993459, 0) else none))))) else (bif Nat.blt pc 21 then (bif Nat.blt pc 16 then (bif Nat.blt pc 15 then (bif Nat.beq pc 14 then some (.iand, 15, 0, 0, 0) else none) else (bif Nat.beq pc 15 then some (.iload_n 0, 16, 0, 0, 0) else none)) else (bif Nat.blt pc 17 then (bif Nat.beq pc 16 then some (.iconst 2, 17, 0, 2, 0) else none) else (bif Nat.blt pc 18 then (bif Nat.beq pc 17 then some (.iushr, 18, 0, 0, 0) else none) else (bif Nat.beq pc 18 then some (.ldc_w 266, 21, 0, 858993459, 0) else none)))) else (bif Nat.blt pc 24 then (bif Nat.blt pc 22 then (bif Nat.beq pc 21 then some (.iand, 22, 0, 0, 0) else none) else (bif Nat.blt pc 23 then (bif Nat.beq pc 22 then some (.iadd, 23, 0, 0, 0) else none) else (bif Nat.beq pc 23 then some (.istore_n 0, 24, 0, 0, 0) else none))) else (bif Nat.blt pc 25 then (bif Nat.beq pc 24 then some (.iload_n 0, 25, 0, 0, 0) else none) else (bif Nat.blt pc 26 then (bif Nat.beq pc 25 then some (.iload_n 0, 26, 0, 0, 0) else none) else (bif Nat.beq pc 26 then some (.iconst 4, 27, 0, 4, 0) else none)))))) else (bif Nat.blt pc 40 then (bif Nat.blt pc 34 then (bif Nat.blt pc 29 then (bif Nat.blt pc 28 then (bif Nat.beq pc 27 then some (.iushr, 28, 0, 0, 0) else none) else (bif Nat.beq pc 28 then some (.iadd, 29, 0, 0, 0) else none)) else (bif Nat.blt pc 32 then (bif Nat.beq pc 29 then some (.ldc_w 267, 32, 0, 252645135, 0) else none) else (bif Nat.blt pc 33 then (bif Nat.beq pc 32 then some (.iand, 33, 0, 0, 0) else none) else (bif Nat.beq pc 33 then some (.istore_n 0, 34, 0, 0, 0) else none)))) else (bif Nat.blt pc 36 then (bif Nat.blt pc 35 then (bif Nat.beq pc 34 then some (.iload_n 0, 35, 0, 0, 0) else none) else (bif Nat.beq pc 35 then some (.iload_n 0, 36, 0, 0, 0) else none)) else (bif Nat.blt pc 38 then (bif Nat.beq pc 36 then some (.bipush 8, 38, 0, 8, 0) else none) else (bif Nat.blt pc 39 then (bif Nat.beq pc 38 then some (.iushr, 39, 0, 0, 0) else none) else (bif Nat.beq pc 39 then some (.iadd, 40, 0, 0, 0) else none))))) else (bif Nat.blt pc 46 then (bif Nat.blt pc 42 then (bif Nat.blt pc 41 then (bif Nat.beq pc 40 then some (.istore_n 0, 41, 0, 0, 0) else none) else (bif Nat.beq pc 41 then some (.iload_n 0, 42, 0, 0, 0) else none)) else (bif Nat.blt pc 43 then (bif Nat.beq pc 42 then some (.iload_n 0, 43, 0, 0, 0) else none) else (bif Nat.blt pc 45 then (bif Nat.beq pc 43 then some (.bipush 16, 45, 0, 16, 0) else none) else (bif Nat.beq pc 45 then some (.iushr, 46, 0, 0, 0) else none)))) else (bif Nat.blt pc 49 then (bif Nat.blt pc 47 then (bif Nat.beq pc 46 then some (.iadd, 47, 0, 0, 0) else none) else (bif Nat.blt pc 48 then (bif Nat.beq pc 47 then some (.istore_n 0, 48, 0, 0, 0) else none) else (bif Nat.beq pc 48 then some (.iload_n 0, 49, 0, 0, 0) else none))) else (bif Nat.blt pc 51 then (bif Nat.beq pc 49 then some (.bipush 63, 51, 0, 63, 0) else none) else (bif Nat.blt pc 52 then (bif Nat.beq pc 51 then some (.iand, 52, 0, 0, 0) else none) else (bif Nat.beq pc 52 then some (.ireturn, 53, 0, 0, 0) else none))))))))
def tbJ7_fill_53178 : Nat → Option mv_R := mv_lim 21 (fun pc => (bif Nat.blt pc 7 then (bif Nat.blt pc 3 then (bif Nat.blt pc 1 then (bif Nat.beq pc 0 then some (.iconst 0, 1, 0, 0, 0) else none) else (bif Nat.blt pc 2 then (bif Nat.beq pc 1 then some (.istore_n 2, 2, 0, 0, 0) else none) else (bif Nat.beq pc 2 then some (.aload_n 0, 3, 0, 0, 0) else none))) else (bif Nat.blt pc 5 then (bif Nat.blt pc 4 then (bif Nat.beq pc 3 then some (.arraylength, 4, 0, 0, 0) else none) else (bif Nat.beq pc 4 then some (.istore_n 3, 5, 0, 0, 0) else none)) else (bif Nat.blt pc 6 then (bif Nat.beq pc 5 then some (.iload_n 2, 6, 1, 0, 0) else none) else (bif Nat.beq pc 6 then some (.iload_n 3, 7, 0, 0, 0) else none)))) else (bif Nat.blt pc 13 then (bif Nat.blt pc 11 then (bif Nat.blt pc 10 then (bif Nat.beq pc 7 then some (.if_icmp .ge 13, 10, 20, 0, 0) else none) else (bif Nat.beq pc 10 then some (.aload_n 0, 11, 0, 0, 0) else none)) else (bif Nat.blt pc 12 then (bif Nat.beq pc 11 then some (.iload_n 2, 12, 0, 0, 0) else none) else (bif Nat.beq pc 12 then some (.iload_n 1, 13, 0, 0, 0) else none))) else (bif Nat.blt pc 17 then (bif Nat.blt pc 14 then (bif Nat.beq pc 13 then some (.iastore, 14, 0, 0, 0) else none) else (bif Nat.beq pc 14 then some (.iinc 2 1, 17, 0, 1, 0) else none)) else (bif Nat.blt pc 20 then (bif Nat.beq pc 17 then some (.goto (-12), 20, 5, 0, 0) else none) else (bif Nat.beq pc 20 then some (.return_, 21, 0, 0, 0) else none))))))
def tbX2_keepCheapest : Nat → Option mv_R := mv_lim 118 (fun pc => (bif Nat.blt pc 59 then (bif Nat.blt pc 29 then (bif Nat.blt pc 14 then (bif Nat.blt pc 8 then (bif Nat.blt pc 4 then (bif Nat.blt pc 1 then (bif Nat.beq pc 0 then some (.aload_n 0, 1, 0, 0, 0) else none) else (bif Nat.beq pc 1 then some (.getfield 9, 4, 0, 0, 0) else none)) else (bif Nat.blt pc 5 then (bif Nat.beq pc 4 then some (.iconst (-1), 5, 0, (-1), 0) else none) else (bif Nat.beq pc 5 then some (.invokestatic 78, 8, 0, 0, 0) else none))) else (bif Nat.blt pc 11 then (bif Nat.blt pc 9 then (bif Nat.beq pc 8 then some (.iconst (-1), 9, 0, (-1), 0) else none) else (bif Nat.beq pc 9 then some (.istore 4, 11, 0, 0, 0) else none)) else (bif Nat.blt pc 12 then (bif Nat.beq pc 11 then some (.iconst 0, 12, 0, 0, 0) else none) else (bif Nat.beq pc 12 then some (.istore 5, 14, 0, 0, 0) else none)))) else (bif Nat.blt pc 21 then (bif Nat.blt pc 17 then (bif Nat.blt pc 16 then (bif Nat.beq pc 14 then some (.iload 5, 16, 1, 0, 0) else none) else (bif Nat.beq pc 16 then some (.iload_n 3, 17, 0, 0, 0) else none)) else (bif Nat.blt pc 20 then (bif Nat.beq pc 17 then some (.if_icmp .ge 95, 20, 112, 0, 0) else none) else (bif Nat.beq pc 20 then some (.aload_n 0, 21, 0, 0, 0) else none))) else (bif Nat.blt pc 26 then (bif Nat.blt pc 24 then (bif Nat.beq pc 21 then some (.getfield 27, 24, 0, 0, 0) else none) else (bif Nat.beq pc 24 then some (.iload 5, 26, 0, 0, 0) else none)) else (bif Nat.blt pc 27 then (bif Nat.beq pc 26 then some (.iaload, 27, 0, 0, 0) else none) else (bif Nat.beq pc 27 then some (.istore 6, 29, 0, 0, 0) else none))))) else (bif Nat.blt pc 44 then (bif Nat.blt pc 37 then (bif Nat.blt pc 33 then (bif Nat.blt pc 30 then (bif Nat.beq pc 29 then some (.aload_n 0, 30, 0, 0, 0) else none) else (bif Nat.beq pc 30 then some (.getfield 9, 33, 0, 0, 0) else none)) else (bif Nat.blt pc 35 then (bif Nat.beq pc 33 then some (.iload 6, 35, 0, 0, 0) else none) else (bif Nat.beq pc 35 then some (.iload 5, 37, 0, 0, 0) else none))) else (bif Nat.blt pc 39 then (bif Nat.blt pc 38 then (bif Nat.beq pc 37 then some (.iastore, 38, 0, 0, 0) else none) else (bif Nat.beq pc 38 then some (.aload_n 0, 39, 0, 0, 0) else none)) else (bif Nat.blt pc 42 then (bif Nat.beq pc 39 then some (.getfield 15, 42, 0, 0, 0) else none) else (bif Nat.beq pc 42 then some (.iload 6, 44, 0, 0, 0) else none)))) else (bif Nat.blt pc 52 then (bif Nat.blt pc 47 then (bif Nat.blt pc 45 then (bif Nat.beq pc 44 then some (.aload_n 1, 45, 0, 0, 0) else none) else (bif Nat.beq pc 45 then some (.iload 6, 47, 0, 0, 0) else none)) else (bif Nat.blt pc 49 then (bif Nat.beq pc 47 then some (.iload 4, 49, 0, 0, 0) else none) else (bif Nat.beq pc 49 then some (.invokevirtual 65, 52, 0, 0, 0) else none))) else (bif Nat.blt pc 54 then (bif Nat.blt pc 53 then (bif Nat.beq pc 52 then some (.iastore, 53, 0, 0, 0) else none) else (bif Nat.beq pc 53 then some (.aload_n 0, 54, 0, 0, 0) else none)) else (bif Nat.blt pc 57 then (bif Nat.beq pc 54 then some (.getfield 18, 57, 0, 0, 0) else none) else (bif Nat.beq pc 57 then some (.iload 6, 59, 0, 0, 0) else none)))))) else (bif Nat.blt pc 87 then (bif Nat.blt pc 73 then (bif Nat.blt pc 66 then (bif Nat.blt pc 61 then (bif Nat.blt pc 60 then (bif Nat.beq pc 59 then some (.aload_n 2, 60, 0, 0, 0) else none) else (bif Nat.beq pc 60 then some (.aload_n 0, 61, 0, 0, 0) else none)) else (bif Nat.blt pc 64 then (bif Nat.beq pc 61 then some (.getfield 15, 64, 0, 0, 0) else none) else (bif Nat.beq pc 64 then some (.iload 6, 66, 0, 0, 0) else none))) else (bif Nat.blt pc 68 then (bif Nat.blt pc 67 then (bif Nat.beq pc 66 then some (.iaload, 67, 0, 0, 0) else none) else (bif Nat.beq pc 67 then some (.aload_n 1, 68, 0, 0, 0) else none)) else (bif Nat.blt pc 70 then (bif Nat.beq pc 68 then some (.iload 6, 70, 0, 0, 0) else none) else (bif Nat.beq pc 70 then some (.invokevirtual 69, 73, 0, 0, 0) else none)))) else (bif Nat.blt pc 81 then (bif Nat.blt pc 77 then (bif Nat.blt pc 76 then (bif Nat.beq pc 73 then some (.invokevirtual 72, 76, 0, 0, 0) else none) else (bif Nat.beq pc 76 then some (.iastore, 77, 0, 0, 0) else none)) else (bif Nat.blt pc 78 then (bif Nat.beq pc 77 then some (.aload_n 0, 78, 0, 0, 0) else none) else (bif Nat.beq pc 78 then some (.getfield 21, 81, 0, 0, 0) else none))) else (bif Nat.blt pc 84 then (bif Nat.blt pc 83 then (bif Nat.beq pc 81 then some (.iload 6, 83, 0, 0, 0) else none) else (bif Nat.beq pc 83 then some (.aload_n 1, 84, 0, 0, 0) else none)) else (bif Nat.blt pc 86 then (bif Nat.beq pc 84 then some (.iload 6, 86, 0, 0, 0) else none) else (bif Nat.beq pc 86 then some (.aload_n 0, 87, 0, 0, 0) else none))))) else (bif Nat.blt pc 103 then (bif Nat.blt pc 96 then (bif Nat.blt pc 92 then (bif Nat.blt pc 90 then (bif Nat.beq pc 87 then some (.getfield 18, 90, 0, 0, 0) else none) else (bif Nat.beq pc 90 then some (.iload 6, 92, 0, 0, 0) else none)) else (bif Nat.blt pc 93 then (bif Nat.beq pc 92 then some (.iaload, 93, 0, 0, 0) else none) else (bif Nat.beq pc 93 then some (.invokevirtual 75, 96, 0, 0, 0) else none))) else (bif Nat.blt pc 98 then (bif Nat.blt pc 97 then (bif Nat.beq pc 96 then some (.iastore, 97, 0, 0, 0) else none) else (bif Nat.beq pc 97 then some (.aload_n 0, 98, 0, 0, 0) else none)) else (bif Nat.blt pc 101 then (bif Nat.beq pc 98 then some (.getfield 18, 101, 0, 0, 0) else none) else (bif Nat.beq pc 101 then some (.iload 6, 103, 0, 0, 0) else none)))) else (bif Nat.blt pc 112 then (bif Nat.blt pc 106 then (bif Nat.blt pc 104 then (bif Nat.beq pc 103 then some (.iaload, 104, 0, 0, 0) else none) else (bif Nat.beq pc 104 then some (.istore 4, 106, 0, 0, 0) else none)) else (bif Nat.blt pc 109 then (bif Nat.beq pc 106 then some (.iinc 5 1, 109, 0, 1, 0) else none) else (bif Nat.beq pc 109 then some (.goto (-95), 112, 14, 0, 0) else none))) else (bif Nat.blt pc 114 then (bif Nat.blt pc 113 then (bif Nat.beq pc 112 then some (.aload_n 0, 113, 0, 0, 0) else none) else (bif Nat.beq pc 113 then some (.iconst 1, 114, 0, 1, 0) else none)) else (bif Nat.blt pc 117 then (bif Nat.beq pc 114 then some (.putfield 84, 117, 0, 0, 0) else none) else (bif Nat.beq pc 117 then some (.return_, 118, 0, 0, 0) else none))))))))
def tbX2_layCheapest : Nat → Option mv_R := mv_lim 47 (fun pc => (bif Nat.blt pc 21 then (bif Nat.blt pc 12 then (bif Nat.blt pc 5 then (bif Nat.blt pc 1 then (bif Nat.beq pc 0 then some (.aload_n 2, 1, 0, 0, 0) else none) else (bif Nat.blt pc 4 then (bif Nat.beq pc 1 then some (.invokevirtual 30, 4, 0, 0, 0) else none) else (bif Nat.beq pc 4 then some (.aload_n 0, 5, 0, 0, 0) else none))) else (bif Nat.blt pc 10 then (bif Nat.blt pc 7 then (bif Nat.beq pc 5 then some (.ldc 35, 7, 0, 1000000000, 0) else none) else (bif Nat.beq pc 7 then some (.putfield 36, 10, 0, 0, 0) else none)) else (bif Nat.blt pc 11 then (bif Nat.beq pc 10 then some (.aload_n 0, 11, 0, 0, 0) else none) else (bif Nat.beq pc 11 then some (.aload_n 1, 12, 0, 0, 0) else none)))) else (bif Nat.blt pc 15 then (bif Nat.blt pc 13 then (bif Nat.beq pc 12 then some (.aload_n 2, 13, 0, 0, 0) else none) else (bif Nat.blt pc 14 then (bif Nat.beq pc 13 then some (.iload_n 3, 14, 0, 0, 0) else none) else (bif Nat.beq pc 14 then some (.iconst 0, 15, 0, 0, 0) else none))) else (bif Nat.blt pc 17 then (bif Nat.blt pc 16 then (bif Nat.beq pc 15 then some (.iconst (-1), 16, 0, (-1), 0) else none) else (bif Nat.beq pc 16 then some (.iconst 0, 17, 0, 0, 0) else none)) else (bif Nat.blt pc 20 then (bif Nat.beq pc 17 then some (.invokevirtual 40, 20, 0, 0, 0) else none) else (bif Nat.beq pc 20 then some (.aload_n 0, 21, 0, 0, 0) else none))))) else (bif Nat.blt pc 34 then (bif Nat.blt pc 29 then (bif Nat.blt pc 24 then (bif Nat.beq pc 21 then some (.getfield 36, 24, 0, 0, 0) else none) else (bif Nat.blt pc 26 then (bif Nat.beq pc 24 then some (.ldc 35, 26, 0, 1000000000, 0) else none) else (bif Nat.beq pc 26 then some (.if_icmp .ne 6, 29, 32, 0, 0) else none))) else (bif Nat.blt pc 32 then (bif Nat.blt pc 31 then (bif Nat.beq pc 29 then some (.bipush (-2), 31, 0, (-2), 0) else none) else (bif Nat.beq pc 31 then some (.ireturn, 32, 0, 0, 0) else none)) else (bif Nat.blt pc 33 then (bif Nat.beq pc 32 then some (.aload_n 0, 33, 0, 0, 0) else none) else (bif Nat.beq pc 33 then some (.aload_n 1, 34, 0, 0, 0) else none)))) else (bif Nat.blt pc 39 then (bif Nat.blt pc 35 then (bif Nat.beq pc 34 then some (.aload_n 2, 35, 0, 0, 0) else none) else (bif Nat.blt pc 36 then (bif Nat.beq pc 35 then some (.iload_n 3, 36, 0, 0, 0) else none) else (bif Nat.beq pc 36 then some (.invokestatic 44, 39, 0, 0, 0) else none))) else (bif Nat.blt pc 43 then (bif Nat.blt pc 42 then (bif Nat.beq pc 39 then some (.invokevirtual 50, 42, 0, 0, 0) else none) else (bif Nat.beq pc 42 then some (.aload_n 0, 43, 0, 0, 0) else none)) else (bif Nat.blt pc 46 then (bif Nat.beq pc 43 then some (.getfield 36, 46, 0, 0, 0) else none) else (bif Nat.beq pc 46 then some (.ireturn, 47, 0, 0, 0) else none)))))))
def tbX3_hasWorks : Nat → Option mv_R := mv_lim 18 (fun pc => (bif Nat.blt pc 9 then (bif Nat.blt pc 4 then (bif Nat.blt pc 1 then (bif Nat.beq pc 0 then some (.iload_n 1, 1, 0, 0, 0) else none) else (bif Nat.beq pc 1 then some (.ifCond .lt 15, 4, 16, 0, 0) else none)) else (bif Nat.blt pc 5 then (bif Nat.beq pc 4 then some (.iload_n 1, 5, 0, 0, 0) else none) else (bif Nat.blt pc 6 then (bif Nat.beq pc 5 then some (.aload_n 0, 6, 0, 0, 0) else none) else (bif Nat.beq pc 6 then some (.getfield 43, 9, 0, 0, 0) else none)))) else (bif Nat.blt pc 13 then (bif Nat.blt pc 12 then (bif Nat.beq pc 9 then some (.if_icmp .ge 7, 12, 16, 0, 0) else none) else (bif Nat.beq pc 12 then some (.iconst 1, 13, 0, 1, 0) else none)) else (bif Nat.blt pc 16 then (bif Nat.beq pc 13 then some (.goto 4, 16, 17, 0, 0) else none) else (bif Nat.blt pc 17 then (bif Nat.beq pc 16 then some (.iconst 0, 17, 0, 0, 0) else none) else (bif Nat.beq pc 17 then some (.ireturn, 18, 0, 0, 0) else none))))))
def tbX3_addWorks : Nat → Option mv_R := mv_lim 39 (fun pc => (bif Nat.blt pc 21 then (bif Nat.blt pc 11 then (bif Nat.blt pc 4 then (bif Nat.blt pc 1 then (bif Nat.beq pc 0 then some (.aload_n 0, 1, 0, 0, 0) else none) else (bif Nat.beq pc 1 then some (.getfield 43, 4, 0, 0, 0) else none)) else (bif Nat.blt pc 6 then (bif Nat.beq pc 4 then some (.bipush 8, 6, 0, 8, 0) else none) else (bif Nat.blt pc 9 then (bif Nat.beq pc 6 then some (.if_icmp .lt 6, 9, 12, 0, 0) else none) else (bif Nat.beq pc 9 then some (.bipush (-3), 11, 0, (-3), 0) else none)))) else (bif Nat.blt pc 16 then (bif Nat.blt pc 12 then (bif Nat.beq pc 11 then some (.ireturn, 12, 0, 0, 0) else none) else (bif Nat.blt pc 13 then (bif Nat.beq pc 12 then some (.aload_n 0, 13, 0, 0, 0) else none) else (bif Nat.beq pc 13 then some (.getfield 9, 16, 0, 0, 0) else none))) else (bif Nat.blt pc 17 then (bif Nat.beq pc 16 then some (.aload_n 0, 17, 0, 0, 0) else none) else (bif Nat.blt pc 20 then (bif Nat.beq pc 17 then some (.getfield 43, 20, 0, 0, 0) else none) else (bif Nat.beq pc 20 then some (.iload_n 1, 21, 0, 0, 0) else none))))) else (bif Nat.blt pc 29 then (bif Nat.blt pc 24 then (bif Nat.blt pc 22 then (bif Nat.beq pc 21 then some (.iastore, 22, 0, 0, 0) else none) else (bif Nat.blt pc 23 then (bif Nat.beq pc 22 then some (.aload_n 0, 23, 0, 0, 0) else none) else (bif Nat.beq pc 23 then some (.dup, 24, 0, 0, 0) else none))) else (bif Nat.blt pc 27 then (bif Nat.beq pc 24 then some (.getfield 43, 27, 0, 0, 0) else none) else (bif Nat.blt pc 28 then (bif Nat.beq pc 27 then some (.iconst 1, 28, 0, 1, 0) else none) else (bif Nat.beq pc 28 then some (.iadd, 29, 0, 0, 0) else none)))) else (bif Nat.blt pc 36 then (bif Nat.blt pc 32 then (bif Nat.beq pc 29 then some (.putfield 43, 32, 0, 0, 0) else none) else (bif Nat.blt pc 33 then (bif Nat.beq pc 32 then some (.aload_n 0, 33, 0, 0, 0) else none) else (bif Nat.beq pc 33 then some (.getfield 43, 36, 0, 0, 0) else none))) else (bif Nat.blt pc 37 then (bif Nat.beq pc 36 then some (.iconst 1, 37, 0, 1, 0) else none) else (bif Nat.blt pc 38 then (bif Nat.beq pc 37 then some (.isub, 38, 0, 0, 0) else none) else (bif Nat.beq pc 38 then some (.ireturn, 39, 0, 0, 0) else none)))))))
def tbX3_addEntry : Nat → Option mv_R := mv_lim 81 (fun pc => (bif Nat.blt pc 41 then (bif Nat.blt pc 21 then (bif Nat.blt pc 11 then (bif Nat.blt pc 4 then (bif Nat.blt pc 1 then (bif Nat.beq pc 0 then some (.aload_n 0, 1, 0, 0, 0) else none) else (bif Nat.beq pc 1 then some (.getfield 47, 4, 0, 0, 0) else none)) else (bif Nat.blt pc 6 then (bif Nat.beq pc 4 then some (.bipush 100, 6, 0, 100, 0) else none) else (bif Nat.blt pc 9 then (bif Nat.beq pc 6 then some (.if_icmp .lt 6, 9, 12, 0, 0) else none) else (bif Nat.beq pc 9 then some (.bipush (-3), 11, 0, (-3), 0) else none)))) else (bif Nat.blt pc 16 then (bif Nat.blt pc 12 then (bif Nat.beq pc 11 then some (.ireturn, 12, 0, 0, 0) else none) else (bif Nat.blt pc 13 then (bif Nat.beq pc 12 then some (.aload_n 0, 13, 0, 0, 0) else none) else (bif Nat.beq pc 13 then some (.getfield 18, 16, 0, 0, 0) else none))) else (bif Nat.blt pc 17 then (bif Nat.beq pc 16 then some (.aload_n 0, 17, 0, 0, 0) else none) else (bif Nat.blt pc 20 then (bif Nat.beq pc 17 then some (.getfield 47, 20, 0, 0, 0) else none) else (bif Nat.beq pc 20 then some (.iload_n 1, 21, 0, 0, 0) else none))))) else (bif Nat.blt pc 31 then (bif Nat.blt pc 26 then (bif Nat.blt pc 22 then (bif Nat.beq pc 21 then some (.iastore, 22, 0, 0, 0) else none) else (bif Nat.blt pc 23 then (bif Nat.beq pc 22 then some (.aload_n 0, 23, 0, 0, 0) else none) else (bif Nat.beq pc 23 then some (.getfield 21, 26, 0, 0, 0) else none))) else (bif Nat.blt pc 27 then (bif Nat.beq pc 26 then some (.aload_n 0, 27, 0, 0, 0) else none) else (bif Nat.blt pc 30 then (bif Nat.beq pc 27 then some (.getfield 47, 30, 0, 0, 0) else none) else (bif Nat.beq pc 30 then some (.iload_n 2, 31, 0, 0, 0) else none)))) else (bif Nat.blt pc 36 then (bif Nat.blt pc 32 then (bif Nat.beq pc 31 then some (.iastore, 32, 0, 0, 0) else none) else (bif Nat.blt pc 33 then (bif Nat.beq pc 32 then some (.aload_n 0, 33, 0, 0, 0) else none) else (bif Nat.beq pc 33 then some (.getfield 24, 36, 0, 0, 0) else none))) else (bif Nat.blt pc 37 then (bif Nat.beq pc 36 then some (.aload_n 0, 37, 0, 0, 0) else none) else (bif Nat.blt pc 40 then (bif Nat.beq pc 37 then some (.getfield 47, 40, 0, 0, 0) else none) else (bif Nat.beq pc 40 then some (.iload_n 3, 41, 0, 0, 0) else none)))))) else (bif Nat.blt pc 63 then (bif Nat.blt pc 52 then (bif Nat.blt pc 46 then (bif Nat.blt pc 42 then (bif Nat.beq pc 41 then some (.iastore, 42, 0, 0, 0) else none) else (bif Nat.blt pc 43 then (bif Nat.beq pc 42 then some (.aload_n 0, 43, 0, 0, 0) else none) else (bif Nat.beq pc 43 then some (.getfield 27, 46, 0, 0, 0) else none))) else (bif Nat.blt pc 47 then (bif Nat.beq pc 46 then some (.aload_n 0, 47, 0, 0, 0) else none) else (bif Nat.blt pc 50 then (bif Nat.beq pc 47 then some (.getfield 47, 50, 0, 0, 0) else none) else (bif Nat.beq pc 50 then some (.iload 4, 52, 0, 0, 0) else none)))) else (bif Nat.blt pc 57 then (bif Nat.blt pc 53 then (bif Nat.beq pc 52 then some (.iastore, 53, 0, 0, 0) else none) else (bif Nat.blt pc 54 then (bif Nat.beq pc 53 then some (.aload_n 0, 54, 0, 0, 0) else none) else (bif Nat.beq pc 54 then some (.getfield 30, 57, 0, 0, 0) else none))) else (bif Nat.blt pc 58 then (bif Nat.beq pc 57 then some (.aload_n 0, 58, 0, 0, 0) else none) else (bif Nat.blt pc 61 then (bif Nat.beq pc 58 then some (.getfield 47, 61, 0, 0, 0) else none) else (bif Nat.beq pc 61 then some (.iload 5, 63, 0, 0, 0) else none))))) else (bif Nat.blt pc 71 then (bif Nat.blt pc 66 then (bif Nat.blt pc 64 then (bif Nat.beq pc 63 then some (.iastore, 64, 0, 0, 0) else none) else (bif Nat.blt pc 65 then (bif Nat.beq pc 64 then some (.aload_n 0, 65, 0, 0, 0) else none) else (bif Nat.beq pc 65 then some (.dup, 66, 0, 0, 0) else none))) else (bif Nat.blt pc 69 then (bif Nat.beq pc 66 then some (.getfield 47, 69, 0, 0, 0) else none) else (bif Nat.blt pc 70 then (bif Nat.beq pc 69 then some (.iconst 1, 70, 0, 1, 0) else none) else (bif Nat.beq pc 70 then some (.iadd, 71, 0, 0, 0) else none)))) else (bif Nat.blt pc 78 then (bif Nat.blt pc 74 then (bif Nat.beq pc 71 then some (.putfield 47, 74, 0, 0, 0) else none) else (bif Nat.blt pc 75 then (bif Nat.beq pc 74 then some (.aload_n 0, 75, 0, 0, 0) else none) else (bif Nat.beq pc 75 then some (.getfield 47, 78, 0, 0, 0) else none))) else (bif Nat.blt pc 79 then (bif Nat.beq pc 78 then some (.iconst 1, 79, 0, 1, 0) else none) else (bif Nat.blt pc 80 then (bif Nat.beq pc 79 then some (.isub, 80, 0, 0, 0) else none) else (bif Nat.beq pc 80 then some (.ireturn, 81, 0, 0, 0) else none))))))))
def tbX3_takeParts : Nat → Option mv_R := mv_lim 32 (fun pc => (bif Nat.blt pc 16 then (bif Nat.blt pc 7 then (bif Nat.blt pc 2 then (bif Nat.blt pc 1 then (bif Nat.beq pc 0 then some (.iconst 0, 1, 0, 0, 0) else none) else (bif Nat.beq pc 1 then some (.istore_n 2, 2, 0, 0, 0) else none)) else (bif Nat.blt pc 3 then (bif Nat.beq pc 2 then some (.iload_n 2, 3, 1, 0, 0) else none) else (bif Nat.blt pc 4 then (bif Nat.beq pc 3 then some (.aload_n 0, 4, 0, 0, 0) else none) else (bif Nat.beq pc 4 then some (.getfield 43, 7, 0, 0, 0) else none)))) else (bif Nat.blt pc 11 then (bif Nat.blt pc 10 then (bif Nat.beq pc 7 then some (.if_icmp .ge 24, 10, 31, 0, 0) else none) else (bif Nat.beq pc 10 then some (.aload_n 1, 11, 0, 0, 0) else none)) else (bif Nat.blt pc 12 then (bif Nat.beq pc 11 then some (.iload_n 2, 12, 0, 0, 0) else none) else (bif Nat.blt pc 13 then (bif Nat.beq pc 12 then some (.iaload, 13, 0, 0, 0) else none) else (bif Nat.beq pc 13 then some (.ifCond .le 12, 16, 25, 0, 0) else none))))) else (bif Nat.blt pc 23 then (bif Nat.blt pc 20 then (bif Nat.blt pc 17 then (bif Nat.beq pc 16 then some (.aload_n 0, 17, 0, 0, 0) else none) else (bif Nat.beq pc 17 then some (.getfield 9, 20, 0, 0, 0) else none)) else (bif Nat.blt pc 21 then (bif Nat.beq pc 20 then some (.iload_n 2, 21, 0, 0, 0) else none) else (bif Nat.blt pc 22 then (bif Nat.beq pc 21 then some (.aload_n 1, 22, 0, 0, 0) else none) else (bif Nat.beq pc 22 then some (.iload_n 2, 23, 0, 0, 0) else none)))) else (bif Nat.blt pc 25 then (bif Nat.blt pc 24 then (bif Nat.beq pc 23 then some (.iaload, 24, 0, 0, 0) else none) else (bif Nat.beq pc 24 then some (.iastore, 25, 0, 0, 0) else none)) else (bif Nat.blt pc 28 then (bif Nat.beq pc 25 then some (.iinc 2 1, 28, 0, 1, 0) else none) else (bif Nat.blt pc 31 then (bif Nat.beq pc 28 then some (.goto (-26), 31, 2, 0, 0) else none) else (bif Nat.beq pc 31 then some (.return_, 32, 0, 0, 0) else none)))))))
def tbX3_partsAmong : Nat → Option mv_R := mv_lim 38 (fun pc => (bif Nat.blt pc 18 then (bif Nat.blt pc 6 then (bif Nat.blt pc 3 then (bif Nat.blt pc 1 then (bif Nat.beq pc 0 then some (.iconst 0, 1, 0, 0, 0) else none) else (bif Nat.blt pc 2 then (bif Nat.beq pc 1 then some (.istore_n 1, 2, 0, 0, 0) else none) else (bif Nat.beq pc 2 then some (.iconst 0, 3, 0, 0, 0) else none))) else (bif Nat.blt pc 4 then (bif Nat.beq pc 3 then some (.istore_n 2, 4, 0, 0, 0) else none) else (bif Nat.blt pc 5 then (bif Nat.beq pc 4 then some (.iload_n 2, 5, 1, 0, 0) else none) else (bif Nat.beq pc 5 then some (.aload_n 0, 6, 0, 0, 0) else none)))) else (bif Nat.blt pc 13 then (bif Nat.blt pc 9 then (bif Nat.beq pc 6 then some (.getfield 43, 9, 0, 0, 0) else none) else (bif Nat.blt pc 12 then (bif Nat.beq pc 9 then some (.if_icmp .ge 27, 12, 36, 0, 0) else none) else (bif Nat.beq pc 12 then some (.aload_n 0, 13, 0, 0, 0) else none))) else (bif Nat.blt pc 16 then (bif Nat.beq pc 13 then some (.getfield 39, 16, 0, 0, 0) else none) else (bif Nat.blt pc 17 then (bif Nat.beq pc 16 then some (.iload_n 2, 17, 0, 0, 0) else none) else (bif Nat.beq pc 17 then some (.baload, 18, 0, 0, 0) else none))))) else (bif Nat.blt pc 28 then (bif Nat.blt pc 23 then (bif Nat.blt pc 21 then (bif Nat.beq pc 18 then some (.ifCond .eq 12, 21, 30, 0, 0) else none) else (bif Nat.blt pc 22 then (bif Nat.beq pc 21 then some (.iload_n 1, 22, 0, 0, 0) else none) else (bif Nat.beq pc 22 then some (.aload_n 0, 23, 0, 0, 0) else none))) else (bif Nat.blt pc 26 then (bif Nat.beq pc 23 then some (.getfield 9, 26, 0, 0, 0) else none) else (bif Nat.blt pc 27 then (bif Nat.beq pc 26 then some (.iload_n 2, 27, 0, 0, 0) else none) else (bif Nat.beq pc 27 then some (.iaload, 28, 0, 0, 0) else none)))) else (bif Nat.blt pc 33 then (bif Nat.blt pc 29 then (bif Nat.beq pc 28 then some (.iadd, 29, 0, 0, 0) else none) else (bif Nat.blt pc 30 then (bif Nat.beq pc 29 then some (.istore_n 1, 30, 0, 0, 0) else none) else (bif Nat.beq pc 30 then some (.iinc 2 1, 33, 0, 1, 0) else none))) else (bif Nat.blt pc 36 then (bif Nat.beq pc 33 then some (.goto (-29), 36, 4, 0, 0) else none) else (bif Nat.blt pc 37 then (bif Nat.beq pc 36 then some (.iload_n 1, 37, 0, 0, 0) else none) else (bif Nat.beq pc 37 then some (.ireturn, 38, 0, 0, 0) else none)))))))
def tbX3_raiseGreatestRests : Nat → Option mv_R := mv_lim 70 (fun pc => (bif Nat.blt pc 34 then (bif Nat.blt pc 14 then (bif Nat.blt pc 7 then (bif Nat.blt pc 2 then (bif Nat.blt pc 1 then (bif Nat.beq pc 0 then some (.iconst 0, 1, 0, 0, 0) else none) else (bif Nat.beq pc 1 then some (.istore_n 2, 2, 0, 0, 0) else none)) else (bif Nat.blt pc 3 then (bif Nat.beq pc 2 then some (.iload_n 2, 3, 1, 0, 0) else none) else (bif Nat.blt pc 4 then (bif Nat.beq pc 3 then some (.iload_n 1, 4, 0, 0, 0) else none) else (bif Nat.beq pc 4 then some (.if_icmp .ge 65, 7, 69, 0, 0) else none)))) else (bif Nat.blt pc 9 then (bif Nat.blt pc 8 then (bif Nat.beq pc 7 then some (.iconst 0, 8, 0, 0, 0) else none) else (bif Nat.beq pc 8 then some (.istore_n 3, 9, 0, 0, 0) else none)) else (bif Nat.blt pc 10 then (bif Nat.beq pc 9 then some (.iconst 1, 10, 0, 1, 0) else none) else (bif Nat.blt pc 12 then (bif Nat.beq pc 10 then some (.istore 4, 12, 0, 0, 0) else none) else (bif Nat.beq pc 12 then some (.iload 4, 14, 1, 0, 0) else none))))) else (bif Nat.blt pc 25 then (bif Nat.blt pc 18 then (bif Nat.blt pc 15 then (bif Nat.beq pc 14 then some (.aload_n 0, 15, 0, 0, 0) else none) else (bif Nat.beq pc 15 then some (.getfield 43, 18, 0, 0, 0) else none)) else (bif Nat.blt pc 21 then (bif Nat.beq pc 18 then some (.if_icmp .ge 28, 21, 46, 0, 0) else none) else (bif Nat.blt pc 22 then (bif Nat.beq pc 21 then some (.aload_n 0, 22, 0, 0, 0) else none) else (bif Nat.beq pc 22 then some (.getfield 36, 25, 0, 0, 0) else none)))) else (bif Nat.blt pc 29 then (bif Nat.blt pc 27 then (bif Nat.beq pc 25 then some (.iload 4, 27, 0, 0, 0) else none) else (bif Nat.blt pc 28 then (bif Nat.beq pc 27 then some (.iaload, 28, 0, 0, 0) else none) else (bif Nat.beq pc 28 then some (.aload_n 0, 29, 0, 0, 0) else none))) else (bif Nat.blt pc 32 then (bif Nat.beq pc 29 then some (.getfield 36, 32, 0, 0, 0) else none) else (bif Nat.blt pc 33 then (bif Nat.beq pc 32 then some (.iload_n 3, 33, 0, 0, 0) else none) else (bif Nat.beq pc 33 then some (.iaload, 34, 0, 0, 0) else none)))))) else (bif Nat.blt pc 53 then (bif Nat.blt pc 46 then (bif Nat.blt pc 39 then (bif Nat.blt pc 37 then (bif Nat.beq pc 34 then some (.if_icmp .le 6, 37, 40, 0, 0) else none) else (bif Nat.beq pc 37 then some (.iload 4, 39, 0, 0, 0) else none)) else (bif Nat.blt pc 40 then (bif Nat.beq pc 39 then some (.istore_n 3, 40, 0, 0, 0) else none) else (bif Nat.blt pc 43 then (bif Nat.beq pc 40 then some (.iinc 4 1, 43, 0, 1, 0) else none) else (bif Nat.beq pc 43 then some (.goto (-31), 46, 12, 0, 0) else none)))) else (bif Nat.blt pc 50 then (bif Nat.blt pc 47 then (bif Nat.beq pc 46 then some (.aload_n 0, 47, 0, 0, 0) else none) else (bif Nat.beq pc 47 then some (.getfield 33, 50, 0, 0, 0) else none)) else (bif Nat.blt pc 51 then (bif Nat.beq pc 50 then some (.iload_n 3, 51, 0, 0, 0) else none) else (bif Nat.blt pc 52 then (bif Nat.beq pc 51 then some (.dup2, 52, 0, 0, 0) else none) else (bif Nat.beq pc 52 then some (.iaload, 53, 0, 0, 0) else none))))) else (bif Nat.blt pc 60 then (bif Nat.blt pc 55 then (bif Nat.blt pc 54 then (bif Nat.beq pc 53 then some (.iconst 1, 54, 0, 1, 0) else none) else (bif Nat.beq pc 54 then some (.iadd, 55, 0, 0, 0) else none)) else (bif Nat.blt pc 56 then (bif Nat.beq pc 55 then some (.iastore, 56, 0, 0, 0) else none) else (bif Nat.blt pc 57 then (bif Nat.beq pc 56 then some (.aload_n 0, 57, 0, 0, 0) else none) else (bif Nat.beq pc 57 then some (.getfield 36, 60, 0, 0, 0) else none)))) else (bif Nat.blt pc 63 then (bif Nat.blt pc 61 then (bif Nat.beq pc 60 then some (.iload_n 3, 61, 0, 0, 0) else none) else (bif Nat.blt pc 62 then (bif Nat.beq pc 61 then some (.iconst (-1), 62, 0, (-1), 0) else none) else (bif Nat.beq pc 62 then some (.iastore, 63, 0, 0, 0) else none))) else (bif Nat.blt pc 66 then (bif Nat.beq pc 63 then some (.iinc 2 1, 66, 0, 1, 0) else none) else (bif Nat.blt pc 69 then (bif Nat.beq pc 66 then some (.goto (-64), 69, 2, 0, 0) else none) else (bif Nat.beq pc 69 then some (.return_, 70, 0, 0, 0) else none))))))))
def tbX3_partAmong : Nat → Option mv_R := mv_lim 102 (fun pc => (bif Nat.blt pc 52 then (bif Nat.blt pc 25 then (bif Nat.blt pc 11 then (bif Nat.blt pc 5 then (bif Nat.blt pc 1 then (bif Nat.beq pc 0 then some (.aload_n 0, 1, 0, 0, 0) else none) else (bif Nat.blt pc 4 then (bif Nat.beq pc 1 then some (.invokevirtual 74, 4, 0, 0, 0) else none) else (bif Nat.beq pc 4 then some (.istore_n 2, 5, 0, 0, 0) else none))) else (bif Nat.blt pc 9 then (bif Nat.blt pc 6 then (bif Nat.beq pc 5 then some (.iload_n 2, 6, 0, 0, 0) else none) else (bif Nat.beq pc 6 then some (.ifCond .gt 4, 9, 10, 0, 0) else none)) else (bif Nat.blt pc 10 then (bif Nat.beq pc 9 then some (.return_, 10, 0, 0, 0) else none) else (bif Nat.beq pc 10 then some (.iload_n 1, 11, 0, 0, 0) else none)))) else (bif Nat.blt pc 17 then (bif Nat.blt pc 13 then (bif Nat.blt pc 12 then (bif Nat.beq pc 11 then some (.istore_n 3, 12, 0, 0, 0) else none) else (bif Nat.beq pc 12 then some (.iconst 0, 13, 0, 0, 0) else none)) else (bif Nat.blt pc 15 then (bif Nat.beq pc 13 then some (.istore 4, 15, 0, 0, 0) else none) else (bif Nat.beq pc 15 then some (.iload 4, 17, 1, 0, 0) else none))) else (bif Nat.blt pc 21 then (bif Nat.blt pc 18 then (bif Nat.beq pc 17 then some (.aload_n 0, 18, 0, 0, 0) else none) else (bif Nat.beq pc 18 then some (.getfield 43, 21, 0, 0, 0) else none)) else (bif Nat.blt pc 24 then (bif Nat.beq pc 21 then some (.if_icmp .ge 75, 24, 96, 0, 0) else none) else (bif Nat.beq pc 24 then some (.aload_n 0, 25, 0, 0, 0) else none))))) else (bif Nat.blt pc 39 then (bif Nat.blt pc 32 then (bif Nat.blt pc 30 then (bif Nat.blt pc 28 then (bif Nat.beq pc 25 then some (.getfield 36, 28, 0, 0, 0) else none) else (bif Nat.beq pc 28 then some (.iload 4, 30, 0, 0, 0) else none)) else (bif Nat.blt pc 31 then (bif Nat.beq pc 30 then some (.iconst (-1), 31, 0, (-1), 0) else none) else (bif Nat.beq pc 31 then some (.iastore, 32, 0, 0, 0) else none))) else (bif Nat.blt pc 36 then (bif Nat.blt pc 33 then (bif Nat.beq pc 32 then some (.aload_n 0, 33, 0, 0, 0) else none) else (bif Nat.beq pc 33 then some (.getfield 39, 36, 0, 0, 0) else none)) else (bif Nat.blt pc 38 then (bif Nat.beq pc 36 then some (.iload 4, 38, 0, 0, 0) else none) else (bif Nat.beq pc 38 then some (.baload, 39, 0, 0, 0) else none)))) else (bif Nat.blt pc 47 then (bif Nat.blt pc 43 then (bif Nat.blt pc 42 then (bif Nat.beq pc 39 then some (.ifCond .eq 51, 42, 90, 0, 0) else none) else (bif Nat.beq pc 42 then some (.iload_n 1, 43, 0, 0, 0) else none)) else (bif Nat.blt pc 44 then (bif Nat.beq pc 43 then some (.aload_n 0, 44, 0, 0, 0) else none) else (bif Nat.beq pc 44 then some (.getfield 9, 47, 0, 0, 0) else none))) else (bif Nat.blt pc 50 then (bif Nat.blt pc 49 then (bif Nat.beq pc 47 then some (.iload 4, 49, 0, 0, 0) else none) else (bif Nat.beq pc 49 then some (.iaload, 50, 0, 0, 0) else none)) else (bif Nat.blt pc 51 then (bif Nat.beq pc 50 then some (.imul, 51, 0, 0, 0) else none) else (bif Nat.beq pc 51 then some (.iload_n 2, 52, 0, 0, 0) else none)))))) else (bif Nat.blt pc 77 then (bif Nat.blt pc 66 then (bif Nat.blt pc 59 then (bif Nat.blt pc 55 then (bif Nat.blt pc 53 then (bif Nat.beq pc 52 then some (.idiv, 53, 0, 0, 0) else none) else (bif Nat.beq pc 53 then some (.istore 5, 55, 0, 0, 0) else none)) else (bif Nat.blt pc 56 then (bif Nat.beq pc 55 then some (.aload_n 0, 56, 0, 0, 0) else none) else (bif Nat.beq pc 56 then some (.getfield 36, 59, 0, 0, 0) else none))) else (bif Nat.blt pc 62 then (bif Nat.blt pc 61 then (bif Nat.beq pc 59 then some (.iload 4, 61, 0, 0, 0) else none) else (bif Nat.beq pc 61 then some (.iload_n 1, 62, 0, 0, 0) else none)) else (bif Nat.blt pc 63 then (bif Nat.beq pc 62 then some (.aload_n 0, 63, 0, 0, 0) else none) else (bif Nat.beq pc 63 then some (.getfield 9, 66, 0, 0, 0) else none)))) else (bif Nat.blt pc 71 then (bif Nat.blt pc 69 then (bif Nat.blt pc 68 then (bif Nat.beq pc 66 then some (.iload 4, 68, 0, 0, 0) else none) else (bif Nat.beq pc 68 then some (.iaload, 69, 0, 0, 0) else none)) else (bif Nat.blt pc 70 then (bif Nat.beq pc 69 then some (.imul, 70, 0, 0, 0) else none) else (bif Nat.beq pc 70 then some (.iload_n 2, 71, 0, 0, 0) else none))) else (bif Nat.blt pc 73 then (bif Nat.blt pc 72 then (bif Nat.beq pc 71 then some (.irem, 72, 0, 0, 0) else none) else (bif Nat.beq pc 72 then some (.iastore, 73, 0, 0, 0) else none)) else (bif Nat.blt pc 74 then (bif Nat.beq pc 73 then some (.aload_n 0, 74, 0, 0, 0) else none) else (bif Nat.beq pc 74 then some (.getfield 33, 77, 0, 0, 0) else none))))) else (bif Nat.blt pc 88 then (bif Nat.blt pc 83 then (bif Nat.blt pc 80 then (bif Nat.blt pc 79 then (bif Nat.beq pc 77 then some (.iload 4, 79, 0, 0, 0) else none) else (bif Nat.beq pc 79 then some (.dup2, 80, 0, 0, 0) else none)) else (bif Nat.blt pc 81 then (bif Nat.beq pc 80 then some (.iaload, 81, 0, 0, 0) else none) else (bif Nat.beq pc 81 then some (.iload 5, 83, 0, 0, 0) else none))) else (bif Nat.blt pc 85 then (bif Nat.blt pc 84 then (bif Nat.beq pc 83 then some (.iadd, 84, 0, 0, 0) else none) else (bif Nat.beq pc 84 then some (.iastore, 85, 0, 0, 0) else none)) else (bif Nat.blt pc 86 then (bif Nat.beq pc 85 then some (.iload_n 3, 86, 0, 0, 0) else none) else (bif Nat.beq pc 86 then some (.iload 5, 88, 0, 0, 0) else none)))) else (bif Nat.blt pc 96 then (bif Nat.blt pc 90 then (bif Nat.blt pc 89 then (bif Nat.beq pc 88 then some (.isub, 89, 0, 0, 0) else none) else (bif Nat.beq pc 89 then some (.istore_n 3, 90, 0, 0, 0) else none)) else (bif Nat.blt pc 93 then (bif Nat.beq pc 90 then some (.iinc 4 1, 93, 0, 1, 0) else none) else (bif Nat.beq pc 93 then some (.goto (-78), 96, 15, 0, 0) else none))) else (bif Nat.blt pc 98 then (bif Nat.blt pc 97 then (bif Nat.beq pc 96 then some (.aload_n 0, 97, 0, 0, 0) else none) else (bif Nat.beq pc 97 then some (.iload_n 3, 98, 0, 0, 0) else none)) else (bif Nat.blt pc 101 then (bif Nat.beq pc 98 then some (.invokevirtual 78, 101, 0, 0, 0) else none) else (bif Nat.beq pc 101 then some (.return_, 102, 0, 0, 0) else none))))))))
def tbX3_isOpen : Nat → Option mv_R := mv_lim 95 (fun pc => (bif Nat.blt pc 44 then (bif Nat.blt pc 21 then (bif Nat.blt pc 9 then (bif Nat.blt pc 4 then (bif Nat.blt pc 1 then (bif Nat.beq pc 0 then some (.iconst 1, 1, 0, 1, 0) else none) else (bif Nat.blt pc 3 then (bif Nat.beq pc 1 then some (.istore 4, 3, 0, 0, 0) else none) else (bif Nat.beq pc 3 then some (.iconst 0, 4, 0, 0, 0) else none))) else (bif Nat.blt pc 6 then (bif Nat.beq pc 4 then some (.istore 5, 6, 0, 0, 0) else none) else (bif Nat.blt pc 7 then (bif Nat.beq pc 6 then some (.iconst 0, 7, 0, 0, 0) else none) else (bif Nat.beq pc 7 then some (.istore 6, 9, 0, 0, 0) else none)))) else (bif Nat.blt pc 15 then (bif Nat.blt pc 11 then (bif Nat.beq pc 9 then some (.iload 6, 11, 1, 0, 0) else none) else (bif Nat.blt pc 12 then (bif Nat.beq pc 11 then some (.iload_n 3, 12, 0, 0, 0) else none) else (bif Nat.beq pc 12 then some (.if_icmp .ge 80, 15, 92, 0, 0) else none))) else (bif Nat.blt pc 16 then (bif Nat.beq pc 15 then some (.aload_n 0, 16, 0, 0, 0) else none) else (bif Nat.blt pc 19 then (bif Nat.beq pc 16 then some (.getfield 18, 19, 0, 0, 0) else none) else (bif Nat.beq pc 19 then some (.iload 6, 21, 0, 0, 0) else none))))) else (bif Nat.blt pc 32 then (bif Nat.blt pc 26 then (bif Nat.blt pc 22 then (bif Nat.beq pc 21 then some (.iaload, 22, 0, 0, 0) else none) else (bif Nat.blt pc 25 then (bif Nat.beq pc 22 then some (.ifCond .eq 64, 25, 86, 0, 0) else none) else (bif Nat.beq pc 25 then some (.aload_n 0, 26, 0, 0, 0) else none))) else (bif Nat.blt pc 29 then (bif Nat.beq pc 26 then some (.getfield 21, 29, 0, 0, 0) else none) else (bif Nat.blt pc 31 then (bif Nat.beq pc 29 then some (.iload 6, 31, 0, 0, 0) else none) else (bif Nat.beq pc 31 then some (.iaload, 32, 0, 0, 0) else none)))) else (bif Nat.blt pc 37 then (bif Nat.blt pc 33 then (bif Nat.beq pc 32 then some (.iload_n 1, 33, 0, 0, 0) else none) else (bif Nat.blt pc 36 then (bif Nat.beq pc 33 then some (.if_icmp .ne 53, 36, 86, 0, 0) else none) else (bif Nat.beq pc 36 then some (.aload_n 0, 37, 0, 0, 0) else none))) else (bif Nat.blt pc 42 then (bif Nat.blt pc 40 then (bif Nat.beq pc 37 then some (.getfield 30, 40, 0, 0, 0) else none) else (bif Nat.beq pc 40 then some (.iload 6, 42, 0, 0, 0) else none)) else (bif Nat.blt pc 43 then (bif Nat.beq pc 42 then some (.iaload, 43, 0, 0, 0) else none) else (bif Nat.beq pc 43 then some (.iload_n 2, 44, 0, 0, 0) else none)))))) else (bif Nat.blt pc 69 then (bif Nat.blt pc 56 then (bif Nat.blt pc 51 then (bif Nat.blt pc 47 then (bif Nat.beq pc 44 then some (.if_icmp .gt 42, 47, 86, 0, 0) else none) else (bif Nat.blt pc 48 then (bif Nat.beq pc 47 then some (.aload_n 0, 48, 0, 0, 0) else none) else (bif Nat.beq pc 48 then some (.getfield 30, 51, 0, 0, 0) else none))) else (bif Nat.blt pc 53 then (bif Nat.beq pc 51 then some (.iload 6, 53, 0, 0, 0) else none) else (bif Nat.blt pc 54 then (bif Nat.beq pc 53 then some (.iaload, 54, 0, 0, 0) else none) else (bif Nat.beq pc 54 then some (.iload 5, 56, 0, 0, 0) else none)))) else (bif Nat.blt pc 63 then (bif Nat.blt pc 59 then (bif Nat.beq pc 56 then some (.if_icmp .lt 30, 59, 86, 0, 0) else none) else (bif Nat.blt pc 60 then (bif Nat.beq pc 59 then some (.aload_n 0, 60, 0, 0, 0) else none) else (bif Nat.beq pc 60 then some (.getfield 30, 63, 0, 0, 0) else none))) else (bif Nat.blt pc 66 then (bif Nat.blt pc 65 then (bif Nat.beq pc 63 then some (.iload 6, 65, 0, 0, 0) else none) else (bif Nat.beq pc 65 then some (.iaload, 66, 0, 0, 0) else none)) else (bif Nat.blt pc 68 then (bif Nat.beq pc 66 then some (.istore 5, 68, 0, 0, 0) else none) else (bif Nat.beq pc 68 then some (.aload_n 0, 69, 0, 0, 0) else none))))) else (bif Nat.blt pc 80 then (bif Nat.blt pc 75 then (bif Nat.blt pc 72 then (bif Nat.beq pc 69 then some (.getfield 18, 72, 0, 0, 0) else none) else (bif Nat.blt pc 74 then (bif Nat.beq pc 72 then some (.iload 6, 74, 0, 0, 0) else none) else (bif Nat.beq pc 74 then some (.iaload, 75, 0, 0, 0) else none))) else (bif Nat.blt pc 76 then (bif Nat.beq pc 75 then some (.iconst 2, 76, 0, 2, 0) else none) else (bif Nat.blt pc 79 then (bif Nat.beq pc 76 then some (.if_icmp .ne 7, 79, 83, 0, 0) else none) else (bif Nat.beq pc 79 then some (.iconst 1, 80, 0, 1, 0) else none)))) else (bif Nat.blt pc 86 then (bif Nat.blt pc 83 then (bif Nat.beq pc 80 then some (.goto 4, 83, 84, 0, 0) else none) else (bif Nat.blt pc 84 then (bif Nat.beq pc 83 then some (.iconst 0, 84, 0, 0, 0) else none) else (bif Nat.beq pc 84 then some (.istore 4, 86, 0, 0, 0) else none))) else (bif Nat.blt pc 92 then (bif Nat.blt pc 89 then (bif Nat.beq pc 86 then some (.iinc 6 1, 89, 0, 1, 0) else none) else (bif Nat.beq pc 89 then some (.goto (-80), 92, 9, 0, 0) else none)) else (bif Nat.blt pc 94 then (bif Nat.beq pc 92 then some (.iload 4, 94, 0, 0, 0) else none) else (bif Nat.beq pc 94 then some (.ireturn, 95, 0, 0, 0) else none))))))))
def tbX3_lentTo : Nat → Option mv_R := mv_lim 91 (fun pc => (bif Nat.blt pc 44 then (bif Nat.blt pc 22 then (bif Nat.blt pc 9 then (bif Nat.blt pc 4 then (bif Nat.blt pc 1 then (bif Nat.beq pc 0 then some (.iconst 0, 1, 0, 0, 0) else none) else (bif Nat.blt pc 3 then (bif Nat.beq pc 1 then some (.istore 4, 3, 0, 0, 0) else none) else (bif Nat.beq pc 3 then some (.iconst 0, 4, 0, 0, 0) else none))) else (bif Nat.blt pc 6 then (bif Nat.beq pc 4 then some (.istore 5, 6, 0, 0, 0) else none) else (bif Nat.blt pc 8 then (bif Nat.beq pc 6 then some (.iload 5, 8, 1, 0, 0) else none) else (bif Nat.beq pc 8 then some (.iload_n 3, 9, 0, 0, 0) else none)))) else (bif Nat.blt pc 16 then (bif Nat.blt pc 12 then (bif Nat.beq pc 9 then some (.if_icmp .ge 79, 12, 88, 0, 0) else none) else (bif Nat.blt pc 13 then (bif Nat.beq pc 12 then some (.aload_n 0, 13, 0, 0, 0) else none) else (bif Nat.beq pc 13 then some (.getfield 18, 16, 0, 0, 0) else none))) else (bif Nat.blt pc 18 then (bif Nat.beq pc 16 then some (.iload 5, 18, 0, 0, 0) else none) else (bif Nat.blt pc 19 then (bif Nat.beq pc 18 then some (.iaload, 19, 0, 0, 0) else none) else (bif Nat.beq pc 19 then some (.ifCond .ne 63, 22, 82, 0, 0) else none))))) else (bif Nat.blt pc 33 then (bif Nat.blt pc 28 then (bif Nat.blt pc 23 then (bif Nat.beq pc 22 then some (.aload_n 0, 23, 0, 0, 0) else none) else (bif Nat.blt pc 26 then (bif Nat.beq pc 23 then some (.getfield 30, 26, 0, 0, 0) else none) else (bif Nat.beq pc 26 then some (.iload 5, 28, 0, 0, 0) else none))) else (bif Nat.blt pc 29 then (bif Nat.beq pc 28 then some (.iaload, 29, 0, 0, 0) else none) else (bif Nat.blt pc 30 then (bif Nat.beq pc 29 then some (.iload_n 2, 30, 0, 0, 0) else none) else (bif Nat.beq pc 30 then some (.if_icmp .le 6, 33, 36, 0, 0) else none)))) else (bif Nat.blt pc 40 then (bif Nat.blt pc 36 then (bif Nat.beq pc 33 then some (.goto 49, 36, 82, 0, 0) else none) else (bif Nat.blt pc 37 then (bif Nat.beq pc 36 then some (.aload_n 0, 37, 0, 0, 0) else none) else (bif Nat.beq pc 37 then some (.getfield 24, 40, 0, 0, 0) else none))) else (bif Nat.blt pc 42 then (bif Nat.beq pc 40 then some (.iload 5, 42, 0, 0, 0) else none) else (bif Nat.blt pc 43 then (bif Nat.beq pc 42 then some (.iaload, 43, 0, 0, 0) else none) else (bif Nat.beq pc 43 then some (.iload_n 1, 44, 0, 0, 0) else none)))))) else (bif Nat.blt pc 66 then (bif Nat.blt pc 56 then (bif Nat.blt pc 50 then (bif Nat.blt pc 47 then (bif Nat.beq pc 44 then some (.if_icmp .ne 15, 47, 59, 0, 0) else none) else (bif Nat.blt pc 49 then (bif Nat.beq pc 47 then some (.iload 4, 49, 0, 0, 0) else none) else (bif Nat.beq pc 49 then some (.aload_n 0, 50, 0, 0, 0) else none))) else (bif Nat.blt pc 53 then (bif Nat.beq pc 50 then some (.getfield 27, 53, 0, 0, 0) else none) else (bif Nat.blt pc 55 then (bif Nat.beq pc 53 then some (.iload 5, 55, 0, 0, 0) else none) else (bif Nat.beq pc 55 then some (.iaload, 56, 0, 0, 0) else none)))) else (bif Nat.blt pc 60 then (bif Nat.blt pc 57 then (bif Nat.beq pc 56 then some (.iadd, 57, 0, 0, 0) else none) else (bif Nat.blt pc 59 then (bif Nat.beq pc 57 then some (.istore 4, 59, 0, 0, 0) else none) else (bif Nat.beq pc 59 then some (.aload_n 0, 60, 0, 0, 0) else none))) else (bif Nat.blt pc 63 then (bif Nat.beq pc 60 then some (.getfield 21, 63, 0, 0, 0) else none) else (bif Nat.blt pc 65 then (bif Nat.beq pc 63 then some (.iload 5, 65, 0, 0, 0) else none) else (bif Nat.beq pc 65 then some (.iaload, 66, 0, 0, 0) else none))))) else (bif Nat.blt pc 78 then (bif Nat.blt pc 72 then (bif Nat.blt pc 67 then (bif Nat.beq pc 66 then some (.iload_n 1, 67, 0, 0, 0) else none) else (bif Nat.blt pc 70 then (bif Nat.beq pc 67 then some (.if_icmp .ne 15, 70, 82, 0, 0) else none) else (bif Nat.beq pc 70 then some (.iload 4, 72, 0, 0, 0) else none))) else (bif Nat.blt pc 73 then (bif Nat.beq pc 72 then some (.aload_n 0, 73, 0, 0, 0) else none) else (bif Nat.blt pc 76 then (bif Nat.beq pc 73 then some (.getfield 27, 76, 0, 0, 0) else none) else (bif Nat.beq pc 76 then some (.iload 5, 78, 0, 0, 0) else none)))) else (bif Nat.blt pc 82 then (bif Nat.blt pc 79 then (bif Nat.beq pc 78 then some (.iaload, 79, 0, 0, 0) else none) else (bif Nat.blt pc 80 then (bif Nat.beq pc 79 then some (.isub, 80, 0, 0, 0) else none) else (bif Nat.beq pc 80 then some (.istore 4, 82, 0, 0, 0) else none))) else (bif Nat.blt pc 88 then (bif Nat.blt pc 85 then (bif Nat.beq pc 82 then some (.iinc 5 1, 85, 0, 1, 0) else none) else (bif Nat.beq pc 85 then some (.goto (-79), 88, 6, 0, 0) else none)) else (bif Nat.blt pc 90 then (bif Nat.beq pc 88 then some (.iload 4, 90, 0, 0, 0) else none) else (bif Nat.beq pc 90 then some (.ireturn, 91, 0, 0, 0) else none))))))))
def tbX3_quotaOf : Nat → Option mv_R := mv_lim 137 (fun pc => (bif Nat.blt pc 69 then (bif Nat.blt pc 35 then (bif Nat.blt pc 17 then (bif Nat.blt pc 8 then (bif Nat.blt pc 4 then (bif Nat.blt pc 1 then (bif Nat.beq pc 0 then some (.aload_n 0, 1, 0, 0, 0) else none) else (bif Nat.beq pc 1 then some (.getfield 33, 4, 0, 0, 0) else none)) else (bif Nat.blt pc 5 then (bif Nat.beq pc 4 then some (.iconst 0, 5, 0, 0, 0) else none) else (bif Nat.beq pc 5 then some (.invokestatic 54, 8, 0, 0, 0) else none))) else (bif Nat.blt pc 11 then (bif Nat.blt pc 9 then (bif Nat.beq pc 8 then some (.iconst 0, 9, 0, 0, 0) else none) else (bif Nat.beq pc 9 then some (.istore 4, 11, 0, 0, 0) else none)) else (bif Nat.blt pc 13 then (bif Nat.beq pc 11 then some (.iload 4, 13, 1, 0, 0) else none) else (bif Nat.blt pc 14 then (bif Nat.beq pc 13 then some (.aload_n 0, 14, 0, 0, 0) else none) else (bif Nat.beq pc 14 then some (.getfield 43, 17, 0, 0, 0) else none))))) else (bif Nat.blt pc 26 then (bif Nat.blt pc 21 then (bif Nat.blt pc 20 then (bif Nat.beq pc 17 then some (.if_icmp .ge 17, 20, 34, 0, 0) else none) else (bif Nat.beq pc 20 then some (.aload_n 0, 21, 0, 0, 0) else none)) else (bif Nat.blt pc 24 then (bif Nat.beq pc 21 then some (.getfield 39, 24, 0, 0, 0) else none) else (bif Nat.beq pc 24 then some (.iload 4, 26, 0, 0, 0) else none))) else (bif Nat.blt pc 28 then (bif Nat.blt pc 27 then (bif Nat.beq pc 26 then some (.iconst 1, 27, 0, 1, 0) else none) else (bif Nat.beq pc 27 then some (.bastore, 28, 0, 0, 0) else none)) else (bif Nat.blt pc 31 then (bif Nat.beq pc 28 then some (.iinc 4 1, 31, 0, 1, 0) else none) else (bif Nat.blt pc 34 then (bif Nat.beq pc 31 then some (.goto (-20), 34, 11, 0, 0) else none) else (bif Nat.beq pc 34 then some (.aload_n 0, 35, 0, 0, 0) else none)))))) else (bif Nat.blt pc 54 then (bif Nat.blt pc 43 then (bif Nat.blt pc 39 then (bif Nat.blt pc 36 then (bif Nat.beq pc 35 then some (.aload_n 0, 36, 0, 0, 0) else none) else (bif Nat.beq pc 36 then some (.getfield 60, 39, 0, 0, 0) else none)) else (bif Nat.blt pc 42 then (bif Nat.beq pc 39 then some (.invokevirtual 63, 42, 0, 0, 0) else none) else (bif Nat.beq pc 42 then some (.iconst 0, 43, 0, 0, 0) else none))) else (bif Nat.blt pc 47 then (bif Nat.blt pc 45 then (bif Nat.beq pc 43 then some (.istore 4, 45, 0, 0, 0) else none) else (bif Nat.beq pc 45 then some (.iload 4, 47, 1, 0, 0) else none)) else (bif Nat.blt pc 48 then (bif Nat.beq pc 47 then some (.aload_n 0, 48, 0, 0, 0) else none) else (bif Nat.blt pc 51 then (bif Nat.beq pc 48 then some (.getfield 43, 51, 0, 0, 0) else none) else (bif Nat.beq pc 51 then some (.if_icmp .ge 24, 54, 75, 0, 0) else none))))) else (bif Nat.blt pc 61 then (bif Nat.blt pc 58 then (bif Nat.blt pc 55 then (bif Nat.beq pc 54 then some (.aload_n 0, 55, 0, 0, 0) else none) else (bif Nat.beq pc 55 then some (.getfield 39, 58, 0, 0, 0) else none)) else (bif Nat.blt pc 60 then (bif Nat.beq pc 58 then some (.iload 4, 60, 0, 0, 0) else none) else (bif Nat.beq pc 60 then some (.aload_n 0, 61, 0, 0, 0) else none))) else (bif Nat.blt pc 64 then (bif Nat.blt pc 63 then (bif Nat.beq pc 61 then some (.iload 4, 63, 0, 0, 0) else none) else (bif Nat.beq pc 63 then some (.iload_n 2, 64, 0, 0, 0) else none)) else (bif Nat.blt pc 65 then (bif Nat.beq pc 64 then some (.iload_n 3, 65, 0, 0, 0) else none) else (bif Nat.blt pc 68 then (bif Nat.beq pc 65 then some (.invokevirtual 67, 68, 0, 0, 0) else none) else (bif Nat.beq pc 68 then some (.bastore, 69, 0, 0, 0) else none))))))) else (bif Nat.blt pc 105 then (bif Nat.blt pc 88 then (bif Nat.blt pc 78 then (bif Nat.blt pc 75 then (bif Nat.blt pc 72 then (bif Nat.beq pc 69 then some (.iinc 4 1, 72, 0, 1, 0) else none) else (bif Nat.beq pc 72 then some (.goto (-27), 75, 45, 0, 0) else none)) else (bif Nat.blt pc 76 then (bif Nat.beq pc 75 then some (.iconst 0, 76, 0, 0, 0) else none) else (bif Nat.beq pc 76 then some (.istore 4, 78, 0, 0, 0) else none))) else (bif Nat.blt pc 81 then (bif Nat.blt pc 80 then (bif Nat.beq pc 78 then some (.iload 4, 80, 1, 0, 0) else none) else (bif Nat.beq pc 80 then some (.aload_n 0, 81, 0, 0, 0) else none)) else (bif Nat.blt pc 84 then (bif Nat.beq pc 81 then some (.getfield 43, 84, 0, 0, 0) else none) else (bif Nat.blt pc 87 then (bif Nat.beq pc 84 then some (.if_icmp .ge 38, 87, 122, 0, 0) else none) else (bif Nat.beq pc 87 then some (.aload_n 0, 88, 0, 0, 0) else none))))) else (bif Nat.blt pc 97 then (bif Nat.blt pc 93 then (bif Nat.blt pc 91 then (bif Nat.beq pc 88 then some (.getfield 39, 91, 0, 0, 0) else none) else (bif Nat.beq pc 91 then some (.iload 4, 93, 0, 0, 0) else none)) else (bif Nat.blt pc 94 then (bif Nat.beq pc 93 then some (.baload, 94, 0, 0, 0) else none) else (bif Nat.beq pc 94 then some (.ifCond .ne 22, 97, 116, 0, 0) else none))) else (bif Nat.blt pc 99 then (bif Nat.blt pc 98 then (bif Nat.beq pc 97 then some (.aload_n 0, 98, 0, 0, 0) else none) else (bif Nat.beq pc 98 then some (.aload_n 0, 99, 0, 0, 0) else none)) else (bif Nat.blt pc 102 then (bif Nat.beq pc 99 then some (.getfield 33, 102, 0, 0, 0) else none) else (bif Nat.blt pc 104 then (bif Nat.beq pc 102 then some (.iload 4, 104, 0, 0, 0) else none) else (bif Nat.beq pc 104 then some (.iaload, 105, 0, 0, 0) else none)))))) else (bif Nat.blt pc 123 then (bif Nat.blt pc 114 then (bif Nat.blt pc 109 then (bif Nat.blt pc 108 then (bif Nat.beq pc 105 then some (.invokevirtual 63, 108, 0, 0, 0) else none) else (bif Nat.beq pc 108 then some (.aload_n 0, 109, 0, 0, 0) else none)) else (bif Nat.blt pc 112 then (bif Nat.beq pc 109 then some (.getfield 33, 112, 0, 0, 0) else none) else (bif Nat.beq pc 112 then some (.iload 4, 114, 0, 0, 0) else none))) else (bif Nat.blt pc 116 then (bif Nat.blt pc 115 then (bif Nat.beq pc 114 then some (.iconst 0, 115, 0, 0, 0) else none) else (bif Nat.beq pc 115 then some (.iastore, 116, 0, 0, 0) else none)) else (bif Nat.blt pc 119 then (bif Nat.beq pc 116 then some (.iinc 4 1, 119, 0, 1, 0) else none) else (bif Nat.blt pc 122 then (bif Nat.beq pc 119 then some (.goto (-41), 122, 78, 0, 0) else none) else (bif Nat.beq pc 122 then some (.aload_n 0, 123, 0, 0, 0) else none))))) else (bif Nat.blt pc 130 then (bif Nat.blt pc 127 then (bif Nat.blt pc 126 then (bif Nat.beq pc 123 then some (.getfield 33, 126, 0, 0, 0) else none) else (bif Nat.beq pc 126 then some (.iload_n 1, 127, 0, 0, 0) else none)) else (bif Nat.blt pc 128 then (bif Nat.beq pc 127 then some (.iaload, 128, 0, 0, 0) else none) else (bif Nat.blt pc 129 then (bif Nat.beq pc 128 then some (.aload_n 0, 129, 0, 0, 0) else none) else (bif Nat.beq pc 129 then some (.iload_n 1, 130, 0, 0, 0) else none)))) else (bif Nat.blt pc 132 then (bif Nat.blt pc 131 then (bif Nat.beq pc 130 then some (.iload_n 2, 131, 0, 0, 0) else none) else (bif Nat.beq pc 131 then some (.iload_n 3, 132, 0, 0, 0) else none)) else (bif Nat.blt pc 135 then (bif Nat.beq pc 132 then some (.invokevirtual 71, 135, 0, 0, 0) else none) else (bif Nat.blt pc 136 then (bif Nat.beq pc 135 then some (.iadd, 136, 0, 0, 0) else none) else (bif Nat.beq pc 136 then some (.ireturn, 137, 0, 0, 0) else none)))))))))
def tbX3_unshipped : Nat → Option mv_R := mv_lim 18 (fun pc => (bif Nat.blt pc 10 then (bif Nat.blt pc 3 then (bif Nat.blt pc 1 then (bif Nat.beq pc 0 then some (.aload_n 0, 1, 0, 0, 0) else none) else (bif Nat.blt pc 2 then (bif Nat.beq pc 1 then some (.iload_n 1, 2, 0, 0, 0) else none) else (bif Nat.beq pc 2 then some (.iload_n 2, 3, 0, 0, 0) else none))) else (bif Nat.blt pc 4 then (bif Nat.beq pc 3 then some (.aload_n 0, 4, 0, 0, 0) else none) else (bif Nat.blt pc 7 then (bif Nat.beq pc 4 then some (.getfield 47, 7, 0, 0, 0) else none) else (bif Nat.beq pc 7 then some (.invokevirtual 50, 10, 0, 0, 0) else none)))) else (bif Nat.blt pc 15 then (bif Nat.blt pc 11 then (bif Nat.beq pc 10 then some (.aload_n 0, 11, 0, 0, 0) else none) else (bif Nat.blt pc 14 then (bif Nat.beq pc 11 then some (.getfield 15, 14, 0, 0, 0) else none) else (bif Nat.beq pc 14 then some (.iload_n 1, 15, 0, 0, 0) else none))) else (bif Nat.blt pc 16 then (bif Nat.beq pc 15 then some (.iaload, 16, 0, 0, 0) else none) else (bif Nat.blt pc 17 then (bif Nat.beq pc 16 then some (.isub, 17, 0, 0, 0) else none) else (bif Nat.beq pc 17 then some (.ireturn, 18, 0, 0, 0) else none))))))
def tbX5_isNothing : Nat → Option mv_R := mv_lim 14 (fun pc => (bif Nat.blt pc 8 then (bif Nat.blt pc 4 then (bif Nat.blt pc 1 then (bif Nat.beq pc 0 then some (.aload_n 0, 1, 0, 0, 0) else none) else (bif Nat.beq pc 1 then some (.getfield 15, 4, 0, 0, 0) else none)) else (bif Nat.blt pc 5 then (bif Nat.beq pc 4 then some (.iconst (-1), 5, 0, (-1), 0) else none) else (bif Nat.beq pc 5 then some (.if_icmp .ne 7, 8, 12, 0, 0) else none))) else (bif Nat.blt pc 12 then (bif Nat.blt pc 9 then (bif Nat.beq pc 8 then some (.iconst 1, 9, 0, 1, 0) else none) else (bif Nat.beq pc 9 then some (.goto 4, 12, 13, 0, 0) else none)) else (bif Nat.blt pc 13 then (bif Nat.beq pc 12 then some (.iconst 0, 13, 0, 0, 0) else none) else (bif Nat.beq pc 13 then some (.ireturn, 14, 0, 0, 0) else none)))))
def tbX5_begin : Nat → Option mv_R := mv_lim 19 (fun pc => (bif Nat.blt pc 9 then (bif Nat.blt pc 4 then (bif Nat.blt pc 1 then (bif Nat.beq pc 0 then some (.aload_n 0, 1, 0, 0, 0) else none) else (bif Nat.beq pc 1 then some (.getfield 9, 4, 0, 0, 0) else none)) else (bif Nat.blt pc 5 then (bif Nat.beq pc 4 then some (.iconst 0, 5, 0, 0, 0) else none) else (bif Nat.blt pc 8 then (bif Nat.beq pc 5 then some (.invokestatic 19, 8, 0, 0, 0) else none) else (bif Nat.beq pc 8 then some (.aload_n 0, 9, 0, 0, 0) else none)))) else (bif Nat.blt pc 14 then (bif Nat.blt pc 10 then (bif Nat.beq pc 9 then some (.iload_n 1, 10, 0, 0, 0) else none) else (bif Nat.blt pc 13 then (bif Nat.beq pc 10 then some (.putfield 15, 13, 0, 0, 0) else none) else (bif Nat.beq pc 13 then some (.aload_n 0, 14, 0, 0, 0) else none))) else (bif Nat.blt pc 15 then (bif Nat.beq pc 14 then some (.iload_n 2, 15, 0, 0, 0) else none) else (bif Nat.blt pc 18 then (bif Nat.beq pc 15 then some (.putfield 25, 18, 0, 0, 0) else none) else (bif Nat.beq pc 18 then some (.return_, 19, 0, 0, 0) else none))))))
def tbX5_hasItems : Nat → Option mv_R := mv_lim 24 (fun pc => (bif Nat.blt pc 13 then (bif Nat.blt pc 5 then (bif Nat.blt pc 1 then (bif Nat.beq pc 0 then some (.iload_n 1, 1, 0, 0, 0) else none) else (bif Nat.blt pc 4 then (bif Nat.beq pc 1 then some (.ifCond .lt 21, 4, 22, 0, 0) else none) else (bif Nat.beq pc 4 then some (.iload_n 2, 5, 0, 0, 0) else none))) else (bif Nat.blt pc 9 then (bif Nat.blt pc 8 then (bif Nat.beq pc 5 then some (.ifCond .lt 17, 8, 22, 0, 0) else none) else (bif Nat.beq pc 8 then some (.iload_n 1, 9, 0, 0, 0) else none)) else (bif Nat.blt pc 10 then (bif Nat.beq pc 9 then some (.aload_n 0, 10, 0, 0, 0) else none) else (bif Nat.beq pc 10 then some (.getfield 25, 13, 0, 0, 0) else none)))) else (bif Nat.blt pc 18 then (bif Nat.blt pc 14 then (bif Nat.beq pc 13 then some (.iload_n 2, 14, 0, 0, 0) else none) else (bif Nat.blt pc 15 then (bif Nat.beq pc 14 then some (.isub, 15, 0, 0, 0) else none) else (bif Nat.beq pc 15 then some (.if_icmp .gt 7, 18, 22, 0, 0) else none))) else (bif Nat.blt pc 22 then (bif Nat.blt pc 19 then (bif Nat.beq pc 18 then some (.iconst 1, 19, 0, 1, 0) else none) else (bif Nat.beq pc 19 then some (.goto 4, 22, 23, 0, 0) else none)) else (bif Nat.blt pc 23 then (bif Nat.beq pc 22 then some (.iconst 0, 23, 0, 0, 0) else none) else (bif Nat.beq pc 23 then some (.ireturn, 24, 0, 0, 0) else none))))))
def tbX5_faultAs : Nat → Option mv_R := mv_lim 37 (fun pc => (bif Nat.blt pc 20 then (bif Nat.blt pc 10 then (bif Nat.blt pc 4 then (bif Nat.blt pc 1 then (bif Nat.beq pc 0 then some (.aload_n 0, 1, 0, 0, 0) else none) else (bif Nat.beq pc 1 then some (.invokevirtual 28, 4, 0, 0, 0) else none)) else (bif Nat.blt pc 7 then (bif Nat.beq pc 4 then some (.ifCond .eq 6, 7, 10, 0, 0) else none) else (bif Nat.blt pc 9 then (bif Nat.beq pc 7 then some (.bipush (-11), 9, 0, (-11), 0) else none) else (bif Nat.beq pc 9 then some (.ireturn, 10, 0, 0, 0) else none)))) else (bif Nat.blt pc 12 then (bif Nat.blt pc 11 then (bif Nat.beq pc 10 then some (.iload_n 1, 11, 0, 0, 0) else none) else (bif Nat.beq pc 11 then some (.aload_n 0, 12, 0, 0, 0) else none)) else (bif Nat.blt pc 15 then (bif Nat.beq pc 12 then some (.getfield 15, 15, 0, 0, 0) else none) else (bif Nat.blt pc 18 then (bif Nat.beq pc 15 then some (.if_icmp .eq 6, 18, 21, 0, 0) else none) else (bif Nat.beq pc 18 then some (.bipush (-12), 20, 0, (-12), 0) else none))))) else (bif Nat.blt pc 27 then (bif Nat.blt pc 22 then (bif Nat.blt pc 21 then (bif Nat.beq pc 20 then some (.ireturn, 21, 0, 0, 0) else none) else (bif Nat.beq pc 21 then some (.aload_n 0, 22, 0, 0, 0) else none)) else (bif Nat.blt pc 23 then (bif Nat.beq pc 22 then some (.iload_n 2, 23, 0, 0, 0) else none) else (bif Nat.blt pc 24 then (bif Nat.beq pc 23 then some (.iload_n 3, 24, 0, 0, 0) else none) else (bif Nat.beq pc 24 then some (.invokevirtual 32, 27, 0, 0, 0) else none)))) else (bif Nat.blt pc 31 then (bif Nat.blt pc 30 then (bif Nat.beq pc 27 then some (.ifCond .eq 7, 30, 34, 0, 0) else none) else (bif Nat.beq pc 30 then some (.iconst 0, 31, 0, 0, 0) else none)) else (bif Nat.blt pc 34 then (bif Nat.beq pc 31 then some (.goto 5, 34, 36, 0, 0) else none) else (bif Nat.blt pc 36 then (bif Nat.beq pc 34 then some (.bipush (-13), 36, 0, (-13), 0) else none) else (bif Nat.beq pc 36 then some (.ireturn, 37, 0, 0, 0) else none)))))))
def tbX5_hasAbove : Nat → Option mv_R := mv_lim 32 (fun pc => (bif Nat.blt pc 15 then (bif Nat.blt pc 6 then (bif Nat.blt pc 3 then (bif Nat.blt pc 1 then (bif Nat.beq pc 0 then some (.iload_n 2, 1, 0, 0, 0) else none) else (bif Nat.beq pc 1 then some (.istore 4, 3, 0, 0, 0) else none)) else (bif Nat.blt pc 5 then (bif Nat.beq pc 3 then some (.iload 4, 5, 1, 0, 0) else none) else (bif Nat.beq pc 5 then some (.iload_n 2, 6, 0, 0, 0) else none))) else (bif Nat.blt pc 8 then (bif Nat.blt pc 7 then (bif Nat.beq pc 6 then some (.iload_n 3, 7, 0, 0, 0) else none) else (bif Nat.beq pc 7 then some (.iadd, 8, 0, 0, 0) else none)) else (bif Nat.blt pc 11 then (bif Nat.beq pc 8 then some (.if_icmp .ge 22, 11, 30, 0, 0) else none) else (bif Nat.blt pc 12 then (bif Nat.beq pc 11 then some (.aload_n 0, 12, 0, 0, 0) else none) else (bif Nat.beq pc 12 then some (.getfield 9, 15, 0, 0, 0) else none))))) else (bif Nat.blt pc 23 then (bif Nat.blt pc 18 then (bif Nat.blt pc 17 then (bif Nat.beq pc 15 then some (.iload 4, 17, 0, 0, 0) else none) else (bif Nat.beq pc 17 then some (.iaload, 18, 0, 0, 0) else none)) else (bif Nat.blt pc 19 then (bif Nat.beq pc 18 then some (.iload_n 1, 19, 0, 0, 0) else none) else (bif Nat.blt pc 22 then (bif Nat.beq pc 19 then some (.if_icmp .le 5, 22, 24, 0, 0) else none) else (bif Nat.beq pc 22 then some (.iconst 1, 23, 0, 1, 0) else none)))) else (bif Nat.blt pc 27 then (bif Nat.blt pc 24 then (bif Nat.beq pc 23 then some (.ireturn, 24, 0, 0, 0) else none) else (bif Nat.beq pc 24 then some (.iinc 4 1, 27, 0, 1, 0) else none)) else (bif Nat.blt pc 30 then (bif Nat.beq pc 27 then some (.goto (-24), 30, 3, 0, 0) else none) else (bif Nat.blt pc 31 then (bif Nat.beq pc 30 then some (.iconst 0, 31, 0, 0, 0) else none) else (bif Nat.beq pc 31 then some (.ireturn, 32, 0, 0, 0) else none)))))))
def tbX5_put : Nat → Option mv_R := mv_lim 33 (fun pc => (bif Nat.blt pc 17 then (bif Nat.blt pc 6 then (bif Nat.blt pc 4 then (bif Nat.blt pc 1 then (bif Nat.beq pc 0 then some (.aload_n 0, 1, 0, 0, 0) else none) else (bif Nat.beq pc 1 then some (.getfield 9, 4, 0, 0, 0) else none)) else (bif Nat.blt pc 5 then (bif Nat.beq pc 4 then some (.iload_n 1, 5, 0, 0, 0) else none) else (bif Nat.beq pc 5 then some (.aload_n 0, 6, 0, 0, 0) else none))) else (bif Nat.blt pc 12 then (bif Nat.blt pc 9 then (bif Nat.beq pc 6 then some (.getfield 15, 9, 0, 0, 0) else none) else (bif Nat.beq pc 9 then some (.ifCond .ne 8, 12, 17, 0, 0) else none)) else (bif Nat.blt pc 13 then (bif Nat.beq pc 12 then some (.iload_n 2, 13, 0, 0, 0) else none) else (bif Nat.blt pc 14 then (bif Nat.beq pc 13 then some (.i2b, 14, 0, 0, 0) else none) else (bif Nat.beq pc 14 then some (.goto 17, 17, 31, 0, 0) else none))))) else (bif Nat.blt pc 26 then (bif Nat.blt pc 21 then (bif Nat.blt pc 18 then (bif Nat.beq pc 17 then some (.aload_n 0, 18, 0, 0, 0) else none) else (bif Nat.beq pc 18 then some (.getfield 15, 21, 0, 0, 0) else none)) else (bif Nat.blt pc 22 then (bif Nat.beq pc 21 then some (.iconst 1, 22, 0, 1, 0) else none) else (bif Nat.blt pc 25 then (bif Nat.beq pc 22 then some (.if_icmp .ne 8, 25, 30, 0, 0) else none) else (bif Nat.beq pc 25 then some (.iload_n 2, 26, 0, 0, 0) else none)))) else (bif Nat.blt pc 30 then (bif Nat.blt pc 27 then (bif Nat.beq pc 26 then some (.i2s, 27, 0, 0, 0) else none) else (bif Nat.beq pc 27 then some (.goto 4, 30, 31, 0, 0) else none)) else (bif Nat.blt pc 31 then (bif Nat.beq pc 30 then some (.iload_n 2, 31, 0, 0, 0) else none) else (bif Nat.blt pc 32 then (bif Nat.beq pc 31 then some (.iastore, 32, 0, 0, 0) else none) else (bif Nat.beq pc 32 then some (.return_, 33, 0, 0, 0) else none)))))))
def tbX6_byteOf : Nat → Option mv_R := mv_lim 12 (fun pc => (bif Nat.blt pc 5 then (bif Nat.blt pc 3 then (bif Nat.blt pc 1 then (bif Nat.beq pc 0 then some (.lload_n 0, 1, 0, 0, 0) else none) else (bif Nat.beq pc 1 then some (.bipush 8, 3, 0, 8, 0) else none)) else (bif Nat.blt pc 4 then (bif Nat.beq pc 3 then some (.iload_n 2, 4, 0, 0, 0) else none) else (bif Nat.beq pc 4 then some (.imul, 5, 0, 0, 0) else none))) else (bif Nat.blt pc 7 then (bif Nat.blt pc 6 then (bif Nat.beq pc 5 then some (.lshr, 6, 0, 0, 0) else none) else (bif Nat.beq pc 6 then some (.l2i, 7, 0, 0, 0) else none)) else (bif Nat.blt pc 10 then (bif Nat.beq pc 7 then some (.sipush 255, 10, 0, 255, 0) else none) else (bif Nat.blt pc 11 then (bif Nat.beq pc 10 then some (.iand, 11, 0, 0, 0) else none) else (bif Nat.beq pc 11 then some (.ireturn, 12, 0, 0, 0) else none))))))
def tbX7_isWithin : Nat → Option mv_R := mv_lim 16 (fun pc => (bif Nat.blt pc 7 then (bif Nat.blt pc 2 then (bif Nat.blt pc 1 then (bif Nat.beq pc 0 then some (.iload_n 0, 1, 0, 0, 0) else none) else (bif Nat.beq pc 1 then some (.iload_n 1, 2, 0, 0, 0) else none)) else (bif Nat.blt pc 5 then (bif Nat.beq pc 2 then some (.if_icmp .lt 12, 5, 14, 0, 0) else none) else (bif Nat.blt pc 6 then (bif Nat.beq pc 5 then some (.iload_n 0, 6, 0, 0, 0) else none) else (bif Nat.beq pc 6 then some (.iload_n 2, 7, 0, 0, 0) else none)))) else (bif Nat.blt pc 11 then (bif Nat.blt pc 10 then (bif Nat.beq pc 7 then some (.if_icmp .gt 7, 10, 14, 0, 0) else none) else (bif Nat.beq pc 10 then some (.iconst 1, 11, 0, 1, 0) else none)) else (bif Nat.blt pc 14 then (bif Nat.beq pc 11 then some (.goto 4, 14, 15, 0, 0) else none) else (bif Nat.blt pc 15 then (bif Nat.beq pc 14 then some (.iconst 0, 15, 0, 0, 0) else none) else (bif Nat.beq pc 15 then some (.ireturn, 16, 0, 0, 0) else none))))))
def tbX6_canHold : Nat → Option mv_R := mv_lim 32 (fun pc => (bif Nat.blt pc 14 then (bif Nat.blt pc 4 then (bif Nat.blt pc 2 then (bif Nat.blt pc 1 then (bif Nat.beq pc 0 then some (.iconst 0, 1, 0, 0, 0) else none) else (bif Nat.beq pc 1 then some (.istore_n 3, 2, 0, 0, 0) else none)) else (bif Nat.blt pc 3 then (bif Nat.beq pc 2 then some (.iload_n 3, 3, 1, 0, 0) else none) else (bif Nat.beq pc 3 then some (.iload_n 2, 4, 0, 0, 0) else none))) else (bif Nat.blt pc 8 then (bif Nat.blt pc 7 then (bif Nat.beq pc 4 then some (.if_icmp .ge 26, 7, 30, 0, 0) else none) else (bif Nat.beq pc 7 then some (.lload_n 0, 8, 0, 0, 0) else none)) else (bif Nat.blt pc 9 then (bif Nat.beq pc 8 then some (.iload_n 3, 9, 0, 0, 0) else none) else (bif Nat.blt pc 12 then (bif Nat.beq pc 9 then some (.invokestatic 19, 12, 0, 0, 0) else none) else (bif Nat.beq pc 12 then some (.bipush 32, 14, 0, 32, 0) else none))))) else (bif Nat.blt pc 23 then (bif Nat.blt pc 19 then (bif Nat.blt pc 16 then (bif Nat.beq pc 14 then some (.bipush 126, 16, 0, 126, 0) else none) else (bif Nat.beq pc 16 then some (.invokestatic 23, 19, 0, 0, 0) else none)) else (bif Nat.blt pc 22 then (bif Nat.beq pc 19 then some (.ifCond .ne 5, 22, 24, 0, 0) else none) else (bif Nat.beq pc 22 then some (.iconst 0, 23, 0, 0, 0) else none))) else (bif Nat.blt pc 27 then (bif Nat.blt pc 24 then (bif Nat.beq pc 23 then some (.ireturn, 24, 0, 0, 0) else none) else (bif Nat.beq pc 24 then some (.iinc 3 1, 27, 0, 1, 0) else none)) else (bif Nat.blt pc 30 then (bif Nat.beq pc 27 then some (.goto (-25), 30, 2, 0, 0) else none) else (bif Nat.blt pc 31 then (bif Nat.beq pc 30 then some (.iconst 1, 31, 0, 1, 0) else none) else (bif Nat.beq pc 31 then some (.ireturn, 32, 0, 0, 0) else none)))))))
def tbX6_append : Nat → Option mv_R := mv_lim 61 (fun pc => (bif Nat.blt pc 29 then (bif Nat.blt pc 14 then (bif Nat.blt pc 7 then (bif Nat.blt pc 3 then (bif Nat.blt pc 1 then (bif Nat.beq pc 0 then some (.iload_n 3, 1, 0, 0, 0) else none) else (bif Nat.beq pc 1 then some (.bipush 70, 3, 0, 70, 0) else none)) else (bif Nat.blt pc 4 then (bif Nat.beq pc 3 then some (.aload_n 0, 4, 0, 0, 0) else none) else (bif Nat.beq pc 4 then some (.getfield 27, 7, 0, 0, 0) else none))) else (bif Nat.blt pc 11 then (bif Nat.blt pc 8 then (bif Nat.beq pc 7 then some (.isub, 8, 0, 0, 0) else none) else (bif Nat.beq pc 8 then some (.if_icmp .le 6, 11, 14, 0, 0) else none)) else (bif Nat.blt pc 13 then (bif Nat.beq pc 11 then some (.bipush (-3), 13, 0, (-3), 0) else none) else (bif Nat.beq pc 13 then some (.ireturn, 14, 0, 0, 0) else none)))) else (bif Nat.blt pc 19 then (bif Nat.blt pc 16 then (bif Nat.blt pc 15 then (bif Nat.beq pc 14 then some (.iload_n 3, 15, 0, 0, 0) else none) else (bif Nat.beq pc 15 then some (.iconst 1, 16, 0, 1, 0) else none)) else (bif Nat.blt pc 17 then (bif Nat.beq pc 16 then some (.isub, 17, 0, 0, 0) else none) else (bif Nat.beq pc 17 then some (.istore 4, 19, 0, 0, 0) else none))) else (bif Nat.blt pc 24 then (bif Nat.blt pc 21 then (bif Nat.beq pc 19 then some (.iload 4, 21, 1, 0, 0) else none) else (bif Nat.beq pc 21 then some (.ifCond .lt 35, 24, 56, 0, 0) else none)) else (bif Nat.blt pc 25 then (bif Nat.beq pc 24 then some (.aload_n 0, 25, 0, 0, 0) else none) else (bif Nat.blt pc 28 then (bif Nat.beq pc 25 then some (.getfield 15, 28, 0, 0, 0) else none) else (bif Nat.beq pc 28 then some (.aload_n 0, 29, 0, 0, 0) else none)))))) else (bif Nat.blt pc 42 then (bif Nat.blt pc 38 then (bif Nat.blt pc 33 then (bif Nat.blt pc 32 then (bif Nat.beq pc 29 then some (.getfield 27, 32, 0, 0, 0) else none) else (bif Nat.beq pc 32 then some (.lload_n 1, 33, 0, 0, 0) else none)) else (bif Nat.blt pc 35 then (bif Nat.beq pc 33 then some (.iload 4, 35, 0, 0, 0) else none) else (bif Nat.beq pc 35 then some (.invokestatic 19, 38, 0, 0, 0) else none))) else (bif Nat.blt pc 40 then (bif Nat.blt pc 39 then (bif Nat.beq pc 38 then some (.i2b, 39, 0, 0, 0) else none) else (bif Nat.beq pc 39 then some (.bastore, 40, 0, 0, 0) else none)) else (bif Nat.blt pc 41 then (bif Nat.beq pc 40 then some (.aload_n 0, 41, 0, 0, 0) else none) else (bif Nat.beq pc 41 then some (.dup, 42, 0, 0, 0) else none)))) else (bif Nat.blt pc 50 then (bif Nat.blt pc 46 then (bif Nat.blt pc 45 then (bif Nat.beq pc 42 then some (.getfield 27, 45, 0, 0, 0) else none) else (bif Nat.beq pc 45 then some (.iconst 1, 46, 0, 1, 0) else none)) else (bif Nat.blt pc 47 then (bif Nat.beq pc 46 then some (.iadd, 47, 0, 0, 0) else none) else (bif Nat.beq pc 47 then some (.putfield 27, 50, 0, 0, 0) else none))) else (bif Nat.blt pc 56 then (bif Nat.blt pc 53 then (bif Nat.beq pc 50 then some (.iinc 4 (-1), 53, 0, (-1), 0) else none) else (bif Nat.beq pc 53 then some (.goto (-34), 56, 19, 0, 0) else none)) else (bif Nat.blt pc 57 then (bif Nat.beq pc 56 then some (.aload_n 0, 57, 0, 0, 0) else none) else (bif Nat.blt pc 60 then (bif Nat.beq pc 57 then some (.getfield 27, 60, 0, 0, 0) else none) else (bif Nat.beq pc 60 then some (.ireturn, 61, 0, 0, 0) else none))))))))
def tbX6_skipBlanks : Nat → Option mv_R := mv_lim 39 (fun pc => (bif Nat.blt pc 20 then (bif Nat.blt pc 11 then (bif Nat.blt pc 4 then (bif Nat.blt pc 1 then (bif Nat.beq pc 0 then some (.aload_n 0, 1, 1, 0, 0) else none) else (bif Nat.beq pc 1 then some (.getfield 37, 4, 0, 0, 0) else none)) else (bif Nat.blt pc 5 then (bif Nat.beq pc 4 then some (.aload_n 0, 5, 0, 0, 0) else none) else (bif Nat.blt pc 8 then (bif Nat.beq pc 5 then some (.getfield 27, 8, 0, 0, 0) else none) else (bif Nat.beq pc 8 then some (.if_icmp .ge 30, 11, 38, 0, 0) else none)))) else (bif Nat.blt pc 15 then (bif Nat.blt pc 12 then (bif Nat.beq pc 11 then some (.aload_n 0, 12, 0, 0, 0) else none) else (bif Nat.beq pc 12 then some (.getfield 15, 15, 0, 0, 0) else none)) else (bif Nat.blt pc 16 then (bif Nat.beq pc 15 then some (.aload_n 0, 16, 0, 0, 0) else none) else (bif Nat.blt pc 19 then (bif Nat.beq pc 16 then some (.getfield 37, 19, 0, 0, 0) else none) else (bif Nat.beq pc 19 then some (.baload, 20, 0, 0, 0) else none))))) else (bif Nat.blt pc 30 then (bif Nat.blt pc 25 then (bif Nat.blt pc 22 then (bif Nat.beq pc 20 then some (.bipush 32, 22, 0, 32, 0) else none) else (bif Nat.beq pc 22 then some (.if_icmp .ne 16, 25, 38, 0, 0) else none)) else (bif Nat.blt pc 26 then (bif Nat.beq pc 25 then some (.aload_n 0, 26, 0, 0, 0) else none) else (bif Nat.blt pc 27 then (bif Nat.beq pc 26 then some (.dup, 27, 0, 0, 0) else none) else (bif Nat.beq pc 27 then some (.getfield 37, 30, 0, 0, 0) else none)))) else (bif Nat.blt pc 32 then (bif Nat.blt pc 31 then (bif Nat.beq pc 30 then some (.iconst 1, 31, 0, 1, 0) else none) else (bif Nat.beq pc 31 then some (.iadd, 32, 0, 0, 0) else none)) else (bif Nat.blt pc 35 then (bif Nat.beq pc 32 then some (.putfield 37, 35, 0, 0, 0) else none) else (bif Nat.blt pc 38 then (bif Nat.beq pc 35 then some (.goto (-35), 38, 0, 0, 0) else none) else (bif Nat.beq pc 38 then some (.return_, 39, 0, 0, 0) else none)))))))
def tbX6_readNumber : Nat → Option mv_R := mv_lim 117 (fun pc => (bif Nat.blt pc 60 then (bif Nat.blt pc 28 then (bif Nat.blt pc 12 then (bif Nat.blt pc 5 then (bif Nat.blt pc 1 then (bif Nat.beq pc 0 then some (.aload_n 0, 1, 0, 0, 0) else none) else (bif Nat.blt pc 4 then (bif Nat.beq pc 1 then some (.invokevirtual 44, 4, 0, 0, 0) else none) else (bif Nat.beq pc 4 then some (.aload_n 0, 5, 0, 0, 0) else none))) else (bif Nat.blt pc 9 then (bif Nat.blt pc 8 then (bif Nat.beq pc 5 then some (.getfield 37, 8, 0, 0, 0) else none) else (bif Nat.beq pc 8 then some (.istore_n 3, 9, 0, 0, 0) else none)) else (bif Nat.blt pc 10 then (bif Nat.beq pc 9 then some (.iconst 0, 10, 0, 0, 0) else none) else (bif Nat.beq pc 10 then some (.istore 4, 12, 0, 0, 0) else none)))) else (bif Nat.blt pc 20 then (bif Nat.blt pc 16 then (bif Nat.blt pc 13 then (bif Nat.beq pc 12 then some (.aload_n 0, 13, 1, 0, 0) else none) else (bif Nat.beq pc 13 then some (.getfield 37, 16, 0, 0, 0) else none)) else (bif Nat.blt pc 17 then (bif Nat.beq pc 16 then some (.aload_n 0, 17, 0, 0, 0) else none) else (bif Nat.beq pc 17 then some (.getfield 27, 20, 0, 0, 0) else none))) else (bif Nat.blt pc 24 then (bif Nat.blt pc 23 then (bif Nat.beq pc 20 then some (.if_icmp .ge 69, 23, 89, 0, 0) else none) else (bif Nat.beq pc 23 then some (.aload_n 0, 24, 0, 0, 0) else none)) else (bif Nat.blt pc 27 then (bif Nat.beq pc 24 then some (.getfield 15, 27, 0, 0, 0) else none) else (bif Nat.beq pc 27 then some (.aload_n 0, 28, 0, 0, 0) else none))))) else (bif Nat.blt pc 45 then (bif Nat.blt pc 37 then (bif Nat.blt pc 32 then (bif Nat.blt pc 31 then (bif Nat.beq pc 28 then some (.getfield 37, 31, 0, 0, 0) else none) else (bif Nat.beq pc 31 then some (.baload, 32, 0, 0, 0) else none)) else (bif Nat.blt pc 34 then (bif Nat.beq pc 32 then some (.bipush 48, 34, 0, 48, 0) else none) else (bif Nat.beq pc 34 then some (.if_icmp .lt 55, 37, 89, 0, 0) else none))) else (bif Nat.blt pc 41 then (bif Nat.blt pc 38 then (bif Nat.beq pc 37 then some (.aload_n 0, 38, 0, 0, 0) else none) else (bif Nat.beq pc 38 then some (.getfield 15, 41, 0, 0, 0) else none)) else (bif Nat.blt pc 42 then (bif Nat.beq pc 41 then some (.aload_n 0, 42, 0, 0, 0) else none) else (bif Nat.beq pc 42 then some (.getfield 37, 45, 0, 0, 0) else none)))) else (bif Nat.blt pc 53 then (bif Nat.blt pc 48 then (bif Nat.blt pc 46 then (bif Nat.beq pc 45 then some (.baload, 46, 0, 0, 0) else none) else (bif Nat.beq pc 46 then some (.bipush 57, 48, 0, 57, 0) else none)) else (bif Nat.blt pc 51 then (bif Nat.beq pc 48 then some (.if_icmp .gt 41, 51, 89, 0, 0) else none) else (bif Nat.beq pc 51 then some (.iload 4, 53, 0, 0, 0) else none))) else (bif Nat.blt pc 56 then (bif Nat.blt pc 55 then (bif Nat.beq pc 53 then some (.bipush 10, 55, 0, 10, 0) else none) else (bif Nat.beq pc 55 then some (.imul, 56, 0, 0, 0) else none)) else (bif Nat.blt pc 57 then (bif Nat.beq pc 56 then some (.aload_n 0, 57, 0, 0, 0) else none) else (bif Nat.beq pc 57 then some (.getfield 15, 60, 0, 0, 0) else none)))))) else (bif Nat.blt pc 89 then (bif Nat.blt pc 74 then (bif Nat.blt pc 66 then (bif Nat.blt pc 64 then (bif Nat.blt pc 61 then (bif Nat.beq pc 60 then some (.aload_n 0, 61, 0, 0, 0) else none) else (bif Nat.beq pc 61 then some (.getfield 37, 64, 0, 0, 0) else none)) else (bif Nat.blt pc 65 then (bif Nat.beq pc 64 then some (.baload, 65, 0, 0, 0) else none) else (bif Nat.beq pc 65 then some (.iadd, 66, 0, 0, 0) else none))) else (bif Nat.blt pc 69 then (bif Nat.blt pc 68 then (bif Nat.beq pc 66 then some (.bipush 48, 68, 0, 48, 0) else none) else (bif Nat.beq pc 68 then some (.isub, 69, 0, 0, 0) else none)) else (bif Nat.blt pc 71 then (bif Nat.beq pc 69 then some (.ldc 55, 71, 0, 100000, 0) else none) else (bif Nat.beq pc 71 then some (.invokestatic 56, 74, 0, 0, 0) else none)))) else (bif Nat.blt pc 81 then (bif Nat.blt pc 77 then (bif Nat.blt pc 76 then (bif Nat.beq pc 74 then some (.istore 4, 76, 0, 0, 0) else none) else (bif Nat.beq pc 76 then some (.aload_n 0, 77, 0, 0, 0) else none)) else (bif Nat.blt pc 78 then (bif Nat.beq pc 77 then some (.dup, 78, 0, 0, 0) else none) else (bif Nat.beq pc 78 then some (.getfield 37, 81, 0, 0, 0) else none))) else (bif Nat.blt pc 83 then (bif Nat.blt pc 82 then (bif Nat.beq pc 81 then some (.iconst 1, 82, 0, 1, 0) else none) else (bif Nat.beq pc 82 then some (.iadd, 83, 0, 0, 0) else none)) else (bif Nat.blt pc 86 then (bif Nat.beq pc 83 then some (.putfield 37, 86, 0, 0, 0) else none) else (bif Nat.beq pc 86 then some (.goto (-74), 89, 12, 0, 0) else none))))) else (bif Nat.blt pc 104 then (bif Nat.blt pc 97 then (bif Nat.blt pc 93 then (bif Nat.blt pc 90 then (bif Nat.beq pc 89 then some (.aload_n 0, 90, 0, 0, 0) else none) else (bif Nat.beq pc 90 then some (.getfield 37, 93, 0, 0, 0) else none)) else (bif Nat.blt pc 94 then (bif Nat.beq pc 93 then some (.iload_n 3, 94, 0, 0, 0) else none) else (bif Nat.beq pc 94 then some (.if_icmp .eq 13, 97, 107, 0, 0) else none))) else (bif Nat.blt pc 100 then (bif Nat.blt pc 99 then (bif Nat.beq pc 97 then some (.iload 4, 99, 0, 0, 0) else none) else (bif Nat.beq pc 99 then some (.iload_n 1, 100, 0, 0, 0) else none)) else (bif Nat.blt pc 101 then (bif Nat.beq pc 100 then some (.iload_n 2, 101, 0, 0, 0) else none) else (bif Nat.beq pc 101 then some (.invokestatic 23, 104, 0, 0, 0) else none)))) else (bif Nat.blt pc 112 then (bif Nat.blt pc 108 then (bif Nat.blt pc 107 then (bif Nat.beq pc 104 then some (.ifCond .ne 10, 107, 114, 0, 0) else none) else (bif Nat.beq pc 107 then some (.aload_n 0, 108, 0, 0, 0) else none)) else (bif Nat.blt pc 109 then (bif Nat.beq pc 108 then some (.iload_n 3, 109, 0, 0, 0) else none) else (bif Nat.beq pc 109 then some (.putfield 37, 112, 0, 0, 0) else none))) else (bif Nat.blt pc 114 then (bif Nat.blt pc 113 then (bif Nat.beq pc 112 then some (.iconst (-1), 113, 0, (-1), 0) else none) else (bif Nat.beq pc 113 then some (.ireturn, 114, 0, 0, 0) else none)) else (bif Nat.blt pc 116 then (bif Nat.beq pc 114 then some (.iload 4, 116, 0, 0, 0) else none) else (bif Nat.beq pc 116 then some (.ireturn, 117, 0, 0, 0) else none))))))))
def tbX6_readSign : Nat → Option mv_R := mv_lim 42 (fun pc => (bif Nat.blt pc 24 then (bif Nat.blt pc 12 then (bif Nat.blt pc 5 then (bif Nat.blt pc 1 then (bif Nat.beq pc 0 then some (.aload_n 0, 1, 0, 0, 0) else none) else (bif Nat.blt pc 4 then (bif Nat.beq pc 1 then some (.invokevirtual 44, 4, 0, 0, 0) else none) else (bif Nat.beq pc 4 then some (.aload_n 0, 5, 0, 0, 0) else none))) else (bif Nat.blt pc 8 then (bif Nat.beq pc 5 then some (.getfield 37, 8, 0, 0, 0) else none) else (bif Nat.blt pc 9 then (bif Nat.beq pc 8 then some (.aload_n 0, 9, 0, 0, 0) else none) else (bif Nat.beq pc 9 then some (.getfield 27, 12, 0, 0, 0) else none)))) else (bif Nat.blt pc 19 then (bif Nat.blt pc 15 then (bif Nat.beq pc 12 then some (.if_icmp .ge 16, 15, 28, 0, 0) else none) else (bif Nat.blt pc 16 then (bif Nat.beq pc 15 then some (.aload_n 0, 16, 0, 0, 0) else none) else (bif Nat.beq pc 16 then some (.getfield 15, 19, 0, 0, 0) else none))) else (bif Nat.blt pc 20 then (bif Nat.beq pc 19 then some (.aload_n 0, 20, 0, 0, 0) else none) else (bif Nat.blt pc 23 then (bif Nat.beq pc 20 then some (.getfield 37, 23, 0, 0, 0) else none) else (bif Nat.beq pc 23 then some (.baload, 24, 0, 0, 0) else none))))) else (bif Nat.blt pc 32 then (bif Nat.blt pc 29 then (bif Nat.blt pc 25 then (bif Nat.beq pc 24 then some (.iload_n 1, 25, 0, 0, 0) else none) else (bif Nat.blt pc 28 then (bif Nat.beq pc 25 then some (.if_icmp .eq 5, 28, 30, 0, 0) else none) else (bif Nat.beq pc 28 then some (.iconst 0, 29, 0, 0, 0) else none))) else (bif Nat.blt pc 30 then (bif Nat.beq pc 29 then some (.ireturn, 30, 0, 0, 0) else none) else (bif Nat.blt pc 31 then (bif Nat.beq pc 30 then some (.aload_n 0, 31, 0, 0, 0) else none) else (bif Nat.beq pc 31 then some (.dup, 32, 0, 0, 0) else none)))) else (bif Nat.blt pc 37 then (bif Nat.blt pc 35 then (bif Nat.beq pc 32 then some (.getfield 37, 35, 0, 0, 0) else none) else (bif Nat.blt pc 36 then (bif Nat.beq pc 35 then some (.iconst 1, 36, 0, 1, 0) else none) else (bif Nat.beq pc 36 then some (.iadd, 37, 0, 0, 0) else none))) else (bif Nat.blt pc 40 then (bif Nat.beq pc 37 then some (.putfield 37, 40, 0, 0, 0) else none) else (bif Nat.blt pc 41 then (bif Nat.beq pc 40 then some (.iconst 1, 41, 0, 1, 0) else none) else (bif Nat.beq pc 41 then some (.ireturn, 42, 0, 0, 0) else none)))))))
def tbX6_readPair : Nat → Option mv_R := mv_lim 48 (fun pc => (bif Nat.blt pc 24 then (bif Nat.blt pc 9 then (bif Nat.blt pc 3 then (bif Nat.blt pc 1 then (bif Nat.beq pc 0 then some (.aload_n 0, 1, 0, 0, 0) else none) else (bif Nat.blt pc 2 then (bif Nat.beq pc 1 then some (.iconst 0, 2, 0, 0, 0) else none) else (bif Nat.beq pc 2 then some (.iload_n 1, 3, 0, 0, 0) else none))) else (bif Nat.blt pc 5 then (bif Nat.blt pc 4 then (bif Nat.beq pc 3 then some (.iconst 1, 4, 0, 1, 0) else none) else (bif Nat.beq pc 4 then some (.isub, 5, 0, 0, 0) else none)) else (bif Nat.blt pc 8 then (bif Nat.beq pc 5 then some (.invokevirtual 51, 8, 0, 0, 0) else none) else (bif Nat.beq pc 8 then some (.istore_n 2, 9, 0, 0, 0) else none)))) else (bif Nat.blt pc 16 then (bif Nat.blt pc 13 then (bif Nat.blt pc 10 then (bif Nat.beq pc 9 then some (.iload_n 2, 10, 0, 0, 0) else none) else (bif Nat.beq pc 10 then some (.ifCond .lt 12, 13, 22, 0, 0) else none)) else (bif Nat.blt pc 14 then (bif Nat.beq pc 13 then some (.aload_n 0, 14, 0, 0, 0) else none) else (bif Nat.beq pc 14 then some (.bipush 58, 16, 0, 58, 0) else none))) else (bif Nat.blt pc 22 then (bif Nat.blt pc 19 then (bif Nat.beq pc 16 then some (.invokevirtual 47, 19, 0, 0, 0) else none) else (bif Nat.beq pc 19 then some (.ifCond .ne 5, 22, 24, 0, 0) else none)) else (bif Nat.blt pc 23 then (bif Nat.beq pc 22 then some (.iconst 0, 23, 0, 0, 0) else none) else (bif Nat.beq pc 23 then some (.ireturn, 24, 0, 0, 0) else none))))) else (bif Nat.blt pc 38 then (bif Nat.blt pc 32 then (bif Nat.blt pc 26 then (bif Nat.blt pc 25 then (bif Nat.beq pc 24 then some (.aload_n 0, 25, 0, 0, 0) else none) else (bif Nat.beq pc 25 then some (.iconst 1, 26, 0, 1, 0) else none)) else (bif Nat.blt pc 29 then (bif Nat.beq pc 26 then some (.sipush 1000, 29, 0, 1000, 0) else none) else (bif Nat.beq pc 29 then some (.invokevirtual 51, 32, 0, 0, 0) else none))) else (bif Nat.blt pc 34 then (bif Nat.blt pc 33 then (bif Nat.beq pc 32 then some (.istore_n 3, 33, 0, 0, 0) else none) else (bif Nat.beq pc 33 then some (.iload_n 3, 34, 0, 0, 0) else none)) else (bif Nat.blt pc 37 then (bif Nat.beq pc 34 then some (.ifCond .ge 5, 37, 39, 0, 0) else none) else (bif Nat.beq pc 37 then some (.iconst 0, 38, 0, 0, 0) else none)))) else (bif Nat.blt pc 44 then (bif Nat.blt pc 40 then (bif Nat.blt pc 39 then (bif Nat.beq pc 38 then some (.ireturn, 39, 0, 0, 0) else none) else (bif Nat.beq pc 39 then some (.aload_n 0, 40, 0, 0, 0) else none)) else (bif Nat.blt pc 43 then (bif Nat.beq pc 40 then some (.getfield 9, 43, 0, 0, 0) else none) else (bif Nat.beq pc 43 then some (.iload_n 2, 44, 0, 0, 0) else none))) else (bif Nat.blt pc 46 then (bif Nat.blt pc 45 then (bif Nat.beq pc 44 then some (.iload_n 3, 45, 0, 0, 0) else none) else (bif Nat.beq pc 45 then some (.iastore, 46, 0, 0, 0) else none)) else (bif Nat.blt pc 47 then (bif Nat.beq pc 46 then some (.iconst 1, 47, 0, 1, 0) else none) else (bif Nat.beq pc 47 then some (.ireturn, 48, 0, 0, 0) else none)))))))
def tbX6_readPairs : Nat → Option mv_R := mv_lim 81 (fun pc => (bif Nat.blt pc 37 then (bif Nat.blt pc 16 then (bif Nat.blt pc 9 then (bif Nat.blt pc 4 then (bif Nat.blt pc 1 then (bif Nat.beq pc 0 then some (.aload_n 0, 1, 0, 0, 0) else none) else (bif Nat.beq pc 1 then some (.getfield 9, 4, 0, 0, 0) else none)) else (bif Nat.blt pc 5 then (bif Nat.beq pc 4 then some (.iconst 0, 5, 0, 0, 0) else none) else (bif Nat.blt pc 8 then (bif Nat.beq pc 5 then some (.invokestatic 31, 8, 0, 0, 0) else none) else (bif Nat.beq pc 8 then some (.aload_n 0, 9, 0, 0, 0) else none)))) else (bif Nat.blt pc 13 then (bif Nat.blt pc 10 then (bif Nat.beq pc 9 then some (.iconst 0, 10, 0, 0, 0) else none) else (bif Nat.beq pc 10 then some (.putfield 37, 13, 0, 0, 0) else none)) else (bif Nat.blt pc 14 then (bif Nat.beq pc 13 then some (.iconst 1, 14, 0, 1, 0) else none) else (bif Nat.blt pc 15 then (bif Nat.beq pc 14 then some (.istore_n 2, 15, 0, 0, 0) else none) else (bif Nat.beq pc 15 then some (.iload_n 2, 16, 1, 0, 0) else none))))) else (bif Nat.blt pc 26 then (bif Nat.blt pc 21 then (bif Nat.blt pc 18 then (bif Nat.beq pc 16 then some (.bipush 8, 18, 0, 8, 0) else none) else (bif Nat.beq pc 18 then some (.if_icmp .gt 55, 21, 73, 0, 0) else none)) else (bif Nat.blt pc 22 then (bif Nat.beq pc 21 then some (.aload_n 0, 22, 0, 0, 0) else none) else (bif Nat.blt pc 23 then (bif Nat.beq pc 22 then some (.iload_n 1, 23, 0, 0, 0) else none) else (bif Nat.beq pc 23 then some (.invokevirtual 40, 26, 0, 0, 0) else none)))) else (bif Nat.blt pc 32 then (bif Nat.blt pc 29 then (bif Nat.beq pc 26 then some (.ifCond .ne 6, 29, 32, 0, 0) else none) else (bif Nat.beq pc 29 then some (.goto 44, 32, 73, 0, 0) else none)) else (bif Nat.blt pc 33 then (bif Nat.beq pc 32 then some (.aload_n 0, 33, 0, 0, 0) else none) else (bif Nat.blt pc 36 then (bif Nat.beq pc 33 then some (.invokevirtual 44, 36, 0, 0, 0) else none) else (bif Nat.beq pc 36 then some (.aload_n 0, 37, 0, 0, 0) else none)))))) else (bif Nat.blt pc 56 then (bif Nat.blt pc 48 then (bif Nat.blt pc 41 then (bif Nat.blt pc 40 then (bif Nat.beq pc 37 then some (.getfield 37, 40, 0, 0, 0) else none) else (bif Nat.beq pc 40 then some (.aload_n 0, 41, 0, 0, 0) else none)) else (bif Nat.blt pc 44 then (bif Nat.beq pc 41 then some (.getfield 27, 44, 0, 0, 0) else none) else (bif Nat.blt pc 47 then (bif Nat.beq pc 44 then some (.if_icmp .lt 5, 47, 49, 0, 0) else none) else (bif Nat.beq pc 47 then some (.iload_n 2, 48, 0, 0, 0) else none)))) else (bif Nat.blt pc 50 then (bif Nat.blt pc 49 then (bif Nat.beq pc 48 then some (.ireturn, 49, 0, 0, 0) else none) else (bif Nat.beq pc 49 then some (.iload_n 2, 50, 0, 0, 0) else none)) else (bif Nat.blt pc 52 then (bif Nat.beq pc 50 then some (.bipush 8, 52, 0, 8, 0) else none) else (bif Nat.blt pc 55 then (bif Nat.beq pc 52 then some (.if_icmp .eq 21, 55, 73, 0, 0) else none) else (bif Nat.beq pc 55 then some (.aload_n 0, 56, 0, 0, 0) else none))))) else (bif Nat.blt pc 70 then (bif Nat.blt pc 61 then (bif Nat.blt pc 58 then (bif Nat.beq pc 56 then some (.bipush 44, 58, 0, 44, 0) else none) else (bif Nat.beq pc 58 then some (.invokevirtual 47, 61, 0, 0, 0) else none)) else (bif Nat.blt pc 64 then (bif Nat.beq pc 61 then some (.ifCond .ne 6, 64, 67, 0, 0) else none) else (bif Nat.blt pc 67 then (bif Nat.beq pc 64 then some (.goto 9, 67, 73, 0, 0) else none) else (bif Nat.beq pc 67 then some (.iinc 2 1, 70, 0, 1, 0) else none)))) else (bif Nat.blt pc 76 then (bif Nat.blt pc 73 then (bif Nat.beq pc 70 then some (.goto (-55), 73, 15, 0, 0) else none) else (bif Nat.blt pc 75 then (bif Nat.beq pc 73 then some (.bipush (-20), 75, 0, (-20), 0) else none) else (bif Nat.beq pc 75 then some (.aload_n 0, 76, 0, 0, 0) else none))) else (bif Nat.blt pc 79 then (bif Nat.beq pc 76 then some (.getfield 37, 79, 0, 0, 0) else none) else (bif Nat.blt pc 80 then (bif Nat.beq pc 79 then some (.isub, 80, 0, 0, 0) else none) else (bif Nat.beq pc 80 then some (.ireturn, 81, 0, 0, 0) else none))))))))
def tbX7_works : Nat → Option mv_R := mv_lim 22 (fun pc => (bif Nat.blt pc 12 then (bif Nat.blt pc 5 then (bif Nat.blt pc 1 then (bif Nat.beq pc 0 then some (.iload_n 1, 1, 0, 0, 0) else none) else (bif Nat.blt pc 2 then (bif Nat.beq pc 1 then some (.iconst 1, 2, 0, 1, 0) else none) else (bif Nat.beq pc 2 then some (.sipush 1000, 5, 0, 1000, 0) else none))) else (bif Nat.blt pc 8 then (bif Nat.beq pc 5 then some (.invokestatic 58, 8, 0, 0, 0) else none) else (bif Nat.blt pc 11 then (bif Nat.beq pc 8 then some (.ifCond .ne 5, 11, 13, 0, 0) else none) else (bif Nat.beq pc 11 then some (.iconst (-1), 12, 0, (-1), 0) else none)))) else (bif Nat.blt pc 17 then (bif Nat.blt pc 13 then (bif Nat.beq pc 12 then some (.ireturn, 13, 0, 0, 0) else none) else (bif Nat.blt pc 14 then (bif Nat.beq pc 13 then some (.aload_n 0, 14, 0, 0, 0) else none) else (bif Nat.beq pc 14 then some (.getfield 10, 17, 0, 0, 0) else none))) else (bif Nat.blt pc 18 then (bif Nat.beq pc 17 then some (.iload_n 1, 18, 0, 0, 0) else none) else (bif Nat.blt pc 21 then (bif Nat.beq pc 18 then some (.invokevirtual 62, 21, 0, 0, 0) else none) else (bif Nat.beq pc 21 then some (.ireturn, 22, 0, 0, 0) else none))))))
def tbX7_weeks : Nat → Option mv_R := mv_lim 32 (fun pc => (bif Nat.blt pc 16 then (bif Nat.blt pc 5 then (bif Nat.blt pc 2 then (bif Nat.blt pc 1 then (bif Nat.beq pc 0 then some (.iload_n 1, 1, 0, 0, 0) else none) else (bif Nat.beq pc 1 then some (.iconst 0, 2, 0, 0, 0) else none)) else (bif Nat.blt pc 4 then (bif Nat.beq pc 2 then some (.bipush 51, 4, 0, 51, 0) else none) else (bif Nat.beq pc 4 then some (.aload_n 0, 5, 0, 0, 0) else none))) else (bif Nat.blt pc 9 then (bif Nat.blt pc 8 then (bif Nat.beq pc 5 then some (.getfield 66, 8, 0, 0, 0) else none) else (bif Nat.beq pc 8 then some (.isub, 9, 0, 0, 0) else none)) else (bif Nat.blt pc 12 then (bif Nat.beq pc 9 then some (.invokestatic 58, 12, 0, 0, 0) else none) else (bif Nat.blt pc 15 then (bif Nat.beq pc 12 then some (.ifCond .ne 5, 15, 17, 0, 0) else none) else (bif Nat.beq pc 15 then some (.iconst (-1), 16, 0, (-1), 0) else none))))) else (bif Nat.blt pc 23 then (bif Nat.blt pc 18 then (bif Nat.blt pc 17 then (bif Nat.beq pc 16 then some (.ireturn, 17, 0, 0, 0) else none) else (bif Nat.beq pc 17 then some (.aload_n 0, 18, 0, 0, 0) else none)) else (bif Nat.blt pc 19 then (bif Nat.beq pc 18 then some (.dup, 19, 0, 0, 0) else none) else (bif Nat.blt pc 22 then (bif Nat.beq pc 19 then some (.getfield 66, 22, 0, 0, 0) else none) else (bif Nat.beq pc 22 then some (.iload_n 1, 23, 0, 0, 0) else none)))) else (bif Nat.blt pc 27 then (bif Nat.blt pc 24 then (bif Nat.beq pc 23 then some (.iadd, 24, 0, 0, 0) else none) else (bif Nat.beq pc 24 then some (.putfield 66, 27, 0, 0, 0) else none)) else (bif Nat.blt pc 28 then (bif Nat.beq pc 27 then some (.aload_n 0, 28, 0, 0, 0) else none) else (bif Nat.blt pc 31 then (bif Nat.beq pc 28 then some (.getfield 66, 31, 0, 0, 0) else none) else (bif Nat.beq pc 31 then some (.ireturn, 32, 0, 0, 0) else none)))))))
def tbX7_lot : Nat → Option mv_R := mv_lim 50 (fun pc => (bif Nat.blt pc 27 then (bif Nat.blt pc 12 then (bif Nat.blt pc 5 then (bif Nat.blt pc 1 then (bif Nat.beq pc 0 then some (.aload_n 0, 1, 0, 0, 0) else none) else (bif Nat.blt pc 4 then (bif Nat.beq pc 1 then some (.getfield 10, 4, 0, 0, 0) else none) else (bif Nat.beq pc 4 then some (.iload_n 1, 5, 0, 0, 0) else none))) else (bif Nat.blt pc 8 then (bif Nat.beq pc 5 then some (.invokevirtual 70, 8, 0, 0, 0) else none) else (bif Nat.blt pc 11 then (bif Nat.beq pc 8 then some (.ifCond .eq 25, 11, 33, 0, 0) else none) else (bif Nat.beq pc 11 then some (.iload_n 2, 12, 0, 0, 0) else none)))) else (bif Nat.blt pc 19 then (bif Nat.blt pc 13 then (bif Nat.beq pc 12 then some (.iconst 0, 13, 0, 0, 0) else none) else (bif Nat.blt pc 16 then (bif Nat.beq pc 13 then some (.sipush 1000, 16, 0, 1000, 0) else none) else (bif Nat.beq pc 16 then some (.invokestatic 58, 19, 0, 0, 0) else none))) else (bif Nat.blt pc 23 then (bif Nat.blt pc 22 then (bif Nat.beq pc 19 then some (.ifCond .eq 14, 22, 33, 0, 0) else none) else (bif Nat.beq pc 22 then some (.iload_n 3, 23, 0, 0, 0) else none)) else (bif Nat.blt pc 24 then (bif Nat.beq pc 23 then some (.iconst 1, 24, 0, 1, 0) else none) else (bif Nat.beq pc 24 then some (.sipush 10000, 27, 0, 10000, 0) else none))))) else (bif Nat.blt pc 39 then (bif Nat.blt pc 34 then (bif Nat.blt pc 30 then (bif Nat.beq pc 27 then some (.invokestatic 58, 30, 0, 0, 0) else none) else (bif Nat.blt pc 33 then (bif Nat.beq pc 30 then some (.ifCond .ne 5, 33, 35, 0, 0) else none) else (bif Nat.beq pc 33 then some (.iconst (-1), 34, 0, (-1), 0) else none))) else (bif Nat.blt pc 35 then (bif Nat.beq pc 34 then some (.ireturn, 35, 0, 0, 0) else none) else (bif Nat.blt pc 36 then (bif Nat.beq pc 35 then some (.aload_n 0, 36, 0, 0, 0) else none) else (bif Nat.beq pc 36 then some (.getfield 26, 39, 0, 0, 0) else none)))) else (bif Nat.blt pc 42 then (bif Nat.blt pc 40 then (bif Nat.beq pc 39 then some (.iload_n 1, 40, 0, 0, 0) else none) else (bif Nat.blt pc 41 then (bif Nat.beq pc 40 then some (.iload_n 2, 41, 0, 0, 0) else none) else (bif Nat.beq pc 41 then some (.iload_n 3, 42, 0, 0, 0) else none))) else (bif Nat.blt pc 46 then (bif Nat.blt pc 43 then (bif Nat.beq pc 42 then some (.aload_n 0, 43, 0, 0, 0) else none) else (bif Nat.beq pc 43 then some (.getfield 66, 46, 0, 0, 0) else none)) else (bif Nat.blt pc 49 then (bif Nat.beq pc 46 then some (.invokevirtual 74, 49, 0, 0, 0) else none) else (bif Nat.beq pc 49 then some (.ireturn, 50, 0, 0, 0) else none)))))))
def tbX7_rail : Nat → Option mv_R := mv_lim 53 (fun pc => (bif Nat.blt pc 27 then (bif Nat.blt pc 13 then (bif Nat.blt pc 5 then (bif Nat.blt pc 1 then (bif Nat.beq pc 0 then some (.aload_n 0, 1, 0, 0, 0) else none) else (bif Nat.blt pc 4 then (bif Nat.beq pc 1 then some (.getfield 26, 4, 0, 0, 0) else none) else (bif Nat.beq pc 4 then some (.iload_n 1, 5, 0, 0, 0) else none))) else (bif Nat.blt pc 11 then (bif Nat.blt pc 8 then (bif Nat.beq pc 5 then some (.invokevirtual 78, 8, 0, 0, 0) else none) else (bif Nat.beq pc 8 then some (.ifCond .eq 8, 11, 16, 0, 0) else none)) else (bif Nat.blt pc 12 then (bif Nat.beq pc 11 then some (.iload_n 2, 12, 0, 0, 0) else none) else (bif Nat.beq pc 12 then some (.iconst 1, 13, 0, 1, 0) else none)))) else (bif Nat.blt pc 19 then (bif Nat.blt pc 17 then (bif Nat.blt pc 16 then (bif Nat.beq pc 13 then some (.if_icmp .ge 5, 16, 18, 0, 0) else none) else (bif Nat.beq pc 16 then some (.iconst (-1), 17, 0, (-1), 0) else none)) else (bif Nat.blt pc 18 then (bif Nat.beq pc 17 then some (.ireturn, 18, 0, 0, 0) else none) else (bif Nat.beq pc 18 then some (.iload_n 2, 19, 0, 0, 0) else none))) else (bif Nat.blt pc 23 then (bif Nat.blt pc 20 then (bif Nat.beq pc 19 then some (.aload_n 0, 20, 0, 0, 0) else none) else (bif Nat.beq pc 20 then some (.getfield 26, 23, 0, 0, 0) else none)) else (bif Nat.blt pc 26 then (bif Nat.beq pc 23 then some (.getfield 81, 26, 0, 0, 0) else none) else (bif Nat.beq pc 26 then some (.iload_n 1, 27, 0, 0, 0) else none))))) else (bif Nat.blt pc 39 then (bif Nat.blt pc 33 then (bif Nat.blt pc 28 then (bif Nat.beq pc 27 then some (.iaload, 28, 0, 0, 0) else none) else (bif Nat.blt pc 31 then (bif Nat.beq pc 28 then some (.if_icmp .le 6, 31, 34, 0, 0) else none) else (bif Nat.beq pc 31 then some (.bipush (-2), 33, 0, (-2), 0) else none))) else (bif Nat.blt pc 35 then (bif Nat.blt pc 34 then (bif Nat.beq pc 33 then some (.ireturn, 34, 0, 0, 0) else none) else (bif Nat.beq pc 34 then some (.aload_n 0, 35, 0, 0, 0) else none)) else (bif Nat.blt pc 38 then (bif Nat.beq pc 35 then some (.getfield 26, 38, 0, 0, 0) else none) else (bif Nat.beq pc 38 then some (.iload_n 1, 39, 0, 0, 0) else none)))) else (bif Nat.blt pc 47 then (bif Nat.blt pc 43 then (bif Nat.blt pc 40 then (bif Nat.beq pc 39 then some (.iload_n 2, 40, 0, 0, 0) else none) else (bif Nat.beq pc 40 then some (.invokevirtual 85, 43, 0, 0, 0) else none)) else (bif Nat.blt pc 44 then (bif Nat.beq pc 43 then some (.aload_n 0, 44, 0, 0, 0) else none) else (bif Nat.beq pc 44 then some (.getfield 26, 47, 0, 0, 0) else none))) else (bif Nat.blt pc 51 then (bif Nat.blt pc 50 then (bif Nat.beq pc 47 then some (.getfield 81, 50, 0, 0, 0) else none) else (bif Nat.beq pc 50 then some (.iload_n 1, 51, 0, 0, 0) else none)) else (bif Nat.blt pc 52 then (bif Nat.beq pc 51 then some (.iaload, 52, 0, 0, 0) else none) else (bif Nat.beq pc 52 then some (.ireturn, 53, 0, 0, 0) else none)))))))
def tbX7_told : Nat → Option mv_R := mv_lim 114 (fun pc => (bif Nat.blt pc 76 then (bif Nat.blt pc 56 then (bif Nat.blt pc 11 then (bif Nat.blt pc 4 then (bif Nat.blt pc 1 then (bif Nat.beq pc 0 then some (.aload_n 0, 1, 0, 0, 0) else none) else (bif Nat.beq pc 1 then some (.getfield 26, 4, 0, 0, 0) else none)) else (bif Nat.blt pc 5 then (bif Nat.beq pc 4 then some (.iload_n 1, 5, 0, 0, 0) else none) else (bif Nat.blt pc 8 then (bif Nat.beq pc 5 then some (.invokevirtual 78, 8, 0, 0, 0) else none) else (bif Nat.beq pc 8 then some (.ifCond .ne 5, 11, 13, 0, 0) else none)))) else (bif Nat.blt pc 14 then (bif Nat.blt pc 12 then (bif Nat.beq pc 11 then some (.iconst (-1), 12, 0, (-1), 0) else none) else (bif Nat.blt pc 13 then (bif Nat.beq pc 12 then some (.ireturn, 13, 0, 0, 0) else none) else (bif Nat.beq pc 13 then some (.iload_n 2, 14, 0, 0, 0) else none))) else (bif Nat.blt pc 52 then (bif Nat.beq pc 14 then some (.tableswitch 98 0 5 #[38, 48, 58, 68, 78, 88], 52, 112, 0, 0) else none) else (bif Nat.blt pc 53 then (bif Nat.beq pc 52 then some (.aload_n 0, 53, 0, 0, 0) else none) else (bif Nat.beq pc 53 then some (.getfield 26, 56, 0, 0, 0) else none))))) else (bif Nat.blt pc 66 then (bif Nat.blt pc 61 then (bif Nat.blt pc 59 then (bif Nat.beq pc 56 then some (.getfield 89, 59, 0, 0, 0) else none) else (bif Nat.blt pc 60 then (bif Nat.beq pc 59 then some (.iload_n 1, 60, 0, 0, 0) else none) else (bif Nat.beq pc 60 then some (.iaload, 61, 0, 0, 0) else none))) else (bif Nat.blt pc 62 then (bif Nat.beq pc 61 then some (.ireturn, 62, 0, 0, 0) else none) else (bif Nat.blt pc 63 then (bif Nat.beq pc 62 then some (.aload_n 0, 63, 0, 0, 0) else none) else (bif Nat.beq pc 63 then some (.getfield 26, 66, 0, 0, 0) else none)))) else (bif Nat.blt pc 71 then (bif Nat.blt pc 69 then (bif Nat.beq pc 66 then some (.getfield 92, 69, 0, 0, 0) else none) else (bif Nat.blt pc 70 then (bif Nat.beq pc 69 then some (.iload_n 1, 70, 0, 0, 0) else none) else (bif Nat.beq pc 70 then some (.iaload, 71, 0, 0, 0) else none))) else (bif Nat.blt pc 72 then (bif Nat.beq pc 71 then some (.ireturn, 72, 0, 0, 0) else none) else (bif Nat.blt pc 73 then (bif Nat.beq pc 72 then some (.aload_n 0, 73, 0, 0, 0) else none) else (bif Nat.beq pc 73 then some (.getfield 26, 76, 0, 0, 0) else none)))))) else (bif Nat.blt pc 96 then (bif Nat.blt pc 86 then (bif Nat.blt pc 81 then (bif Nat.blt pc 79 then (bif Nat.beq pc 76 then some (.getfield 81, 79, 0, 0, 0) else none) else (bif Nat.blt pc 80 then (bif Nat.beq pc 79 then some (.iload_n 1, 80, 0, 0, 0) else none) else (bif Nat.beq pc 80 then some (.iaload, 81, 0, 0, 0) else none))) else (bif Nat.blt pc 82 then (bif Nat.beq pc 81 then some (.ireturn, 82, 0, 0, 0) else none) else (bif Nat.blt pc 83 then (bif Nat.beq pc 82 then some (.aload_n 0, 83, 0, 0, 0) else none) else (bif Nat.beq pc 83 then some (.getfield 26, 86, 0, 0, 0) else none)))) else (bif Nat.blt pc 91 then (bif Nat.blt pc 89 then (bif Nat.beq pc 86 then some (.getfield 95, 89, 0, 0, 0) else none) else (bif Nat.blt pc 90 then (bif Nat.beq pc 89 then some (.iload_n 1, 90, 0, 0, 0) else none) else (bif Nat.beq pc 90 then some (.iaload, 91, 0, 0, 0) else none))) else (bif Nat.blt pc 92 then (bif Nat.beq pc 91 then some (.ireturn, 92, 0, 0, 0) else none) else (bif Nat.blt pc 93 then (bif Nat.beq pc 92 then some (.aload_n 0, 93, 0, 0, 0) else none) else (bif Nat.beq pc 93 then some (.getfield 26, 96, 0, 0, 0) else none))))) else (bif Nat.blt pc 106 then (bif Nat.blt pc 101 then (bif Nat.blt pc 99 then (bif Nat.beq pc 96 then some (.getfield 98, 99, 0, 0, 0) else none) else (bif Nat.blt pc 100 then (bif Nat.beq pc 99 then some (.iload_n 1, 100, 0, 0, 0) else none) else (bif Nat.beq pc 100 then some (.iaload, 101, 0, 0, 0) else none))) else (bif Nat.blt pc 102 then (bif Nat.beq pc 101 then some (.ireturn, 102, 0, 0, 0) else none) else (bif Nat.blt pc 103 then (bif Nat.beq pc 102 then some (.aload_n 0, 103, 0, 0, 0) else none) else (bif Nat.beq pc 103 then some (.getfield 26, 106, 0, 0, 0) else none)))) else (bif Nat.blt pc 111 then (bif Nat.blt pc 109 then (bif Nat.beq pc 106 then some (.getfield 101, 109, 0, 0, 0) else none) else (bif Nat.blt pc 110 then (bif Nat.beq pc 109 then some (.iload_n 1, 110, 0, 0, 0) else none) else (bif Nat.beq pc 110 then some (.iaload, 111, 0, 0, 0) else none))) else (bif Nat.blt pc 112 then (bif Nat.beq pc 111 then some (.ireturn, 112, 0, 0, 0) else none) else (bif Nat.blt pc 113 then (bif Nat.beq pc 112 then some (.iconst (-1), 113, 0, (-1), 0) else none) else (bif Nat.beq pc 113 then some (.ireturn, 114, 0, 0, 0) else none))))))))
def tbX7_total : Nat → Option mv_R := mv_lim 30 (fun pc => (bif Nat.blt pc 13 then (bif Nat.blt pc 7 then (bif Nat.blt pc 2 then (bif Nat.blt pc 1 then (bif Nat.beq pc 0 then some (.iload_n 1, 1, 0, 0, 0) else none) else (bif Nat.beq pc 1 then some (.iconst 0, 2, 0, 0, 0) else none)) else (bif Nat.blt pc 4 then (bif Nat.beq pc 2 then some (.ldc 104, 4, 0, 1000000, 0) else none) else (bif Nat.beq pc 4 then some (.invokestatic 58, 7, 0, 0, 0) else none))) else (bif Nat.blt pc 11 then (bif Nat.blt pc 10 then (bif Nat.beq pc 7 then some (.ifCond .ne 5, 10, 12, 0, 0) else none) else (bif Nat.beq pc 10 then some (.iconst (-1), 11, 0, (-1), 0) else none)) else (bif Nat.blt pc 12 then (bif Nat.beq pc 11 then some (.ireturn, 12, 0, 0, 0) else none) else (bif Nat.beq pc 12 then some (.aload_n 0, 13, 0, 0, 0) else none)))) else (bif Nat.blt pc 21 then (bif Nat.blt pc 19 then (bif Nat.blt pc 16 then (bif Nat.beq pc 13 then some (.getfield 10, 16, 0, 0, 0) else none) else (bif Nat.beq pc 16 then some (.getfield 105, 19, 0, 0, 0) else none)) else (bif Nat.blt pc 20 then (bif Nat.beq pc 19 then some (.istore_n 2, 20, 0, 0, 0) else none) else (bif Nat.beq pc 20 then some (.aload_n 0, 21, 0, 0, 0) else none))) else (bif Nat.blt pc 25 then (bif Nat.blt pc 24 then (bif Nat.beq pc 21 then some (.getfield 10, 24, 0, 0, 0) else none) else (bif Nat.beq pc 24 then some (.iload_n 1, 25, 0, 0, 0) else none)) else (bif Nat.blt pc 28 then (bif Nat.beq pc 25 then some (.putfield 105, 28, 0, 0, 0) else none) else (bif Nat.blt pc 29 then (bif Nat.beq pc 28 then some (.iload_n 2, 29, 0, 0, 0) else none) else (bif Nat.beq pc 29 then some (.ireturn, 30, 0, 0, 0) else none)))))))
def tbX7_lend : Nat → Option mv_R := mv_lim 74 (fun pc => (bif Nat.blt pc 39 then (bif Nat.blt pc 22 then (bif Nat.blt pc 11 then (bif Nat.blt pc 4 then (bif Nat.blt pc 1 then (bif Nat.beq pc 0 then some (.aload_n 0, 1, 0, 0, 0) else none) else (bif Nat.beq pc 1 then some (.getfield 10, 4, 0, 0, 0) else none)) else (bif Nat.blt pc 5 then (bif Nat.beq pc 4 then some (.iload_n 1, 5, 0, 0, 0) else none) else (bif Nat.blt pc 8 then (bif Nat.beq pc 5 then some (.invokevirtual 70, 8, 0, 0, 0) else none) else (bif Nat.beq pc 8 then some (.ifCond .eq 29, 11, 37, 0, 0) else none)))) else (bif Nat.blt pc 15 then (bif Nat.blt pc 12 then (bif Nat.beq pc 11 then some (.aload_n 0, 12, 0, 0, 0) else none) else (bif Nat.beq pc 12 then some (.getfield 10, 15, 0, 0, 0) else none)) else (bif Nat.blt pc 16 then (bif Nat.beq pc 15 then some (.iload_n 2, 16, 0, 0, 0) else none) else (bif Nat.blt pc 19 then (bif Nat.beq pc 16 then some (.invokevirtual 70, 19, 0, 0, 0) else none) else (bif Nat.beq pc 19 then some (.ifCond .eq 18, 22, 37, 0, 0) else none))))) else (bif Nat.blt pc 29 then (bif Nat.blt pc 24 then (bif Nat.blt pc 23 then (bif Nat.beq pc 22 then some (.iload_n 1, 23, 0, 0, 0) else none) else (bif Nat.beq pc 23 then some (.iload_n 2, 24, 0, 0, 0) else none)) else (bif Nat.blt pc 27 then (bif Nat.beq pc 24 then some (.if_icmp .eq 13, 27, 37, 0, 0) else none) else (bif Nat.blt pc 28 then (bif Nat.beq pc 27 then some (.iload_n 3, 28, 0, 0, 0) else none) else (bif Nat.beq pc 28 then some (.iconst 1, 29, 0, 1, 0) else none)))) else (bif Nat.blt pc 34 then (bif Nat.blt pc 31 then (bif Nat.beq pc 29 then some (.ldc 108, 31, 0, 100000, 0) else none) else (bif Nat.beq pc 31 then some (.invokestatic 58, 34, 0, 0, 0) else none)) else (bif Nat.blt pc 37 then (bif Nat.beq pc 34 then some (.ifCond .ne 5, 37, 39, 0, 0) else none) else (bif Nat.blt pc 38 then (bif Nat.beq pc 37 then some (.iconst (-1), 38, 0, (-1), 0) else none) else (bif Nat.beq pc 38 then some (.ireturn, 39, 0, 0, 0) else none)))))) else (bif Nat.blt pc 58 then (bif Nat.blt pc 48 then (bif Nat.blt pc 43 then (bif Nat.blt pc 40 then (bif Nat.beq pc 39 then some (.aload_n 0, 40, 0, 0, 0) else none) else (bif Nat.beq pc 40 then some (.getfield 10, 43, 0, 0, 0) else none)) else (bif Nat.blt pc 44 then (bif Nat.beq pc 43 then some (.iload_n 1, 44, 0, 0, 0) else none) else (bif Nat.blt pc 45 then (bif Nat.beq pc 44 then some (.aload_n 0, 45, 0, 0, 0) else none) else (bif Nat.beq pc 45 then some (.getfield 66, 48, 0, 0, 0) else none)))) else (bif Nat.blt pc 52 then (bif Nat.blt pc 51 then (bif Nat.beq pc 48 then some (.invokevirtual 109, 51, 0, 0, 0) else none) else (bif Nat.beq pc 51 then some (.iload_n 3, 52, 0, 0, 0) else none)) else (bif Nat.blt pc 55 then (bif Nat.beq pc 52 then some (.if_icmp .ge 6, 55, 58, 0, 0) else none) else (bif Nat.blt pc 57 then (bif Nat.beq pc 55 then some (.bipush (-2), 57, 0, (-2), 0) else none) else (bif Nat.beq pc 57 then some (.ireturn, 58, 0, 0, 0) else none))))) else (bif Nat.blt pc 65 then (bif Nat.blt pc 62 then (bif Nat.blt pc 59 then (bif Nat.beq pc 58 then some (.aload_n 0, 59, 0, 0, 0) else none) else (bif Nat.beq pc 59 then some (.getfield 10, 62, 0, 0, 0) else none)) else (bif Nat.blt pc 63 then (bif Nat.beq pc 62 then some (.iconst 0, 63, 0, 0, 0) else none) else (bif Nat.blt pc 64 then (bif Nat.beq pc 63 then some (.iload_n 1, 64, 0, 0, 0) else none) else (bif Nat.beq pc 64 then some (.iload_n 2, 65, 0, 0, 0) else none)))) else (bif Nat.blt pc 67 then (bif Nat.blt pc 66 then (bif Nat.beq pc 65 then some (.iload_n 3, 66, 0, 0, 0) else none) else (bif Nat.beq pc 66 then some (.aload_n 0, 67, 0, 0, 0) else none)) else (bif Nat.blt pc 70 then (bif Nat.beq pc 67 then some (.getfield 66, 70, 0, 0, 0) else none) else (bif Nat.blt pc 73 then (bif Nat.beq pc 70 then some (.invokevirtual 113, 73, 0, 0, 0) else none) else (bif Nat.beq pc 73 then some (.ireturn, 74, 0, 0, 0) else none))))))))
def tbX7_isWeek : Nat → Option mv_R := mv_lim 8 (fun pc => (bif Nat.blt pc 2 then (bif Nat.blt pc 1 then (bif Nat.beq pc 0 then some (.iload_n 0, 1, 0, 0, 0) else none) else (bif Nat.beq pc 1 then some (.iconst 0, 2, 0, 0, 0) else none)) else (bif Nat.blt pc 4 then (bif Nat.beq pc 2 then some (.bipush 51, 4, 0, 51, 0) else none) else (bif Nat.blt pc 7 then (bif Nat.beq pc 4 then some (.invokestatic 58, 7, 0, 0, 0) else none) else (bif Nat.beq pc 7 then some (.ireturn, 8, 0, 0, 0) else none)))))
def tbX7_shut : Nat → Option mv_R := mv_lim 41 (fun pc => (bif Nat.blt pc 21 then (bif Nat.blt pc 11 then (bif Nat.blt pc 4 then (bif Nat.blt pc 1 then (bif Nat.beq pc 0 then some (.aload_n 0, 1, 0, 0, 0) else none) else (bif Nat.beq pc 1 then some (.getfield 10, 4, 0, 0, 0) else none)) else (bif Nat.blt pc 5 then (bif Nat.beq pc 4 then some (.iload_n 1, 5, 0, 0, 0) else none) else (bif Nat.blt pc 8 then (bif Nat.beq pc 5 then some (.invokevirtual 70, 8, 0, 0, 0) else none) else (bif Nat.beq pc 8 then some (.ifCond .eq 10, 11, 18, 0, 0) else none)))) else (bif Nat.blt pc 18 then (bif Nat.blt pc 12 then (bif Nat.beq pc 11 then some (.iload_n 3, 12, 0, 0, 0) else none) else (bif Nat.blt pc 15 then (bif Nat.beq pc 12 then some (.invokestatic 117, 15, 0, 0, 0) else none) else (bif Nat.beq pc 15 then some (.ifCond .ne 5, 18, 20, 0, 0) else none))) else (bif Nat.blt pc 19 then (bif Nat.beq pc 18 then some (.iconst (-1), 19, 0, (-1), 0) else none) else (bif Nat.blt pc 20 then (bif Nat.beq pc 19 then some (.ireturn, 20, 0, 0, 0) else none) else (bif Nat.beq pc 20 then some (.aload_n 0, 21, 0, 0, 0) else none))))) else (bif Nat.blt pc 33 then (bif Nat.blt pc 28 then (bif Nat.blt pc 24 then (bif Nat.beq pc 21 then some (.getfield 10, 24, 0, 0, 0) else none) else (bif Nat.blt pc 25 then (bif Nat.beq pc 24 then some (.iload_n 2, 25, 0, 0, 0) else none) else (bif Nat.beq pc 25 then some (.ifCond .eq 7, 28, 32, 0, 0) else none))) else (bif Nat.blt pc 29 then (bif Nat.beq pc 28 then some (.iconst 1, 29, 0, 1, 0) else none) else (bif Nat.blt pc 32 then (bif Nat.beq pc 29 then some (.goto 4, 32, 33, 0, 0) else none) else (bif Nat.beq pc 32 then some (.iconst 2, 33, 0, 2, 0) else none)))) else (bif Nat.blt pc 36 then (bif Nat.blt pc 34 then (bif Nat.beq pc 33 then some (.iload_n 1, 34, 0, 0, 0) else none) else (bif Nat.blt pc 35 then (bif Nat.beq pc 34 then some (.iload_n 1, 35, 0, 0, 0) else none) else (bif Nat.beq pc 35 then some (.iconst 0, 36, 0, 0, 0) else none))) else (bif Nat.blt pc 37 then (bif Nat.beq pc 36 then some (.iload_n 3, 37, 0, 0, 0) else none) else (bif Nat.blt pc 40 then (bif Nat.beq pc 37 then some (.invokevirtual 113, 40, 0, 0, 0) else none) else (bif Nat.beq pc 40 then some (.ireturn, 41, 0, 0, 0) else none)))))))
def tbX7_isAsked : Nat → Option mv_R := mv_lim 39 (fun pc => (bif Nat.blt pc 19 then (bif Nat.blt pc 8 then (bif Nat.blt pc 4 then (bif Nat.blt pc 1 then (bif Nat.beq pc 0 then some (.aload_n 0, 1, 0, 0, 0) else none) else (bif Nat.beq pc 1 then some (.getfield 10, 4, 0, 0, 0) else none)) else (bif Nat.blt pc 5 then (bif Nat.beq pc 4 then some (.iload_n 1, 5, 0, 0, 0) else none) else (bif Nat.beq pc 5 then some (.invokevirtual 70, 8, 0, 0, 0) else none))) else (bif Nat.blt pc 12 then (bif Nat.blt pc 11 then (bif Nat.beq pc 8 then some (.ifCond .eq 29, 11, 37, 0, 0) else none) else (bif Nat.beq pc 11 then some (.iload_n 2, 12, 0, 0, 0) else none)) else (bif Nat.blt pc 15 then (bif Nat.beq pc 12 then some (.invokestatic 117, 15, 0, 0, 0) else none) else (bif Nat.blt pc 18 then (bif Nat.beq pc 15 then some (.ifCond .eq 22, 18, 37, 0, 0) else none) else (bif Nat.beq pc 18 then some (.iload_n 3, 19, 0, 0, 0) else none))))) else (bif Nat.blt pc 30 then (bif Nat.blt pc 21 then (bif Nat.blt pc 20 then (bif Nat.beq pc 19 then some (.iconst 0, 20, 0, 0, 0) else none) else (bif Nat.beq pc 20 then some (.aload_n 0, 21, 0, 0, 0) else none)) else (bif Nat.blt pc 24 then (bif Nat.beq pc 21 then some (.getfield 10, 24, 0, 0, 0) else none) else (bif Nat.blt pc 27 then (bif Nat.beq pc 24 then some (.getfield 237, 27, 0, 0, 0) else none) else (bif Nat.beq pc 27 then some (.invokestatic 58, 30, 0, 0, 0) else none)))) else (bif Nat.blt pc 34 then (bif Nat.blt pc 33 then (bif Nat.beq pc 30 then some (.ifCond .eq 7, 33, 37, 0, 0) else none) else (bif Nat.beq pc 33 then some (.iconst 1, 34, 0, 1, 0) else none)) else (bif Nat.blt pc 37 then (bif Nat.beq pc 34 then some (.goto 4, 37, 38, 0, 0) else none) else (bif Nat.blt pc 38 then (bif Nat.beq pc 37 then some (.iconst 0, 38, 0, 0, 0) else none) else (bif Nat.beq pc 38 then some (.ireturn, 39, 0, 0, 0) else none)))))))
def tbX7_open : Nat → Option mv_R := mv_lim 31 (fun pc => (bif Nat.blt pc 13 then (bif Nat.blt pc 4 then (bif Nat.blt pc 2 then (bif Nat.blt pc 1 then (bif Nat.beq pc 0 then some (.aload_n 0, 1, 0, 0, 0) else none) else (bif Nat.beq pc 1 then some (.iload_n 1, 2, 0, 0, 0) else none)) else (bif Nat.blt pc 3 then (bif Nat.beq pc 2 then some (.iload_n 2, 3, 0, 0, 0) else none) else (bif Nat.beq pc 3 then some (.iload_n 3, 4, 0, 0, 0) else none))) else (bif Nat.blt pc 10 then (bif Nat.blt pc 7 then (bif Nat.beq pc 4 then some (.invokevirtual 120, 7, 0, 0, 0) else none) else (bif Nat.beq pc 7 then some (.ifCond .ne 5, 10, 12, 0, 0) else none)) else (bif Nat.blt pc 11 then (bif Nat.beq pc 10 then some (.iconst (-1), 11, 0, (-1), 0) else none) else (bif Nat.blt pc 12 then (bif Nat.beq pc 11 then some (.ireturn, 12, 0, 0, 0) else none) else (bif Nat.beq pc 12 then some (.aload_n 0, 13, 0, 0, 0) else none))))) else (bif Nat.blt pc 22 then (bif Nat.blt pc 17 then (bif Nat.blt pc 16 then (bif Nat.beq pc 13 then some (.getfield 10, 16, 0, 0, 0) else none) else (bif Nat.beq pc 16 then some (.iload_n 1, 17, 0, 0, 0) else none)) else (bif Nat.blt pc 18 then (bif Nat.beq pc 17 then some (.iload_n 2, 18, 0, 0, 0) else none) else (bif Nat.blt pc 19 then (bif Nat.beq pc 18 then some (.iload_n 3, 19, 0, 0, 0) else none) else (bif Nat.beq pc 19 then some (.invokevirtual 123, 22, 0, 0, 0) else none)))) else (bif Nat.blt pc 26 then (bif Nat.blt pc 25 then (bif Nat.beq pc 22 then some (.ifCond .eq 7, 25, 29, 0, 0) else none) else (bif Nat.beq pc 25 then some (.iconst 1, 26, 0, 1, 0) else none)) else (bif Nat.blt pc 29 then (bif Nat.beq pc 26 then some (.goto 4, 29, 30, 0, 0) else none) else (bif Nat.blt pc 30 then (bif Nat.beq pc 29 then some (.iconst 0, 30, 0, 0, 0) else none) else (bif Nat.beq pc 30 then some (.ireturn, 31, 0, 0, 0) else none)))))))
def tbX7_quota : Nat → Option mv_R := mv_lim 24 (fun pc => (bif Nat.blt pc 12 then (bif Nat.blt pc 3 then (bif Nat.blt pc 1 then (bif Nat.beq pc 0 then some (.aload_n 0, 1, 0, 0, 0) else none) else (bif Nat.blt pc 2 then (bif Nat.beq pc 1 then some (.iload_n 1, 2, 0, 0, 0) else none) else (bif Nat.beq pc 2 then some (.iload_n 2, 3, 0, 0, 0) else none))) else (bif Nat.blt pc 7 then (bif Nat.blt pc 4 then (bif Nat.beq pc 3 then some (.iload_n 3, 4, 0, 0, 0) else none) else (bif Nat.beq pc 4 then some (.invokevirtual 120, 7, 0, 0, 0) else none)) else (bif Nat.blt pc 10 then (bif Nat.beq pc 7 then some (.ifCond .ne 6, 10, 13, 0, 0) else none) else (bif Nat.beq pc 10 then some (.ldc 126, 12, 0, (-10000001), 0) else none)))) else (bif Nat.blt pc 18 then (bif Nat.blt pc 14 then (bif Nat.blt pc 13 then (bif Nat.beq pc 12 then some (.ireturn, 13, 0, 0, 0) else none) else (bif Nat.beq pc 13 then some (.aload_n 0, 14, 0, 0, 0) else none)) else (bif Nat.blt pc 17 then (bif Nat.beq pc 14 then some (.getfield 10, 17, 0, 0, 0) else none) else (bif Nat.beq pc 17 then some (.iload_n 1, 18, 0, 0, 0) else none))) else (bif Nat.blt pc 20 then (bif Nat.blt pc 19 then (bif Nat.beq pc 18 then some (.iload_n 2, 19, 0, 0, 0) else none) else (bif Nat.beq pc 19 then some (.iload_n 3, 20, 0, 0, 0) else none)) else (bif Nat.blt pc 23 then (bif Nat.beq pc 20 then some (.invokevirtual 127, 23, 0, 0, 0) else none) else (bif Nat.beq pc 23 then some (.ireturn, 24, 0, 0, 0) else none))))))
def tbX7_left : Nat → Option mv_R := mv_lim 30 (fun pc => (bif Nat.blt pc 14 then (bif Nat.blt pc 8 then (bif Nat.blt pc 4 then (bif Nat.blt pc 1 then (bif Nat.beq pc 0 then some (.aload_n 0, 1, 0, 0, 0) else none) else (bif Nat.beq pc 1 then some (.getfield 10, 4, 0, 0, 0) else none)) else (bif Nat.blt pc 5 then (bif Nat.beq pc 4 then some (.iload_n 1, 5, 0, 0, 0) else none) else (bif Nat.beq pc 5 then some (.invokevirtual 70, 8, 0, 0, 0) else none))) else (bif Nat.blt pc 12 then (bif Nat.blt pc 11 then (bif Nat.beq pc 8 then some (.ifCond .ne 5, 11, 13, 0, 0) else none) else (bif Nat.beq pc 11 then some (.iconst (-1), 12, 0, (-1), 0) else none)) else (bif Nat.blt pc 13 then (bif Nat.beq pc 12 then some (.ireturn, 13, 0, 0, 0) else none) else (bif Nat.beq pc 13 then some (.iconst 0, 14, 0, 0, 0) else none)))) else (bif Nat.blt pc 20 then (bif Nat.blt pc 18 then (bif Nat.blt pc 15 then (bif Nat.beq pc 14 then some (.aload_n 0, 15, 0, 0, 0) else none) else (bif Nat.beq pc 15 then some (.getfield 10, 18, 0, 0, 0) else none)) else (bif Nat.blt pc 19 then (bif Nat.beq pc 18 then some (.iload_n 1, 19, 0, 0, 0) else none) else (bif Nat.beq pc 19 then some (.aload_n 0, 20, 0, 0, 0) else none))) else (bif Nat.blt pc 26 then (bif Nat.blt pc 23 then (bif Nat.beq pc 20 then some (.getfield 66, 23, 0, 0, 0) else none) else (bif Nat.beq pc 23 then some (.invokevirtual 109, 26, 0, 0, 0) else none)) else (bif Nat.blt pc 29 then (bif Nat.beq pc 26 then some (.invokestatic 131, 29, 0, 0, 0) else none) else (bif Nat.beq pc 29 then some (.ireturn, 30, 0, 0, 0) else none))))))
def tbX7_type : Nat → Option mv_R := mv_lim 30 (fun pc => (bif Nat.blt pc 15 then (bif Nat.blt pc 7 then (bif Nat.blt pc 2 then (bif Nat.blt pc 1 then (bif Nat.beq pc 0 then some (.iload_n 3, 1, 0, 0, 0) else none) else (bif Nat.beq pc 1 then some (.iconst 1, 2, 0, 1, 0) else none)) else (bif Nat.blt pc 4 then (bif Nat.beq pc 2 then some (.bipush 8, 4, 0, 8, 0) else none) else (bif Nat.beq pc 4 then some (.invokestatic 58, 7, 0, 0, 0) else none))) else (bif Nat.blt pc 11 then (bif Nat.blt pc 10 then (bif Nat.beq pc 7 then some (.ifCond .eq 11, 10, 18, 0, 0) else none) else (bif Nat.beq pc 10 then some (.lload_n 1, 11, 0, 0, 0) else none)) else (bif Nat.blt pc 12 then (bif Nat.beq pc 11 then some (.iload_n 3, 12, 0, 0, 0) else none) else (bif Nat.beq pc 12 then some (.invokestatic 136, 15, 0, 0, 0) else none)))) else (bif Nat.blt pc 21 then (bif Nat.blt pc 19 then (bif Nat.blt pc 18 then (bif Nat.beq pc 15 then some (.ifCond .ne 5, 18, 20, 0, 0) else none) else (bif Nat.beq pc 18 then some (.iconst (-1), 19, 0, (-1), 0) else none)) else (bif Nat.blt pc 20 then (bif Nat.beq pc 19 then some (.ireturn, 20, 0, 0, 0) else none) else (bif Nat.beq pc 20 then some (.aload_n 0, 21, 0, 0, 0) else none))) else (bif Nat.blt pc 25 then (bif Nat.blt pc 24 then (bif Nat.beq pc 21 then some (.getfield 19, 24, 0, 0, 0) else none) else (bif Nat.beq pc 24 then some (.lload_n 1, 25, 0, 0, 0) else none)) else (bif Nat.blt pc 26 then (bif Nat.beq pc 25 then some (.iload_n 3, 26, 0, 0, 0) else none) else (bif Nat.blt pc 29 then (bif Nat.beq pc 26 then some (.invokevirtual 140, 29, 0, 0, 0) else none) else (bif Nat.beq pc 29 then some (.ireturn, 30, 0, 0, 0) else none)))))))
def tbX7_parts : Nat → Option mv_R := mv_lim 43 (fun pc => (bif Nat.blt pc 20 then (bif Nat.blt pc 11 then (bif Nat.blt pc 4 then (bif Nat.blt pc 1 then (bif Nat.beq pc 0 then some (.aload_n 0, 1, 0, 0, 0) else none) else (bif Nat.beq pc 1 then some (.getfield 19, 4, 0, 0, 0) else none)) else (bif Nat.blt pc 5 then (bif Nat.beq pc 4 then some (.aload_n 0, 5, 0, 0, 0) else none) else (bif Nat.blt pc 8 then (bif Nat.beq pc 5 then some (.getfield 10, 8, 0, 0, 0) else none) else (bif Nat.beq pc 8 then some (.getfield 144, 11, 0, 0, 0) else none)))) else (bif Nat.blt pc 15 then (bif Nat.blt pc 14 then (bif Nat.beq pc 11 then some (.invokevirtual 146, 14, 0, 0, 0) else none) else (bif Nat.beq pc 14 then some (.istore_n 1, 15, 0, 0, 0) else none)) else (bif Nat.blt pc 16 then (bif Nat.beq pc 15 then some (.aload_n 0, 16, 0, 0, 0) else none) else (bif Nat.blt pc 19 then (bif Nat.beq pc 16 then some (.getfield 19, 19, 0, 0, 0) else none) else (bif Nat.beq pc 19 then some (.iconst 0, 20, 0, 0, 0) else none))))) else (bif Nat.blt pc 31 then (bif Nat.blt pc 24 then (bif Nat.blt pc 23 then (bif Nat.beq pc 20 then some (.putfield 149, 23, 0, 0, 0) else none) else (bif Nat.beq pc 23 then some (.iload_n 1, 24, 0, 0, 0) else none)) else (bif Nat.blt pc 27 then (bif Nat.beq pc 24 then some (.ifCond .le 17, 27, 41, 0, 0) else none) else (bif Nat.blt pc 28 then (bif Nat.beq pc 27 then some (.aload_n 0, 28, 0, 0, 0) else none) else (bif Nat.beq pc 28 then some (.getfield 10, 31, 0, 0, 0) else none)))) else (bif Nat.blt pc 38 then (bif Nat.blt pc 32 then (bif Nat.beq pc 31 then some (.aload_n 0, 32, 0, 0, 0) else none) else (bif Nat.blt pc 35 then (bif Nat.beq pc 32 then some (.getfield 19, 35, 0, 0, 0) else none) else (bif Nat.beq pc 35 then some (.getfield 152, 38, 0, 0, 0) else none))) else (bif Nat.blt pc 41 then (bif Nat.beq pc 38 then some (.invokevirtual 155, 41, 0, 0, 0) else none) else (bif Nat.blt pc 42 then (bif Nat.beq pc 41 then some (.iload_n 1, 42, 0, 0, 0) else none) else (bif Nat.beq pc 42 then some (.ireturn, 43, 0, 0, 0) else none)))))))
def tbX7_isDay : Nat → Option mv_R := mv_lim 8 (fun pc => (bif Nat.blt pc 2 then (bif Nat.blt pc 1 then (bif Nat.beq pc 0 then some (.iload_n 0, 1, 0, 0, 0) else none) else (bif Nat.beq pc 1 then some (.iconst 0, 2, 0, 0, 0) else none)) else (bif Nat.blt pc 4 then (bif Nat.beq pc 2 then some (.bipush 59, 4, 0, 59, 0) else none) else (bif Nat.blt pc 7 then (bif Nat.beq pc 4 then some (.invokestatic 58, 7, 0, 0, 0) else none) else (bif Nat.beq pc 7 then some (.ireturn, 8, 0, 0, 0) else none)))))
def tbX7_ship : Nat → Option mv_R := mv_lim 68 (fun pc => (bif Nat.blt pc 37 then (bif Nat.blt pc 18 then (bif Nat.blt pc 8 then (bif Nat.blt pc 4 then (bif Nat.blt pc 1 then (bif Nat.beq pc 0 then some (.iload_n 1, 1, 0, 0, 0) else none) else (bif Nat.beq pc 1 then some (.invokestatic 159, 4, 0, 0, 0) else none)) else (bif Nat.blt pc 7 then (bif Nat.beq pc 4 then some (.ifCond .eq 47, 7, 51, 0, 0) else none) else (bif Nat.beq pc 7 then some (.iload_n 2, 8, 0, 0, 0) else none))) else (bif Nat.blt pc 12 then (bif Nat.blt pc 9 then (bif Nat.beq pc 8 then some (.iconst 1, 9, 0, 1, 0) else none) else (bif Nat.beq pc 9 then some (.sipush 20000, 12, 0, 20000, 0) else none)) else (bif Nat.blt pc 15 then (bif Nat.beq pc 12 then some (.invokestatic 58, 15, 0, 0, 0) else none) else (bif Nat.beq pc 15 then some (.ifCond .eq 36, 18, 51, 0, 0) else none)))) else (bif Nat.blt pc 26 then (bif Nat.blt pc 20 then (bif Nat.blt pc 19 then (bif Nat.beq pc 18 then some (.iload_n 3, 19, 0, 0, 0) else none) else (bif Nat.beq pc 19 then some (.iconst 1, 20, 0, 1, 0) else none)) else (bif Nat.blt pc 23 then (bif Nat.beq pc 20 then some (.sipush 2000, 23, 0, 2000, 0) else none) else (bif Nat.beq pc 23 then some (.invokestatic 58, 26, 0, 0, 0) else none))) else (bif Nat.blt pc 31 then (bif Nat.blt pc 29 then (bif Nat.beq pc 26 then some (.ifCond .eq 25, 29, 51, 0, 0) else none) else (bif Nat.beq pc 29 then some (.iload 4, 31, 0, 0, 0) else none)) else (bif Nat.blt pc 32 then (bif Nat.beq pc 31 then some (.iconst 0, 32, 0, 0, 0) else none) else (bif Nat.blt pc 34 then (bif Nat.beq pc 32 then some (.bipush 30, 34, 0, 30, 0) else none) else (bif Nat.beq pc 34 then some (.invokestatic 58, 37, 0, 0, 0) else none)))))) else (bif Nat.blt pc 53 then (bif Nat.blt pc 45 then (bif Nat.blt pc 42 then (bif Nat.blt pc 40 then (bif Nat.beq pc 37 then some (.ifCond .eq 14, 40, 51, 0, 0) else none) else (bif Nat.beq pc 40 then some (.iload 5, 42, 0, 0, 0) else none)) else (bif Nat.blt pc 43 then (bif Nat.beq pc 42 then some (.iconst 0, 43, 0, 0, 0) else none) else (bif Nat.beq pc 43 then some (.bipush 100, 45, 0, 100, 0) else none))) else (bif Nat.blt pc 51 then (bif Nat.blt pc 48 then (bif Nat.beq pc 45 then some (.invokestatic 58, 48, 0, 0, 0) else none) else (bif Nat.beq pc 48 then some (.ifCond .ne 5, 51, 53, 0, 0) else none)) else (bif Nat.blt pc 52 then (bif Nat.beq pc 51 then some (.iconst (-1), 52, 0, (-1), 0) else none) else (bif Nat.beq pc 52 then some (.ireturn, 53, 0, 0, 0) else none)))) else (bif Nat.blt pc 59 then (bif Nat.blt pc 57 then (bif Nat.blt pc 54 then (bif Nat.beq pc 53 then some (.aload_n 0, 54, 0, 0, 0) else none) else (bif Nat.beq pc 54 then some (.getfield 33, 57, 0, 0, 0) else none)) else (bif Nat.blt pc 58 then (bif Nat.beq pc 57 then some (.iload_n 1, 58, 0, 0, 0) else none) else (bif Nat.beq pc 58 then some (.iload_n 2, 59, 0, 0, 0) else none))) else (bif Nat.blt pc 62 then (bif Nat.blt pc 60 then (bif Nat.beq pc 59 then some (.iload_n 3, 60, 0, 0, 0) else none) else (bif Nat.beq pc 60 then some (.iload 4, 62, 0, 0, 0) else none)) else (bif Nat.blt pc 64 then (bif Nat.beq pc 62 then some (.iload 5, 64, 0, 0, 0) else none) else (bif Nat.blt pc 67 then (bif Nat.beq pc 64 then some (.invokevirtual 162, 67, 0, 0, 0) else none) else (bif Nat.beq pc 67 then some (.ireturn, 68, 0, 0, 0) else none))))))))
def tbX7_load : Nat → Option mv_R := mv_lim 119 (fun pc => (bif Nat.blt pc 59 then (bif Nat.blt pc 30 then (bif Nat.blt pc 16 then (bif Nat.blt pc 8 then (bif Nat.blt pc 4 then (bif Nat.blt pc 1 then (bif Nat.beq pc 0 then some (.aload_n 0, 1, 0, 0, 0) else none) else (bif Nat.beq pc 1 then some (.getfield 33, 4, 0, 0, 0) else none)) else (bif Nat.blt pc 5 then (bif Nat.beq pc 4 then some (.iload_n 1, 5, 0, 0, 0) else none) else (bif Nat.beq pc 5 then some (.invokevirtual 164, 8, 0, 0, 0) else none))) else (bif Nat.blt pc 12 then (bif Nat.blt pc 11 then (bif Nat.beq pc 8 then some (.ifCond .eq 19, 11, 27, 0, 0) else none) else (bif Nat.beq pc 11 then some (.aload_n 0, 12, 0, 0, 0) else none)) else (bif Nat.blt pc 15 then (bif Nat.beq pc 12 then some (.getfield 26, 15, 0, 0, 0) else none) else (bif Nat.beq pc 15 then some (.iload_n 2, 16, 0, 0, 0) else none)))) else (bif Nat.blt pc 24 then (bif Nat.blt pc 22 then (bif Nat.blt pc 19 then (bif Nat.beq pc 16 then some (.invokevirtual 78, 19, 0, 0, 0) else none) else (bif Nat.beq pc 19 then some (.ifCond .eq 8, 22, 27, 0, 0) else none)) else (bif Nat.blt pc 23 then (bif Nat.beq pc 22 then some (.iload_n 3, 23, 0, 0, 0) else none) else (bif Nat.beq pc 23 then some (.iconst 1, 24, 0, 1, 0) else none))) else (bif Nat.blt pc 28 then (bif Nat.blt pc 27 then (bif Nat.beq pc 24 then some (.if_icmp .ge 5, 27, 29, 0, 0) else none) else (bif Nat.beq pc 27 then some (.iconst (-1), 28, 0, (-1), 0) else none)) else (bif Nat.blt pc 29 then (bif Nat.beq pc 28 then some (.ireturn, 29, 0, 0, 0) else none) else (bif Nat.beq pc 29 then some (.aload_n 0, 30, 0, 0, 0) else none))))) else (bif Nat.blt pc 45 then (bif Nat.blt pc 38 then (bif Nat.blt pc 36 then (bif Nat.blt pc 33 then (bif Nat.beq pc 30 then some (.getfield 26, 33, 0, 0, 0) else none) else (bif Nat.beq pc 33 then some (.getfield 89, 36, 0, 0, 0) else none)) else (bif Nat.blt pc 37 then (bif Nat.beq pc 36 then some (.iload_n 2, 37, 0, 0, 0) else none) else (bif Nat.beq pc 37 then some (.iaload, 38, 0, 0, 0) else none))) else (bif Nat.blt pc 41 then (bif Nat.blt pc 40 then (bif Nat.beq pc 38 then some (.istore 4, 40, 0, 0, 0) else none) else (bif Nat.beq pc 40 then some (.iload_n 3, 41, 0, 0, 0) else none)) else (bif Nat.blt pc 42 then (bif Nat.beq pc 41 then some (.aload_n 0, 42, 0, 0, 0) else none) else (bif Nat.beq pc 42 then some (.getfield 26, 45, 0, 0, 0) else none)))) else (bif Nat.blt pc 53 then (bif Nat.blt pc 49 then (bif Nat.blt pc 48 then (bif Nat.beq pc 45 then some (.getfield 95, 48, 0, 0, 0) else none) else (bif Nat.beq pc 48 then some (.iload_n 2, 49, 0, 0, 0) else none)) else (bif Nat.blt pc 50 then (bif Nat.beq pc 49 then some (.iaload, 50, 0, 0, 0) else none) else (bif Nat.beq pc 50 then some (.if_icmp .gt 32, 53, 82, 0, 0) else none))) else (bif Nat.blt pc 55 then (bif Nat.blt pc 54 then (bif Nat.beq pc 53 then some (.iload_n 3, 54, 0, 0, 0) else none) else (bif Nat.beq pc 54 then some (.aload_n 0, 55, 0, 0, 0) else none)) else (bif Nat.blt pc 58 then (bif Nat.beq pc 55 then some (.getfield 33, 58, 0, 0, 0) else none) else (bif Nat.beq pc 58 then some (.iload_n 1, 59, 0, 0, 0) else none)))))) else (bif Nat.blt pc 91 then (bif Nat.blt pc 76 then (bif Nat.blt pc 67 then (bif Nat.blt pc 65 then (bif Nat.blt pc 62 then (bif Nat.beq pc 59 then some (.invokevirtual 165, 62, 0, 0, 0) else none) else (bif Nat.beq pc 62 then some (.if_icmp .gt 20, 65, 82, 0, 0) else none)) else (bif Nat.blt pc 66 then (bif Nat.beq pc 65 then some (.iload_n 3, 66, 0, 0, 0) else none) else (bif Nat.beq pc 66 then some (.aload_n 0, 67, 0, 0, 0) else none))) else (bif Nat.blt pc 72 then (bif Nat.blt pc 70 then (bif Nat.beq pc 67 then some (.getfield 10, 70, 0, 0, 0) else none) else (bif Nat.beq pc 70 then some (.iload 4, 72, 0, 0, 0) else none)) else (bif Nat.blt pc 73 then (bif Nat.beq pc 72 then some (.aload_n 0, 73, 0, 0, 0) else none) else (bif Nat.beq pc 73 then some (.getfield 66, 76, 0, 0, 0) else none)))) else (bif Nat.blt pc 85 then (bif Nat.blt pc 82 then (bif Nat.blt pc 79 then (bif Nat.beq pc 76 then some (.invokevirtual 109, 79, 0, 0, 0) else none) else (bif Nat.beq pc 79 then some (.if_icmp .le 6, 82, 85, 0, 0) else none)) else (bif Nat.blt pc 84 then (bif Nat.beq pc 82 then some (.bipush (-2), 84, 0, (-2), 0) else none) else (bif Nat.beq pc 84 then some (.ireturn, 85, 0, 0, 0) else none))) else (bif Nat.blt pc 89 then (bif Nat.blt pc 86 then (bif Nat.beq pc 85 then some (.aload_n 0, 86, 0, 0, 0) else none) else (bif Nat.beq pc 86 then some (.getfield 26, 89, 0, 0, 0) else none)) else (bif Nat.blt pc 90 then (bif Nat.beq pc 89 then some (.iload_n 2, 90, 0, 0, 0) else none) else (bif Nat.beq pc 90 then some (.iload_n 3, 91, 0, 0, 0) else none))))) else (bif Nat.blt pc 106 then (bif Nat.blt pc 101 then (bif Nat.blt pc 95 then (bif Nat.blt pc 94 then (bif Nat.beq pc 91 then some (.invokevirtual 168, 94, 0, 0, 0) else none) else (bif Nat.beq pc 94 then some (.aload_n 0, 95, 0, 0, 0) else none)) else (bif Nat.blt pc 98 then (bif Nat.beq pc 95 then some (.getfield 10, 98, 0, 0, 0) else none) else (bif Nat.beq pc 98 then some (.getfield 171, 101, 0, 0, 0) else none))) else (bif Nat.blt pc 104 then (bif Nat.blt pc 103 then (bif Nat.beq pc 101 then some (.iload 4, 103, 0, 0, 0) else none) else (bif Nat.beq pc 103 then some (.dup2, 104, 0, 0, 0) else none)) else (bif Nat.blt pc 105 then (bif Nat.beq pc 104 then some (.iaload, 105, 0, 0, 0) else none) else (bif Nat.beq pc 105 then some (.iload_n 3, 106, 0, 0, 0) else none)))) else (bif Nat.blt pc 112 then (bif Nat.blt pc 108 then (bif Nat.blt pc 107 then (bif Nat.beq pc 106 then some (.iadd, 107, 0, 0, 0) else none) else (bif Nat.beq pc 107 then some (.iastore, 108, 0, 0, 0) else none)) else (bif Nat.blt pc 109 then (bif Nat.beq pc 108 then some (.aload_n 0, 109, 0, 0, 0) else none) else (bif Nat.beq pc 109 then some (.getfield 33, 112, 0, 0, 0) else none))) else (bif Nat.blt pc 114 then (bif Nat.blt pc 113 then (bif Nat.beq pc 112 then some (.iload_n 1, 113, 0, 0, 0) else none) else (bif Nat.beq pc 113 then some (.iload_n 2, 114, 0, 0, 0) else none)) else (bif Nat.blt pc 115 then (bif Nat.beq pc 114 then some (.iload_n 3, 115, 0, 0, 0) else none) else (bif Nat.blt pc 118 then (bif Nat.beq pc 115 then some (.invokevirtual 174, 118, 0, 0, 0) else none) else (bif Nat.beq pc 118 then some (.ireturn, 119, 0, 0, 0) else none)))))))))
def tbX7_held : Nat → Option mv_R := mv_lim 56 (fun pc => (bif Nat.blt pc 29 then (bif Nat.blt pc 13 then (bif Nat.blt pc 5 then (bif Nat.blt pc 1 then (bif Nat.beq pc 0 then some (.aload_n 0, 1, 0, 0, 0) else none) else (bif Nat.blt pc 4 then (bif Nat.beq pc 1 then some (.getfield 33, 4, 0, 0, 0) else none) else (bif Nat.beq pc 4 then some (.iload_n 1, 5, 0, 0, 0) else none))) else (bif Nat.blt pc 11 then (bif Nat.blt pc 8 then (bif Nat.beq pc 5 then some (.invokevirtual 164, 8, 0, 0, 0) else none) else (bif Nat.beq pc 8 then some (.ifCond .eq 19, 11, 27, 0, 0) else none)) else (bif Nat.blt pc 12 then (bif Nat.beq pc 11 then some (.iload_n 2, 12, 0, 0, 0) else none) else (bif Nat.beq pc 12 then some (.iconst (-1), 13, 0, (-1), 0) else none)))) else (bif Nat.blt pc 21 then (bif Nat.blt pc 17 then (bif Nat.blt pc 16 then (bif Nat.beq pc 13 then some (.if_icmp .eq 16, 16, 29, 0, 0) else none) else (bif Nat.beq pc 16 then some (.aload_n 0, 17, 0, 0, 0) else none)) else (bif Nat.blt pc 20 then (bif Nat.beq pc 17 then some (.getfield 26, 20, 0, 0, 0) else none) else (bif Nat.beq pc 20 then some (.iload_n 2, 21, 0, 0, 0) else none))) else (bif Nat.blt pc 27 then (bif Nat.blt pc 24 then (bif Nat.beq pc 21 then some (.invokevirtual 78, 24, 0, 0, 0) else none) else (bif Nat.beq pc 24 then some (.ifCond .ne 5, 27, 29, 0, 0) else none)) else (bif Nat.blt pc 28 then (bif Nat.beq pc 27 then some (.iconst (-1), 28, 0, (-1), 0) else none) else (bif Nat.beq pc 28 then some (.ireturn, 29, 0, 0, 0) else none))))) else (bif Nat.blt pc 42 then (bif Nat.blt pc 34 then (bif Nat.blt pc 30 then (bif Nat.beq pc 29 then some (.iload_n 2, 30, 0, 0, 0) else none) else (bif Nat.blt pc 31 then (bif Nat.beq pc 30 then some (.iconst (-1), 31, 0, (-1), 0) else none) else (bif Nat.beq pc 31 then some (.if_icmp .ne 15, 34, 46, 0, 0) else none))) else (bif Nat.blt pc 38 then (bif Nat.blt pc 35 then (bif Nat.beq pc 34 then some (.aload_n 0, 35, 0, 0, 0) else none) else (bif Nat.beq pc 35 then some (.getfield 33, 38, 0, 0, 0) else none)) else (bif Nat.blt pc 41 then (bif Nat.beq pc 38 then some (.getfield 177, 41, 0, 0, 0) else none) else (bif Nat.beq pc 41 then some (.iload_n 1, 42, 0, 0, 0) else none)))) else (bif Nat.blt pc 50 then (bif Nat.blt pc 46 then (bif Nat.blt pc 43 then (bif Nat.beq pc 42 then some (.iaload, 43, 0, 0, 0) else none) else (bif Nat.beq pc 43 then some (.goto 12, 46, 55, 0, 0) else none)) else (bif Nat.blt pc 47 then (bif Nat.beq pc 46 then some (.aload_n 0, 47, 0, 0, 0) else none) else (bif Nat.beq pc 47 then some (.getfield 33, 50, 0, 0, 0) else none))) else (bif Nat.blt pc 52 then (bif Nat.blt pc 51 then (bif Nat.beq pc 50 then some (.iload_n 1, 51, 0, 0, 0) else none) else (bif Nat.beq pc 51 then some (.iload_n 2, 52, 0, 0, 0) else none)) else (bif Nat.blt pc 55 then (bif Nat.beq pc 52 then some (.invokevirtual 180, 55, 0, 0, 0) else none) else (bif Nat.beq pc 55 then some (.ireturn, 56, 0, 0, 0) else none)))))))
def tbX7_grade : Nat → Option mv_R := mv_lim 81 (fun pc => (bif Nat.blt pc 38 then (bif Nat.blt pc 21 then (bif Nat.blt pc 11 then (bif Nat.blt pc 4 then (bif Nat.blt pc 1 then (bif Nat.beq pc 0 then some (.aload_n 0, 1, 0, 0, 0) else none) else (bif Nat.beq pc 1 then some (.getfield 33, 4, 0, 0, 0) else none)) else (bif Nat.blt pc 5 then (bif Nat.beq pc 4 then some (.iload_n 1, 5, 0, 0, 0) else none) else (bif Nat.blt pc 8 then (bif Nat.beq pc 5 then some (.invokevirtual 164, 8, 0, 0, 0) else none) else (bif Nat.beq pc 8 then some (.ifCond .ne 5, 11, 13, 0, 0) else none)))) else (bif Nat.blt pc 14 then (bif Nat.blt pc 12 then (bif Nat.beq pc 11 then some (.iconst (-1), 12, 0, (-1), 0) else none) else (bif Nat.blt pc 13 then (bif Nat.beq pc 12 then some (.ireturn, 13, 0, 0, 0) else none) else (bif Nat.beq pc 13 then some (.aload_n 0, 14, 0, 0, 0) else none))) else (bif Nat.blt pc 17 then (bif Nat.beq pc 14 then some (.getfield 33, 17, 0, 0, 0) else none) else (bif Nat.blt pc 20 then (bif Nat.beq pc 17 then some (.getfield 177, 20, 0, 0, 0) else none) else (bif Nat.beq pc 20 then some (.iload_n 1, 21, 0, 0, 0) else none))))) else (bif Nat.blt pc 30 then (bif Nat.blt pc 24 then (bif Nat.blt pc 22 then (bif Nat.beq pc 21 then some (.iaload, 22, 0, 0, 0) else none) else (bif Nat.blt pc 23 then (bif Nat.beq pc 22 then some (.istore_n 2, 23, 0, 0, 0) else none) else (bif Nat.beq pc 23 then some (.iload_n 2, 24, 0, 0, 0) else none))) else (bif Nat.blt pc 27 then (bif Nat.beq pc 24 then some (.ifCond .gt 6, 27, 30, 0, 0) else none) else (bif Nat.blt pc 29 then (bif Nat.beq pc 27 then some (.bipush (-2), 29, 0, (-2), 0) else none) else (bif Nat.beq pc 29 then some (.ireturn, 30, 0, 0, 0) else none)))) else (bif Nat.blt pc 33 then (bif Nat.blt pc 31 then (bif Nat.beq pc 30 then some (.iconst 0, 31, 0, 0, 0) else none) else (bif Nat.blt pc 32 then (bif Nat.beq pc 31 then some (.istore_n 3, 32, 0, 0, 0) else none) else (bif Nat.beq pc 32 then some (.iconst 0, 33, 0, 0, 0) else none))) else (bif Nat.blt pc 35 then (bif Nat.beq pc 33 then some (.istore 4, 35, 0, 0, 0) else none) else (bif Nat.blt pc 37 then (bif Nat.beq pc 35 then some (.iload 4, 37, 1, 0, 0) else none) else (bif Nat.beq pc 37 then some (.aload_n 0, 38, 0, 0, 0) else none)))))) else (bif Nat.blt pc 62 then (bif Nat.blt pc 49 then (bif Nat.blt pc 44 then (bif Nat.blt pc 41 then (bif Nat.beq pc 38 then some (.getfield 26, 41, 0, 0, 0) else none) else (bif Nat.beq pc 41 then some (.getfield 183, 44, 0, 0, 0) else none)) else (bif Nat.blt pc 47 then (bif Nat.beq pc 44 then some (.if_icmp .ge 33, 47, 77, 0, 0) else none) else (bif Nat.blt pc 48 then (bif Nat.beq pc 47 then some (.iload_n 3, 48, 0, 0, 0) else none) else (bif Nat.beq pc 48 then some (.aload_n 0, 49, 0, 0, 0) else none)))) else (bif Nat.blt pc 55 then (bif Nat.blt pc 52 then (bif Nat.beq pc 49 then some (.getfield 33, 52, 0, 0, 0) else none) else (bif Nat.blt pc 53 then (bif Nat.beq pc 52 then some (.iload_n 1, 53, 0, 0, 0) else none) else (bif Nat.beq pc 53 then some (.iload 4, 55, 0, 0, 0) else none))) else (bif Nat.blt pc 58 then (bif Nat.beq pc 55 then some (.invokevirtual 180, 58, 0, 0, 0) else none) else (bif Nat.blt pc 59 then (bif Nat.beq pc 58 then some (.aload_n 0, 59, 0, 0, 0) else none) else (bif Nat.beq pc 59 then some (.getfield 26, 62, 0, 0, 0) else none))))) else (bif Nat.blt pc 71 then (bif Nat.blt pc 68 then (bif Nat.blt pc 65 then (bif Nat.beq pc 62 then some (.getfield 92, 65, 0, 0, 0) else none) else (bif Nat.blt pc 67 then (bif Nat.beq pc 65 then some (.iload 4, 67, 0, 0, 0) else none) else (bif Nat.beq pc 67 then some (.iaload, 68, 0, 0, 0) else none))) else (bif Nat.blt pc 69 then (bif Nat.beq pc 68 then some (.imul, 69, 0, 0, 0) else none) else (bif Nat.blt pc 70 then (bif Nat.beq pc 69 then some (.iadd, 70, 0, 0, 0) else none) else (bif Nat.beq pc 70 then some (.istore_n 3, 71, 0, 0, 0) else none)))) else (bif Nat.blt pc 78 then (bif Nat.blt pc 74 then (bif Nat.beq pc 71 then some (.iinc 4 1, 74, 0, 1, 0) else none) else (bif Nat.blt pc 77 then (bif Nat.beq pc 74 then some (.goto (-39), 77, 35, 0, 0) else none) else (bif Nat.beq pc 77 then some (.iload_n 3, 78, 0, 0, 0) else none))) else (bif Nat.blt pc 79 then (bif Nat.beq pc 78 then some (.iload_n 2, 79, 0, 0, 0) else none) else (bif Nat.blt pc 80 then (bif Nat.beq pc 79 then some (.idiv, 80, 0, 0, 0) else none) else (bif Nat.beq pc 80 then some (.ireturn, 81, 0, 0, 0) else none))))))))
def tbX7_isSheet : Nat → Option mv_R := mv_lim 7 (fun pc => (bif Nat.blt pc 2 then (bif Nat.blt pc 1 then (bif Nat.beq pc 0 then some (.iload_n 0, 1, 0, 0, 0) else none) else (bif Nat.beq pc 1 then some (.iconst 0, 2, 0, 0, 0) else none)) else (bif Nat.blt pc 3 then (bif Nat.beq pc 2 then some (.iconst 3, 3, 0, 3, 0) else none) else (bif Nat.blt pc 6 then (bif Nat.beq pc 3 then some (.invokestatic 58, 6, 0, 0, 0) else none) else (bif Nat.beq pc 6 then some (.ireturn, 7, 0, 0, 0) else none)))))
def tbX7_isLane : Nat → Option mv_R := mv_lim 7 (fun pc => (bif Nat.blt pc 2 then (bif Nat.blt pc 1 then (bif Nat.beq pc 0 then some (.iload_n 0, 1, 0, 0, 0) else none) else (bif Nat.beq pc 1 then some (.iconst 0, 2, 0, 0, 0) else none)) else (bif Nat.blt pc 3 then (bif Nat.beq pc 2 then some (.iconst 2, 3, 0, 2, 0) else none) else (bif Nat.blt pc 6 then (bif Nat.beq pc 3 then some (.invokestatic 58, 6, 0, 0, 0) else none) else (bif Nat.beq pc 6 then some (.ireturn, 7, 0, 0, 0) else none)))))
def tbX7_surf : Nat → Option mv_R := mv_lim 104 (fun pc => (bif Nat.blt pc 49 then (bif Nat.blt pc 27 then (bif Nat.blt pc 14 then (bif Nat.blt pc 7 then (bif Nat.blt pc 1 then (bif Nat.beq pc 0 then some (.iload_n 1, 1, 0, 0, 0) else none) else (bif Nat.blt pc 4 then (bif Nat.beq pc 1 then some (.invokestatic 159, 4, 0, 0, 0) else none) else (bif Nat.beq pc 4 then some (.ifCond .eq 30, 7, 34, 0, 0) else none))) else (bif Nat.blt pc 8 then (bif Nat.beq pc 7 then some (.iload_n 2, 8, 0, 0, 0) else none) else (bif Nat.blt pc 11 then (bif Nat.beq pc 8 then some (.invokestatic 186, 11, 0, 0, 0) else none) else (bif Nat.beq pc 11 then some (.ifCond .eq 23, 14, 34, 0, 0) else none)))) else (bif Nat.blt pc 21 then (bif Nat.blt pc 15 then (bif Nat.beq pc 14 then some (.iload_n 3, 15, 0, 0, 0) else none) else (bif Nat.blt pc 18 then (bif Nat.beq pc 15 then some (.invokestatic 189, 18, 0, 0, 0) else none) else (bif Nat.beq pc 18 then some (.ifCond .eq 16, 21, 34, 0, 0) else none))) else (bif Nat.blt pc 24 then (bif Nat.blt pc 23 then (bif Nat.beq pc 21 then some (.iload 5, 23, 0, 0, 0) else none) else (bif Nat.beq pc 23 then some (.iconst 0, 24, 0, 0, 0) else none)) else (bif Nat.blt pc 26 then (bif Nat.beq pc 24 then some (.bipush 60, 26, 0, 60, 0) else none) else (bif Nat.beq pc 26 then some (.iload_n 1, 27, 0, 0, 0) else none))))) else (bif Nat.blt pc 37 then (bif Nat.blt pc 34 then (bif Nat.blt pc 28 then (bif Nat.beq pc 27 then some (.isub, 28, 0, 0, 0) else none) else (bif Nat.blt pc 31 then (bif Nat.beq pc 28 then some (.invokestatic 58, 31, 0, 0, 0) else none) else (bif Nat.beq pc 31 then some (.ifCond .ne 5, 34, 36, 0, 0) else none))) else (bif Nat.blt pc 35 then (bif Nat.beq pc 34 then some (.iconst (-1), 35, 0, (-1), 0) else none) else (bif Nat.blt pc 36 then (bif Nat.beq pc 35 then some (.ireturn, 36, 0, 0, 0) else none) else (bif Nat.beq pc 36 then some (.aload_n 0, 37, 0, 0, 0) else none)))) else (bif Nat.blt pc 42 then (bif Nat.blt pc 40 then (bif Nat.beq pc 37 then some (.getfield 53, 40, 0, 0, 0) else none) else (bif Nat.blt pc 41 then (bif Nat.beq pc 40 then some (.iload_n 2, 41, 0, 0, 0) else none) else (bif Nat.beq pc 41 then some (.aaload, 42, 0, 0, 0) else none))) else (bif Nat.blt pc 46 then (bif Nat.blt pc 44 then (bif Nat.beq pc 42 then some (.astore 6, 44, 0, 0, 0) else none) else (bif Nat.beq pc 44 then some (.aload 6, 46, 0, 0, 0) else none)) else (bif Nat.blt pc 47 then (bif Nat.beq pc 46 then some (.iload_n 3, 47, 0, 0, 0) else none) else (bif Nat.beq pc 47 then some (.iload 4, 49, 0, 0, 0) else none)))))) else (bif Nat.blt pc 78 then (bif Nat.blt pc 63 then (bif Nat.blt pc 56 then (bif Nat.blt pc 51 then (bif Nat.beq pc 49 then some (.iload 5, 51, 0, 0, 0) else none) else (bif Nat.blt pc 54 then (bif Nat.beq pc 51 then some (.invokevirtual 192, 54, 0, 0, 0) else none) else (bif Nat.beq pc 54 then some (.istore 7, 56, 0, 0, 0) else none))) else (bif Nat.blt pc 58 then (bif Nat.beq pc 56 then some (.iload 7, 58, 0, 0, 0) else none) else (bif Nat.blt pc 61 then (bif Nat.beq pc 58 then some (.ifCond .eq 6, 61, 64, 0, 0) else none) else (bif Nat.beq pc 61 then some (.iload 7, 63, 0, 0, 0) else none)))) else (bif Nat.blt pc 68 then (bif Nat.blt pc 64 then (bif Nat.beq pc 63 then some (.ireturn, 64, 0, 0, 0) else none) else (bif Nat.blt pc 66 then (bif Nat.beq pc 64 then some (.aload 6, 66, 0, 0, 0) else none) else (bif Nat.beq pc 66 then some (.bipush 9, 68, 0, 9, 0) else none))) else (bif Nat.blt pc 72 then (bif Nat.blt pc 70 then (bif Nat.beq pc 68 then some (.iload 4, 70, 0, 0, 0) else none) else (bif Nat.beq pc 70 then some (.iload 5, 72, 0, 0, 0) else none)) else (bif Nat.blt pc 75 then (bif Nat.beq pc 72 then some (.invokevirtual 195, 75, 0, 0, 0) else none) else (bif Nat.beq pc 75 then some (.ifCond .eq 6, 78, 81, 0, 0) else none))))) else (bif Nat.blt pc 89 then (bif Nat.blt pc 83 then (bif Nat.blt pc 80 then (bif Nat.beq pc 78 then some (.bipush (-2), 80, 0, (-2), 0) else none) else (bif Nat.blt pc 81 then (bif Nat.beq pc 80 then some (.ireturn, 81, 0, 0, 0) else none) else (bif Nat.beq pc 81 then some (.aload 6, 83, 0, 0, 0) else none))) else (bif Nat.blt pc 86 then (bif Nat.beq pc 83 then some (.getfield 198, 86, 0, 0, 0) else none) else (bif Nat.blt pc 88 then (bif Nat.beq pc 86 then some (.iload 4, 88, 0, 0, 0) else none) else (bif Nat.beq pc 88 then some (.aload_n 0, 89, 0, 0, 0) else none)))) else (bif Nat.blt pc 96 then (bif Nat.blt pc 92 then (bif Nat.beq pc 89 then some (.getfield 40, 92, 0, 0, 0) else none) else (bif Nat.blt pc 95 then (bif Nat.beq pc 92 then some (.getfield 201, 95, 0, 0, 0) else none) else (bif Nat.beq pc 95 then some (.iload_n 1, 96, 0, 0, 0) else none))) else (bif Nat.blt pc 101 then (bif Nat.blt pc 98 then (bif Nat.beq pc 96 then some (.iload 5, 98, 0, 0, 0) else none) else (bif Nat.beq pc 98 then some (.invokestatic 204, 101, 0, 0, 0) else none)) else (bif Nat.blt pc 103 then (bif Nat.beq pc 101 then some (.iload 5, 103, 0, 0, 0) else none) else (bif Nat.beq pc 103 then some (.ireturn, 104, 0, 0, 0) else none))))))))
def tbX7_sea : Nat → Option mv_R := mv_lim 20 (fun pc => (bif Nat.blt pc 11 then (bif Nat.blt pc 4 then (bif Nat.blt pc 1 then (bif Nat.beq pc 0 then some (.iload_n 1, 1, 0, 0, 0) else none) else (bif Nat.beq pc 1 then some (.invokestatic 159, 4, 0, 0, 0) else none)) else (bif Nat.blt pc 7 then (bif Nat.beq pc 4 then some (.ifCond .eq 14, 7, 18, 0, 0) else none) else (bif Nat.blt pc 8 then (bif Nat.beq pc 7 then some (.aload_n 0, 8, 0, 0, 0) else none) else (bif Nat.beq pc 8 then some (.getfield 40, 11, 0, 0, 0) else none)))) else (bif Nat.blt pc 15 then (bif Nat.blt pc 12 then (bif Nat.beq pc 11 then some (.iload_n 1, 12, 0, 0, 0) else none) else (bif Nat.beq pc 12 then some (.invokevirtual 210, 15, 0, 0, 0) else none)) else (bif Nat.blt pc 18 then (bif Nat.beq pc 15 then some (.goto 4, 18, 19, 0, 0) else none) else (bif Nat.blt pc 19 then (bif Nat.beq pc 18 then some (.iconst (-1), 19, 0, (-1), 0) else none) else (bif Nat.beq pc 19 then some (.ireturn, 20, 0, 0, 0) else none))))))
def tbX7_bar : Nat → Option mv_R := mv_lim 30 (fun pc => (bif Nat.blt pc 13 then (bif Nat.blt pc 7 then (bif Nat.blt pc 2 then (bif Nat.blt pc 1 then (bif Nat.beq pc 0 then some (.iload_n 1, 1, 0, 0, 0) else none) else (bif Nat.beq pc 1 then some (.iconst 0, 2, 0, 0, 0) else none)) else (bif Nat.blt pc 4 then (bif Nat.beq pc 2 then some (.bipush 9, 4, 0, 9, 0) else none) else (bif Nat.beq pc 4 then some (.invokestatic 58, 7, 0, 0, 0) else none))) else (bif Nat.blt pc 11 then (bif Nat.blt pc 10 then (bif Nat.beq pc 7 then some (.ifCond .ne 5, 10, 12, 0, 0) else none) else (bif Nat.beq pc 10 then some (.iconst (-1), 11, 0, (-1), 0) else none)) else (bif Nat.blt pc 12 then (bif Nat.beq pc 11 then some (.ireturn, 12, 0, 0, 0) else none) else (bif Nat.beq pc 12 then some (.aload_n 0, 13, 0, 0, 0) else none)))) else (bif Nat.blt pc 21 then (bif Nat.blt pc 19 then (bif Nat.blt pc 16 then (bif Nat.beq pc 13 then some (.getfield 40, 16, 0, 0, 0) else none) else (bif Nat.beq pc 16 then some (.getfield 213, 19, 0, 0, 0) else none)) else (bif Nat.blt pc 20 then (bif Nat.beq pc 19 then some (.istore_n 2, 20, 0, 0, 0) else none) else (bif Nat.beq pc 20 then some (.aload_n 0, 21, 0, 0, 0) else none))) else (bif Nat.blt pc 25 then (bif Nat.blt pc 24 then (bif Nat.beq pc 21 then some (.getfield 40, 24, 0, 0, 0) else none) else (bif Nat.beq pc 24 then some (.iload_n 1, 25, 0, 0, 0) else none)) else (bif Nat.blt pc 28 then (bif Nat.beq pc 25 then some (.putfield 213, 28, 0, 0, 0) else none) else (bif Nat.blt pc 29 then (bif Nat.beq pc 28 then some (.iload_n 2, 29, 0, 0, 0) else none) else (bif Nat.beq pc 29 then some (.ireturn, 30, 0, 0, 0) else none)))))))
def tbX7_lay : Nat → Option mv_R := mv_lim 38 (fun pc => (bif Nat.blt pc 19 then (bif Nat.blt pc 7 then (bif Nat.blt pc 2 then (bif Nat.blt pc 1 then (bif Nat.beq pc 0 then some (.iload_n 1, 1, 0, 0, 0) else none) else (bif Nat.beq pc 1 then some (.iconst 1, 2, 0, 1, 0) else none)) else (bif Nat.blt pc 3 then (bif Nat.beq pc 2 then some (.iconst 1, 3, 0, 1, 0) else none) else (bif Nat.blt pc 4 then (bif Nat.beq pc 3 then some (.aload_n 0, 4, 0, 0, 0) else none) else (bif Nat.beq pc 4 then some (.getfield 33, 7, 0, 0, 0) else none)))) else (bif Nat.blt pc 12 then (bif Nat.blt pc 10 then (bif Nat.beq pc 7 then some (.getfield 216, 10, 0, 0, 0) else none) else (bif Nat.blt pc 11 then (bif Nat.beq pc 10 then some (.ishl, 11, 0, 0, 0) else none) else (bif Nat.beq pc 11 then some (.iconst 1, 12, 0, 1, 0) else none))) else (bif Nat.blt pc 13 then (bif Nat.beq pc 12 then some (.isub, 13, 0, 0, 0) else none) else (bif Nat.blt pc 16 then (bif Nat.beq pc 13 then some (.invokestatic 58, 16, 0, 0, 0) else none) else (bif Nat.beq pc 16 then some (.ifCond .ne 5, 19, 21, 0, 0) else none))))) else (bif Nat.blt pc 26 then (bif Nat.blt pc 21 then (bif Nat.blt pc 20 then (bif Nat.beq pc 19 then some (.iconst (-1), 20, 0, (-1), 0) else none) else (bif Nat.beq pc 20 then some (.ireturn, 21, 0, 0, 0) else none)) else (bif Nat.blt pc 22 then (bif Nat.beq pc 21 then some (.aload_n 0, 22, 0, 0, 0) else none) else (bif Nat.blt pc 25 then (bif Nat.beq pc 22 then some (.getfield 47, 25, 0, 0, 0) else none) else (bif Nat.beq pc 25 then some (.aload_n 0, 26, 0, 0, 0) else none)))) else (bif Nat.blt pc 33 then (bif Nat.blt pc 29 then (bif Nat.beq pc 26 then some (.getfield 33, 29, 0, 0, 0) else none) else (bif Nat.blt pc 30 then (bif Nat.beq pc 29 then some (.aload_n 0, 30, 0, 0, 0) else none) else (bif Nat.beq pc 30 then some (.getfield 40, 33, 0, 0, 0) else none))) else (bif Nat.blt pc 34 then (bif Nat.beq pc 33 then some (.iload_n 1, 34, 0, 0, 0) else none) else (bif Nat.blt pc 37 then (bif Nat.beq pc 34 then some (.invokevirtual 217, 37, 0, 0, 0) else none) else (bif Nat.beq pc 37 then some (.ireturn, 38, 0, 0, 0) else none)))))))
def tbX7_laid : Nat → Option mv_R := mv_lim 110 (fun pc => (bif Nat.blt pc 72 then (bif Nat.blt pc 23 then (bif Nat.blt pc 11 then (bif Nat.blt pc 4 then (bif Nat.blt pc 1 then (bif Nat.beq pc 0 then some (.aload_n 0, 1, 0, 0, 0) else none) else (bif Nat.beq pc 1 then some (.getfield 33, 4, 0, 0, 0) else none)) else (bif Nat.blt pc 5 then (bif Nat.beq pc 4 then some (.iload_n 1, 5, 0, 0, 0) else none) else (bif Nat.blt pc 8 then (bif Nat.beq pc 5 then some (.invokevirtual 164, 8, 0, 0, 0) else none) else (bif Nat.beq pc 8 then some (.ifCond .eq 13, 11, 21, 0, 0) else none)))) else (bif Nat.blt pc 18 then (bif Nat.blt pc 12 then (bif Nat.beq pc 11 then some (.aload_n 0, 12, 0, 0, 0) else none) else (bif Nat.blt pc 15 then (bif Nat.beq pc 12 then some (.getfield 47, 15, 0, 0, 0) else none) else (bif Nat.beq pc 15 then some (.getfield 221, 18, 0, 0, 0) else none))) else (bif Nat.blt pc 21 then (bif Nat.beq pc 18 then some (.ifCond .ne 5, 21, 23, 0, 0) else none) else (bif Nat.blt pc 22 then (bif Nat.beq pc 21 then some (.iconst (-1), 22, 0, (-1), 0) else none) else (bif Nat.beq pc 22 then some (.ireturn, 23, 0, 0, 0) else none))))) else (bif Nat.blt pc 35 then (bif Nat.blt pc 30 then (bif Nat.blt pc 24 then (bif Nat.beq pc 23 then some (.aload_n 0, 24, 0, 0, 0) else none) else (bif Nat.blt pc 27 then (bif Nat.beq pc 24 then some (.getfield 47, 27, 0, 0, 0) else none) else (bif Nat.beq pc 27 then some (.getfield 225, 30, 0, 0, 0) else none))) else (bif Nat.blt pc 31 then (bif Nat.beq pc 30 then some (.iload_n 1, 31, 0, 0, 0) else none) else (bif Nat.blt pc 32 then (bif Nat.beq pc 31 then some (.iaload, 32, 0, 0, 0) else none) else (bif Nat.beq pc 32 then some (.ifCond .ge 6, 35, 38, 0, 0) else none)))) else (bif Nat.blt pc 39 then (bif Nat.blt pc 37 then (bif Nat.beq pc 35 then some (.bipush (-2), 37, 0, (-2), 0) else none) else (bif Nat.blt pc 38 then (bif Nat.beq pc 37 then some (.ireturn, 38, 0, 0, 0) else none) else (bif Nat.beq pc 38 then some (.iload_n 2, 39, 0, 0, 0) else none))) else (bif Nat.blt pc 68 then (bif Nat.beq pc 39 then some (.tableswitch 69 0 3 #[29, 39, 49, 59], 68, 108, 0, 0) else none) else (bif Nat.blt pc 69 then (bif Nat.beq pc 68 then some (.aload_n 0, 69, 0, 0, 0) else none) else (bif Nat.beq pc 69 then some (.getfield 47, 72, 0, 0, 0) else none)))))) else (bif Nat.blt pc 92 then (bif Nat.blt pc 82 then (bif Nat.blt pc 77 then (bif Nat.blt pc 75 then (bif Nat.beq pc 72 then some (.getfield 225, 75, 0, 0, 0) else none) else (bif Nat.blt pc 76 then (bif Nat.beq pc 75 then some (.iload_n 1, 76, 0, 0, 0) else none) else (bif Nat.beq pc 76 then some (.iaload, 77, 0, 0, 0) else none))) else (bif Nat.blt pc 78 then (bif Nat.beq pc 77 then some (.ireturn, 78, 0, 0, 0) else none) else (bif Nat.blt pc 79 then (bif Nat.beq pc 78 then some (.aload_n 0, 79, 0, 0, 0) else none) else (bif Nat.beq pc 79 then some (.getfield 47, 82, 0, 0, 0) else none)))) else (bif Nat.blt pc 87 then (bif Nat.blt pc 85 then (bif Nat.beq pc 82 then some (.getfield 228, 85, 0, 0, 0) else none) else (bif Nat.blt pc 86 then (bif Nat.beq pc 85 then some (.iload_n 1, 86, 0, 0, 0) else none) else (bif Nat.beq pc 86 then some (.iaload, 87, 0, 0, 0) else none))) else (bif Nat.blt pc 88 then (bif Nat.beq pc 87 then some (.ireturn, 88, 0, 0, 0) else none) else (bif Nat.blt pc 89 then (bif Nat.beq pc 88 then some (.aload_n 0, 89, 0, 0, 0) else none) else (bif Nat.beq pc 89 then some (.getfield 47, 92, 0, 0, 0) else none))))) else (bif Nat.blt pc 102 then (bif Nat.blt pc 97 then (bif Nat.blt pc 95 then (bif Nat.beq pc 92 then some (.getfield 231, 95, 0, 0, 0) else none) else (bif Nat.blt pc 96 then (bif Nat.beq pc 95 then some (.iload_n 1, 96, 0, 0, 0) else none) else (bif Nat.beq pc 96 then some (.iaload, 97, 0, 0, 0) else none))) else (bif Nat.blt pc 98 then (bif Nat.beq pc 97 then some (.ireturn, 98, 0, 0, 0) else none) else (bif Nat.blt pc 99 then (bif Nat.beq pc 98 then some (.aload_n 0, 99, 0, 0, 0) else none) else (bif Nat.beq pc 99 then some (.getfield 47, 102, 0, 0, 0) else none)))) else (bif Nat.blt pc 107 then (bif Nat.blt pc 105 then (bif Nat.beq pc 102 then some (.getfield 234, 105, 0, 0, 0) else none) else (bif Nat.blt pc 106 then (bif Nat.beq pc 105 then some (.iload_n 1, 106, 0, 0, 0) else none) else (bif Nat.beq pc 106 then some (.iaload, 107, 0, 0, 0) else none))) else (bif Nat.blt pc 108 then (bif Nat.beq pc 107 then some (.ireturn, 108, 0, 0, 0) else none) else (bif Nat.blt pc 109 then (bif Nat.beq pc 108 then some (.iconst (-1), 109, 0, (-1), 0) else none) else (bif Nat.beq pc 109 then some (.ireturn, 110, 0, 0, 0) else none))))))))
def tbX7_count : Nat → Option mv_R := mv_lim 132 (fun pc => (bif Nat.blt pc 86 then (bif Nat.blt pc 65 then (bif Nat.blt pc 55 then (bif Nat.blt pc 48 then (bif Nat.blt pc 1 then (bif Nat.beq pc 0 then some (.iload_n 1, 1, 0, 0, 0) else none) else (bif Nat.beq pc 1 then some (.tableswitch 129 0 7 #[47, 55, 63, 71, 79, 84, 99, 114], 48, 130, 0, 0) else none)) else (bif Nat.blt pc 49 then (bif Nat.beq pc 48 then some (.aload_n 0, 49, 0, 0, 0) else none) else (bif Nat.blt pc 52 then (bif Nat.beq pc 49 then some (.getfield 10, 52, 0, 0, 0) else none) else (bif Nat.beq pc 52 then some (.getfield 144, 55, 0, 0, 0) else none)))) else (bif Nat.blt pc 60 then (bif Nat.blt pc 56 then (bif Nat.beq pc 55 then some (.ireturn, 56, 0, 0, 0) else none) else (bif Nat.blt pc 57 then (bif Nat.beq pc 56 then some (.aload_n 0, 57, 0, 0, 0) else none) else (bif Nat.beq pc 57 then some (.getfield 26, 60, 0, 0, 0) else none))) else (bif Nat.blt pc 63 then (bif Nat.beq pc 60 then some (.getfield 183, 63, 0, 0, 0) else none) else (bif Nat.blt pc 64 then (bif Nat.beq pc 63 then some (.ireturn, 64, 0, 0, 0) else none) else (bif Nat.beq pc 64 then some (.aload_n 0, 65, 0, 0, 0) else none))))) else (bif Nat.blt pc 76 then (bif Nat.blt pc 71 then (bif Nat.blt pc 68 then (bif Nat.beq pc 65 then some (.getfield 10, 68, 0, 0, 0) else none) else (bif Nat.beq pc 68 then some (.getfield 237, 71, 0, 0, 0) else none)) else (bif Nat.blt pc 72 then (bif Nat.beq pc 71 then some (.ireturn, 72, 0, 0, 0) else none) else (bif Nat.blt pc 73 then (bif Nat.beq pc 72 then some (.aload_n 0, 73, 0, 0, 0) else none) else (bif Nat.beq pc 73 then some (.getfield 33, 76, 0, 0, 0) else none)))) else (bif Nat.blt pc 81 then (bif Nat.blt pc 79 then (bif Nat.beq pc 76 then some (.getfield 216, 79, 0, 0, 0) else none) else (bif Nat.blt pc 80 then (bif Nat.beq pc 79 then some (.ireturn, 80, 0, 0, 0) else none) else (bif Nat.beq pc 80 then some (.aload_n 0, 81, 0, 0, 0) else none))) else (bif Nat.blt pc 84 then (bif Nat.beq pc 81 then some (.getfield 66, 84, 0, 0, 0) else none) else (bif Nat.blt pc 85 then (bif Nat.beq pc 84 then some (.ireturn, 85, 0, 0, 0) else none) else (bif Nat.beq pc 85 then some (.aload_n 0, 86, 0, 0, 0) else none)))))) else (bif Nat.blt pc 111 then (bif Nat.blt pc 99 then (bif Nat.blt pc 90 then (bif Nat.blt pc 89 then (bif Nat.beq pc 86 then some (.getfield 26, 89, 0, 0, 0) else none) else (bif Nat.beq pc 89 then some (.aload_n 0, 90, 0, 0, 0) else none)) else (bif Nat.blt pc 93 then (bif Nat.beq pc 90 then some (.getfield 26, 93, 0, 0, 0) else none) else (bif Nat.blt pc 96 then (bif Nat.beq pc 93 then some (.getfield 81, 96, 0, 0, 0) else none) else (bif Nat.beq pc 96 then some (.invokevirtual 240, 99, 0, 0, 0) else none)))) else (bif Nat.blt pc 104 then (bif Nat.blt pc 100 then (bif Nat.beq pc 99 then some (.ireturn, 100, 0, 0, 0) else none) else (bif Nat.blt pc 101 then (bif Nat.beq pc 100 then some (.aload_n 0, 101, 0, 0, 0) else none) else (bif Nat.beq pc 101 then some (.getfield 26, 104, 0, 0, 0) else none))) else (bif Nat.blt pc 105 then (bif Nat.beq pc 104 then some (.aload_n 0, 105, 0, 0, 0) else none) else (bif Nat.blt pc 108 then (bif Nat.beq pc 105 then some (.getfield 26, 108, 0, 0, 0) else none) else (bif Nat.beq pc 108 then some (.getfield 95, 111, 0, 0, 0) else none))))) else (bif Nat.blt pc 120 then (bif Nat.blt pc 115 then (bif Nat.blt pc 114 then (bif Nat.beq pc 111 then some (.invokevirtual 240, 114, 0, 0, 0) else none) else (bif Nat.beq pc 114 then some (.ireturn, 115, 0, 0, 0) else none)) else (bif Nat.blt pc 116 then (bif Nat.beq pc 115 then some (.aload_n 0, 116, 0, 0, 0) else none) else (bif Nat.blt pc 119 then (bif Nat.beq pc 116 then some (.getfield 26, 119, 0, 0, 0) else none) else (bif Nat.beq pc 119 then some (.aload_n 0, 120, 0, 0, 0) else none)))) else (bif Nat.blt pc 129 then (bif Nat.blt pc 123 then (bif Nat.beq pc 120 then some (.getfield 26, 123, 0, 0, 0) else none) else (bif Nat.blt pc 126 then (bif Nat.beq pc 123 then some (.getfield 98, 126, 0, 0, 0) else none) else (bif Nat.beq pc 126 then some (.invokevirtual 240, 129, 0, 0, 0) else none))) else (bif Nat.blt pc 130 then (bif Nat.beq pc 129 then some (.ireturn, 130, 0, 0, 0) else none) else (bif Nat.blt pc 131 then (bif Nat.beq pc 130 then some (.iconst (-1), 131, 0, (-1), 0) else none) else (bif Nat.beq pc 131 then some (.ireturn, 132, 0, 0, 0) else none))))))))
def tbX7_sheet : Nat → Option mv_R := mv_lim 42 (fun pc => (bif Nat.blt pc 23 then (bif Nat.blt pc 14 then (bif Nat.blt pc 7 then (bif Nat.blt pc 1 then (bif Nat.beq pc 0 then some (.iload_n 1, 1, 0, 0, 0) else none) else (bif Nat.blt pc 4 then (bif Nat.beq pc 1 then some (.invokestatic 186, 4, 0, 0, 0) else none) else (bif Nat.beq pc 4 then some (.ifCond .eq 16, 7, 20, 0, 0) else none))) else (bif Nat.blt pc 8 then (bif Nat.beq pc 7 then some (.iload_n 2, 8, 0, 0, 0) else none) else (bif Nat.blt pc 11 then (bif Nat.beq pc 8 then some (.invokestatic 189, 11, 0, 0, 0) else none) else (bif Nat.beq pc 11 then some (.ifCond .eq 9, 14, 20, 0, 0) else none)))) else (bif Nat.blt pc 20 then (bif Nat.blt pc 15 then (bif Nat.beq pc 14 then some (.iload_n 3, 15, 0, 0, 0) else none) else (bif Nat.blt pc 17 then (bif Nat.beq pc 15 then some (.bipush 60, 17, 0, 60, 0) else none) else (bif Nat.beq pc 17 then some (.if_icmp .le 5, 20, 22, 0, 0) else none))) else (bif Nat.blt pc 21 then (bif Nat.beq pc 20 then some (.iconst (-1), 21, 0, (-1), 0) else none) else (bif Nat.blt pc 22 then (bif Nat.beq pc 21 then some (.ireturn, 22, 0, 0, 0) else none) else (bif Nat.beq pc 22 then some (.iload_n 3, 23, 0, 0, 0) else none))))) else (bif Nat.blt pc 34 then (bif Nat.blt pc 29 then (bif Nat.blt pc 26 then (bif Nat.beq pc 23 then some (.ifCond .ge 6, 26, 29, 0, 0) else none) else (bif Nat.blt pc 28 then (bif Nat.beq pc 26 then some (.bipush (-14), 28, 0, (-14), 0) else none) else (bif Nat.beq pc 28 then some (.ireturn, 29, 0, 0, 0) else none))) else (bif Nat.blt pc 30 then (bif Nat.beq pc 29 then some (.aload_n 0, 30, 0, 0, 0) else none) else (bif Nat.blt pc 33 then (bif Nat.beq pc 30 then some (.getfield 53, 33, 0, 0, 0) else none) else (bif Nat.beq pc 33 then some (.iload_n 1, 34, 0, 0, 0) else none)))) else (bif Nat.blt pc 37 then (bif Nat.blt pc 35 then (bif Nat.beq pc 34 then some (.aaload, 35, 0, 0, 0) else none) else (bif Nat.blt pc 36 then (bif Nat.beq pc 35 then some (.iload_n 2, 36, 0, 0, 0) else none) else (bif Nat.beq pc 36 then some (.iload_n 3, 37, 0, 0, 0) else none))) else (bif Nat.blt pc 40 then (bif Nat.beq pc 37 then some (.invokevirtual 244, 40, 0, 0, 0) else none) else (bif Nat.blt pc 41 then (bif Nat.beq pc 40 then some (.iload_n 3, 41, 0, 0, 0) else none) else (bif Nat.beq pc 41 then some (.ireturn, 42, 0, 0, 0) else none)))))))
def tbX7_drop : Nat → Option mv_R := mv_lim 36 (fun pc => (bif Nat.blt pc 16 then (bif Nat.blt pc 9 then (bif Nat.blt pc 4 then (bif Nat.blt pc 1 then (bif Nat.beq pc 0 then some (.iload_n 1, 1, 0, 0, 0) else none) else (bif Nat.beq pc 1 then some (.invokestatic 186, 4, 0, 0, 0) else none)) else (bif Nat.blt pc 7 then (bif Nat.beq pc 4 then some (.ifCond .ne 5, 7, 9, 0, 0) else none) else (bif Nat.blt pc 8 then (bif Nat.beq pc 7 then some (.iconst (-1), 8, 0, (-1), 0) else none) else (bif Nat.beq pc 8 then some (.ireturn, 9, 0, 0, 0) else none)))) else (bif Nat.blt pc 13 then (bif Nat.blt pc 10 then (bif Nat.beq pc 9 then some (.aload_n 0, 10, 0, 0, 0) else none) else (bif Nat.beq pc 10 then some (.getfield 53, 13, 0, 0, 0) else none)) else (bif Nat.blt pc 14 then (bif Nat.beq pc 13 then some (.iload_n 1, 14, 0, 0, 0) else none) else (bif Nat.blt pc 15 then (bif Nat.beq pc 14 then some (.aaload, 15, 0, 0, 0) else none) else (bif Nat.beq pc 15 then some (.astore_n 2, 16, 0, 0, 0) else none))))) else (bif Nat.blt pc 26 then (bif Nat.blt pc 20 then (bif Nat.blt pc 17 then (bif Nat.beq pc 16 then some (.aload_n 2, 17, 0, 0, 0) else none) else (bif Nat.beq pc 17 then some (.invokevirtual 247, 20, 0, 0, 0) else none)) else (bif Nat.blt pc 23 then (bif Nat.beq pc 20 then some (.ifCond .eq 6, 23, 26, 0, 0) else none) else (bif Nat.blt pc 25 then (bif Nat.beq pc 23 then some (.bipush (-11), 25, 0, (-11), 0) else none) else (bif Nat.beq pc 25 then some (.ireturn, 26, 0, 0, 0) else none)))) else (bif Nat.blt pc 31 then (bif Nat.blt pc 27 then (bif Nat.beq pc 26 then some (.aload_n 2, 27, 0, 0, 0) else none) else (bif Nat.blt pc 28 then (bif Nat.beq pc 27 then some (.iconst (-1), 28, 0, (-1), 0) else none) else (bif Nat.beq pc 28 then some (.putfield 251, 31, 0, 0, 0) else none))) else (bif Nat.blt pc 32 then (bif Nat.beq pc 31 then some (.aload_n 2, 32, 0, 0, 0) else none) else (bif Nat.blt pc 35 then (bif Nat.beq pc 32 then some (.getfield 254, 35, 0, 0, 0) else none) else (bif Nat.beq pc 35 then some (.ireturn, 36, 0, 0, 0) else none)))))))
def tbX7_item : Nat → Option mv_R := mv_lim 52 (fun pc => (bif Nat.blt pc 25 then (bif Nat.blt pc 15 then (bif Nat.blt pc 7 then (bif Nat.blt pc 1 then (bif Nat.beq pc 0 then some (.iload_n 1, 1, 0, 0, 0) else none) else (bif Nat.blt pc 4 then (bif Nat.beq pc 1 then some (.invokestatic 186, 4, 0, 0, 0) else none) else (bif Nat.beq pc 4 then some (.ifCond .eq 10, 7, 14, 0, 0) else none))) else (bif Nat.blt pc 11 then (bif Nat.blt pc 8 then (bif Nat.beq pc 7 then some (.iload_n 2, 8, 0, 0, 0) else none) else (bif Nat.beq pc 8 then some (.invokestatic 189, 11, 0, 0, 0) else none)) else (bif Nat.blt pc 14 then (bif Nat.beq pc 11 then some (.ifCond .ne 5, 14, 16, 0, 0) else none) else (bif Nat.beq pc 14 then some (.iconst (-1), 15, 0, (-1), 0) else none)))) else (bif Nat.blt pc 21 then (bif Nat.blt pc 17 then (bif Nat.blt pc 16 then (bif Nat.beq pc 15 then some (.ireturn, 16, 0, 0, 0) else none) else (bif Nat.beq pc 16 then some (.aload_n 0, 17, 0, 0, 0) else none)) else (bif Nat.blt pc 20 then (bif Nat.beq pc 17 then some (.getfield 53, 20, 0, 0, 0) else none) else (bif Nat.beq pc 20 then some (.iload_n 1, 21, 0, 0, 0) else none))) else (bif Nat.blt pc 23 then (bif Nat.blt pc 22 then (bif Nat.beq pc 21 then some (.aaload, 22, 0, 0, 0) else none) else (bif Nat.beq pc 22 then some (.iload_n 2, 23, 0, 0, 0) else none)) else (bif Nat.blt pc 24 then (bif Nat.beq pc 23 then some (.iload_n 3, 24, 0, 0, 0) else none) else (bif Nat.beq pc 24 then some (.iconst 1, 25, 0, 1, 0) else none))))) else (bif Nat.blt pc 39 then (bif Nat.blt pc 32 then (bif Nat.blt pc 28 then (bif Nat.beq pc 25 then some (.invokevirtual 192, 28, 0, 0, 0) else none) else (bif Nat.blt pc 30 then (bif Nat.beq pc 28 then some (.istore 5, 30, 0, 0, 0) else none) else (bif Nat.beq pc 30 then some (.iload 5, 32, 0, 0, 0) else none))) else (bif Nat.blt pc 37 then (bif Nat.blt pc 35 then (bif Nat.beq pc 32 then some (.ifCond .eq 6, 35, 38, 0, 0) else none) else (bif Nat.beq pc 35 then some (.iload 5, 37, 0, 0, 0) else none)) else (bif Nat.blt pc 38 then (bif Nat.beq pc 37 then some (.ireturn, 38, 0, 0, 0) else none) else (bif Nat.beq pc 38 then some (.aload_n 0, 39, 0, 0, 0) else none)))) else (bif Nat.blt pc 45 then (bif Nat.blt pc 43 then (bif Nat.blt pc 42 then (bif Nat.beq pc 39 then some (.getfield 53, 42, 0, 0, 0) else none) else (bif Nat.beq pc 42 then some (.iload_n 1, 43, 0, 0, 0) else none)) else (bif Nat.blt pc 44 then (bif Nat.beq pc 43 then some (.aaload, 44, 0, 0, 0) else none) else (bif Nat.beq pc 44 then some (.iload_n 3, 45, 0, 0, 0) else none))) else (bif Nat.blt pc 50 then (bif Nat.blt pc 47 then (bif Nat.beq pc 45 then some (.iload 4, 47, 0, 0, 0) else none) else (bif Nat.beq pc 47 then some (.invokevirtual 255, 50, 0, 0, 0) else none)) else (bif Nat.blt pc 51 then (bif Nat.beq pc 50 then some (.iconst 1, 51, 0, 1, 0) else none) else (bif Nat.beq pc 51 then some (.ireturn, 52, 0, 0, 0) else none)))))))
def tbX7_copy : Nat → Option mv_R := mv_lim 114 (fun pc => (bif Nat.blt pc 53 then (bif Nat.blt pc 24 then (bif Nat.blt pc 14 then (bif Nat.blt pc 7 then (bif Nat.blt pc 1 then (bif Nat.beq pc 0 then some (.iload_n 1, 1, 0, 0, 0) else none) else (bif Nat.blt pc 4 then (bif Nat.beq pc 1 then some (.invokestatic 186, 4, 0, 0, 0) else none) else (bif Nat.beq pc 4 then some (.ifCond .eq 10, 7, 14, 0, 0) else none))) else (bif Nat.blt pc 8 then (bif Nat.beq pc 7 then some (.iload_n 3, 8, 0, 0, 0) else none) else (bif Nat.blt pc 11 then (bif Nat.beq pc 8 then some (.invokestatic 186, 11, 0, 0, 0) else none) else (bif Nat.beq pc 11 then some (.ifCond .ne 5, 14, 16, 0, 0) else none)))) else (bif Nat.blt pc 17 then (bif Nat.blt pc 15 then (bif Nat.beq pc 14 then some (.iconst (-1), 15, 0, (-1), 0) else none) else (bif Nat.blt pc 16 then (bif Nat.beq pc 15 then some (.ireturn, 16, 0, 0, 0) else none) else (bif Nat.beq pc 16 then some (.aload_n 0, 17, 0, 0, 0) else none))) else (bif Nat.blt pc 21 then (bif Nat.blt pc 20 then (bif Nat.beq pc 17 then some (.getfield 53, 20, 0, 0, 0) else none) else (bif Nat.beq pc 20 then some (.iload_n 1, 21, 0, 0, 0) else none)) else (bif Nat.blt pc 22 then (bif Nat.beq pc 21 then some (.aaload, 22, 0, 0, 0) else none) else (bif Nat.beq pc 22 then some (.astore 6, 24, 0, 0, 0) else none))))) else (bif Nat.blt pc 37 then (bif Nat.blt pc 29 then (bif Nat.blt pc 25 then (bif Nat.beq pc 24 then some (.aload_n 0, 25, 0, 0, 0) else none) else (bif Nat.blt pc 28 then (bif Nat.beq pc 25 then some (.getfield 53, 28, 0, 0, 0) else none) else (bif Nat.beq pc 28 then some (.iload_n 3, 29, 0, 0, 0) else none))) else (bif Nat.blt pc 32 then (bif Nat.blt pc 30 then (bif Nat.beq pc 29 then some (.aaload, 30, 0, 0, 0) else none) else (bif Nat.beq pc 30 then some (.astore 7, 32, 0, 0, 0) else none)) else (bif Nat.blt pc 34 then (bif Nat.beq pc 32 then some (.aload 6, 34, 0, 0, 0) else none) else (bif Nat.beq pc 34 then some (.invokevirtual 247, 37, 0, 0, 0) else none)))) else (bif Nat.blt pc 45 then (bif Nat.blt pc 40 then (bif Nat.beq pc 37 then some (.ifCond .ne 11, 40, 48, 0, 0) else none) else (bif Nat.blt pc 42 then (bif Nat.beq pc 40 then some (.aload 7, 42, 0, 0, 0) else none) else (bif Nat.beq pc 42 then some (.invokevirtual 247, 45, 0, 0, 0) else none))) else (bif Nat.blt pc 50 then (bif Nat.blt pc 48 then (bif Nat.beq pc 45 then some (.ifCond .eq 6, 48, 51, 0, 0) else none) else (bif Nat.beq pc 48 then some (.bipush (-11), 50, 0, (-11), 0) else none)) else (bif Nat.blt pc 51 then (bif Nat.beq pc 50 then some (.ireturn, 51, 0, 0, 0) else none) else (bif Nat.beq pc 51 then some (.aload 6, 53, 0, 0, 0) else none)))))) else (bif Nat.blt pc 84 then (bif Nat.blt pc 69 then (bif Nat.blt pc 61 then (bif Nat.blt pc 56 then (bif Nat.beq pc 53 then some (.getfield 251, 56, 0, 0, 0) else none) else (bif Nat.blt pc 58 then (bif Nat.beq pc 56 then some (.aload 7, 58, 0, 0, 0) else none) else (bif Nat.beq pc 58 then some (.getfield 251, 61, 0, 0, 0) else none))) else (bif Nat.blt pc 66 then (bif Nat.blt pc 64 then (bif Nat.beq pc 61 then some (.if_icmp .eq 6, 64, 67, 0, 0) else none) else (bif Nat.beq pc 64 then some (.bipush (-12), 66, 0, (-12), 0) else none)) else (bif Nat.blt pc 67 then (bif Nat.beq pc 66 then some (.ireturn, 67, 0, 0, 0) else none) else (bif Nat.beq pc 67 then some (.aload 6, 69, 0, 0, 0) else none)))) else (bif Nat.blt pc 75 then (bif Nat.blt pc 70 then (bif Nat.beq pc 69 then some (.iload_n 2, 70, 0, 0, 0) else none) else (bif Nat.blt pc 72 then (bif Nat.beq pc 70 then some (.iload 5, 72, 0, 0, 0) else none) else (bif Nat.beq pc 72 then some (.invokevirtual 258, 75, 0, 0, 0) else none))) else (bif Nat.blt pc 80 then (bif Nat.blt pc 78 then (bif Nat.beq pc 75 then some (.ifCond .eq 15, 78, 90, 0, 0) else none) else (bif Nat.beq pc 78 then some (.aload 7, 80, 0, 0, 0) else none)) else (bif Nat.blt pc 82 then (bif Nat.beq pc 80 then some (.iload 4, 82, 0, 0, 0) else none) else (bif Nat.beq pc 82 then some (.iload 5, 84, 0, 0, 0) else none))))) else (bif Nat.blt pc 99 then (bif Nat.blt pc 92 then (bif Nat.blt pc 87 then (bif Nat.beq pc 84 then some (.invokevirtual 258, 87, 0, 0, 0) else none) else (bif Nat.blt pc 90 then (bif Nat.beq pc 87 then some (.ifCond .ne 6, 90, 93, 0, 0) else none) else (bif Nat.beq pc 90 then some (.bipush (-13), 92, 0, (-13), 0) else none))) else (bif Nat.blt pc 95 then (bif Nat.blt pc 93 then (bif Nat.beq pc 92 then some (.ireturn, 93, 0, 0, 0) else none) else (bif Nat.beq pc 93 then some (.aload 6, 95, 0, 0, 0) else none)) else (bif Nat.blt pc 98 then (bif Nat.beq pc 95 then some (.getfield 198, 98, 0, 0, 0) else none) else (bif Nat.beq pc 98 then some (.iload_n 2, 99, 0, 0, 0) else none)))) else (bif Nat.blt pc 106 then (bif Nat.blt pc 101 then (bif Nat.beq pc 99 then some (.aload 7, 101, 0, 0, 0) else none) else (bif Nat.blt pc 104 then (bif Nat.beq pc 101 then some (.getfield 198, 104, 0, 0, 0) else none) else (bif Nat.beq pc 104 then some (.iload 4, 106, 0, 0, 0) else none))) else (bif Nat.blt pc 111 then (bif Nat.blt pc 108 then (bif Nat.beq pc 106 then some (.iload 5, 108, 0, 0, 0) else none) else (bif Nat.beq pc 108 then some (.invokestatic 204, 111, 0, 0, 0) else none)) else (bif Nat.blt pc 113 then (bif Nat.beq pc 111 then some (.iload 5, 113, 0, 0, 0) else none) else (bif Nat.beq pc 113 then some (.ireturn, 114, 0, 0, 0) else none))))))))
def tbX8_in : Nat → Option mv_R := mv_lim 16 (fun pc => (bif Nat.blt pc 7 then (bif Nat.blt pc 2 then (bif Nat.blt pc 1 then (bif Nat.beq pc 0 then some (.iload_n 0, 1, 0, 0, 0) else none) else (bif Nat.beq pc 1 then some (.iload_n 1, 2, 0, 0, 0) else none)) else (bif Nat.blt pc 5 then (bif Nat.beq pc 2 then some (.if_icmp .lt 12, 5, 14, 0, 0) else none) else (bif Nat.blt pc 6 then (bif Nat.beq pc 5 then some (.iload_n 0, 6, 0, 0, 0) else none) else (bif Nat.beq pc 6 then some (.iload_n 2, 7, 0, 0, 0) else none)))) else (bif Nat.blt pc 11 then (bif Nat.blt pc 10 then (bif Nat.beq pc 7 then some (.if_icmp .gt 7, 10, 14, 0, 0) else none) else (bif Nat.beq pc 10 then some (.iconst 1, 11, 0, 1, 0) else none)) else (bif Nat.blt pc 14 then (bif Nat.beq pc 11 then some (.goto 4, 14, 15, 0, 0) else none) else (bif Nat.blt pc 15 then (bif Nat.beq pc 14 then some (.iconst 0, 15, 0, 0, 0) else none) else (bif Nat.beq pc 15 then some (.ireturn, 16, 0, 0, 0) else none))))))
def tbX8_isWorks : Nat → Option mv_R := mv_lim 12 (fun pc => (bif Nat.blt pc 6 then (bif Nat.blt pc 2 then (bif Nat.blt pc 1 then (bif Nat.beq pc 0 then some (.iload_n 1, 1, 0, 0, 0) else none) else (bif Nat.beq pc 1 then some (.iconst 0, 2, 0, 0, 0) else none)) else (bif Nat.blt pc 3 then (bif Nat.beq pc 2 then some (.aload_n 0, 3, 0, 0, 0) else none) else (bif Nat.beq pc 3 then some (.getfield 121, 6, 0, 0, 0) else none))) else (bif Nat.blt pc 8 then (bif Nat.blt pc 7 then (bif Nat.beq pc 6 then some (.iconst 1, 7, 0, 1, 0) else none) else (bif Nat.beq pc 7 then some (.isub, 8, 0, 0, 0) else none)) else (bif Nat.blt pc 11 then (bif Nat.beq pc 8 then some (.invokestatic 124, 11, 0, 0, 0) else none) else (bif Nat.beq pc 11 then some (.ireturn, 12, 0, 0, 0) else none)))))
def tbX8_isLot : Nat → Option mv_R := mv_lim 12 (fun pc => (bif Nat.blt pc 6 then (bif Nat.blt pc 2 then (bif Nat.blt pc 1 then (bif Nat.beq pc 0 then some (.iload_n 1, 1, 0, 0, 0) else none) else (bif Nat.beq pc 1 then some (.iconst 0, 2, 0, 0, 0) else none)) else (bif Nat.blt pc 3 then (bif Nat.beq pc 2 then some (.aload_n 0, 3, 0, 0, 0) else none) else (bif Nat.beq pc 3 then some (.getfield 128, 6, 0, 0, 0) else none))) else (bif Nat.blt pc 8 then (bif Nat.blt pc 7 then (bif Nat.beq pc 6 then some (.iconst 1, 7, 0, 1, 0) else none) else (bif Nat.beq pc 7 then some (.isub, 8, 0, 0, 0) else none)) else (bif Nat.blt pc 11 then (bif Nat.beq pc 8 then some (.invokestatic 124, 11, 0, 0, 0) else none) else (bif Nat.beq pc 11 then some (.ireturn, 12, 0, 0, 0) else none)))))
def tbX8_works : Nat → Option mv_R := mv_lim 52 (fun pc => (bif Nat.blt pc 29 then (bif Nat.blt pc 13 then (bif Nat.blt pc 5 then (bif Nat.blt pc 1 then (bif Nat.beq pc 0 then some (.iload_n 1, 1, 0, 0, 0) else none) else (bif Nat.blt pc 2 then (bif Nat.beq pc 1 then some (.iconst 1, 2, 0, 1, 0) else none) else (bif Nat.beq pc 2 then some (.sipush 1000, 5, 0, 1000, 0) else none))) else (bif Nat.blt pc 11 then (bif Nat.blt pc 8 then (bif Nat.beq pc 5 then some (.invokestatic 124, 8, 0, 0, 0) else none) else (bif Nat.beq pc 8 then some (.ifCond .ne 5, 11, 13, 0, 0) else none)) else (bif Nat.blt pc 12 then (bif Nat.beq pc 11 then some (.iconst (-1), 12, 0, (-1), 0) else none) else (bif Nat.beq pc 12 then some (.ireturn, 13, 0, 0, 0) else none)))) else (bif Nat.blt pc 22 then (bif Nat.blt pc 17 then (bif Nat.blt pc 14 then (bif Nat.beq pc 13 then some (.aload_n 0, 14, 0, 0, 0) else none) else (bif Nat.beq pc 14 then some (.getfield 121, 17, 0, 0, 0) else none)) else (bif Nat.blt pc 19 then (bif Nat.beq pc 17 then some (.bipush 8, 19, 0, 8, 0) else none) else (bif Nat.beq pc 19 then some (.if_icmp .ne 6, 22, 25, 0, 0) else none))) else (bif Nat.blt pc 25 then (bif Nat.blt pc 24 then (bif Nat.beq pc 22 then some (.bipush (-3), 24, 0, (-3), 0) else none) else (bif Nat.beq pc 24 then some (.ireturn, 25, 0, 0, 0) else none)) else (bif Nat.blt pc 26 then (bif Nat.beq pc 25 then some (.aload_n 0, 26, 0, 0, 0) else none) else (bif Nat.beq pc 26 then some (.getfield 7, 29, 0, 0, 0) else none))))) else (bif Nat.blt pc 40 then (bif Nat.blt pc 34 then (bif Nat.blt pc 30 then (bif Nat.beq pc 29 then some (.aload_n 0, 30, 0, 0, 0) else none) else (bif Nat.blt pc 33 then (bif Nat.beq pc 30 then some (.getfield 121, 33, 0, 0, 0) else none) else (bif Nat.beq pc 33 then some (.iload_n 1, 34, 0, 0, 0) else none))) else (bif Nat.blt pc 36 then (bif Nat.blt pc 35 then (bif Nat.beq pc 34 then some (.iastore, 35, 0, 0, 0) else none) else (bif Nat.beq pc 35 then some (.aload_n 0, 36, 0, 0, 0) else none)) else (bif Nat.blt pc 37 then (bif Nat.beq pc 36 then some (.dup, 37, 0, 0, 0) else none) else (bif Nat.beq pc 37 then some (.getfield 121, 40, 0, 0, 0) else none)))) else (bif Nat.blt pc 46 then (bif Nat.blt pc 42 then (bif Nat.blt pc 41 then (bif Nat.beq pc 40 then some (.iconst 1, 41, 0, 1, 0) else none) else (bif Nat.beq pc 41 then some (.iadd, 42, 0, 0, 0) else none)) else (bif Nat.blt pc 45 then (bif Nat.beq pc 42 then some (.putfield 121, 45, 0, 0, 0) else none) else (bif Nat.beq pc 45 then some (.aload_n 0, 46, 0, 0, 0) else none))) else (bif Nat.blt pc 50 then (bif Nat.blt pc 49 then (bif Nat.beq pc 46 then some (.getfield 121, 49, 0, 0, 0) else none) else (bif Nat.beq pc 49 then some (.iconst 1, 50, 0, 1, 0) else none)) else (bif Nat.blt pc 51 then (bif Nat.beq pc 50 then some (.isub, 51, 0, 0, 0) else none) else (bif Nat.beq pc 51 then some (.ireturn, 52, 0, 0, 0) else none)))))))
def tbX8_weeks : Nat → Option mv_R := mv_lim 38 (fun pc => (bif Nat.blt pc 21 then (bif Nat.blt pc 10 then (bif Nat.blt pc 2 then (bif Nat.blt pc 1 then (bif Nat.beq pc 0 then some (.iload_n 1, 1, 0, 0, 0) else none) else (bif Nat.beq pc 1 then some (.iconst 0, 2, 0, 0, 0) else none)) else (bif Nat.blt pc 4 then (bif Nat.beq pc 2 then some (.bipush 51, 4, 0, 51, 0) else none) else (bif Nat.blt pc 7 then (bif Nat.beq pc 4 then some (.invokestatic 124, 7, 0, 0, 0) else none) else (bif Nat.beq pc 7 then some (.ifCond .eq 14, 10, 21, 0, 0) else none)))) else (bif Nat.blt pc 15 then (bif Nat.blt pc 11 then (bif Nat.beq pc 10 then some (.aload_n 0, 11, 0, 0, 0) else none) else (bif Nat.blt pc 14 then (bif Nat.beq pc 11 then some (.getfield 131, 14, 0, 0, 0) else none) else (bif Nat.beq pc 14 then some (.iload_n 1, 15, 0, 0, 0) else none))) else (bif Nat.blt pc 16 then (bif Nat.beq pc 15 then some (.iadd, 16, 0, 0, 0) else none) else (bif Nat.blt pc 18 then (bif Nat.beq pc 16 then some (.bipush 51, 18, 0, 51, 0) else none) else (bif Nat.beq pc 18 then some (.if_icmp .le 5, 21, 23, 0, 0) else none))))) else (bif Nat.blt pc 28 then (bif Nat.blt pc 23 then (bif Nat.blt pc 22 then (bif Nat.beq pc 21 then some (.iconst (-1), 22, 0, (-1), 0) else none) else (bif Nat.beq pc 22 then some (.ireturn, 23, 0, 0, 0) else none)) else (bif Nat.blt pc 24 then (bif Nat.beq pc 23 then some (.aload_n 0, 24, 0, 0, 0) else none) else (bif Nat.blt pc 25 then (bif Nat.beq pc 24 then some (.dup, 25, 0, 0, 0) else none) else (bif Nat.beq pc 25 then some (.getfield 131, 28, 0, 0, 0) else none)))) else (bif Nat.blt pc 33 then (bif Nat.blt pc 29 then (bif Nat.beq pc 28 then some (.iload_n 1, 29, 0, 0, 0) else none) else (bif Nat.blt pc 30 then (bif Nat.beq pc 29 then some (.iadd, 30, 0, 0, 0) else none) else (bif Nat.beq pc 30 then some (.putfield 131, 33, 0, 0, 0) else none))) else (bif Nat.blt pc 34 then (bif Nat.beq pc 33 then some (.aload_n 0, 34, 0, 0, 0) else none) else (bif Nat.blt pc 37 then (bif Nat.beq pc 34 then some (.getfield 131, 37, 0, 0, 0) else none) else (bif Nat.beq pc 37 then some (.ireturn, 38, 0, 0, 0) else none)))))))
def tbX8_lot : Nat → Option mv_R := mv_lim 104 (fun pc => (bif Nat.blt pc 55 then (bif Nat.blt pc 30 then (bif Nat.blt pc 13 then (bif Nat.blt pc 5 then (bif Nat.blt pc 1 then (bif Nat.beq pc 0 then some (.aload_n 0, 1, 0, 0, 0) else none) else (bif Nat.blt pc 2 then (bif Nat.beq pc 1 then some (.iload_n 1, 2, 0, 0, 0) else none) else (bif Nat.beq pc 2 then some (.invokevirtual 134, 5, 0, 0, 0) else none))) else (bif Nat.blt pc 9 then (bif Nat.blt pc 8 then (bif Nat.beq pc 5 then some (.ifCond .eq 25, 8, 30, 0, 0) else none) else (bif Nat.beq pc 8 then some (.iload_n 2, 9, 0, 0, 0) else none)) else (bif Nat.blt pc 10 then (bif Nat.beq pc 9 then some (.iconst 0, 10, 0, 0, 0) else none) else (bif Nat.beq pc 10 then some (.sipush 1000, 13, 0, 1000, 0) else none)))) else (bif Nat.blt pc 20 then (bif Nat.blt pc 16 then (bif Nat.beq pc 13 then some (.invokestatic 124, 16, 0, 0, 0) else none) else (bif Nat.blt pc 19 then (bif Nat.beq pc 16 then some (.ifCond .eq 14, 19, 30, 0, 0) else none) else (bif Nat.beq pc 19 then some (.iload_n 3, 20, 0, 0, 0) else none))) else (bif Nat.blt pc 24 then (bif Nat.blt pc 21 then (bif Nat.beq pc 20 then some (.iconst 1, 21, 0, 1, 0) else none) else (bif Nat.beq pc 21 then some (.sipush 10000, 24, 0, 10000, 0) else none)) else (bif Nat.blt pc 27 then (bif Nat.beq pc 24 then some (.invokestatic 124, 27, 0, 0, 0) else none) else (bif Nat.beq pc 27 then some (.ifCond .ne 5, 30, 32, 0, 0) else none))))) else (bif Nat.blt pc 43 then (bif Nat.blt pc 33 then (bif Nat.blt pc 31 then (bif Nat.beq pc 30 then some (.iconst (-1), 31, 0, (-1), 0) else none) else (bif Nat.blt pc 32 then (bif Nat.beq pc 31 then some (.ireturn, 32, 0, 0, 0) else none) else (bif Nat.beq pc 32 then some (.aload_n 0, 33, 0, 0, 0) else none))) else (bif Nat.blt pc 38 then (bif Nat.blt pc 36 then (bif Nat.beq pc 33 then some (.getfield 128, 36, 0, 0, 0) else none) else (bif Nat.beq pc 36 then some (.bipush 60, 38, 0, 60, 0) else none)) else (bif Nat.blt pc 41 then (bif Nat.beq pc 38 then some (.if_icmp .ne 6, 41, 44, 0, 0) else none) else (bif Nat.beq pc 41 then some (.bipush (-3), 43, 0, (-3), 0) else none)))) else (bif Nat.blt pc 49 then (bif Nat.blt pc 45 then (bif Nat.blt pc 44 then (bif Nat.beq pc 43 then some (.ireturn, 44, 0, 0, 0) else none) else (bif Nat.beq pc 44 then some (.aload_n 0, 45, 0, 0, 0) else none)) else (bif Nat.blt pc 48 then (bif Nat.beq pc 45 then some (.getfield 16, 48, 0, 0, 0) else none) else (bif Nat.beq pc 48 then some (.aload_n 0, 49, 0, 0, 0) else none))) else (bif Nat.blt pc 53 then (bif Nat.blt pc 52 then (bif Nat.beq pc 49 then some (.getfield 128, 52, 0, 0, 0) else none) else (bif Nat.beq pc 52 then some (.iload_n 1, 53, 0, 0, 0) else none)) else (bif Nat.blt pc 54 then (bif Nat.beq pc 53 then some (.iastore, 54, 0, 0, 0) else none) else (bif Nat.beq pc 54 then some (.aload_n 0, 55, 0, 0, 0) else none)))))) else (bif Nat.blt pc 79 then (bif Nat.blt pc 68 then (bif Nat.blt pc 62 then (bif Nat.blt pc 58 then (bif Nat.beq pc 55 then some (.getfield 19, 58, 0, 0, 0) else none) else (bif Nat.blt pc 59 then (bif Nat.beq pc 58 then some (.aload_n 0, 59, 0, 0, 0) else none) else (bif Nat.beq pc 59 then some (.getfield 128, 62, 0, 0, 0) else none))) else (bif Nat.blt pc 64 then (bif Nat.blt pc 63 then (bif Nat.beq pc 62 then some (.iload_n 2, 63, 0, 0, 0) else none) else (bif Nat.beq pc 63 then some (.iastore, 64, 0, 0, 0) else none)) else (bif Nat.blt pc 65 then (bif Nat.beq pc 64 then some (.aload_n 0, 65, 0, 0, 0) else none) else (bif Nat.beq pc 65 then some (.getfield 22, 68, 0, 0, 0) else none)))) else (bif Nat.blt pc 73 then (bif Nat.blt pc 69 then (bif Nat.beq pc 68 then some (.aload_n 0, 69, 0, 0, 0) else none) else (bif Nat.blt pc 72 then (bif Nat.beq pc 69 then some (.getfield 128, 72, 0, 0, 0) else none) else (bif Nat.beq pc 72 then some (.iload_n 3, 73, 0, 0, 0) else none))) else (bif Nat.blt pc 75 then (bif Nat.blt pc 74 then (bif Nat.beq pc 73 then some (.iastore, 74, 0, 0, 0) else none) else (bif Nat.beq pc 74 then some (.aload_n 0, 75, 0, 0, 0) else none)) else (bif Nat.blt pc 78 then (bif Nat.beq pc 75 then some (.getfield 28, 78, 0, 0, 0) else none) else (bif Nat.beq pc 78 then some (.aload_n 0, 79, 0, 0, 0) else none))))) else (bif Nat.blt pc 92 then (bif Nat.blt pc 86 then (bif Nat.blt pc 82 then (bif Nat.beq pc 79 then some (.getfield 128, 82, 0, 0, 0) else none) else (bif Nat.blt pc 83 then (bif Nat.beq pc 82 then some (.aload_n 0, 83, 0, 0, 0) else none) else (bif Nat.beq pc 83 then some (.getfield 131, 86, 0, 0, 0) else none))) else (bif Nat.blt pc 88 then (bif Nat.blt pc 87 then (bif Nat.beq pc 86 then some (.iastore, 87, 0, 0, 0) else none) else (bif Nat.beq pc 87 then some (.aload_n 0, 88, 0, 0, 0) else none)) else (bif Nat.blt pc 89 then (bif Nat.beq pc 88 then some (.dup, 89, 0, 0, 0) else none) else (bif Nat.beq pc 89 then some (.getfield 128, 92, 0, 0, 0) else none)))) else (bif Nat.blt pc 98 then (bif Nat.blt pc 94 then (bif Nat.blt pc 93 then (bif Nat.beq pc 92 then some (.iconst 1, 93, 0, 1, 0) else none) else (bif Nat.beq pc 93 then some (.iadd, 94, 0, 0, 0) else none)) else (bif Nat.blt pc 97 then (bif Nat.beq pc 94 then some (.putfield 128, 97, 0, 0, 0) else none) else (bif Nat.beq pc 97 then some (.aload_n 0, 98, 0, 0, 0) else none))) else (bif Nat.blt pc 102 then (bif Nat.blt pc 101 then (bif Nat.beq pc 98 then some (.getfield 128, 101, 0, 0, 0) else none) else (bif Nat.beq pc 101 then some (.iconst 1, 102, 0, 1, 0) else none)) else (bif Nat.blt pc 103 then (bif Nat.beq pc 102 then some (.isub, 103, 0, 0, 0) else none) else (bif Nat.beq pc 103 then some (.ireturn, 104, 0, 0, 0) else none))))))))
def tbX8_rail : Nat → Option mv_R := mv_lim 55 (fun pc => (bif Nat.blt pc 32 then (bif Nat.blt pc 15 then (bif Nat.blt pc 8 then (bif Nat.blt pc 2 then (bif Nat.blt pc 1 then (bif Nat.beq pc 0 then some (.aload_n 0, 1, 0, 0, 0) else none) else (bif Nat.beq pc 1 then some (.iload_n 1, 2, 0, 0, 0) else none)) else (bif Nat.blt pc 5 then (bif Nat.beq pc 2 then some (.invokevirtual 138, 5, 0, 0, 0) else none) else (bif Nat.beq pc 5 then some (.ifCond .eq 8, 8, 13, 0, 0) else none))) else (bif Nat.blt pc 10 then (bif Nat.blt pc 9 then (bif Nat.beq pc 8 then some (.iload_n 2, 9, 0, 0, 0) else none) else (bif Nat.beq pc 9 then some (.iconst 1, 10, 0, 1, 0) else none)) else (bif Nat.blt pc 13 then (bif Nat.beq pc 10 then some (.if_icmp .ge 5, 13, 15, 0, 0) else none) else (bif Nat.blt pc 14 then (bif Nat.beq pc 13 then some (.iconst (-1), 14, 0, (-1), 0) else none) else (bif Nat.beq pc 14 then some (.ireturn, 15, 0, 0, 0) else none))))) else (bif Nat.blt pc 22 then (bif Nat.blt pc 19 then (bif Nat.blt pc 16 then (bif Nat.beq pc 15 then some (.aload_n 0, 16, 0, 0, 0) else none) else (bif Nat.beq pc 16 then some (.getfield 22, 19, 0, 0, 0) else none)) else (bif Nat.blt pc 20 then (bif Nat.beq pc 19 then some (.iload_n 1, 20, 0, 0, 0) else none) else (bif Nat.blt pc 21 then (bif Nat.beq pc 20 then some (.iaload, 21, 0, 0, 0) else none) else (bif Nat.beq pc 21 then some (.iload_n 2, 22, 0, 0, 0) else none)))) else (bif Nat.blt pc 27 then (bif Nat.blt pc 25 then (bif Nat.beq pc 22 then some (.if_icmp .ge 6, 25, 28, 0, 0) else none) else (bif Nat.beq pc 25 then some (.bipush (-2), 27, 0, (-2), 0) else none)) else (bif Nat.blt pc 28 then (bif Nat.beq pc 27 then some (.ireturn, 28, 0, 0, 0) else none) else (bif Nat.blt pc 29 then (bif Nat.beq pc 28 then some (.aload_n 0, 29, 0, 0, 0) else none) else (bif Nat.beq pc 29 then some (.getfield 22, 32, 0, 0, 0) else none)))))) else (bif Nat.blt pc 43 then (bif Nat.blt pc 36 then (bif Nat.blt pc 34 then (bif Nat.blt pc 33 then (bif Nat.beq pc 32 then some (.iload_n 1, 33, 0, 0, 0) else none) else (bif Nat.beq pc 33 then some (.dup2, 34, 0, 0, 0) else none)) else (bif Nat.blt pc 35 then (bif Nat.beq pc 34 then some (.iaload, 35, 0, 0, 0) else none) else (bif Nat.beq pc 35 then some (.iload_n 2, 36, 0, 0, 0) else none))) else (bif Nat.blt pc 38 then (bif Nat.blt pc 37 then (bif Nat.beq pc 36 then some (.isub, 37, 0, 0, 0) else none) else (bif Nat.beq pc 37 then some (.iastore, 38, 0, 0, 0) else none)) else (bif Nat.blt pc 39 then (bif Nat.beq pc 38 then some (.aload_n 0, 39, 0, 0, 0) else none) else (bif Nat.blt pc 42 then (bif Nat.beq pc 39 then some (.getfield 25, 42, 0, 0, 0) else none) else (bif Nat.beq pc 42 then some (.iload_n 1, 43, 0, 0, 0) else none))))) else (bif Nat.blt pc 48 then (bif Nat.blt pc 45 then (bif Nat.blt pc 44 then (bif Nat.beq pc 43 then some (.dup2, 44, 0, 0, 0) else none) else (bif Nat.beq pc 44 then some (.iaload, 45, 0, 0, 0) else none)) else (bif Nat.blt pc 46 then (bif Nat.beq pc 45 then some (.iload_n 2, 46, 0, 0, 0) else none) else (bif Nat.blt pc 47 then (bif Nat.beq pc 46 then some (.iadd, 47, 0, 0, 0) else none) else (bif Nat.beq pc 47 then some (.iastore, 48, 0, 0, 0) else none)))) else (bif Nat.blt pc 52 then (bif Nat.blt pc 49 then (bif Nat.beq pc 48 then some (.aload_n 0, 49, 0, 0, 0) else none) else (bif Nat.beq pc 49 then some (.getfield 22, 52, 0, 0, 0) else none)) else (bif Nat.blt pc 53 then (bif Nat.beq pc 52 then some (.iload_n 1, 53, 0, 0, 0) else none) else (bif Nat.blt pc 54 then (bif Nat.beq pc 53 then some (.iaload, 54, 0, 0, 0) else none) else (bif Nat.beq pc 54 then some (.ireturn, 55, 0, 0, 0) else none))))))))
def tbX8_inHolds : Nat → Option mv_R := mv_lim 32 (fun pc => (bif Nat.blt pc 17 then (bif Nat.blt pc 5 then (bif Nat.blt pc 2 then (bif Nat.blt pc 1 then (bif Nat.beq pc 0 then some (.iconst 0, 1, 0, 0, 0) else none) else (bif Nat.beq pc 1 then some (.istore_n 2, 2, 0, 0, 0) else none)) else (bif Nat.blt pc 3 then (bif Nat.beq pc 2 then some (.iconst 0, 3, 0, 0, 0) else none) else (bif Nat.blt pc 4 then (bif Nat.beq pc 3 then some (.istore_n 3, 4, 0, 0, 0) else none) else (bif Nat.beq pc 4 then some (.iload_n 3, 5, 1, 0, 0) else none)))) else (bif Nat.blt pc 11 then (bif Nat.blt pc 7 then (bif Nat.beq pc 5 then some (.bipush 6, 7, 0, 6, 0) else none) else (bif Nat.blt pc 10 then (bif Nat.beq pc 7 then some (.if_icmp .ge 23, 10, 30, 0, 0) else none) else (bif Nat.beq pc 10 then some (.iload_n 2, 11, 0, 0, 0) else none))) else (bif Nat.blt pc 12 then (bif Nat.beq pc 11 then some (.aload_n 0, 12, 0, 0, 0) else none) else (bif Nat.blt pc 15 then (bif Nat.beq pc 12 then some (.getfield 75, 15, 0, 0, 0) else none) else (bif Nat.beq pc 15 then some (.bipush 60, 17, 0, 60, 0) else none))))) else (bif Nat.blt pc 22 then (bif Nat.blt pc 19 then (bif Nat.blt pc 18 then (bif Nat.beq pc 17 then some (.iload_n 3, 18, 0, 0, 0) else none) else (bif Nat.beq pc 18 then some (.imul, 19, 0, 0, 0) else none)) else (bif Nat.blt pc 20 then (bif Nat.beq pc 19 then some (.iload_n 1, 20, 0, 0, 0) else none) else (bif Nat.blt pc 21 then (bif Nat.beq pc 20 then some (.iadd, 21, 0, 0, 0) else none) else (bif Nat.beq pc 21 then some (.iaload, 22, 0, 0, 0) else none)))) else (bif Nat.blt pc 27 then (bif Nat.blt pc 23 then (bif Nat.beq pc 22 then some (.iadd, 23, 0, 0, 0) else none) else (bif Nat.blt pc 24 then (bif Nat.beq pc 23 then some (.istore_n 2, 24, 0, 0, 0) else none) else (bif Nat.beq pc 24 then some (.iinc 3 1, 27, 0, 1, 0) else none))) else (bif Nat.blt pc 30 then (bif Nat.beq pc 27 then some (.goto (-23), 30, 4, 0, 0) else none) else (bif Nat.blt pc 31 then (bif Nat.beq pc 30 then some (.iload_n 2, 31, 0, 0, 0) else none) else (bif Nat.beq pc 31 then some (.ireturn, 32, 0, 0, 0) else none)))))))
def tbX8_told : Nat → Option mv_R := mv_lim 94 (fun pc => (bif Nat.blt pc 47 then (bif Nat.blt pc 23 then (bif Nat.blt pc 10 then (bif Nat.blt pc 5 then (bif Nat.blt pc 1 then (bif Nat.beq pc 0 then some (.aload_n 0, 1, 0, 0, 0) else none) else (bif Nat.blt pc 2 then (bif Nat.beq pc 1 then some (.iload_n 1, 2, 0, 0, 0) else none) else (bif Nat.beq pc 2 then some (.invokevirtual 138, 5, 0, 0, 0) else none))) else (bif Nat.blt pc 8 then (bif Nat.beq pc 5 then some (.ifCond .eq 12, 8, 17, 0, 0) else none) else (bif Nat.blt pc 9 then (bif Nat.beq pc 8 then some (.iload_n 2, 9, 0, 0, 0) else none) else (bif Nat.beq pc 9 then some (.iconst 0, 10, 0, 0, 0) else none)))) else (bif Nat.blt pc 17 then (bif Nat.blt pc 11 then (bif Nat.beq pc 10 then some (.iconst 5, 11, 0, 5, 0) else none) else (bif Nat.blt pc 14 then (bif Nat.beq pc 11 then some (.invokestatic 124, 14, 0, 0, 0) else none) else (bif Nat.beq pc 14 then some (.ifCond .ne 5, 17, 19, 0, 0) else none))) else (bif Nat.blt pc 19 then (bif Nat.blt pc 18 then (bif Nat.beq pc 17 then some (.iconst (-1), 18, 0, (-1), 0) else none) else (bif Nat.beq pc 18 then some (.ireturn, 19, 0, 0, 0) else none)) else (bif Nat.blt pc 20 then (bif Nat.beq pc 19 then some (.iload_n 2, 20, 0, 0, 0) else none) else (bif Nat.beq pc 20 then some (.ifCond .ne 12, 23, 32, 0, 0) else none))))) else (bif Nat.blt pc 34 then (bif Nat.blt pc 28 then (bif Nat.blt pc 24 then (bif Nat.beq pc 23 then some (.aload_n 0, 24, 0, 0, 0) else none) else (bif Nat.blt pc 27 then (bif Nat.beq pc 24 then some (.getfield 16, 27, 0, 0, 0) else none) else (bif Nat.beq pc 27 then some (.iload_n 1, 28, 0, 0, 0) else none))) else (bif Nat.blt pc 32 then (bif Nat.blt pc 29 then (bif Nat.beq pc 28 then some (.iaload, 29, 0, 0, 0) else none) else (bif Nat.beq pc 29 then some (.goto 64, 32, 93, 0, 0) else none)) else (bif Nat.blt pc 33 then (bif Nat.beq pc 32 then some (.iload_n 2, 33, 0, 0, 0) else none) else (bif Nat.beq pc 33 then some (.iconst 1, 34, 0, 1, 0) else none)))) else (bif Nat.blt pc 41 then (bif Nat.blt pc 37 then (bif Nat.beq pc 34 then some (.if_icmp .ne 12, 37, 46, 0, 0) else none) else (bif Nat.blt pc 38 then (bif Nat.beq pc 37 then some (.aload_n 0, 38, 0, 0, 0) else none) else (bif Nat.beq pc 38 then some (.getfield 19, 41, 0, 0, 0) else none))) else (bif Nat.blt pc 43 then (bif Nat.blt pc 42 then (bif Nat.beq pc 41 then some (.iload_n 1, 42, 0, 0, 0) else none) else (bif Nat.beq pc 42 then some (.iaload, 43, 0, 0, 0) else none)) else (bif Nat.blt pc 46 then (bif Nat.beq pc 43 then some (.goto 50, 46, 93, 0, 0) else none) else (bif Nat.beq pc 46 then some (.iload_n 2, 47, 0, 0, 0) else none)))))) else (bif Nat.blt pc 70 then (bif Nat.blt pc 57 then (bif Nat.blt pc 52 then (bif Nat.blt pc 48 then (bif Nat.beq pc 47 then some (.iconst 2, 48, 0, 2, 0) else none) else (bif Nat.blt pc 51 then (bif Nat.beq pc 48 then some (.if_icmp .ne 12, 51, 60, 0, 0) else none) else (bif Nat.beq pc 51 then some (.aload_n 0, 52, 0, 0, 0) else none))) else (bif Nat.blt pc 55 then (bif Nat.beq pc 52 then some (.getfield 22, 55, 0, 0, 0) else none) else (bif Nat.blt pc 56 then (bif Nat.beq pc 55 then some (.iload_n 1, 56, 0, 0, 0) else none) else (bif Nat.beq pc 56 then some (.iaload, 57, 0, 0, 0) else none)))) else (bif Nat.blt pc 62 then (bif Nat.blt pc 60 then (bif Nat.beq pc 57 then some (.goto 36, 60, 93, 0, 0) else none) else (bif Nat.blt pc 61 then (bif Nat.beq pc 60 then some (.iload_n 2, 61, 0, 0, 0) else none) else (bif Nat.beq pc 61 then some (.iconst 3, 62, 0, 3, 0) else none))) else (bif Nat.blt pc 66 then (bif Nat.blt pc 65 then (bif Nat.beq pc 62 then some (.if_icmp .ne 12, 65, 74, 0, 0) else none) else (bif Nat.beq pc 65 then some (.aload_n 0, 66, 0, 0, 0) else none)) else (bif Nat.blt pc 69 then (bif Nat.beq pc 66 then some (.getfield 25, 69, 0, 0, 0) else none) else (bif Nat.beq pc 69 then some (.iload_n 1, 70, 0, 0, 0) else none))))) else (bif Nat.blt pc 81 then (bif Nat.blt pc 75 then (bif Nat.blt pc 71 then (bif Nat.beq pc 70 then some (.iaload, 71, 0, 0, 0) else none) else (bif Nat.blt pc 74 then (bif Nat.beq pc 71 then some (.goto 22, 74, 93, 0, 0) else none) else (bif Nat.beq pc 74 then some (.iload_n 2, 75, 0, 0, 0) else none))) else (bif Nat.blt pc 79 then (bif Nat.blt pc 76 then (bif Nat.beq pc 75 then some (.iconst 4, 76, 0, 4, 0) else none) else (bif Nat.beq pc 76 then some (.if_icmp .ne 11, 79, 87, 0, 0) else none)) else (bif Nat.blt pc 80 then (bif Nat.beq pc 79 then some (.aload_n 0, 80, 0, 0, 0) else none) else (bif Nat.beq pc 80 then some (.iload_n 1, 81, 0, 0, 0) else none)))) else (bif Nat.blt pc 88 then (bif Nat.blt pc 84 then (bif Nat.beq pc 81 then some (.invokevirtual 141, 84, 0, 0, 0) else none) else (bif Nat.blt pc 87 then (bif Nat.beq pc 84 then some (.goto 9, 87, 93, 0, 0) else none) else (bif Nat.beq pc 87 then some (.aload_n 0, 88, 0, 0, 0) else none))) else (bif Nat.blt pc 92 then (bif Nat.blt pc 91 then (bif Nat.beq pc 88 then some (.getfield 28, 91, 0, 0, 0) else none) else (bif Nat.beq pc 91 then some (.iload_n 1, 92, 0, 0, 0) else none)) else (bif Nat.blt pc 93 then (bif Nat.beq pc 92 then some (.iaload, 93, 0, 0, 0) else none) else (bif Nat.beq pc 93 then some (.ireturn, 94, 0, 0, 0) else none))))))))
def tbX8_total : Nat → Option mv_R := mv_lim 24 (fun pc => (bif Nat.blt pc 12 then (bif Nat.blt pc 4 then (bif Nat.blt pc 1 then (bif Nat.beq pc 0 then some (.iload_n 1, 1, 0, 0, 0) else none) else (bif Nat.blt pc 2 then (bif Nat.beq pc 1 then some (.iconst 0, 2, 0, 0, 0) else none) else (bif Nat.beq pc 2 then some (.ldc 145, 4, 0, 1000000, 0) else none))) else (bif Nat.blt pc 10 then (bif Nat.blt pc 7 then (bif Nat.beq pc 4 then some (.invokestatic 124, 7, 0, 0, 0) else none) else (bif Nat.beq pc 7 then some (.ifCond .ne 5, 10, 12, 0, 0) else none)) else (bif Nat.blt pc 11 then (bif Nat.beq pc 10 then some (.iconst (-1), 11, 0, (-1), 0) else none) else (bif Nat.beq pc 11 then some (.ireturn, 12, 0, 0, 0) else none)))) else (bif Nat.blt pc 18 then (bif Nat.blt pc 16 then (bif Nat.blt pc 13 then (bif Nat.beq pc 12 then some (.aload_n 0, 13, 0, 0, 0) else none) else (bif Nat.beq pc 13 then some (.getfield 146, 16, 0, 0, 0) else none)) else (bif Nat.blt pc 17 then (bif Nat.beq pc 16 then some (.istore_n 2, 17, 0, 0, 0) else none) else (bif Nat.beq pc 17 then some (.aload_n 0, 18, 0, 0, 0) else none))) else (bif Nat.blt pc 22 then (bif Nat.blt pc 19 then (bif Nat.beq pc 18 then some (.iload_n 1, 19, 0, 0, 0) else none) else (bif Nat.beq pc 19 then some (.putfield 146, 22, 0, 0, 0) else none)) else (bif Nat.blt pc 23 then (bif Nat.beq pc 22 then some (.iload_n 2, 23, 0, 0, 0) else none) else (bif Nat.beq pc 23 then some (.ireturn, 24, 0, 0, 0) else none))))))
def tbX8_entry : Nat → Option mv_R := mv_lim 81 (fun pc => (bif Nat.blt pc 41 then (bif Nat.blt pc 21 then (bif Nat.blt pc 11 then (bif Nat.blt pc 4 then (bif Nat.blt pc 1 then (bif Nat.beq pc 0 then some (.aload_n 0, 1, 0, 0, 0) else none) else (bif Nat.beq pc 1 then some (.getfield 149, 4, 0, 0, 0) else none)) else (bif Nat.blt pc 6 then (bif Nat.beq pc 4 then some (.bipush 100, 6, 0, 100, 0) else none) else (bif Nat.blt pc 9 then (bif Nat.beq pc 6 then some (.if_icmp .ne 6, 9, 12, 0, 0) else none) else (bif Nat.beq pc 9 then some (.bipush (-3), 11, 0, (-3), 0) else none)))) else (bif Nat.blt pc 16 then (bif Nat.blt pc 12 then (bif Nat.beq pc 11 then some (.ireturn, 12, 0, 0, 0) else none) else (bif Nat.blt pc 13 then (bif Nat.beq pc 12 then some (.aload_n 0, 13, 0, 0, 0) else none) else (bif Nat.beq pc 13 then some (.getfield 31, 16, 0, 0, 0) else none))) else (bif Nat.blt pc 17 then (bif Nat.beq pc 16 then some (.aload_n 0, 17, 0, 0, 0) else none) else (bif Nat.blt pc 20 then (bif Nat.beq pc 17 then some (.getfield 149, 20, 0, 0, 0) else none) else (bif Nat.beq pc 20 then some (.iload_n 1, 21, 0, 0, 0) else none))))) else (bif Nat.blt pc 31 then (bif Nat.blt pc 26 then (bif Nat.blt pc 22 then (bif Nat.beq pc 21 then some (.iastore, 22, 0, 0, 0) else none) else (bif Nat.blt pc 23 then (bif Nat.beq pc 22 then some (.aload_n 0, 23, 0, 0, 0) else none) else (bif Nat.beq pc 23 then some (.getfield 34, 26, 0, 0, 0) else none))) else (bif Nat.blt pc 27 then (bif Nat.beq pc 26 then some (.aload_n 0, 27, 0, 0, 0) else none) else (bif Nat.blt pc 30 then (bif Nat.beq pc 27 then some (.getfield 149, 30, 0, 0, 0) else none) else (bif Nat.beq pc 30 then some (.iload_n 2, 31, 0, 0, 0) else none)))) else (bif Nat.blt pc 36 then (bif Nat.blt pc 32 then (bif Nat.beq pc 31 then some (.iastore, 32, 0, 0, 0) else none) else (bif Nat.blt pc 33 then (bif Nat.beq pc 32 then some (.aload_n 0, 33, 0, 0, 0) else none) else (bif Nat.beq pc 33 then some (.getfield 37, 36, 0, 0, 0) else none))) else (bif Nat.blt pc 37 then (bif Nat.beq pc 36 then some (.aload_n 0, 37, 0, 0, 0) else none) else (bif Nat.blt pc 40 then (bif Nat.beq pc 37 then some (.getfield 149, 40, 0, 0, 0) else none) else (bif Nat.beq pc 40 then some (.iload_n 3, 41, 0, 0, 0) else none)))))) else (bif Nat.blt pc 63 then (bif Nat.blt pc 52 then (bif Nat.blt pc 46 then (bif Nat.blt pc 42 then (bif Nat.beq pc 41 then some (.iastore, 42, 0, 0, 0) else none) else (bif Nat.blt pc 43 then (bif Nat.beq pc 42 then some (.aload_n 0, 43, 0, 0, 0) else none) else (bif Nat.beq pc 43 then some (.getfield 40, 46, 0, 0, 0) else none))) else (bif Nat.blt pc 47 then (bif Nat.beq pc 46 then some (.aload_n 0, 47, 0, 0, 0) else none) else (bif Nat.blt pc 50 then (bif Nat.beq pc 47 then some (.getfield 149, 50, 0, 0, 0) else none) else (bif Nat.beq pc 50 then some (.iload 4, 52, 0, 0, 0) else none)))) else (bif Nat.blt pc 57 then (bif Nat.blt pc 53 then (bif Nat.beq pc 52 then some (.iastore, 53, 0, 0, 0) else none) else (bif Nat.blt pc 54 then (bif Nat.beq pc 53 then some (.aload_n 0, 54, 0, 0, 0) else none) else (bif Nat.beq pc 54 then some (.getfield 43, 57, 0, 0, 0) else none))) else (bif Nat.blt pc 58 then (bif Nat.beq pc 57 then some (.aload_n 0, 58, 0, 0, 0) else none) else (bif Nat.blt pc 61 then (bif Nat.beq pc 58 then some (.getfield 149, 61, 0, 0, 0) else none) else (bif Nat.beq pc 61 then some (.iload 5, 63, 0, 0, 0) else none))))) else (bif Nat.blt pc 71 then (bif Nat.blt pc 66 then (bif Nat.blt pc 64 then (bif Nat.beq pc 63 then some (.iastore, 64, 0, 0, 0) else none) else (bif Nat.blt pc 65 then (bif Nat.beq pc 64 then some (.aload_n 0, 65, 0, 0, 0) else none) else (bif Nat.beq pc 65 then some (.dup, 66, 0, 0, 0) else none))) else (bif Nat.blt pc 69 then (bif Nat.beq pc 66 then some (.getfield 149, 69, 0, 0, 0) else none) else (bif Nat.blt pc 70 then (bif Nat.beq pc 69 then some (.iconst 1, 70, 0, 1, 0) else none) else (bif Nat.beq pc 70 then some (.iadd, 71, 0, 0, 0) else none)))) else (bif Nat.blt pc 78 then (bif Nat.blt pc 74 then (bif Nat.beq pc 71 then some (.putfield 149, 74, 0, 0, 0) else none) else (bif Nat.blt pc 75 then (bif Nat.beq pc 74 then some (.aload_n 0, 75, 0, 0, 0) else none) else (bif Nat.beq pc 75 then some (.getfield 149, 78, 0, 0, 0) else none))) else (bif Nat.blt pc 79 then (bif Nat.beq pc 78 then some (.iconst 1, 79, 0, 1, 0) else none) else (bif Nat.blt pc 80 then (bif Nat.beq pc 79 then some (.isub, 80, 0, 0, 0) else none) else (bif Nat.beq pc 80 then some (.ireturn, 81, 0, 0, 0) else none))))))))
def tbX8_isOpen : Nat → Option mv_R := mv_lim 115 (fun pc => (bif Nat.blt pc 53 then (bif Nat.blt pc 26 then (bif Nat.blt pc 12 then (bif Nat.blt pc 4 then (bif Nat.blt pc 1 then (bif Nat.beq pc 0 then some (.iconst (-1), 1, 0, (-1), 0) else none) else (bif Nat.blt pc 3 then (bif Nat.beq pc 1 then some (.istore 4, 3, 0, 0, 0) else none) else (bif Nat.beq pc 3 then some (.iconst 0, 4, 0, 0, 0) else none))) else (bif Nat.blt pc 8 then (bif Nat.blt pc 6 then (bif Nat.beq pc 4 then some (.istore 5, 6, 0, 0, 0) else none) else (bif Nat.beq pc 6 then some (.iload 5, 8, 1, 0, 0) else none)) else (bif Nat.blt pc 9 then (bif Nat.beq pc 8 then some (.iload_n 3, 9, 0, 0, 0) else none) else (bif Nat.beq pc 9 then some (.if_icmp .ge 84, 12, 93, 0, 0) else none)))) else (bif Nat.blt pc 18 then (bif Nat.blt pc 13 then (bif Nat.beq pc 12 then some (.aload_n 0, 13, 0, 0, 0) else none) else (bif Nat.blt pc 16 then (bif Nat.beq pc 13 then some (.getfield 31, 16, 0, 0, 0) else none) else (bif Nat.beq pc 16 then some (.iload 5, 18, 0, 0, 0) else none))) else (bif Nat.blt pc 22 then (bif Nat.blt pc 19 then (bif Nat.beq pc 18 then some (.iaload, 19, 0, 0, 0) else none) else (bif Nat.beq pc 19 then some (.ifCond .eq 29, 22, 48, 0, 0) else none)) else (bif Nat.blt pc 23 then (bif Nat.beq pc 22 then some (.aload_n 0, 23, 0, 0, 0) else none) else (bif Nat.beq pc 23 then some (.getfield 34, 26, 0, 0, 0) else none))))) else (bif Nat.blt pc 39 then (bif Nat.blt pc 30 then (bif Nat.blt pc 28 then (bif Nat.beq pc 26 then some (.iload 5, 28, 0, 0, 0) else none) else (bif Nat.blt pc 29 then (bif Nat.beq pc 28 then some (.iaload, 29, 0, 0, 0) else none) else (bif Nat.beq pc 29 then some (.iload_n 1, 30, 0, 0, 0) else none))) else (bif Nat.blt pc 34 then (bif Nat.blt pc 33 then (bif Nat.beq pc 30 then some (.if_icmp .ne 18, 33, 48, 0, 0) else none) else (bif Nat.beq pc 33 then some (.aload_n 0, 34, 0, 0, 0) else none)) else (bif Nat.blt pc 37 then (bif Nat.beq pc 34 then some (.getfield 43, 37, 0, 0, 0) else none) else (bif Nat.beq pc 37 then some (.iload 5, 39, 0, 0, 0) else none)))) else (bif Nat.blt pc 45 then (bif Nat.blt pc 41 then (bif Nat.blt pc 40 then (bif Nat.beq pc 39 then some (.iaload, 40, 0, 0, 0) else none) else (bif Nat.beq pc 40 then some (.iload_n 2, 41, 0, 0, 0) else none)) else (bif Nat.blt pc 44 then (bif Nat.beq pc 41 then some (.if_icmp .gt 7, 44, 48, 0, 0) else none) else (bif Nat.beq pc 44 then some (.iconst 1, 45, 0, 1, 0) else none))) else (bif Nat.blt pc 49 then (bif Nat.blt pc 48 then (bif Nat.beq pc 45 then some (.goto 4, 48, 49, 0, 0) else none) else (bif Nat.beq pc 48 then some (.iconst 0, 49, 0, 0, 0) else none)) else (bif Nat.blt pc 51 then (bif Nat.beq pc 49 then some (.istore 6, 51, 0, 0, 0) else none) else (bif Nat.beq pc 51 then some (.iload 6, 53, 0, 0, 0) else none)))))) else (bif Nat.blt pc 85 then (bif Nat.blt pc 68 then (bif Nat.blt pc 61 then (bif Nat.blt pc 56 then (bif Nat.beq pc 53 then some (.ifCond .eq 30, 56, 83, 0, 0) else none) else (bif Nat.blt pc 58 then (bif Nat.beq pc 56 then some (.iload 4, 58, 0, 0, 0) else none) else (bif Nat.beq pc 58 then some (.ifCond .lt 20, 61, 78, 0, 0) else none))) else (bif Nat.blt pc 65 then (bif Nat.blt pc 62 then (bif Nat.beq pc 61 then some (.aload_n 0, 62, 0, 0, 0) else none) else (bif Nat.beq pc 62 then some (.getfield 43, 65, 0, 0, 0) else none)) else (bif Nat.blt pc 67 then (bif Nat.beq pc 65 then some (.iload 5, 67, 0, 0, 0) else none) else (bif Nat.beq pc 67 then some (.iaload, 68, 0, 0, 0) else none)))) else (bif Nat.blt pc 75 then (bif Nat.blt pc 72 then (bif Nat.blt pc 69 then (bif Nat.beq pc 68 then some (.aload_n 0, 69, 0, 0, 0) else none) else (bif Nat.beq pc 69 then some (.getfield 43, 72, 0, 0, 0) else none)) else (bif Nat.blt pc 74 then (bif Nat.beq pc 72 then some (.iload 4, 74, 0, 0, 0) else none) else (bif Nat.beq pc 74 then some (.iaload, 75, 0, 0, 0) else none))) else (bif Nat.blt pc 80 then (bif Nat.blt pc 78 then (bif Nat.beq pc 75 then some (.if_icmp .lt 8, 78, 83, 0, 0) else none) else (bif Nat.beq pc 78 then some (.iload 5, 80, 0, 0, 0) else none)) else (bif Nat.blt pc 83 then (bif Nat.beq pc 80 then some (.goto 5, 83, 85, 0, 0) else none) else (bif Nat.beq pc 83 then some (.iload 4, 85, 0, 0, 0) else none))))) else (bif Nat.blt pc 102 then (bif Nat.blt pc 93 then (bif Nat.blt pc 87 then (bif Nat.beq pc 85 then some (.istore 4, 87, 0, 0, 0) else none) else (bif Nat.blt pc 90 then (bif Nat.beq pc 87 then some (.iinc 5 1, 90, 0, 1, 0) else none) else (bif Nat.beq pc 90 then some (.goto (-84), 93, 6, 0, 0) else none))) else (bif Nat.blt pc 98 then (bif Nat.blt pc 95 then (bif Nat.beq pc 93 then some (.iload 4, 95, 0, 0, 0) else none) else (bif Nat.beq pc 95 then some (.ifCond .lt 14, 98, 109, 0, 0) else none)) else (bif Nat.blt pc 99 then (bif Nat.beq pc 98 then some (.aload_n 0, 99, 0, 0, 0) else none) else (bif Nat.beq pc 99 then some (.getfield 31, 102, 0, 0, 0) else none)))) else (bif Nat.blt pc 109 then (bif Nat.blt pc 105 then (bif Nat.blt pc 104 then (bif Nat.beq pc 102 then some (.iload 4, 104, 0, 0, 0) else none) else (bif Nat.beq pc 104 then some (.iaload, 105, 0, 0, 0) else none)) else (bif Nat.blt pc 106 then (bif Nat.beq pc 105 then some (.iconst 2, 106, 0, 2, 0) else none) else (bif Nat.beq pc 106 then some (.if_icmp .ne 7, 109, 113, 0, 0) else none))) else (bif Nat.blt pc 113 then (bif Nat.blt pc 110 then (bif Nat.beq pc 109 then some (.iconst 1, 110, 0, 1, 0) else none) else (bif Nat.beq pc 110 then some (.goto 4, 113, 114, 0, 0) else none)) else (bif Nat.blt pc 114 then (bif Nat.beq pc 113 then some (.iconst 0, 114, 0, 0, 0) else none) else (bif Nat.beq pc 114 then some (.ireturn, 115, 0, 0, 0) else none))))))))
def tbX8_part : Nat → Option mv_R := mv_lim 269 (fun pc => (bif Nat.blt pc 128 then (bif Nat.blt pc 67 then (bif Nat.blt pc 33 then (bif Nat.blt pc 17 then (bif Nat.blt pc 6 then (bif Nat.blt pc 3 then (bif Nat.blt pc 1 then (bif Nat.beq pc 0 then some (.lconst 0, 1, 0, 0, 0) else none) else (bif Nat.beq pc 1 then some (.lstore 4, 3, 0, 0, 0) else none)) else (bif Nat.blt pc 4 then (bif Nat.beq pc 3 then some (.iconst 0, 4, 0, 0, 0) else none) else (bif Nat.beq pc 4 then some (.istore 6, 6, 0, 0, 0) else none))) else (bif Nat.blt pc 9 then (bif Nat.blt pc 8 then (bif Nat.beq pc 6 then some (.iload 6, 8, 1, 0, 0) else none) else (bif Nat.beq pc 8 then some (.aload_n 0, 9, 0, 0, 0) else none)) else (bif Nat.blt pc 12 then (bif Nat.beq pc 9 then some (.getfield 121, 12, 0, 0, 0) else none) else (bif Nat.blt pc 15 then (bif Nat.beq pc 12 then some (.if_icmp .ge 44, 15, 56, 0, 0) else none) else (bif Nat.beq pc 15 then some (.lload 4, 17, 0, 0, 0) else none))))) else (bif Nat.blt pc 23 then (bif Nat.blt pc 20 then (bif Nat.blt pc 18 then (bif Nat.beq pc 17 then some (.iload_n 3, 18, 0, 0, 0) else none) else (bif Nat.beq pc 18 then some (.iload 6, 20, 0, 0, 0) else none)) else (bif Nat.blt pc 21 then (bif Nat.beq pc 20 then some (.ishr, 21, 0, 0, 0) else none) else (bif Nat.blt pc 22 then (bif Nat.beq pc 21 then some (.iconst 1, 22, 0, 1, 0) else none) else (bif Nat.beq pc 22 then some (.iand, 23, 0, 0, 0) else none)))) else (bif Nat.blt pc 27 then (bif Nat.blt pc 24 then (bif Nat.beq pc 23 then some (.iconst 1, 24, 0, 1, 0) else none) else (bif Nat.beq pc 24 then some (.if_icmp .ne 14, 27, 38, 0, 0) else none)) else (bif Nat.blt pc 28 then (bif Nat.beq pc 27 then some (.aload_n 0, 28, 0, 0, 0) else none) else (bif Nat.blt pc 31 then (bif Nat.beq pc 28 then some (.getfield 7, 31, 0, 0, 0) else none) else (bif Nat.beq pc 31 then some (.iload 6, 33, 0, 0, 0) else none)))))) else (bif Nat.blt pc 49 then (bif Nat.blt pc 40 then (bif Nat.blt pc 35 then (bif Nat.blt pc 34 then (bif Nat.beq pc 33 then some (.iaload, 34, 0, 0, 0) else none) else (bif Nat.beq pc 34 then some (.i2l, 35, 0, 0, 0) else none)) else (bif Nat.blt pc 38 then (bif Nat.beq pc 35 then some (.goto 4, 38, 39, 0, 0) else none) else (bif Nat.blt pc 39 then (bif Nat.beq pc 38 then some (.lconst 0, 39, 0, 0, 0) else none) else (bif Nat.beq pc 39 then some (.ladd, 40, 0, 0, 0) else none)))) else (bif Nat.blt pc 43 then (bif Nat.blt pc 42 then (bif Nat.beq pc 40 then some (.lstore 4, 42, 0, 0, 0) else none) else (bif Nat.beq pc 42 then some (.aload_n 0, 43, 0, 0, 0) else none)) else (bif Nat.blt pc 46 then (bif Nat.beq pc 43 then some (.getfield 50, 46, 0, 0, 0) else none) else (bif Nat.blt pc 48 then (bif Nat.beq pc 46 then some (.iload 6, 48, 0, 0, 0) else none) else (bif Nat.beq pc 48 then some (.iconst 0, 49, 0, 0, 0) else none))))) else (bif Nat.blt pc 59 then (bif Nat.blt pc 53 then (bif Nat.blt pc 50 then (bif Nat.beq pc 49 then some (.bastore, 50, 0, 0, 0) else none) else (bif Nat.beq pc 50 then some (.iinc 6 1, 53, 0, 1, 0) else none)) else (bif Nat.blt pc 56 then (bif Nat.beq pc 53 then some (.goto (-47), 56, 6, 0, 0) else none) else (bif Nat.blt pc 58 then (bif Nat.beq pc 56 then some (.lload 4, 58, 0, 0, 0) else none) else (bif Nat.beq pc 58 then some (.lconst 0, 59, 0, 0, 0) else none)))) else (bif Nat.blt pc 63 then (bif Nat.blt pc 60 then (bif Nat.beq pc 59 then some (.lcmp, 60, 0, 0, 0) else none) else (bif Nat.beq pc 60 then some (.ifCond .ne 4, 63, 64, 0, 0) else none)) else (bif Nat.blt pc 64 then (bif Nat.beq pc 63 then some (.return_, 64, 0, 0, 0) else none) else (bif Nat.blt pc 65 then (bif Nat.beq pc 64 then some (.lload_n 1, 65, 0, 0, 0) else none) else (bif Nat.beq pc 65 then some (.lstore 6, 67, 0, 0, 0) else none))))))) else (bif Nat.blt pc 99 then (bif Nat.blt pc 84 then (bif Nat.blt pc 76 then (bif Nat.blt pc 70 then (bif Nat.blt pc 68 then (bif Nat.beq pc 67 then some (.iconst 0, 68, 0, 0, 0) else none) else (bif Nat.beq pc 68 then some (.istore 8, 70, 0, 0, 0) else none)) else (bif Nat.blt pc 72 then (bif Nat.beq pc 70 then some (.iload 8, 72, 1, 0, 0) else none) else (bif Nat.blt pc 73 then (bif Nat.beq pc 72 then some (.aload_n 0, 73, 0, 0, 0) else none) else (bif Nat.beq pc 73 then some (.getfield 121, 76, 0, 0, 0) else none)))) else (bif Nat.blt pc 80 then (bif Nat.blt pc 79 then (bif Nat.beq pc 76 then some (.if_icmp .ge 60, 79, 136, 0, 0) else none) else (bif Nat.beq pc 79 then some (.iload_n 3, 80, 0, 0, 0) else none)) else (bif Nat.blt pc 82 then (bif Nat.beq pc 80 then some (.iload 8, 82, 0, 0, 0) else none) else (bif Nat.blt pc 83 then (bif Nat.beq pc 82 then some (.ishr, 83, 0, 0, 0) else none) else (bif Nat.beq pc 83 then some (.iconst 1, 84, 0, 1, 0) else none))))) else (bif Nat.blt pc 93 then (bif Nat.blt pc 86 then (bif Nat.blt pc 85 then (bif Nat.beq pc 84 then some (.iand, 85, 0, 0, 0) else none) else (bif Nat.beq pc 85 then some (.iconst 1, 86, 0, 1, 0) else none)) else (bif Nat.blt pc 89 then (bif Nat.beq pc 86 then some (.if_icmp .ne 44, 89, 130, 0, 0) else none) else (bif Nat.blt pc 90 then (bif Nat.beq pc 89 then some (.aload_n 0, 90, 0, 0, 0) else none) else (bif Nat.beq pc 90 then some (.getfield 46, 93, 0, 0, 0) else none)))) else (bif Nat.blt pc 96 then (bif Nat.blt pc 95 then (bif Nat.beq pc 93 then some (.iload 8, 95, 0, 0, 0) else none) else (bif Nat.beq pc 95 then some (.dup2, 96, 0, 0, 0) else none)) else (bif Nat.blt pc 97 then (bif Nat.beq pc 96 then some (.laload, 97, 0, 0, 0) else none) else (bif Nat.blt pc 98 then (bif Nat.beq pc 97 then some (.lload_n 1, 98, 0, 0, 0) else none) else (bif Nat.beq pc 98 then some (.aload_n 0, 99, 0, 0, 0) else none)))))) else (bif Nat.blt pc 114 then (bif Nat.blt pc 107 then (bif Nat.blt pc 104 then (bif Nat.blt pc 102 then (bif Nat.beq pc 99 then some (.getfield 7, 102, 0, 0, 0) else none) else (bif Nat.beq pc 102 then some (.iload 8, 104, 0, 0, 0) else none)) else (bif Nat.blt pc 105 then (bif Nat.beq pc 104 then some (.iaload, 105, 0, 0, 0) else none) else (bif Nat.blt pc 106 then (bif Nat.beq pc 105 then some (.i2l, 106, 0, 0, 0) else none) else (bif Nat.beq pc 106 then some (.lmul, 107, 0, 0, 0) else none)))) else (bif Nat.blt pc 110 then (bif Nat.blt pc 109 then (bif Nat.beq pc 107 then some (.lload 4, 109, 0, 0, 0) else none) else (bif Nat.beq pc 109 then some (.ldiv, 110, 0, 0, 0) else none)) else (bif Nat.blt pc 111 then (bif Nat.beq pc 110 then some (.ladd, 111, 0, 0, 0) else none) else (bif Nat.blt pc 112 then (bif Nat.beq pc 111 then some (.lastore, 112, 0, 0, 0) else none) else (bif Nat.beq pc 112 then some (.lload 6, 114, 0, 0, 0) else none))))) else (bif Nat.blt pc 122 then (bif Nat.blt pc 116 then (bif Nat.blt pc 115 then (bif Nat.beq pc 114 then some (.lload_n 1, 115, 0, 0, 0) else none) else (bif Nat.beq pc 115 then some (.aload_n 0, 116, 0, 0, 0) else none)) else (bif Nat.blt pc 119 then (bif Nat.beq pc 116 then some (.getfield 7, 119, 0, 0, 0) else none) else (bif Nat.blt pc 121 then (bif Nat.beq pc 119 then some (.iload 8, 121, 0, 0, 0) else none) else (bif Nat.beq pc 121 then some (.iaload, 122, 0, 0, 0) else none)))) else (bif Nat.blt pc 124 then (bif Nat.blt pc 123 then (bif Nat.beq pc 122 then some (.i2l, 123, 0, 0, 0) else none) else (bif Nat.beq pc 123 then some (.lmul, 124, 0, 0, 0) else none)) else (bif Nat.blt pc 126 then (bif Nat.beq pc 124 then some (.lload 4, 126, 0, 0, 0) else none) else (bif Nat.blt pc 127 then (bif Nat.beq pc 126 then some (.ldiv, 127, 0, 0, 0) else none) else (bif Nat.beq pc 127 then some (.lsub, 128, 0, 0, 0) else none)))))))) else (bif Nat.blt pc 203 then (bif Nat.blt pc 164 then (bif Nat.blt pc 147 then (bif Nat.blt pc 139 then (bif Nat.blt pc 133 then (bif Nat.blt pc 130 then (bif Nat.beq pc 128 then some (.lstore 6, 130, 0, 0, 0) else none) else (bif Nat.beq pc 130 then some (.iinc 8 1, 133, 0, 1, 0) else none)) else (bif Nat.blt pc 136 then (bif Nat.beq pc 133 then some (.goto (-63), 136, 70, 0, 0) else none) else (bif Nat.blt pc 138 then (bif Nat.beq pc 136 then some (.lload 6, 138, 1, 0, 0) else none) else (bif Nat.beq pc 138 then some (.lconst 0, 139, 0, 0, 0) else none)))) else (bif Nat.blt pc 143 then (bif Nat.blt pc 140 then (bif Nat.beq pc 139 then some (.lcmp, 140, 0, 0, 0) else none) else (bif Nat.beq pc 140 then some (.ifCond .le 128, 143, 268, 0, 0) else none)) else (bif Nat.blt pc 144 then (bif Nat.beq pc 143 then some (.iconst (-1), 144, 0, (-1), 0) else none) else (bif Nat.blt pc 146 then (bif Nat.beq pc 144 then some (.istore 8, 146, 0, 0, 0) else none) else (bif Nat.beq pc 146 then some (.iconst 0, 147, 0, 0, 0) else none))))) else (bif Nat.blt pc 158 then (bif Nat.blt pc 151 then (bif Nat.blt pc 149 then (bif Nat.beq pc 147 then some (.istore 9, 149, 0, 0, 0) else none) else (bif Nat.beq pc 149 then some (.iload 9, 151, 1, 0, 0) else none)) else (bif Nat.blt pc 152 then (bif Nat.beq pc 151 then some (.aload_n 0, 152, 0, 0, 0) else none) else (bif Nat.blt pc 155 then (bif Nat.beq pc 152 then some (.getfield 121, 155, 0, 0, 0) else none) else (bif Nat.beq pc 155 then some (.if_icmp .ge 85, 158, 240, 0, 0) else none)))) else (bif Nat.blt pc 161 then (bif Nat.blt pc 159 then (bif Nat.beq pc 158 then some (.iload_n 3, 159, 0, 0, 0) else none) else (bif Nat.beq pc 159 then some (.iload 9, 161, 0, 0, 0) else none)) else (bif Nat.blt pc 162 then (bif Nat.beq pc 161 then some (.ishr, 162, 0, 0, 0) else none) else (bif Nat.blt pc 163 then (bif Nat.beq pc 162 then some (.iconst 1, 163, 0, 1, 0) else none) else (bif Nat.beq pc 163 then some (.iand, 164, 0, 0, 0) else none)))))) else (bif Nat.blt pc 183 then (bif Nat.blt pc 174 then (bif Nat.blt pc 168 then (bif Nat.blt pc 165 then (bif Nat.beq pc 164 then some (.iconst 1, 165, 0, 1, 0) else none) else (bif Nat.beq pc 165 then some (.if_icmp .ne 17, 168, 182, 0, 0) else none)) else (bif Nat.blt pc 169 then (bif Nat.beq pc 168 then some (.aload_n 0, 169, 0, 0, 0) else none) else (bif Nat.blt pc 172 then (bif Nat.beq pc 169 then some (.getfield 50, 172, 0, 0, 0) else none) else (bif Nat.beq pc 172 then some (.iload 9, 174, 0, 0, 0) else none)))) else (bif Nat.blt pc 178 then (bif Nat.blt pc 175 then (bif Nat.beq pc 174 then some (.baload, 175, 0, 0, 0) else none) else (bif Nat.beq pc 175 then some (.ifCond .ne 7, 178, 182, 0, 0) else none)) else (bif Nat.blt pc 179 then (bif Nat.beq pc 178 then some (.iconst 1, 179, 0, 1, 0) else none) else (bif Nat.blt pc 182 then (bif Nat.beq pc 179 then some (.goto 4, 182, 183, 0, 0) else none) else (bif Nat.beq pc 182 then some (.iconst 0, 183, 0, 0, 0) else none))))) else (bif Nat.blt pc 195 then (bif Nat.blt pc 187 then (bif Nat.blt pc 185 then (bif Nat.beq pc 183 then some (.istore 10, 185, 0, 0, 0) else none) else (bif Nat.beq pc 185 then some (.iload 10, 187, 0, 0, 0) else none)) else (bif Nat.blt pc 190 then (bif Nat.beq pc 187 then some (.ifCond .eq 43, 190, 230, 0, 0) else none) else (bif Nat.blt pc 192 then (bif Nat.beq pc 190 then some (.iload 8, 192, 0, 0, 0) else none) else (bif Nat.beq pc 192 then some (.ifCond .lt 33, 195, 225, 0, 0) else none)))) else (bif Nat.blt pc 197 then (bif Nat.blt pc 196 then (bif Nat.beq pc 195 then some (.lload_n 1, 196, 0, 0, 0) else none) else (bif Nat.beq pc 196 then some (.aload_n 0, 197, 0, 0, 0) else none)) else (bif Nat.blt pc 200 then (bif Nat.beq pc 197 then some (.getfield 7, 200, 0, 0, 0) else none) else (bif Nat.blt pc 202 then (bif Nat.beq pc 200 then some (.iload 9, 202, 0, 0, 0) else none) else (bif Nat.beq pc 202 then some (.iaload, 203, 0, 0, 0) else none))))))) else (bif Nat.blt pc 237 then (bif Nat.blt pc 217 then (bif Nat.blt pc 209 then (bif Nat.blt pc 205 then (bif Nat.blt pc 204 then (bif Nat.beq pc 203 then some (.i2l, 204, 0, 0, 0) else none) else (bif Nat.beq pc 204 then some (.lmul, 205, 0, 0, 0) else none)) else (bif Nat.blt pc 207 then (bif Nat.beq pc 205 then some (.lload 4, 207, 0, 0, 0) else none) else (bif Nat.blt pc 208 then (bif Nat.beq pc 207 then some (.lrem, 208, 0, 0, 0) else none) else (bif Nat.beq pc 208 then some (.lload_n 1, 209, 0, 0, 0) else none)))) else (bif Nat.blt pc 213 then (bif Nat.blt pc 210 then (bif Nat.beq pc 209 then some (.aload_n 0, 210, 0, 0, 0) else none) else (bif Nat.beq pc 210 then some (.getfield 7, 213, 0, 0, 0) else none)) else (bif Nat.blt pc 215 then (bif Nat.beq pc 213 then some (.iload 8, 215, 0, 0, 0) else none) else (bif Nat.blt pc 216 then (bif Nat.beq pc 215 then some (.iaload, 216, 0, 0, 0) else none) else (bif Nat.beq pc 216 then some (.i2l, 217, 0, 0, 0) else none))))) else (bif Nat.blt pc 225 then (bif Nat.blt pc 220 then (bif Nat.blt pc 218 then (bif Nat.beq pc 217 then some (.lmul, 218, 0, 0, 0) else none) else (bif Nat.beq pc 218 then some (.lload 4, 220, 0, 0, 0) else none)) else (bif Nat.blt pc 221 then (bif Nat.beq pc 220 then some (.lrem, 221, 0, 0, 0) else none) else (bif Nat.blt pc 222 then (bif Nat.beq pc 221 then some (.lcmp, 222, 0, 0, 0) else none) else (bif Nat.beq pc 222 then some (.ifCond .le 8, 225, 230, 0, 0) else none)))) else (bif Nat.blt pc 230 then (bif Nat.blt pc 227 then (bif Nat.beq pc 225 then some (.iload 9, 227, 0, 0, 0) else none) else (bif Nat.beq pc 227 then some (.goto 5, 230, 232, 0, 0) else none)) else (bif Nat.blt pc 232 then (bif Nat.beq pc 230 then some (.iload 8, 232, 0, 0, 0) else none) else (bif Nat.blt pc 234 then (bif Nat.beq pc 232 then some (.istore 8, 234, 0, 0, 0) else none) else (bif Nat.beq pc 234 then some (.iinc 9 1, 237, 0, 1, 0) else none)))))) else (bif Nat.blt pc 255 then (bif Nat.blt pc 247 then (bif Nat.blt pc 241 then (bif Nat.blt pc 240 then (bif Nat.beq pc 237 then some (.goto (-88), 240, 149, 0, 0) else none) else (bif Nat.beq pc 240 then some (.aload_n 0, 241, 0, 0, 0) else none)) else (bif Nat.blt pc 244 then (bif Nat.beq pc 241 then some (.getfield 50, 244, 0, 0, 0) else none) else (bif Nat.blt pc 246 then (bif Nat.beq pc 244 then some (.iload 8, 246, 0, 0, 0) else none) else (bif Nat.beq pc 246 then some (.iconst 1, 247, 0, 1, 0) else none)))) else (bif Nat.blt pc 249 then (bif Nat.blt pc 248 then (bif Nat.beq pc 247 then some (.bastore, 248, 0, 0, 0) else none) else (bif Nat.beq pc 248 then some (.aload_n 0, 249, 0, 0, 0) else none)) else (bif Nat.blt pc 252 then (bif Nat.beq pc 249 then some (.getfield 46, 252, 0, 0, 0) else none) else (bif Nat.blt pc 254 then (bif Nat.beq pc 252 then some (.iload 8, 254, 0, 0, 0) else none) else (bif Nat.beq pc 254 then some (.dup2, 255, 0, 0, 0) else none))))) else (bif Nat.blt pc 261 then (bif Nat.blt pc 257 then (bif Nat.blt pc 256 then (bif Nat.beq pc 255 then some (.laload, 256, 0, 0, 0) else none) else (bif Nat.beq pc 256 then some (.lconst 1, 257, 0, 0, 1) else none)) else (bif Nat.blt pc 258 then (bif Nat.beq pc 257 then some (.ladd, 258, 0, 0, 0) else none) else (bif Nat.blt pc 259 then (bif Nat.beq pc 258 then some (.lastore, 259, 0, 0, 0) else none) else (bif Nat.beq pc 259 then some (.lload 6, 261, 0, 0, 0) else none)))) else (bif Nat.blt pc 263 then (bif Nat.blt pc 262 then (bif Nat.beq pc 261 then some (.lconst 1, 262, 0, 0, 1) else none) else (bif Nat.beq pc 262 then some (.lsub, 263, 0, 0, 0) else none)) else (bif Nat.blt pc 265 then (bif Nat.beq pc 263 then some (.lstore 6, 265, 0, 0, 0) else none) else (bif Nat.blt pc 268 then (bif Nat.beq pc 265 then some (.goto (-129), 268, 136, 0, 0) else none) else (bif Nat.beq pc 268 then some (.return_, 269, 0, 0, 0) else none))))))))))
def tbX8_quotas : Nat → Option mv_R := mv_lim 201 (fun pc => (bif Nat.blt pc 98 then (bif Nat.blt pc 50 then (bif Nat.blt pc 23 then (bif Nat.blt pc 11 then (bif Nat.blt pc 3 then (bif Nat.blt pc 1 then (bif Nat.beq pc 0 then some (.iconst 0, 1, 0, 0, 0) else none) else (bif Nat.blt pc 2 then (bif Nat.beq pc 1 then some (.istore_n 3, 2, 0, 0, 0) else none) else (bif Nat.beq pc 2 then some (.iconst 0, 3, 0, 0, 0) else none))) else (bif Nat.blt pc 7 then (bif Nat.blt pc 5 then (bif Nat.beq pc 3 then some (.istore 4, 5, 0, 0, 0) else none) else (bif Nat.beq pc 5 then some (.iload 4, 7, 1, 0, 0) else none)) else (bif Nat.blt pc 8 then (bif Nat.beq pc 7 then some (.aload_n 0, 8, 0, 0, 0) else none) else (bif Nat.beq pc 8 then some (.getfield 121, 11, 0, 0, 0) else none)))) else (bif Nat.blt pc 18 then (bif Nat.blt pc 14 then (bif Nat.beq pc 11 then some (.if_icmp .ge 39, 14, 50, 0, 0) else none) else (bif Nat.blt pc 15 then (bif Nat.beq pc 14 then some (.aload_n 0, 15, 0, 0, 0) else none) else (bif Nat.beq pc 15 then some (.getfield 46, 18, 0, 0, 0) else none))) else (bif Nat.blt pc 21 then (bif Nat.blt pc 20 then (bif Nat.beq pc 18 then some (.iload 4, 20, 0, 0, 0) else none) else (bif Nat.beq pc 20 then some (.lconst 0, 21, 0, 0, 0) else none)) else (bif Nat.blt pc 22 then (bif Nat.beq pc 21 then some (.lastore, 22, 0, 0, 0) else none) else (bif Nat.beq pc 22 then some (.iload_n 3, 23, 0, 0, 0) else none))))) else (bif Nat.blt pc 35 then (bif Nat.blt pc 27 then (bif Nat.blt pc 24 then (bif Nat.beq pc 23 then some (.aload_n 0, 24, 0, 0, 0) else none) else (bif Nat.blt pc 26 then (bif Nat.beq pc 24 then some (.iload 4, 26, 0, 0, 0) else none) else (bif Nat.beq pc 26 then some (.iload_n 1, 27, 0, 0, 0) else none))) else (bif Nat.blt pc 31 then (bif Nat.blt pc 28 then (bif Nat.beq pc 27 then some (.iload_n 2, 28, 0, 0, 0) else none) else (bif Nat.beq pc 28 then some (.invokevirtual 152, 31, 0, 0, 0) else none)) else (bif Nat.blt pc 34 then (bif Nat.beq pc 31 then some (.ifCond .eq 10, 34, 41, 0, 0) else none) else (bif Nat.beq pc 34 then some (.iconst 1, 35, 0, 1, 0) else none)))) else (bif Nat.blt pc 42 then (bif Nat.blt pc 38 then (bif Nat.blt pc 37 then (bif Nat.beq pc 35 then some (.iload 4, 37, 0, 0, 0) else none) else (bif Nat.beq pc 37 then some (.ishl, 38, 0, 0, 0) else none)) else (bif Nat.blt pc 41 then (bif Nat.beq pc 38 then some (.goto 4, 41, 42, 0, 0) else none) else (bif Nat.beq pc 41 then some (.iconst 0, 42, 0, 0, 0) else none))) else (bif Nat.blt pc 44 then (bif Nat.blt pc 43 then (bif Nat.beq pc 42 then some (.ior, 43, 0, 0, 0) else none) else (bif Nat.beq pc 43 then some (.istore_n 3, 44, 0, 0, 0) else none)) else (bif Nat.blt pc 47 then (bif Nat.beq pc 44 then some (.iinc 4 1, 47, 0, 1, 0) else none) else (bif Nat.beq pc 47 then some (.goto (-42), 50, 5, 0, 0) else none)))))) else (bif Nat.blt pc 72 then (bif Nat.blt pc 61 then (bif Nat.blt pc 55 then (bif Nat.blt pc 51 then (bif Nat.beq pc 50 then some (.aload_n 0, 51, 0, 0, 0) else none) else (bif Nat.blt pc 52 then (bif Nat.beq pc 51 then some (.aload_n 0, 52, 0, 0, 0) else none) else (bif Nat.beq pc 52 then some (.getfield 146, 55, 0, 0, 0) else none))) else (bif Nat.blt pc 57 then (bif Nat.blt pc 56 then (bif Nat.beq pc 55 then some (.i2l, 56, 0, 0, 0) else none) else (bif Nat.beq pc 56 then some (.iconst 1, 57, 0, 1, 0) else none)) else (bif Nat.blt pc 58 then (bif Nat.beq pc 57 then some (.aload_n 0, 58, 0, 0, 0) else none) else (bif Nat.beq pc 58 then some (.getfield 121, 61, 0, 0, 0) else none)))) else (bif Nat.blt pc 64 then (bif Nat.blt pc 62 then (bif Nat.beq pc 61 then some (.ishl, 62, 0, 0, 0) else none) else (bif Nat.blt pc 63 then (bif Nat.beq pc 62 then some (.iconst 1, 63, 0, 1, 0) else none) else (bif Nat.beq pc 63 then some (.isub, 64, 0, 0, 0) else none))) else (bif Nat.blt pc 68 then (bif Nat.blt pc 67 then (bif Nat.beq pc 64 then some (.invokevirtual 155, 67, 0, 0, 0) else none) else (bif Nat.beq pc 67 then some (.iconst 0, 68, 0, 0, 0) else none)) else (bif Nat.blt pc 70 then (bif Nat.beq pc 68 then some (.istore 4, 70, 0, 0, 0) else none) else (bif Nat.beq pc 70 then some (.iload 4, 72, 1, 0, 0) else none))))) else (bif Nat.blt pc 84 then (bif Nat.blt pc 79 then (bif Nat.blt pc 73 then (bif Nat.beq pc 72 then some (.aload_n 0, 73, 0, 0, 0) else none) else (bif Nat.blt pc 76 then (bif Nat.beq pc 73 then some (.getfield 121, 76, 0, 0, 0) else none) else (bif Nat.beq pc 76 then some (.if_icmp .ge 42, 79, 118, 0, 0) else none))) else (bif Nat.blt pc 82 then (bif Nat.blt pc 80 then (bif Nat.beq pc 79 then some (.iload_n 3, 80, 0, 0, 0) else none) else (bif Nat.beq pc 80 then some (.iload 4, 82, 0, 0, 0) else none)) else (bif Nat.blt pc 83 then (bif Nat.beq pc 82 then some (.ishr, 83, 0, 0, 0) else none) else (bif Nat.beq pc 83 then some (.iconst 1, 84, 0, 1, 0) else none)))) else (bif Nat.blt pc 92 then (bif Nat.blt pc 88 then (bif Nat.blt pc 85 then (bif Nat.beq pc 84 then some (.iand, 85, 0, 0, 0) else none) else (bif Nat.beq pc 85 then some (.ifCond .ne 27, 88, 112, 0, 0) else none)) else (bif Nat.blt pc 89 then (bif Nat.beq pc 88 then some (.aload_n 0, 89, 0, 0, 0) else none) else (bif Nat.beq pc 89 then some (.getfield 46, 92, 0, 0, 0) else none))) else (bif Nat.blt pc 95 then (bif Nat.blt pc 94 then (bif Nat.beq pc 92 then some (.iload 4, 94, 0, 0, 0) else none) else (bif Nat.beq pc 94 then some (.laload, 95, 0, 0, 0) else none)) else (bif Nat.blt pc 97 then (bif Nat.beq pc 95 then some (.lstore 5, 97, 0, 0, 0) else none) else (bif Nat.beq pc 97 then some (.aload_n 0, 98, 0, 0, 0) else none))))))) else (bif Nat.blt pc 153 then (bif Nat.blt pc 124 then (bif Nat.blt pc 109 then (bif Nat.blt pc 104 then (bif Nat.blt pc 101 then (bif Nat.beq pc 98 then some (.getfield 46, 101, 0, 0, 0) else none) else (bif Nat.blt pc 103 then (bif Nat.beq pc 101 then some (.iload 4, 103, 0, 0, 0) else none) else (bif Nat.beq pc 103 then some (.lconst 0, 104, 0, 0, 0) else none))) else (bif Nat.blt pc 106 then (bif Nat.blt pc 105 then (bif Nat.beq pc 104 then some (.lastore, 105, 0, 0, 0) else none) else (bif Nat.beq pc 105 then some (.aload_n 0, 106, 0, 0, 0) else none)) else (bif Nat.blt pc 108 then (bif Nat.beq pc 106 then some (.lload 5, 108, 0, 0, 0) else none) else (bif Nat.beq pc 108 then some (.iload_n 3, 109, 0, 0, 0) else none)))) else (bif Nat.blt pc 118 then (bif Nat.blt pc 112 then (bif Nat.beq pc 109 then some (.invokevirtual 155, 112, 0, 0, 0) else none) else (bif Nat.blt pc 115 then (bif Nat.beq pc 112 then some (.iinc 4 1, 115, 0, 1, 0) else none) else (bif Nat.beq pc 115 then some (.goto (-45), 118, 70, 0, 0) else none))) else (bif Nat.blt pc 121 then (bif Nat.blt pc 119 then (bif Nat.beq pc 118 then some (.iconst 0, 119, 0, 0, 0) else none) else (bif Nat.beq pc 119 then some (.istore 4, 121, 0, 0, 0) else none)) else (bif Nat.blt pc 123 then (bif Nat.beq pc 121 then some (.iload 4, 123, 1, 0, 0) else none) else (bif Nat.beq pc 123 then some (.iload_n 2, 124, 0, 0, 0) else none))))) else (bif Nat.blt pc 138 then (bif Nat.blt pc 131 then (bif Nat.blt pc 127 then (bif Nat.beq pc 124 then some (.if_icmp .ge 76, 127, 200, 0, 0) else none) else (bif Nat.blt pc 128 then (bif Nat.beq pc 127 then some (.aload_n 0, 128, 0, 0, 0) else none) else (bif Nat.beq pc 128 then some (.getfield 31, 131, 0, 0, 0) else none))) else (bif Nat.blt pc 134 then (bif Nat.blt pc 133 then (bif Nat.beq pc 131 then some (.iload 4, 133, 0, 0, 0) else none) else (bif Nat.beq pc 133 then some (.iaload, 134, 0, 0, 0) else none)) else (bif Nat.blt pc 137 then (bif Nat.beq pc 134 then some (.ifCond .ne 60, 137, 194, 0, 0) else none) else (bif Nat.beq pc 137 then some (.aload_n 0, 138, 0, 0, 0) else none)))) else (bif Nat.blt pc 145 then (bif Nat.blt pc 143 then (bif Nat.blt pc 141 then (bif Nat.beq pc 138 then some (.getfield 43, 141, 0, 0, 0) else none) else (bif Nat.beq pc 141 then some (.iload 4, 143, 0, 0, 0) else none)) else (bif Nat.blt pc 144 then (bif Nat.beq pc 143 then some (.iaload, 144, 0, 0, 0) else none) else (bif Nat.beq pc 144 then some (.iload_n 1, 145, 0, 0, 0) else none))) else (bif Nat.blt pc 149 then (bif Nat.blt pc 148 then (bif Nat.beq pc 145 then some (.if_icmp .gt 49, 148, 194, 0, 0) else none) else (bif Nat.beq pc 148 then some (.aload_n 0, 149, 0, 0, 0) else none)) else (bif Nat.blt pc 152 then (bif Nat.beq pc 149 then some (.getfield 46, 152, 0, 0, 0) else none) else (bif Nat.beq pc 152 then some (.aload_n 0, 153, 0, 0, 0) else none)))))) else (bif Nat.blt pc 176 then (bif Nat.blt pc 165 then (bif Nat.blt pc 159 then (bif Nat.blt pc 156 then (bif Nat.beq pc 153 then some (.getfield 34, 156, 0, 0, 0) else none) else (bif Nat.blt pc 158 then (bif Nat.beq pc 156 then some (.iload 4, 158, 0, 0, 0) else none) else (bif Nat.beq pc 158 then some (.iaload, 159, 0, 0, 0) else none))) else (bif Nat.blt pc 161 then (bif Nat.blt pc 160 then (bif Nat.beq pc 159 then some (.dup2, 160, 0, 0, 0) else none) else (bif Nat.beq pc 160 then some (.laload, 161, 0, 0, 0) else none)) else (bif Nat.blt pc 162 then (bif Nat.beq pc 161 then some (.aload_n 0, 162, 0, 0, 0) else none) else (bif Nat.beq pc 162 then some (.getfield 40, 165, 0, 0, 0) else none)))) else (bif Nat.blt pc 170 then (bif Nat.blt pc 168 then (bif Nat.blt pc 167 then (bif Nat.beq pc 165 then some (.iload 4, 167, 0, 0, 0) else none) else (bif Nat.beq pc 167 then some (.iaload, 168, 0, 0, 0) else none)) else (bif Nat.blt pc 169 then (bif Nat.beq pc 168 then some (.i2l, 169, 0, 0, 0) else none) else (bif Nat.beq pc 169 then some (.lsub, 170, 0, 0, 0) else none))) else (bif Nat.blt pc 172 then (bif Nat.blt pc 171 then (bif Nat.beq pc 170 then some (.lastore, 171, 0, 0, 0) else none) else (bif Nat.beq pc 171 then some (.aload_n 0, 172, 0, 0, 0) else none)) else (bif Nat.blt pc 175 then (bif Nat.beq pc 172 then some (.getfield 46, 175, 0, 0, 0) else none) else (bif Nat.beq pc 175 then some (.aload_n 0, 176, 0, 0, 0) else none))))) else (bif Nat.blt pc 188 then (bif Nat.blt pc 182 then (bif Nat.blt pc 179 then (bif Nat.beq pc 176 then some (.getfield 37, 179, 0, 0, 0) else none) else (bif Nat.blt pc 181 then (bif Nat.beq pc 179 then some (.iload 4, 181, 0, 0, 0) else none) else (bif Nat.beq pc 181 then some (.iaload, 182, 0, 0, 0) else none))) else (bif Nat.blt pc 184 then (bif Nat.blt pc 183 then (bif Nat.beq pc 182 then some (.dup2, 183, 0, 0, 0) else none) else (bif Nat.beq pc 183 then some (.laload, 184, 0, 0, 0) else none)) else (bif Nat.blt pc 185 then (bif Nat.beq pc 184 then some (.aload_n 0, 185, 0, 0, 0) else none) else (bif Nat.beq pc 185 then some (.getfield 40, 188, 0, 0, 0) else none)))) else (bif Nat.blt pc 193 then (bif Nat.blt pc 191 then (bif Nat.blt pc 190 then (bif Nat.beq pc 188 then some (.iload 4, 190, 0, 0, 0) else none) else (bif Nat.beq pc 190 then some (.iaload, 191, 0, 0, 0) else none)) else (bif Nat.blt pc 192 then (bif Nat.beq pc 191 then some (.i2l, 192, 0, 0, 0) else none) else (bif Nat.beq pc 192 then some (.ladd, 193, 0, 0, 0) else none))) else (bif Nat.blt pc 197 then (bif Nat.blt pc 194 then (bif Nat.beq pc 193 then some (.lastore, 194, 0, 0, 0) else none) else (bif Nat.beq pc 194 then some (.iinc 4 1, 197, 0, 1, 0) else none)) else (bif Nat.blt pc 200 then (bif Nat.beq pc 197 then some (.goto (-76), 200, 121, 0, 0) else none) else (bif Nat.beq pc 200 then some (.return_, 201, 0, 0, 0) else none)))))))))
def tbX8_lend : Nat → Option mv_R := mv_lim 81 (fun pc => (bif Nat.blt pc 45 then (bif Nat.blt pc 22 then (bif Nat.blt pc 10 then (bif Nat.blt pc 5 then (bif Nat.blt pc 1 then (bif Nat.beq pc 0 then some (.aload_n 0, 1, 0, 0, 0) else none) else (bif Nat.blt pc 2 then (bif Nat.beq pc 1 then some (.iload_n 1, 2, 0, 0, 0) else none) else (bif Nat.beq pc 2 then some (.invokevirtual 134, 5, 0, 0, 0) else none))) else (bif Nat.blt pc 8 then (bif Nat.beq pc 5 then some (.ifCond .eq 26, 8, 31, 0, 0) else none) else (bif Nat.blt pc 9 then (bif Nat.beq pc 8 then some (.aload_n 0, 9, 0, 0, 0) else none) else (bif Nat.beq pc 9 then some (.iload_n 2, 10, 0, 0, 0) else none)))) else (bif Nat.blt pc 17 then (bif Nat.blt pc 13 then (bif Nat.beq pc 10 then some (.invokevirtual 134, 13, 0, 0, 0) else none) else (bif Nat.blt pc 16 then (bif Nat.beq pc 13 then some (.ifCond .eq 18, 16, 31, 0, 0) else none) else (bif Nat.beq pc 16 then some (.iload_n 1, 17, 0, 0, 0) else none))) else (bif Nat.blt pc 18 then (bif Nat.beq pc 17 then some (.iload_n 2, 18, 0, 0, 0) else none) else (bif Nat.blt pc 21 then (bif Nat.beq pc 18 then some (.if_icmp .eq 13, 21, 31, 0, 0) else none) else (bif Nat.beq pc 21 then some (.iload_n 3, 22, 0, 0, 0) else none))))) else (bif Nat.blt pc 33 then (bif Nat.blt pc 28 then (bif Nat.blt pc 23 then (bif Nat.beq pc 22 then some (.iconst 1, 23, 0, 1, 0) else none) else (bif Nat.blt pc 25 then (bif Nat.beq pc 23 then some (.ldc 159, 25, 0, 100000, 0) else none) else (bif Nat.beq pc 25 then some (.invokestatic 124, 28, 0, 0, 0) else none))) else (bif Nat.blt pc 31 then (bif Nat.beq pc 28 then some (.ifCond .ne 5, 31, 33, 0, 0) else none) else (bif Nat.blt pc 32 then (bif Nat.beq pc 31 then some (.iconst (-1), 32, 0, (-1), 0) else none) else (bif Nat.beq pc 32 then some (.ireturn, 33, 0, 0, 0) else none)))) else (bif Nat.blt pc 38 then (bif Nat.blt pc 34 then (bif Nat.beq pc 33 then some (.aload_n 0, 34, 0, 0, 0) else none) else (bif Nat.blt pc 35 then (bif Nat.beq pc 34 then some (.aload_n 0, 35, 0, 0, 0) else none) else (bif Nat.beq pc 35 then some (.getfield 131, 38, 0, 0, 0) else none))) else (bif Nat.blt pc 39 then (bif Nat.beq pc 38 then some (.aload_n 0, 39, 0, 0, 0) else none) else (bif Nat.blt pc 42 then (bif Nat.beq pc 39 then some (.getfield 149, 42, 0, 0, 0) else none) else (bif Nat.beq pc 42 then some (.invokevirtual 160, 45, 0, 0, 0) else none)))))) else (bif Nat.blt pc 61 then (bif Nat.blt pc 55 then (bif Nat.blt pc 50 then (bif Nat.blt pc 46 then (bif Nat.beq pc 45 then some (.aload_n 0, 46, 0, 0, 0) else none) else (bif Nat.blt pc 49 then (bif Nat.beq pc 46 then some (.getfield 46, 49, 0, 0, 0) else none) else (bif Nat.beq pc 49 then some (.iload_n 1, 50, 0, 0, 0) else none))) else (bif Nat.blt pc 51 then (bif Nat.beq pc 50 then some (.laload, 51, 0, 0, 0) else none) else (bif Nat.blt pc 52 then (bif Nat.beq pc 51 then some (.aload_n 0, 52, 0, 0, 0) else none) else (bif Nat.beq pc 52 then some (.getfield 13, 55, 0, 0, 0) else none)))) else (bif Nat.blt pc 58 then (bif Nat.blt pc 56 then (bif Nat.beq pc 55 then some (.iload_n 1, 56, 0, 0, 0) else none) else (bif Nat.blt pc 57 then (bif Nat.beq pc 56 then some (.iaload, 57, 0, 0, 0) else none) else (bif Nat.beq pc 57 then some (.i2l, 58, 0, 0, 0) else none))) else (bif Nat.blt pc 59 then (bif Nat.beq pc 58 then some (.lsub, 59, 0, 0, 0) else none) else (bif Nat.blt pc 60 then (bif Nat.beq pc 59 then some (.iload_n 3, 60, 0, 0, 0) else none) else (bif Nat.beq pc 60 then some (.i2l, 61, 0, 0, 0) else none))))) else (bif Nat.blt pc 70 then (bif Nat.blt pc 67 then (bif Nat.blt pc 62 then (bif Nat.beq pc 61 then some (.lcmp, 62, 0, 0, 0) else none) else (bif Nat.blt pc 65 then (bif Nat.beq pc 62 then some (.ifCond .ge 6, 65, 68, 0, 0) else none) else (bif Nat.beq pc 65 then some (.bipush (-2), 67, 0, (-2), 0) else none))) else (bif Nat.blt pc 68 then (bif Nat.beq pc 67 then some (.ireturn, 68, 0, 0, 0) else none) else (bif Nat.blt pc 69 then (bif Nat.beq pc 68 then some (.aload_n 0, 69, 0, 0, 0) else none) else (bif Nat.beq pc 69 then some (.iconst 0, 70, 0, 0, 0) else none)))) else (bif Nat.blt pc 73 then (bif Nat.blt pc 71 then (bif Nat.beq pc 70 then some (.iload_n 1, 71, 0, 0, 0) else none) else (bif Nat.blt pc 72 then (bif Nat.beq pc 71 then some (.iload_n 2, 72, 0, 0, 0) else none) else (bif Nat.beq pc 72 then some (.iload_n 3, 73, 0, 0, 0) else none))) else (bif Nat.blt pc 77 then (bif Nat.blt pc 74 then (bif Nat.beq pc 73 then some (.aload_n 0, 74, 0, 0, 0) else none) else (bif Nat.beq pc 74 then some (.getfield 131, 77, 0, 0, 0) else none)) else (bif Nat.blt pc 80 then (bif Nat.beq pc 77 then some (.invokevirtual 164, 80, 0, 0, 0) else none) else (bif Nat.beq pc 80 then some (.ireturn, 81, 0, 0, 0) else none))))))))
def tbX8_shut : Nat → Option mv_R := mv_lim 40 (fun pc => (bif Nat.blt pc 20 then (bif Nat.blt pc 9 then (bif Nat.blt pc 2 then (bif Nat.blt pc 1 then (bif Nat.beq pc 0 then some (.aload_n 0, 1, 0, 0, 0) else none) else (bif Nat.beq pc 1 then some (.iload_n 1, 2, 0, 0, 0) else none)) else (bif Nat.blt pc 5 then (bif Nat.beq pc 2 then some (.invokevirtual 134, 5, 0, 0, 0) else none) else (bif Nat.blt pc 8 then (bif Nat.beq pc 5 then some (.ifCond .eq 33, 8, 38, 0, 0) else none) else (bif Nat.beq pc 8 then some (.iload_n 3, 9, 0, 0, 0) else none)))) else (bif Nat.blt pc 15 then (bif Nat.blt pc 10 then (bif Nat.beq pc 9 then some (.iconst 0, 10, 0, 0, 0) else none) else (bif Nat.blt pc 12 then (bif Nat.beq pc 10 then some (.bipush 51, 12, 0, 51, 0) else none) else (bif Nat.beq pc 12 then some (.invokestatic 124, 15, 0, 0, 0) else none))) else (bif Nat.blt pc 18 then (bif Nat.beq pc 15 then some (.ifCond .eq 23, 18, 38, 0, 0) else none) else (bif Nat.blt pc 19 then (bif Nat.beq pc 18 then some (.aload_n 0, 19, 0, 0, 0) else none) else (bif Nat.beq pc 19 then some (.iload_n 2, 20, 0, 0, 0) else none))))) else (bif Nat.blt pc 30 then (bif Nat.blt pc 27 then (bif Nat.blt pc 23 then (bif Nat.beq pc 20 then some (.ifCond .eq 7, 23, 27, 0, 0) else none) else (bif Nat.blt pc 24 then (bif Nat.beq pc 23 then some (.iconst 1, 24, 0, 1, 0) else none) else (bif Nat.beq pc 24 then some (.goto 4, 27, 28, 0, 0) else none))) else (bif Nat.blt pc 28 then (bif Nat.beq pc 27 then some (.iconst 2, 28, 0, 2, 0) else none) else (bif Nat.blt pc 29 then (bif Nat.beq pc 28 then some (.iload_n 1, 29, 0, 0, 0) else none) else (bif Nat.beq pc 29 then some (.iconst 0, 30, 0, 0, 0) else none)))) else (bif Nat.blt pc 35 then (bif Nat.blt pc 31 then (bif Nat.beq pc 30 then some (.iconst 0, 31, 0, 0, 0) else none) else (bif Nat.blt pc 32 then (bif Nat.beq pc 31 then some (.iload_n 3, 32, 0, 0, 0) else none) else (bif Nat.beq pc 32 then some (.invokevirtual 164, 35, 0, 0, 0) else none))) else (bif Nat.blt pc 38 then (bif Nat.beq pc 35 then some (.goto 4, 38, 39, 0, 0) else none) else (bif Nat.blt pc 39 then (bif Nat.beq pc 38 then some (.iconst (-1), 39, 0, (-1), 0) else none) else (bif Nat.beq pc 39 then some (.ireturn, 40, 0, 0, 0) else none)))))))
def tbX8_isAsOf : Nat → Option mv_R := mv_lim 36 (fun pc => (bif Nat.blt pc 18 then (bif Nat.blt pc 8 then (bif Nat.blt pc 2 then (bif Nat.blt pc 1 then (bif Nat.beq pc 0 then some (.aload_n 0, 1, 0, 0, 0) else none) else (bif Nat.beq pc 1 then some (.iload_n 1, 2, 0, 0, 0) else none)) else (bif Nat.blt pc 5 then (bif Nat.beq pc 2 then some (.invokevirtual 134, 5, 0, 0, 0) else none) else (bif Nat.beq pc 5 then some (.ifCond .eq 29, 8, 34, 0, 0) else none))) else (bif Nat.blt pc 10 then (bif Nat.blt pc 9 then (bif Nat.beq pc 8 then some (.iload_n 2, 9, 0, 0, 0) else none) else (bif Nat.beq pc 9 then some (.iconst 0, 10, 0, 0, 0) else none)) else (bif Nat.blt pc 12 then (bif Nat.beq pc 10 then some (.bipush 51, 12, 0, 51, 0) else none) else (bif Nat.blt pc 15 then (bif Nat.beq pc 12 then some (.invokestatic 124, 15, 0, 0, 0) else none) else (bif Nat.beq pc 15 then some (.ifCond .eq 19, 18, 34, 0, 0) else none))))) else (bif Nat.blt pc 27 then (bif Nat.blt pc 20 then (bif Nat.blt pc 19 then (bif Nat.beq pc 18 then some (.iload_n 3, 19, 0, 0, 0) else none) else (bif Nat.beq pc 19 then some (.iconst 0, 20, 0, 0, 0) else none)) else (bif Nat.blt pc 21 then (bif Nat.beq pc 20 then some (.aload_n 0, 21, 0, 0, 0) else none) else (bif Nat.blt pc 24 then (bif Nat.beq pc 21 then some (.getfield 149, 24, 0, 0, 0) else none) else (bif Nat.beq pc 24 then some (.invokestatic 124, 27, 0, 0, 0) else none)))) else (bif Nat.blt pc 31 then (bif Nat.blt pc 30 then (bif Nat.beq pc 27 then some (.ifCond .eq 7, 30, 34, 0, 0) else none) else (bif Nat.beq pc 30 then some (.iconst 1, 31, 0, 1, 0) else none)) else (bif Nat.blt pc 34 then (bif Nat.beq pc 31 then some (.goto 4, 34, 35, 0, 0) else none) else (bif Nat.blt pc 35 then (bif Nat.beq pc 34 then some (.iconst 0, 35, 0, 0, 0) else none) else (bif Nat.beq pc 35 then some (.ireturn, 36, 0, 0, 0) else none)))))))
def tbX8_open : Nat → Option mv_R := mv_lim 30 (fun pc => (bif Nat.blt pc 15 then (bif Nat.blt pc 4 then (bif Nat.blt pc 2 then (bif Nat.blt pc 1 then (bif Nat.beq pc 0 then some (.aload_n 0, 1, 0, 0, 0) else none) else (bif Nat.beq pc 1 then some (.iload_n 1, 2, 0, 0, 0) else none)) else (bif Nat.blt pc 3 then (bif Nat.beq pc 2 then some (.iload_n 2, 3, 0, 0, 0) else none) else (bif Nat.beq pc 3 then some (.iload_n 3, 4, 0, 0, 0) else none))) else (bif Nat.blt pc 10 then (bif Nat.blt pc 7 then (bif Nat.beq pc 4 then some (.invokevirtual 168, 7, 0, 0, 0) else none) else (bif Nat.beq pc 7 then some (.ifCond .ne 7, 10, 14, 0, 0) else none)) else (bif Nat.blt pc 11 then (bif Nat.beq pc 10 then some (.iconst (-1), 11, 0, (-1), 0) else none) else (bif Nat.blt pc 14 then (bif Nat.beq pc 11 then some (.goto 18, 14, 29, 0, 0) else none) else (bif Nat.beq pc 14 then some (.aload_n 0, 15, 0, 0, 0) else none))))) else (bif Nat.blt pc 21 then (bif Nat.blt pc 17 then (bif Nat.blt pc 16 then (bif Nat.beq pc 15 then some (.iload_n 1, 16, 0, 0, 0) else none) else (bif Nat.beq pc 16 then some (.iload_n 2, 17, 0, 0, 0) else none)) else (bif Nat.blt pc 18 then (bif Nat.beq pc 17 then some (.iload_n 3, 18, 0, 0, 0) else none) else (bif Nat.beq pc 18 then some (.invokevirtual 152, 21, 0, 0, 0) else none))) else (bif Nat.blt pc 25 then (bif Nat.blt pc 24 then (bif Nat.beq pc 21 then some (.ifCond .eq 7, 24, 28, 0, 0) else none) else (bif Nat.beq pc 24 then some (.iconst 1, 25, 0, 1, 0) else none)) else (bif Nat.blt pc 28 then (bif Nat.beq pc 25 then some (.goto 4, 28, 29, 0, 0) else none) else (bif Nat.blt pc 29 then (bif Nat.beq pc 28 then some (.iconst 0, 29, 0, 0, 0) else none) else (bif Nat.beq pc 29 then some (.ireturn, 30, 0, 0, 0) else none)))))))
def tbX8_quota : Nat → Option mv_R := mv_lim 27 (fun pc => (bif Nat.blt pc 14 then (bif Nat.blt pc 4 then (bif Nat.blt pc 2 then (bif Nat.blt pc 1 then (bif Nat.beq pc 0 then some (.aload_n 0, 1, 0, 0, 0) else none) else (bif Nat.beq pc 1 then some (.iload_n 1, 2, 0, 0, 0) else none)) else (bif Nat.blt pc 3 then (bif Nat.beq pc 2 then some (.iload_n 2, 3, 0, 0, 0) else none) else (bif Nat.beq pc 3 then some (.iload_n 3, 4, 0, 0, 0) else none))) else (bif Nat.blt pc 10 then (bif Nat.blt pc 7 then (bif Nat.beq pc 4 then some (.invokevirtual 168, 7, 0, 0, 0) else none) else (bif Nat.beq pc 7 then some (.ifCond .ne 6, 10, 13, 0, 0) else none)) else (bif Nat.blt pc 12 then (bif Nat.beq pc 10 then some (.ldc 171, 12, 0, (-10000001), 0) else none) else (bif Nat.blt pc 13 then (bif Nat.beq pc 12 then some (.ireturn, 13, 0, 0, 0) else none) else (bif Nat.beq pc 13 then some (.aload_n 0, 14, 0, 0, 0) else none))))) else (bif Nat.blt pc 20 then (bif Nat.blt pc 16 then (bif Nat.blt pc 15 then (bif Nat.beq pc 14 then some (.iload_n 2, 15, 0, 0, 0) else none) else (bif Nat.beq pc 15 then some (.iload_n 3, 16, 0, 0, 0) else none)) else (bif Nat.blt pc 19 then (bif Nat.beq pc 16 then some (.invokevirtual 160, 19, 0, 0, 0) else none) else (bif Nat.beq pc 19 then some (.aload_n 0, 20, 0, 0, 0) else none))) else (bif Nat.blt pc 24 then (bif Nat.blt pc 23 then (bif Nat.beq pc 20 then some (.getfield 46, 23, 0, 0, 0) else none) else (bif Nat.beq pc 23 then some (.iload_n 1, 24, 0, 0, 0) else none)) else (bif Nat.blt pc 25 then (bif Nat.beq pc 24 then some (.laload, 25, 0, 0, 0) else none) else (bif Nat.blt pc 26 then (bif Nat.beq pc 25 then some (.l2i, 26, 0, 0, 0) else none) else (bif Nat.beq pc 26 then some (.ireturn, 27, 0, 0, 0) else none)))))))
def tbX8_leftOf : Nat → Option mv_R := mv_lim 40 (fun pc => (bif Nat.blt pc 23 then (bif Nat.blt pc 12 then (bif Nat.blt pc 5 then (bif Nat.blt pc 1 then (bif Nat.beq pc 0 then some (.aload_n 0, 1, 0, 0, 0) else none) else (bif Nat.blt pc 2 then (bif Nat.beq pc 1 then some (.aload_n 0, 2, 0, 0, 0) else none) else (bif Nat.beq pc 2 then some (.getfield 131, 5, 0, 0, 0) else none))) else (bif Nat.blt pc 6 then (bif Nat.beq pc 5 then some (.aload_n 0, 6, 0, 0, 0) else none) else (bif Nat.blt pc 9 then (bif Nat.beq pc 6 then some (.getfield 149, 9, 0, 0, 0) else none) else (bif Nat.beq pc 9 then some (.invokevirtual 160, 12, 0, 0, 0) else none)))) else (bif Nat.blt pc 17 then (bif Nat.blt pc 13 then (bif Nat.beq pc 12 then some (.aload_n 0, 13, 0, 0, 0) else none) else (bif Nat.blt pc 16 then (bif Nat.beq pc 13 then some (.getfield 46, 16, 0, 0, 0) else none) else (bif Nat.beq pc 16 then some (.iload_n 1, 17, 0, 0, 0) else none))) else (bif Nat.blt pc 19 then (bif Nat.blt pc 18 then (bif Nat.beq pc 17 then some (.laload, 18, 0, 0, 0) else none) else (bif Nat.beq pc 18 then some (.aload_n 0, 19, 0, 0, 0) else none)) else (bif Nat.blt pc 22 then (bif Nat.beq pc 19 then some (.getfield 13, 22, 0, 0, 0) else none) else (bif Nat.beq pc 22 then some (.iload_n 1, 23, 0, 0, 0) else none))))) else (bif Nat.blt pc 29 then (bif Nat.blt pc 26 then (bif Nat.blt pc 24 then (bif Nat.beq pc 23 then some (.iaload, 24, 0, 0, 0) else none) else (bif Nat.blt pc 25 then (bif Nat.beq pc 24 then some (.i2l, 25, 0, 0, 0) else none) else (bif Nat.beq pc 25 then some (.lsub, 26, 0, 0, 0) else none))) else (bif Nat.blt pc 27 then (bif Nat.beq pc 26 then some (.lstore_n 2, 27, 0, 0, 0) else none) else (bif Nat.blt pc 28 then (bif Nat.beq pc 27 then some (.lload_n 2, 28, 0, 0, 0) else none) else (bif Nat.beq pc 28 then some (.lconst 0, 29, 0, 0, 0) else none)))) else (bif Nat.blt pc 34 then (bif Nat.blt pc 30 then (bif Nat.beq pc 29 then some (.lcmp, 30, 0, 0, 0) else none) else (bif Nat.blt pc 33 then (bif Nat.beq pc 30 then some (.ifCond .ge 7, 33, 37, 0, 0) else none) else (bif Nat.beq pc 33 then some (.iconst 0, 34, 0, 0, 0) else none))) else (bif Nat.blt pc 38 then (bif Nat.blt pc 37 then (bif Nat.beq pc 34 then some (.goto 5, 37, 39, 0, 0) else none) else (bif Nat.beq pc 37 then some (.lload_n 2, 38, 0, 0, 0) else none)) else (bif Nat.blt pc 39 then (bif Nat.beq pc 38 then some (.l2i, 39, 0, 0, 0) else none) else (bif Nat.beq pc 39 then some (.ireturn, 40, 0, 0, 0) else none)))))))
def tbX8_left : Nat → Option mv_R := mv_lim 18 (fun pc => (bif Nat.blt pc 9 then (bif Nat.blt pc 2 then (bif Nat.blt pc 1 then (bif Nat.beq pc 0 then some (.aload_n 0, 1, 0, 0, 0) else none) else (bif Nat.beq pc 1 then some (.iload_n 1, 2, 0, 0, 0) else none)) else (bif Nat.blt pc 5 then (bif Nat.beq pc 2 then some (.invokevirtual 134, 5, 0, 0, 0) else none) else (bif Nat.blt pc 8 then (bif Nat.beq pc 5 then some (.ifCond .eq 11, 8, 16, 0, 0) else none) else (bif Nat.beq pc 8 then some (.aload_n 0, 9, 0, 0, 0) else none)))) else (bif Nat.blt pc 13 then (bif Nat.blt pc 10 then (bif Nat.beq pc 9 then some (.iload_n 1, 10, 0, 0, 0) else none) else (bif Nat.beq pc 10 then some (.invokevirtual 172, 13, 0, 0, 0) else none)) else (bif Nat.blt pc 16 then (bif Nat.beq pc 13 then some (.goto 4, 16, 17, 0, 0) else none) else (bif Nat.blt pc 17 then (bif Nat.beq pc 16 then some (.iconst (-1), 17, 0, (-1), 0) else none) else (bif Nat.beq pc 17 then some (.ireturn, 18, 0, 0, 0) else none))))))
def tbX8_type : Nat → Option mv_R := mv_lim 117 (fun pc => (bif Nat.blt pc 59 then (bif Nat.blt pc 27 then (bif Nat.blt pc 13 then (bif Nat.blt pc 7 then (bif Nat.blt pc 2 then (bif Nat.blt pc 1 then (bif Nat.beq pc 0 then some (.iload_n 3, 1, 0, 0, 0) else none) else (bif Nat.beq pc 1 then some (.iconst 1, 2, 0, 1, 0) else none)) else (bif Nat.blt pc 4 then (bif Nat.beq pc 2 then some (.bipush 8, 4, 0, 8, 0) else none) else (bif Nat.beq pc 4 then some (.invokestatic 124, 7, 0, 0, 0) else none))) else (bif Nat.blt pc 11 then (bif Nat.blt pc 10 then (bif Nat.beq pc 7 then some (.ifCond .ne 5, 10, 12, 0, 0) else none) else (bif Nat.beq pc 10 then some (.iconst (-1), 11, 0, (-1), 0) else none)) else (bif Nat.blt pc 12 then (bif Nat.beq pc 11 then some (.ireturn, 12, 0, 0, 0) else none) else (bif Nat.beq pc 12 then some (.iconst 0, 13, 0, 0, 0) else none)))) else (bif Nat.blt pc 21 then (bif Nat.blt pc 17 then (bif Nat.blt pc 15 then (bif Nat.beq pc 13 then some (.istore 4, 15, 0, 0, 0) else none) else (bif Nat.beq pc 15 then some (.iload 4, 17, 1, 0, 0) else none)) else (bif Nat.blt pc 18 then (bif Nat.beq pc 17 then some (.iload_n 3, 18, 0, 0, 0) else none) else (bif Nat.beq pc 18 then some (.if_icmp .ge 33, 21, 51, 0, 0) else none))) else (bif Nat.blt pc 24 then (bif Nat.blt pc 22 then (bif Nat.beq pc 21 then some (.lload_n 1, 22, 0, 0, 0) else none) else (bif Nat.beq pc 22 then some (.bipush 8, 24, 0, 8, 0) else none)) else (bif Nat.blt pc 26 then (bif Nat.beq pc 24 then some (.iload 4, 26, 0, 0, 0) else none) else (bif Nat.beq pc 26 then some (.imul, 27, 0, 0, 0) else none))))) else (bif Nat.blt pc 43 then (bif Nat.blt pc 33 then (bif Nat.blt pc 31 then (bif Nat.blt pc 28 then (bif Nat.beq pc 27 then some (.lshr, 28, 0, 0, 0) else none) else (bif Nat.beq pc 28 then some (.ldc2_w 175, 31, 0, 0, 255) else none)) else (bif Nat.blt pc 32 then (bif Nat.beq pc 31 then some (.land, 32, 0, 0, 0) else none) else (bif Nat.beq pc 32 then some (.l2i, 33, 0, 0, 0) else none))) else (bif Nat.blt pc 37 then (bif Nat.blt pc 35 then (bif Nat.beq pc 33 then some (.bipush 32, 35, 0, 32, 0) else none) else (bif Nat.beq pc 35 then some (.bipush 126, 37, 0, 126, 0) else none)) else (bif Nat.blt pc 40 then (bif Nat.beq pc 37 then some (.invokestatic 124, 40, 0, 0, 0) else none) else (bif Nat.beq pc 40 then some (.ifCond .ne 5, 43, 45, 0, 0) else none)))) else (bif Nat.blt pc 51 then (bif Nat.blt pc 45 then (bif Nat.blt pc 44 then (bif Nat.beq pc 43 then some (.iconst (-1), 44, 0, (-1), 0) else none) else (bif Nat.beq pc 44 then some (.ireturn, 45, 0, 0, 0) else none)) else (bif Nat.blt pc 48 then (bif Nat.beq pc 45 then some (.iinc 4 1, 48, 0, 1, 0) else none) else (bif Nat.beq pc 48 then some (.goto (-33), 51, 15, 0, 0) else none))) else (bif Nat.blt pc 55 then (bif Nat.blt pc 52 then (bif Nat.beq pc 51 then some (.aload_n 0, 52, 0, 0, 0) else none) else (bif Nat.beq pc 52 then some (.getfield 177, 55, 0, 0, 0) else none)) else (bif Nat.blt pc 56 then (bif Nat.beq pc 55 then some (.iload_n 3, 56, 0, 0, 0) else none) else (bif Nat.blt pc 57 then (bif Nat.beq pc 56 then some (.iadd, 57, 0, 0, 0) else none) else (bif Nat.beq pc 57 then some (.bipush 70, 59, 0, 70, 0) else none))))))) else (bif Nat.blt pc 88 then (bif Nat.blt pc 72 then (bif Nat.blt pc 66 then (bif Nat.blt pc 64 then (bif Nat.blt pc 62 then (bif Nat.beq pc 59 then some (.if_icmp .le 6, 62, 65, 0, 0) else none) else (bif Nat.beq pc 62 then some (.bipush (-3), 64, 0, (-3), 0) else none)) else (bif Nat.blt pc 65 then (bif Nat.beq pc 64 then some (.ireturn, 65, 0, 0, 0) else none) else (bif Nat.beq pc 65 then some (.iload_n 3, 66, 0, 0, 0) else none))) else (bif Nat.blt pc 68 then (bif Nat.blt pc 67 then (bif Nat.beq pc 66 then some (.iconst 1, 67, 0, 1, 0) else none) else (bif Nat.beq pc 67 then some (.isub, 68, 0, 0, 0) else none)) else (bif Nat.blt pc 70 then (bif Nat.beq pc 68 then some (.istore 4, 70, 0, 0, 0) else none) else (bif Nat.beq pc 70 then some (.iload 4, 72, 1, 0, 0) else none)))) else (bif Nat.blt pc 80 then (bif Nat.blt pc 76 then (bif Nat.blt pc 75 then (bif Nat.beq pc 72 then some (.ifCond .lt 40, 75, 112, 0, 0) else none) else (bif Nat.beq pc 75 then some (.aload_n 0, 76, 0, 0, 0) else none)) else (bif Nat.blt pc 79 then (bif Nat.beq pc 76 then some (.getfield 54, 79, 0, 0, 0) else none) else (bif Nat.beq pc 79 then some (.aload_n 0, 80, 0, 0, 0) else none))) else (bif Nat.blt pc 84 then (bif Nat.blt pc 83 then (bif Nat.beq pc 80 then some (.getfield 177, 83, 0, 0, 0) else none) else (bif Nat.beq pc 83 then some (.lload_n 1, 84, 0, 0, 0) else none)) else (bif Nat.blt pc 86 then (bif Nat.beq pc 84 then some (.bipush 8, 86, 0, 8, 0) else none) else (bif Nat.beq pc 86 then some (.iload 4, 88, 0, 0, 0) else none))))) else (bif Nat.blt pc 98 then (bif Nat.blt pc 94 then (bif Nat.blt pc 90 then (bif Nat.blt pc 89 then (bif Nat.beq pc 88 then some (.imul, 89, 0, 0, 0) else none) else (bif Nat.beq pc 89 then some (.lshr, 90, 0, 0, 0) else none)) else (bif Nat.blt pc 93 then (bif Nat.beq pc 90 then some (.ldc2_w 175, 93, 0, 0, 255) else none) else (bif Nat.beq pc 93 then some (.land, 94, 0, 0, 0) else none))) else (bif Nat.blt pc 96 then (bif Nat.blt pc 95 then (bif Nat.beq pc 94 then some (.l2i, 95, 0, 0, 0) else none) else (bif Nat.beq pc 95 then some (.iastore, 96, 0, 0, 0) else none)) else (bif Nat.blt pc 97 then (bif Nat.beq pc 96 then some (.aload_n 0, 97, 0, 0, 0) else none) else (bif Nat.beq pc 97 then some (.dup, 98, 0, 0, 0) else none)))) else (bif Nat.blt pc 106 then (bif Nat.blt pc 102 then (bif Nat.blt pc 101 then (bif Nat.beq pc 98 then some (.getfield 177, 101, 0, 0, 0) else none) else (bif Nat.beq pc 101 then some (.iconst 1, 102, 0, 1, 0) else none)) else (bif Nat.blt pc 103 then (bif Nat.beq pc 102 then some (.iadd, 103, 0, 0, 0) else none) else (bif Nat.beq pc 103 then some (.putfield 177, 106, 0, 0, 0) else none))) else (bif Nat.blt pc 112 then (bif Nat.blt pc 109 then (bif Nat.beq pc 106 then some (.iinc 4 (-1), 109, 0, (-1), 0) else none) else (bif Nat.beq pc 109 then some (.goto (-39), 112, 70, 0, 0) else none)) else (bif Nat.blt pc 113 then (bif Nat.beq pc 112 then some (.aload_n 0, 113, 0, 0, 0) else none) else (bif Nat.blt pc 116 then (bif Nat.beq pc 113 then some (.getfield 177, 116, 0, 0, 0) else none) else (bif Nat.beq pc 116 then some (.ireturn, 117, 0, 0, 0) else none)))))))))
def tbX8_next : Nat → Option mv_R := mv_lim 63 (fun pc => (bif Nat.blt pc 31 then (bif Nat.blt pc 16 then (bif Nat.blt pc 8 then (bif Nat.blt pc 4 then (bif Nat.blt pc 1 then (bif Nat.beq pc 0 then some (.aload_n 0, 1, 1, 0, 0) else none) else (bif Nat.beq pc 1 then some (.getfield 180, 4, 0, 0, 0) else none)) else (bif Nat.blt pc 5 then (bif Nat.beq pc 4 then some (.aload_n 0, 5, 0, 0, 0) else none) else (bif Nat.beq pc 5 then some (.getfield 177, 8, 0, 0, 0) else none))) else (bif Nat.blt pc 12 then (bif Nat.blt pc 11 then (bif Nat.beq pc 8 then some (.if_icmp .ge 30, 11, 38, 0, 0) else none) else (bif Nat.beq pc 11 then some (.aload_n 0, 12, 0, 0, 0) else none)) else (bif Nat.blt pc 15 then (bif Nat.beq pc 12 then some (.getfield 54, 15, 0, 0, 0) else none) else (bif Nat.beq pc 15 then some (.aload_n 0, 16, 0, 0, 0) else none)))) else (bif Nat.blt pc 25 then (bif Nat.blt pc 20 then (bif Nat.blt pc 19 then (bif Nat.beq pc 16 then some (.getfield 180, 19, 0, 0, 0) else none) else (bif Nat.beq pc 19 then some (.iaload, 20, 0, 0, 0) else none)) else (bif Nat.blt pc 22 then (bif Nat.beq pc 20 then some (.bipush 32, 22, 0, 32, 0) else none) else (bif Nat.beq pc 22 then some (.if_icmp .ne 16, 25, 38, 0, 0) else none))) else (bif Nat.blt pc 27 then (bif Nat.blt pc 26 then (bif Nat.beq pc 25 then some (.aload_n 0, 26, 0, 0, 0) else none) else (bif Nat.beq pc 26 then some (.dup, 27, 0, 0, 0) else none)) else (bif Nat.blt pc 30 then (bif Nat.beq pc 27 then some (.getfield 180, 30, 0, 0, 0) else none) else (bif Nat.beq pc 30 then some (.iconst 1, 31, 0, 1, 0) else none))))) else (bif Nat.blt pc 49 then (bif Nat.blt pc 39 then (bif Nat.blt pc 35 then (bif Nat.blt pc 32 then (bif Nat.beq pc 31 then some (.iadd, 32, 0, 0, 0) else none) else (bif Nat.beq pc 32 then some (.putfield 180, 35, 0, 0, 0) else none)) else (bif Nat.blt pc 38 then (bif Nat.beq pc 35 then some (.goto (-35), 38, 0, 0, 0) else none) else (bif Nat.beq pc 38 then some (.aload_n 0, 39, 0, 0, 0) else none))) else (bif Nat.blt pc 43 then (bif Nat.blt pc 42 then (bif Nat.beq pc 39 then some (.getfield 180, 42, 0, 0, 0) else none) else (bif Nat.beq pc 42 then some (.aload_n 0, 43, 0, 0, 0) else none)) else (bif Nat.blt pc 46 then (bif Nat.beq pc 43 then some (.getfield 177, 46, 0, 0, 0) else none) else (bif Nat.beq pc 46 then some (.if_icmp .ge 15, 49, 61, 0, 0) else none)))) else (bif Nat.blt pc 57 then (bif Nat.blt pc 53 then (bif Nat.blt pc 50 then (bif Nat.beq pc 49 then some (.aload_n 0, 50, 0, 0, 0) else none) else (bif Nat.beq pc 50 then some (.getfield 54, 53, 0, 0, 0) else none)) else (bif Nat.blt pc 54 then (bif Nat.beq pc 53 then some (.aload_n 0, 54, 0, 0, 0) else none) else (bif Nat.beq pc 54 then some (.getfield 180, 57, 0, 0, 0) else none))) else (bif Nat.blt pc 61 then (bif Nat.blt pc 58 then (bif Nat.beq pc 57 then some (.iaload, 58, 0, 0, 0) else none) else (bif Nat.beq pc 58 then some (.goto 4, 61, 62, 0, 0) else none)) else (bif Nat.blt pc 62 then (bif Nat.beq pc 61 then some (.iconst 0, 62, 0, 0, 0) else none) else (bif Nat.beq pc 62 then some (.ireturn, 63, 0, 0, 0) else none)))))))
def tbX8_number : Nat → Option mv_R := mv_lim 128 (fun pc => (bif Nat.blt pc 67 then (bif Nat.blt pc 30 then (bif Nat.blt pc 16 then (bif Nat.blt pc 8 then (bif Nat.blt pc 4 then (bif Nat.blt pc 1 then (bif Nat.beq pc 0 then some (.aload_n 0, 1, 0, 0, 0) else none) else (bif Nat.beq pc 1 then some (.invokevirtual 183, 4, 0, 0, 0) else none)) else (bif Nat.blt pc 6 then (bif Nat.beq pc 4 then some (.bipush 48, 6, 0, 48, 0) else none) else (bif Nat.beq pc 6 then some (.bipush 57, 8, 0, 57, 0) else none))) else (bif Nat.blt pc 14 then (bif Nat.blt pc 11 then (bif Nat.beq pc 8 then some (.invokestatic 124, 11, 0, 0, 0) else none) else (bif Nat.beq pc 11 then some (.ifCond .ne 13, 14, 24, 0, 0) else none)) else (bif Nat.blt pc 15 then (bif Nat.beq pc 14 then some (.aload_n 0, 15, 0, 0, 0) else none) else (bif Nat.beq pc 15 then some (.aload_n 0, 16, 0, 0, 0) else none)))) else (bif Nat.blt pc 24 then (bif Nat.blt pc 22 then (bif Nat.blt pc 19 then (bif Nat.beq pc 16 then some (.getfield 180, 19, 0, 0, 0) else none) else (bif Nat.beq pc 19 then some (.putfield 187, 22, 0, 0, 0) else none)) else (bif Nat.blt pc 23 then (bif Nat.beq pc 22 then some (.iconst (-1), 23, 0, (-1), 0) else none) else (bif Nat.beq pc 23 then some (.ireturn, 24, 0, 0, 0) else none))) else (bif Nat.blt pc 28 then (bif Nat.blt pc 25 then (bif Nat.beq pc 24 then some (.aload_n 0, 25, 0, 0, 0) else none) else (bif Nat.beq pc 25 then some (.getfield 180, 28, 0, 0, 0) else none)) else (bif Nat.blt pc 29 then (bif Nat.beq pc 28 then some (.istore_n 3, 29, 0, 0, 0) else none) else (bif Nat.beq pc 29 then some (.iconst 0, 30, 0, 0, 0) else none))))) else (bif Nat.blt pc 47 then (bif Nat.blt pc 37 then (bif Nat.blt pc 33 then (bif Nat.blt pc 32 then (bif Nat.beq pc 30 then some (.istore 4, 32, 0, 0, 0) else none) else (bif Nat.beq pc 32 then some (.aload_n 0, 33, 1, 0, 0) else none)) else (bif Nat.blt pc 36 then (bif Nat.beq pc 33 then some (.getfield 180, 36, 0, 0, 0) else none) else (bif Nat.beq pc 36 then some (.aload_n 0, 37, 0, 0, 0) else none))) else (bif Nat.blt pc 43 then (bif Nat.blt pc 40 then (bif Nat.beq pc 37 then some (.getfield 177, 40, 0, 0, 0) else none) else (bif Nat.beq pc 40 then some (.if_icmp .ge 68, 43, 108, 0, 0) else none)) else (bif Nat.blt pc 44 then (bif Nat.beq pc 43 then some (.aload_n 0, 44, 0, 0, 0) else none) else (bif Nat.beq pc 44 then some (.getfield 54, 47, 0, 0, 0) else none)))) else (bif Nat.blt pc 54 then (bif Nat.blt pc 51 then (bif Nat.blt pc 48 then (bif Nat.beq pc 47 then some (.aload_n 0, 48, 0, 0, 0) else none) else (bif Nat.beq pc 48 then some (.getfield 180, 51, 0, 0, 0) else none)) else (bif Nat.blt pc 52 then (bif Nat.beq pc 51 then some (.iaload, 52, 0, 0, 0) else none) else (bif Nat.beq pc 52 then some (.bipush 48, 54, 0, 48, 0) else none))) else (bif Nat.blt pc 59 then (bif Nat.blt pc 56 then (bif Nat.beq pc 54 then some (.bipush 57, 56, 0, 57, 0) else none) else (bif Nat.beq pc 56 then some (.invokestatic 124, 59, 0, 0, 0) else none)) else (bif Nat.blt pc 62 then (bif Nat.beq pc 59 then some (.ifCond .eq 49, 62, 108, 0, 0) else none) else (bif Nat.blt pc 64 then (bif Nat.beq pc 62 then some (.iload 4, 64, 0, 0, 0) else none) else (bif Nat.beq pc 64 then some (.sipush 10000, 67, 0, 10000, 0) else none))))))) else (bif Nat.blt pc 97 then (bif Nat.blt pc 84 then (bif Nat.blt pc 77 then (bif Nat.blt pc 72 then (bif Nat.blt pc 70 then (bif Nat.beq pc 67 then some (.if_icmp .le 8, 70, 75, 0, 0) else none) else (bif Nat.beq pc 70 then some (.iload 4, 72, 0, 0, 0) else none)) else (bif Nat.blt pc 75 then (bif Nat.beq pc 72 then some (.goto 21, 75, 93, 0, 0) else none) else (bif Nat.beq pc 75 then some (.bipush 10, 77, 0, 10, 0) else none))) else (bif Nat.blt pc 80 then (bif Nat.blt pc 79 then (bif Nat.beq pc 77 then some (.iload 4, 79, 0, 0, 0) else none) else (bif Nat.beq pc 79 then some (.imul, 80, 0, 0, 0) else none)) else (bif Nat.blt pc 81 then (bif Nat.beq pc 80 then some (.aload_n 0, 81, 0, 0, 0) else none) else (bif Nat.beq pc 81 then some (.getfield 54, 84, 0, 0, 0) else none)))) else (bif Nat.blt pc 90 then (bif Nat.blt pc 88 then (bif Nat.blt pc 85 then (bif Nat.beq pc 84 then some (.aload_n 0, 85, 0, 0, 0) else none) else (bif Nat.beq pc 85 then some (.getfield 180, 88, 0, 0, 0) else none)) else (bif Nat.blt pc 89 then (bif Nat.beq pc 88 then some (.iaload, 89, 0, 0, 0) else none) else (bif Nat.beq pc 89 then some (.iadd, 90, 0, 0, 0) else none))) else (bif Nat.blt pc 93 then (bif Nat.blt pc 92 then (bif Nat.beq pc 90 then some (.bipush 48, 92, 0, 48, 0) else none) else (bif Nat.beq pc 92 then some (.isub, 93, 0, 0, 0) else none)) else (bif Nat.blt pc 95 then (bif Nat.beq pc 93 then some (.istore 4, 95, 0, 0, 0) else none) else (bif Nat.blt pc 96 then (bif Nat.beq pc 95 then some (.aload_n 0, 96, 0, 0, 0) else none) else (bif Nat.beq pc 96 then some (.dup, 97, 0, 0, 0) else none)))))) else (bif Nat.blt pc 112 then (bif Nat.blt pc 105 then (bif Nat.blt pc 101 then (bif Nat.blt pc 100 then (bif Nat.beq pc 97 then some (.getfield 180, 100, 0, 0, 0) else none) else (bif Nat.beq pc 100 then some (.iconst 1, 101, 0, 1, 0) else none)) else (bif Nat.blt pc 102 then (bif Nat.beq pc 101 then some (.iadd, 102, 0, 0, 0) else none) else (bif Nat.beq pc 102 then some (.putfield 180, 105, 0, 0, 0) else none))) else (bif Nat.blt pc 110 then (bif Nat.blt pc 108 then (bif Nat.beq pc 105 then some (.goto (-73), 108, 32, 0, 0) else none) else (bif Nat.beq pc 108 then some (.iload 4, 110, 0, 0, 0) else none)) else (bif Nat.blt pc 111 then (bif Nat.beq pc 110 then some (.iload_n 1, 111, 0, 0, 0) else none) else (bif Nat.beq pc 111 then some (.iload_n 2, 112, 0, 0, 0) else none)))) else (bif Nat.blt pc 120 then (bif Nat.blt pc 118 then (bif Nat.blt pc 115 then (bif Nat.beq pc 112 then some (.invokestatic 124, 115, 0, 0, 0) else none) else (bif Nat.beq pc 115 then some (.ifCond .ne 10, 118, 125, 0, 0) else none)) else (bif Nat.blt pc 119 then (bif Nat.beq pc 118 then some (.aload_n 0, 119, 0, 0, 0) else none) else (bif Nat.beq pc 119 then some (.iload_n 3, 120, 0, 0, 0) else none))) else (bif Nat.blt pc 124 then (bif Nat.blt pc 123 then (bif Nat.beq pc 120 then some (.putfield 187, 123, 0, 0, 0) else none) else (bif Nat.beq pc 123 then some (.iconst (-1), 124, 0, (-1), 0) else none)) else (bif Nat.blt pc 125 then (bif Nat.beq pc 124 then some (.ireturn, 125, 0, 0, 0) else none) else (bif Nat.blt pc 127 then (bif Nat.beq pc 125 then some (.iload 4, 127, 0, 0, 0) else none) else (bif Nat.beq pc 127 then some (.ireturn, 128, 0, 0, 0) else none)))))))))
def tbX8_reads : Nat → Option mv_R := mv_lim 179 (fun pc => (bif Nat.blt pc 83 then (bif Nat.blt pc 41 then (bif Nat.blt pc 20 then (bif Nat.blt pc 8 then (bif Nat.blt pc 5 then (bif Nat.blt pc 1 then (bif Nat.beq pc 0 then some (.aload_n 0, 1, 0, 0, 0) else none) else (bif Nat.blt pc 2 then (bif Nat.beq pc 1 then some (.iconst 0, 2, 0, 0, 0) else none) else (bif Nat.beq pc 2 then some (.putfield 180, 5, 0, 0, 0) else none))) else (bif Nat.blt pc 6 then (bif Nat.beq pc 5 then some (.iconst 0, 6, 0, 0, 0) else none) else (bif Nat.blt pc 7 then (bif Nat.beq pc 6 then some (.istore_n 1, 7, 0, 0, 0) else none) else (bif Nat.beq pc 7 then some (.iload_n 1, 8, 1, 0, 0) else none)))) else (bif Nat.blt pc 15 then (bif Nat.blt pc 9 then (bif Nat.beq pc 8 then some (.aload_n 0, 9, 0, 0, 0) else none) else (bif Nat.blt pc 12 then (bif Nat.beq pc 9 then some (.getfield 121, 12, 0, 0, 0) else none) else (bif Nat.beq pc 12 then some (.if_icmp .ge 21, 15, 33, 0, 0) else none))) else (bif Nat.blt pc 16 then (bif Nat.beq pc 15 then some (.aload_n 0, 16, 0, 0, 0) else none) else (bif Nat.blt pc 19 then (bif Nat.beq pc 16 then some (.getfield 57, 19, 0, 0, 0) else none) else (bif Nat.beq pc 19 then some (.iload_n 1, 20, 0, 0, 0) else none))))) else (bif Nat.blt pc 30 then (bif Nat.blt pc 25 then (bif Nat.blt pc 21 then (bif Nat.beq pc 20 then some (.aload_n 0, 21, 0, 0, 0) else none) else (bif Nat.blt pc 24 then (bif Nat.beq pc 21 then some (.getfield 7, 24, 0, 0, 0) else none) else (bif Nat.beq pc 24 then some (.iload_n 1, 25, 0, 0, 0) else none))) else (bif Nat.blt pc 26 then (bif Nat.beq pc 25 then some (.iaload, 26, 0, 0, 0) else none) else (bif Nat.blt pc 27 then (bif Nat.beq pc 26 then some (.iastore, 27, 0, 0, 0) else none) else (bif Nat.beq pc 27 then some (.iinc 1 1, 30, 0, 1, 0) else none)))) else (bif Nat.blt pc 35 then (bif Nat.blt pc 33 then (bif Nat.beq pc 30 then some (.goto (-23), 33, 7, 0, 0) else none) else (bif Nat.blt pc 34 then (bif Nat.beq pc 33 then some (.iconst 0, 34, 0, 0, 0) else none) else (bif Nat.beq pc 34 then some (.istore_n 1, 35, 0, 0, 0) else none))) else (bif Nat.blt pc 37 then (bif Nat.blt pc 36 then (bif Nat.beq pc 35 then some (.iconst 1, 36, 0, 1, 0) else none) else (bif Nat.beq pc 36 then some (.istore_n 2, 37, 0, 0, 0) else none)) else (bif Nat.blt pc 38 then (bif Nat.beq pc 37 then some (.iload_n 2, 38, 1, 0, 0) else none) else (bif Nat.beq pc 38 then some (.ifCond .eq 120, 41, 158, 0, 0) else none)))))) else (bif Nat.blt pc 59 then (bif Nat.blt pc 49 then (bif Nat.blt pc 44 then (bif Nat.blt pc 42 then (bif Nat.beq pc 41 then some (.aload_n 0, 42, 0, 0, 0) else none) else (bif Nat.blt pc 43 then (bif Nat.beq pc 42 then some (.iconst 0, 43, 0, 0, 0) else none) else (bif Nat.beq pc 43 then some (.aload_n 0, 44, 0, 0, 0) else none))) else (bif Nat.blt pc 47 then (bif Nat.beq pc 44 then some (.getfield 121, 47, 0, 0, 0) else none) else (bif Nat.blt pc 48 then (bif Nat.beq pc 47 then some (.iconst 1, 48, 0, 1, 0) else none) else (bif Nat.beq pc 48 then some (.isub, 49, 0, 0, 0) else none)))) else (bif Nat.blt pc 54 then (bif Nat.blt pc 52 then (bif Nat.beq pc 49 then some (.invokevirtual 190, 52, 0, 0, 0) else none) else (bif Nat.blt pc 53 then (bif Nat.beq pc 52 then some (.istore_n 3, 53, 0, 0, 0) else none) else (bif Nat.beq pc 53 then some (.iload_n 3, 54, 0, 0, 0) else none))) else (bif Nat.blt pc 57 then (bif Nat.beq pc 54 then some (.ifCond .ge 5, 57, 59, 0, 0) else none) else (bif Nat.blt pc 58 then (bif Nat.beq pc 57 then some (.iconst (-1), 58, 0, (-1), 0) else none) else (bif Nat.beq pc 58 then some (.ireturn, 59, 0, 0, 0) else none))))) else (bif Nat.blt pc 70 then (bif Nat.blt pc 65 then (bif Nat.blt pc 60 then (bif Nat.beq pc 59 then some (.aload_n 0, 60, 0, 0, 0) else none) else (bif Nat.blt pc 63 then (bif Nat.beq pc 60 then some (.invokevirtual 183, 63, 0, 0, 0) else none) else (bif Nat.beq pc 63 then some (.bipush 58, 65, 0, 58, 0) else none))) else (bif Nat.blt pc 68 then (bif Nat.beq pc 65 then some (.if_icmp .eq 13, 68, 78, 0, 0) else none) else (bif Nat.blt pc 69 then (bif Nat.beq pc 68 then some (.aload_n 0, 69, 0, 0, 0) else none) else (bif Nat.beq pc 69 then some (.aload_n 0, 70, 0, 0, 0) else none)))) else (bif Nat.blt pc 77 then (bif Nat.blt pc 73 then (bif Nat.beq pc 70 then some (.getfield 180, 73, 0, 0, 0) else none) else (bif Nat.blt pc 76 then (bif Nat.beq pc 73 then some (.putfield 187, 76, 0, 0, 0) else none) else (bif Nat.beq pc 76 then some (.iconst (-1), 77, 0, (-1), 0) else none))) else (bif Nat.blt pc 79 then (bif Nat.blt pc 78 then (bif Nat.beq pc 77 then some (.ireturn, 78, 0, 0, 0) else none) else (bif Nat.beq pc 78 then some (.aload_n 0, 79, 0, 0, 0) else none)) else (bif Nat.blt pc 80 then (bif Nat.beq pc 79 then some (.dup, 80, 0, 0, 0) else none) else (bif Nat.beq pc 80 then some (.getfield 180, 83, 0, 0, 0) else none))))))) else (bif Nat.blt pc 131 then (bif Nat.blt pc 105 then (bif Nat.blt pc 93 then (bif Nat.blt pc 88 then (bif Nat.blt pc 84 then (bif Nat.beq pc 83 then some (.iconst 1, 84, 0, 1, 0) else none) else (bif Nat.blt pc 85 then (bif Nat.beq pc 84 then some (.iadd, 85, 0, 0, 0) else none) else (bif Nat.beq pc 85 then some (.putfield 180, 88, 0, 0, 0) else none))) else (bif Nat.blt pc 89 then (bif Nat.beq pc 88 then some (.aload_n 0, 89, 0, 0, 0) else none) else (bif Nat.blt pc 90 then (bif Nat.beq pc 89 then some (.iconst 1, 90, 0, 1, 0) else none) else (bif Nat.beq pc 90 then some (.sipush 1000, 93, 0, 1000, 0) else none)))) else (bif Nat.blt pc 100 then (bif Nat.blt pc 96 then (bif Nat.beq pc 93 then some (.invokevirtual 190, 96, 0, 0, 0) else none) else (bif Nat.blt pc 98 then (bif Nat.beq pc 96 then some (.istore 4, 98, 0, 0, 0) else none) else (bif Nat.beq pc 98 then some (.iload 4, 100, 0, 0, 0) else none))) else (bif Nat.blt pc 103 then (bif Nat.beq pc 100 then some (.ifCond .ge 5, 103, 105, 0, 0) else none) else (bif Nat.blt pc 104 then (bif Nat.beq pc 103 then some (.iconst (-1), 104, 0, (-1), 0) else none) else (bif Nat.beq pc 104 then some (.ireturn, 105, 0, 0, 0) else none))))) else (bif Nat.blt pc 116 then (bif Nat.blt pc 110 then (bif Nat.blt pc 106 then (bif Nat.beq pc 105 then some (.aload_n 0, 106, 0, 0, 0) else none) else (bif Nat.blt pc 109 then (bif Nat.beq pc 106 then some (.getfield 57, 109, 0, 0, 0) else none) else (bif Nat.beq pc 109 then some (.iload_n 3, 110, 0, 0, 0) else none))) else (bif Nat.blt pc 112 then (bif Nat.beq pc 110 then some (.iload 4, 112, 0, 0, 0) else none) else (bif Nat.blt pc 113 then (bif Nat.beq pc 112 then some (.iastore, 113, 0, 0, 0) else none) else (bif Nat.beq pc 113 then some (.iinc 1 1, 116, 0, 1, 0) else none)))) else (bif Nat.blt pc 122 then (bif Nat.blt pc 117 then (bif Nat.beq pc 116 then some (.aload_n 0, 117, 0, 0, 0) else none) else (bif Nat.blt pc 120 then (bif Nat.beq pc 117 then some (.invokevirtual 183, 120, 0, 0, 0) else none) else (bif Nat.beq pc 120 then some (.bipush 44, 122, 0, 44, 0) else none))) else (bif Nat.blt pc 126 then (bif Nat.blt pc 125 then (bif Nat.beq pc 122 then some (.if_icmp .ne 13, 125, 135, 0, 0) else none) else (bif Nat.beq pc 125 then some (.iload_n 1, 126, 0, 0, 0) else none)) else (bif Nat.blt pc 128 then (bif Nat.beq pc 126 then some (.bipush 8, 128, 0, 8, 0) else none) else (bif Nat.beq pc 128 then some (.if_icmp .ge 7, 131, 135, 0, 0) else none)))))) else (bif Nat.blt pc 152 then (bif Nat.blt pc 139 then (bif Nat.blt pc 136 then (bif Nat.blt pc 132 then (bif Nat.beq pc 131 then some (.iconst 1, 132, 0, 1, 0) else none) else (bif Nat.blt pc 135 then (bif Nat.beq pc 132 then some (.goto 4, 135, 136, 0, 0) else none) else (bif Nat.beq pc 135 then some (.iconst 0, 136, 0, 0, 0) else none))) else (bif Nat.blt pc 137 then (bif Nat.beq pc 136 then some (.istore_n 2, 137, 0, 0, 0) else none) else (bif Nat.blt pc 138 then (bif Nat.beq pc 137 then some (.aload_n 0, 138, 0, 0, 0) else none) else (bif Nat.beq pc 138 then some (.dup, 139, 0, 0, 0) else none)))) else (bif Nat.blt pc 146 then (bif Nat.blt pc 142 then (bif Nat.beq pc 139 then some (.getfield 180, 142, 0, 0, 0) else none) else (bif Nat.blt pc 143 then (bif Nat.beq pc 142 then some (.iload_n 2, 143, 0, 0, 0) else none) else (bif Nat.beq pc 143 then some (.ifCond .eq 7, 146, 150, 0, 0) else none))) else (bif Nat.blt pc 150 then (bif Nat.blt pc 147 then (bif Nat.beq pc 146 then some (.iconst 1, 147, 0, 1, 0) else none) else (bif Nat.beq pc 147 then some (.goto 4, 150, 151, 0, 0) else none)) else (bif Nat.blt pc 151 then (bif Nat.beq pc 150 then some (.iconst 0, 151, 0, 0, 0) else none) else (bif Nat.beq pc 151 then some (.iadd, 152, 0, 0, 0) else none))))) else (bif Nat.blt pc 166 then (bif Nat.blt pc 159 then (bif Nat.blt pc 155 then (bif Nat.beq pc 152 then some (.putfield 180, 155, 0, 0, 0) else none) else (bif Nat.blt pc 158 then (bif Nat.beq pc 155 then some (.goto (-118), 158, 37, 0, 0) else none) else (bif Nat.beq pc 158 then some (.aload_n 0, 159, 0, 0, 0) else none))) else (bif Nat.blt pc 160 then (bif Nat.beq pc 159 then some (.aload_n 0, 160, 0, 0, 0) else none) else (bif Nat.blt pc 163 then (bif Nat.beq pc 160 then some (.getfield 180, 163, 0, 0, 0) else none) else (bif Nat.beq pc 163 then some (.putfield 187, 166, 0, 0, 0) else none)))) else (bif Nat.blt pc 173 then (bif Nat.blt pc 167 then (bif Nat.beq pc 166 then some (.aload_n 0, 167, 0, 0, 0) else none) else (bif Nat.blt pc 170 then (bif Nat.beq pc 167 then some (.invokevirtual 183, 170, 0, 0, 0) else none) else (bif Nat.beq pc 170 then some (.ifCond .ne 7, 173, 177, 0, 0) else none))) else (bif Nat.blt pc 177 then (bif Nat.blt pc 174 then (bif Nat.beq pc 173 then some (.iload_n 1, 174, 0, 0, 0) else none) else (bif Nat.beq pc 174 then some (.goto 4, 177, 178, 0, 0) else none)) else (bif Nat.blt pc 178 then (bif Nat.beq pc 177 then some (.iconst (-1), 178, 0, (-1), 0) else none) else (bif Nat.beq pc 178 then some (.ireturn, 179, 0, 0, 0) else none)))))))))
def tbX8_parts : Nat → Option mv_R := mv_lim 52 (fun pc => (bif Nat.blt pc 24 then (bif Nat.blt pc 11 then (bif Nat.blt pc 5 then (bif Nat.blt pc 1 then (bif Nat.beq pc 0 then some (.aload_n 0, 1, 0, 0, 0) else none) else (bif Nat.blt pc 4 then (bif Nat.beq pc 1 then some (.invokevirtual 194, 4, 0, 0, 0) else none) else (bif Nat.beq pc 4 then some (.istore_n 1, 5, 0, 0, 0) else none))) else (bif Nat.blt pc 7 then (bif Nat.blt pc 6 then (bif Nat.beq pc 5 then some (.aload_n 0, 6, 0, 0, 0) else none) else (bif Nat.beq pc 6 then some (.iconst 0, 7, 0, 0, 0) else none)) else (bif Nat.blt pc 10 then (bif Nat.beq pc 7 then some (.putfield 177, 10, 0, 0, 0) else none) else (bif Nat.beq pc 10 then some (.iload_n 1, 11, 0, 0, 0) else none)))) else (bif Nat.blt pc 20 then (bif Nat.blt pc 16 then (bif Nat.blt pc 14 then (bif Nat.beq pc 11 then some (.ifCond .ge 11, 14, 22, 0, 0) else none) else (bif Nat.beq pc 14 then some (.bipush (-20), 16, 0, (-20), 0) else none)) else (bif Nat.blt pc 17 then (bif Nat.beq pc 16 then some (.aload_n 0, 17, 0, 0, 0) else none) else (bif Nat.beq pc 17 then some (.getfield 187, 20, 0, 0, 0) else none))) else (bif Nat.blt pc 22 then (bif Nat.blt pc 21 then (bif Nat.beq pc 20 then some (.isub, 21, 0, 0, 0) else none) else (bif Nat.beq pc 21 then some (.ireturn, 22, 0, 0, 0) else none)) else (bif Nat.blt pc 23 then (bif Nat.beq pc 22 then some (.iconst 0, 23, 0, 0, 0) else none) else (bif Nat.beq pc 23 then some (.istore_n 2, 24, 0, 0, 0) else none))))) else (bif Nat.blt pc 38 then (bif Nat.blt pc 32 then (bif Nat.blt pc 26 then (bif Nat.blt pc 25 then (bif Nat.beq pc 24 then some (.iload_n 2, 25, 1, 0, 0) else none) else (bif Nat.beq pc 25 then some (.aload_n 0, 26, 0, 0, 0) else none)) else (bif Nat.blt pc 29 then (bif Nat.beq pc 26 then some (.getfield 121, 29, 0, 0, 0) else none) else (bif Nat.beq pc 29 then some (.if_icmp .ge 21, 32, 50, 0, 0) else none))) else (bif Nat.blt pc 36 then (bif Nat.blt pc 33 then (bif Nat.beq pc 32 then some (.aload_n 0, 33, 0, 0, 0) else none) else (bif Nat.beq pc 33 then some (.getfield 7, 36, 0, 0, 0) else none)) else (bif Nat.blt pc 37 then (bif Nat.beq pc 36 then some (.iload_n 2, 37, 0, 0, 0) else none) else (bif Nat.beq pc 37 then some (.aload_n 0, 38, 0, 0, 0) else none)))) else (bif Nat.blt pc 44 then (bif Nat.blt pc 42 then (bif Nat.blt pc 41 then (bif Nat.beq pc 38 then some (.getfield 57, 41, 0, 0, 0) else none) else (bif Nat.beq pc 41 then some (.iload_n 2, 42, 0, 0, 0) else none)) else (bif Nat.blt pc 43 then (bif Nat.beq pc 42 then some (.iaload, 43, 0, 0, 0) else none) else (bif Nat.beq pc 43 then some (.iastore, 44, 0, 0, 0) else none))) else (bif Nat.blt pc 50 then (bif Nat.blt pc 47 then (bif Nat.beq pc 44 then some (.iinc 2 1, 47, 0, 1, 0) else none) else (bif Nat.beq pc 47 then some (.goto (-23), 50, 24, 0, 0) else none)) else (bif Nat.blt pc 51 then (bif Nat.beq pc 50 then some (.iload_n 1, 51, 0, 0, 0) else none) else (bif Nat.beq pc 51 then some (.ireturn, 52, 0, 0, 0) else none)))))))
def tbX8_isShip : Nat → Option mv_R := mv_lim 12 (fun pc => (bif Nat.blt pc 6 then (bif Nat.blt pc 2 then (bif Nat.blt pc 1 then (bif Nat.beq pc 0 then some (.iload_n 1, 1, 0, 0, 0) else none) else (bif Nat.beq pc 1 then some (.iconst 0, 2, 0, 0, 0) else none)) else (bif Nat.blt pc 3 then (bif Nat.beq pc 2 then some (.aload_n 0, 3, 0, 0, 0) else none) else (bif Nat.beq pc 3 then some (.getfield 197, 6, 0, 0, 0) else none))) else (bif Nat.blt pc 8 then (bif Nat.blt pc 7 then (bif Nat.beq pc 6 then some (.iconst 1, 7, 0, 1, 0) else none) else (bif Nat.beq pc 7 then some (.isub, 8, 0, 0, 0) else none)) else (bif Nat.blt pc 11 then (bif Nat.beq pc 8 then some (.invokestatic 124, 11, 0, 0, 0) else none) else (bif Nat.beq pc 11 then some (.ireturn, 12, 0, 0, 0) else none)))))
def tbX8_ship : Nat → Option mv_R := mv_lim 137 (fun pc => (bif Nat.blt pc 76 then (bif Nat.blt pc 37 then (bif Nat.blt pc 18 then (bif Nat.blt pc 7 then (bif Nat.blt pc 2 then (bif Nat.blt pc 1 then (bif Nat.beq pc 0 then some (.iload_n 1, 1, 0, 0, 0) else none) else (bif Nat.beq pc 1 then some (.iconst 0, 2, 0, 0, 0) else none)) else (bif Nat.blt pc 4 then (bif Nat.beq pc 2 then some (.bipush 59, 4, 0, 59, 0) else none) else (bif Nat.beq pc 4 then some (.invokestatic 124, 7, 0, 0, 0) else none))) else (bif Nat.blt pc 11 then (bif Nat.blt pc 10 then (bif Nat.beq pc 7 then some (.ifCond .eq 47, 10, 54, 0, 0) else none) else (bif Nat.beq pc 10 then some (.iload_n 2, 11, 0, 0, 0) else none)) else (bif Nat.blt pc 12 then (bif Nat.beq pc 11 then some (.iconst 1, 12, 0, 1, 0) else none) else (bif Nat.blt pc 15 then (bif Nat.beq pc 12 then some (.sipush 20000, 15, 0, 20000, 0) else none) else (bif Nat.beq pc 15 then some (.invokestatic 124, 18, 0, 0, 0) else none))))) else (bif Nat.blt pc 26 then (bif Nat.blt pc 22 then (bif Nat.blt pc 21 then (bif Nat.beq pc 18 then some (.ifCond .eq 36, 21, 54, 0, 0) else none) else (bif Nat.beq pc 21 then some (.iload_n 3, 22, 0, 0, 0) else none)) else (bif Nat.blt pc 23 then (bif Nat.beq pc 22 then some (.iconst 1, 23, 0, 1, 0) else none) else (bif Nat.beq pc 23 then some (.sipush 2000, 26, 0, 2000, 0) else none))) else (bif Nat.blt pc 32 then (bif Nat.blt pc 29 then (bif Nat.beq pc 26 then some (.invokestatic 124, 29, 0, 0, 0) else none) else (bif Nat.beq pc 29 then some (.ifCond .eq 25, 32, 54, 0, 0) else none)) else (bif Nat.blt pc 34 then (bif Nat.beq pc 32 then some (.iload 4, 34, 0, 0, 0) else none) else (bif Nat.blt pc 35 then (bif Nat.beq pc 34 then some (.iconst 0, 35, 0, 0, 0) else none) else (bif Nat.beq pc 35 then some (.bipush 30, 37, 0, 30, 0) else none)))))) else (bif Nat.blt pc 56 then (bif Nat.blt pc 46 then (bif Nat.blt pc 43 then (bif Nat.blt pc 40 then (bif Nat.beq pc 37 then some (.invokestatic 124, 40, 0, 0, 0) else none) else (bif Nat.beq pc 40 then some (.ifCond .eq 14, 43, 54, 0, 0) else none)) else (bif Nat.blt pc 45 then (bif Nat.beq pc 43 then some (.iload 5, 45, 0, 0, 0) else none) else (bif Nat.beq pc 45 then some (.iconst 0, 46, 0, 0, 0) else none))) else (bif Nat.blt pc 51 then (bif Nat.blt pc 48 then (bif Nat.beq pc 46 then some (.bipush 100, 48, 0, 100, 0) else none) else (bif Nat.beq pc 48 then some (.invokestatic 124, 51, 0, 0, 0) else none)) else (bif Nat.blt pc 54 then (bif Nat.beq pc 51 then some (.ifCond .ne 5, 54, 56, 0, 0) else none) else (bif Nat.blt pc 55 then (bif Nat.beq pc 54 then some (.iconst (-1), 55, 0, (-1), 0) else none) else (bif Nat.beq pc 55 then some (.ireturn, 56, 0, 0, 0) else none))))) else (bif Nat.blt pc 67 then (bif Nat.blt pc 60 then (bif Nat.blt pc 57 then (bif Nat.beq pc 56 then some (.aload_n 0, 57, 0, 0, 0) else none) else (bif Nat.beq pc 57 then some (.getfield 197, 60, 0, 0, 0) else none)) else (bif Nat.blt pc 62 then (bif Nat.beq pc 60 then some (.bipush 6, 62, 0, 6, 0) else none) else (bif Nat.blt pc 65 then (bif Nat.beq pc 62 then some (.if_icmp .ne 6, 65, 68, 0, 0) else none) else (bif Nat.beq pc 65 then some (.bipush (-3), 67, 0, (-3), 0) else none)))) else (bif Nat.blt pc 69 then (bif Nat.blt pc 68 then (bif Nat.beq pc 67 then some (.ireturn, 68, 0, 0, 0) else none) else (bif Nat.beq pc 68 then some (.aload_n 0, 69, 0, 0, 0) else none)) else (bif Nat.blt pc 72 then (bif Nat.beq pc 69 then some (.getfield 60, 72, 0, 0, 0) else none) else (bif Nat.blt pc 73 then (bif Nat.beq pc 72 then some (.aload_n 0, 73, 0, 0, 0) else none) else (bif Nat.beq pc 73 then some (.getfield 197, 76, 0, 0, 0) else none))))))) else (bif Nat.blt pc 106 then (bif Nat.blt pc 89 then (bif Nat.blt pc 82 then (bif Nat.blt pc 78 then (bif Nat.blt pc 77 then (bif Nat.beq pc 76 then some (.iload_n 1, 77, 0, 0, 0) else none) else (bif Nat.beq pc 77 then some (.iastore, 78, 0, 0, 0) else none)) else (bif Nat.blt pc 79 then (bif Nat.beq pc 78 then some (.aload_n 0, 79, 0, 0, 0) else none) else (bif Nat.beq pc 79 then some (.getfield 63, 82, 0, 0, 0) else none))) else (bif Nat.blt pc 86 then (bif Nat.blt pc 83 then (bif Nat.beq pc 82 then some (.aload_n 0, 83, 0, 0, 0) else none) else (bif Nat.beq pc 83 then some (.getfield 197, 86, 0, 0, 0) else none)) else (bif Nat.blt pc 87 then (bif Nat.beq pc 86 then some (.iload_n 2, 87, 0, 0, 0) else none) else (bif Nat.blt pc 88 then (bif Nat.beq pc 87 then some (.iastore, 88, 0, 0, 0) else none) else (bif Nat.beq pc 88 then some (.aload_n 0, 89, 0, 0, 0) else none))))) else (bif Nat.blt pc 97 then (bif Nat.blt pc 93 then (bif Nat.blt pc 92 then (bif Nat.beq pc 89 then some (.getfield 66, 92, 0, 0, 0) else none) else (bif Nat.beq pc 92 then some (.aload_n 0, 93, 0, 0, 0) else none)) else (bif Nat.blt pc 96 then (bif Nat.beq pc 93 then some (.getfield 197, 96, 0, 0, 0) else none) else (bif Nat.beq pc 96 then some (.iload_n 3, 97, 0, 0, 0) else none))) else (bif Nat.blt pc 99 then (bif Nat.blt pc 98 then (bif Nat.beq pc 97 then some (.iastore, 98, 0, 0, 0) else none) else (bif Nat.beq pc 98 then some (.aload_n 0, 99, 0, 0, 0) else none)) else (bif Nat.blt pc 102 then (bif Nat.beq pc 99 then some (.getfield 69, 102, 0, 0, 0) else none) else (bif Nat.blt pc 103 then (bif Nat.beq pc 102 then some (.aload_n 0, 103, 0, 0, 0) else none) else (bif Nat.beq pc 103 then some (.getfield 197, 106, 0, 0, 0) else none)))))) else (bif Nat.blt pc 121 then (bif Nat.blt pc 113 then (bif Nat.blt pc 109 then (bif Nat.blt pc 108 then (bif Nat.beq pc 106 then some (.iload 4, 108, 0, 0, 0) else none) else (bif Nat.beq pc 108 then some (.iastore, 109, 0, 0, 0) else none)) else (bif Nat.blt pc 110 then (bif Nat.beq pc 109 then some (.aload_n 0, 110, 0, 0, 0) else none) else (bif Nat.beq pc 110 then some (.getfield 72, 113, 0, 0, 0) else none))) else (bif Nat.blt pc 117 then (bif Nat.blt pc 114 then (bif Nat.beq pc 113 then some (.aload_n 0, 114, 0, 0, 0) else none) else (bif Nat.beq pc 114 then some (.getfield 197, 117, 0, 0, 0) else none)) else (bif Nat.blt pc 119 then (bif Nat.beq pc 117 then some (.iload 5, 119, 0, 0, 0) else none) else (bif Nat.blt pc 120 then (bif Nat.beq pc 119 then some (.iastore, 120, 0, 0, 0) else none) else (bif Nat.beq pc 120 then some (.aload_n 0, 121, 0, 0, 0) else none))))) else (bif Nat.blt pc 130 then (bif Nat.blt pc 125 then (bif Nat.blt pc 122 then (bif Nat.beq pc 121 then some (.dup, 122, 0, 0, 0) else none) else (bif Nat.beq pc 122 then some (.getfield 197, 125, 0, 0, 0) else none)) else (bif Nat.blt pc 126 then (bif Nat.beq pc 125 then some (.iconst 1, 126, 0, 1, 0) else none) else (bif Nat.blt pc 127 then (bif Nat.beq pc 126 then some (.iadd, 127, 0, 0, 0) else none) else (bif Nat.beq pc 127 then some (.putfield 197, 130, 0, 0, 0) else none)))) else (bif Nat.blt pc 134 then (bif Nat.blt pc 131 then (bif Nat.beq pc 130 then some (.aload_n 0, 131, 0, 0, 0) else none) else (bif Nat.beq pc 131 then some (.getfield 197, 134, 0, 0, 0) else none)) else (bif Nat.blt pc 135 then (bif Nat.beq pc 134 then some (.iconst 1, 135, 0, 1, 0) else none) else (bif Nat.blt pc 136 then (bif Nat.beq pc 135 then some (.isub, 136, 0, 0, 0) else none) else (bif Nat.beq pc 136 then some (.ireturn, 137, 0, 0, 0) else none)))))))))
def tbX8_inHold : Nat → Option mv_R := mv_lim 34 (fun pc => (bif Nat.blt pc 17 then (bif Nat.blt pc 5 then (bif Nat.blt pc 2 then (bif Nat.blt pc 1 then (bif Nat.beq pc 0 then some (.iconst 0, 1, 0, 0, 0) else none) else (bif Nat.beq pc 1 then some (.istore_n 2, 2, 0, 0, 0) else none)) else (bif Nat.blt pc 3 then (bif Nat.beq pc 2 then some (.iconst 0, 3, 0, 0, 0) else none) else (bif Nat.blt pc 4 then (bif Nat.beq pc 3 then some (.istore_n 3, 4, 0, 0, 0) else none) else (bif Nat.beq pc 4 then some (.iload_n 3, 5, 1, 0, 0) else none)))) else (bif Nat.blt pc 12 then (bif Nat.blt pc 6 then (bif Nat.beq pc 5 then some (.aload_n 0, 6, 0, 0, 0) else none) else (bif Nat.blt pc 9 then (bif Nat.beq pc 6 then some (.getfield 128, 9, 0, 0, 0) else none) else (bif Nat.beq pc 9 then some (.if_icmp .ge 23, 12, 32, 0, 0) else none))) else (bif Nat.blt pc 13 then (bif Nat.beq pc 12 then some (.iload_n 2, 13, 0, 0, 0) else none) else (bif Nat.blt pc 14 then (bif Nat.beq pc 13 then some (.aload_n 0, 14, 0, 0, 0) else none) else (bif Nat.beq pc 14 then some (.getfield 75, 17, 0, 0, 0) else none))))) else (bif Nat.blt pc 24 then (bif Nat.blt pc 21 then (bif Nat.blt pc 19 then (bif Nat.beq pc 17 then some (.bipush 60, 19, 0, 60, 0) else none) else (bif Nat.blt pc 20 then (bif Nat.beq pc 19 then some (.iload_n 1, 20, 0, 0, 0) else none) else (bif Nat.beq pc 20 then some (.imul, 21, 0, 0, 0) else none))) else (bif Nat.blt pc 22 then (bif Nat.beq pc 21 then some (.iload_n 3, 22, 0, 0, 0) else none) else (bif Nat.blt pc 23 then (bif Nat.beq pc 22 then some (.iadd, 23, 0, 0, 0) else none) else (bif Nat.beq pc 23 then some (.iaload, 24, 0, 0, 0) else none)))) else (bif Nat.blt pc 29 then (bif Nat.blt pc 25 then (bif Nat.beq pc 24 then some (.iadd, 25, 0, 0, 0) else none) else (bif Nat.blt pc 26 then (bif Nat.beq pc 25 then some (.istore_n 2, 26, 0, 0, 0) else none) else (bif Nat.beq pc 26 then some (.iinc 3 1, 29, 0, 1, 0) else none))) else (bif Nat.blt pc 32 then (bif Nat.beq pc 29 then some (.goto (-25), 32, 4, 0, 0) else none) else (bif Nat.blt pc 33 then (bif Nat.beq pc 32 then some (.iload_n 2, 33, 0, 0, 0) else none) else (bif Nat.beq pc 33 then some (.ireturn, 34, 0, 0, 0) else none)))))))
def tbX8_load : Nat → Option mv_R := mv_lim 118 (fun pc => (bif Nat.blt pc 67 then (bif Nat.blt pc 32 then (bif Nat.blt pc 17 then (bif Nat.blt pc 8 then (bif Nat.blt pc 2 then (bif Nat.blt pc 1 then (bif Nat.beq pc 0 then some (.aload_n 0, 1, 0, 0, 0) else none) else (bif Nat.beq pc 1 then some (.iload_n 1, 2, 0, 0, 0) else none)) else (bif Nat.blt pc 5 then (bif Nat.beq pc 2 then some (.invokevirtual 200, 5, 0, 0, 0) else none) else (bif Nat.beq pc 5 then some (.ifCond .eq 16, 8, 21, 0, 0) else none))) else (bif Nat.blt pc 10 then (bif Nat.blt pc 9 then (bif Nat.beq pc 8 then some (.aload_n 0, 9, 0, 0, 0) else none) else (bif Nat.beq pc 9 then some (.iload_n 2, 10, 0, 0, 0) else none)) else (bif Nat.blt pc 13 then (bif Nat.beq pc 10 then some (.invokevirtual 138, 13, 0, 0, 0) else none) else (bif Nat.blt pc 16 then (bif Nat.beq pc 13 then some (.ifCond .eq 8, 16, 21, 0, 0) else none) else (bif Nat.beq pc 16 then some (.iload_n 3, 17, 0, 0, 0) else none))))) else (bif Nat.blt pc 24 then (bif Nat.blt pc 21 then (bif Nat.blt pc 18 then (bif Nat.beq pc 17 then some (.iconst 1, 18, 0, 1, 0) else none) else (bif Nat.beq pc 18 then some (.if_icmp .ge 5, 21, 23, 0, 0) else none)) else (bif Nat.blt pc 22 then (bif Nat.beq pc 21 then some (.iconst (-1), 22, 0, (-1), 0) else none) else (bif Nat.blt pc 23 then (bif Nat.beq pc 22 then some (.ireturn, 23, 0, 0, 0) else none) else (bif Nat.beq pc 23 then some (.aload_n 0, 24, 0, 0, 0) else none)))) else (bif Nat.blt pc 28 then (bif Nat.blt pc 27 then (bif Nat.beq pc 24 then some (.getfield 16, 27, 0, 0, 0) else none) else (bif Nat.beq pc 27 then some (.iload_n 2, 28, 0, 0, 0) else none)) else (bif Nat.blt pc 29 then (bif Nat.beq pc 28 then some (.iaload, 29, 0, 0, 0) else none) else (bif Nat.blt pc 31 then (bif Nat.beq pc 29 then some (.istore 4, 31, 0, 0, 0) else none) else (bif Nat.beq pc 31 then some (.aload_n 0, 32, 0, 0, 0) else none)))))) else (bif Nat.blt pc 48 then (bif Nat.blt pc 41 then (bif Nat.blt pc 36 then (bif Nat.blt pc 35 then (bif Nat.beq pc 32 then some (.getfield 25, 35, 0, 0, 0) else none) else (bif Nat.beq pc 35 then some (.iload_n 2, 36, 0, 0, 0) else none)) else (bif Nat.blt pc 37 then (bif Nat.beq pc 36 then some (.iaload, 37, 0, 0, 0) else none) else (bif Nat.blt pc 38 then (bif Nat.beq pc 37 then some (.iload_n 3, 38, 0, 0, 0) else none) else (bif Nat.beq pc 38 then some (.if_icmp .lt 29, 41, 67, 0, 0) else none)))) else (bif Nat.blt pc 45 then (bif Nat.blt pc 42 then (bif Nat.beq pc 41 then some (.aload_n 0, 42, 0, 0, 0) else none) else (bif Nat.beq pc 42 then some (.getfield 63, 45, 0, 0, 0) else none)) else (bif Nat.blt pc 46 then (bif Nat.beq pc 45 then some (.iload_n 1, 46, 0, 0, 0) else none) else (bif Nat.blt pc 47 then (bif Nat.beq pc 46 then some (.iaload, 47, 0, 0, 0) else none) else (bif Nat.beq pc 47 then some (.aload_n 0, 48, 0, 0, 0) else none))))) else (bif Nat.blt pc 57 then (bif Nat.blt pc 52 then (bif Nat.blt pc 49 then (bif Nat.beq pc 48 then some (.iload_n 1, 49, 0, 0, 0) else none) else (bif Nat.beq pc 49 then some (.invokevirtual 203, 52, 0, 0, 0) else none)) else (bif Nat.blt pc 53 then (bif Nat.beq pc 52 then some (.isub, 53, 0, 0, 0) else none) else (bif Nat.blt pc 54 then (bif Nat.beq pc 53 then some (.iload_n 3, 54, 0, 0, 0) else none) else (bif Nat.beq pc 54 then some (.if_icmp .lt 13, 57, 67, 0, 0) else none)))) else (bif Nat.blt pc 60 then (bif Nat.blt pc 58 then (bif Nat.beq pc 57 then some (.aload_n 0, 58, 0, 0, 0) else none) else (bif Nat.beq pc 58 then some (.iload 4, 60, 0, 0, 0) else none)) else (bif Nat.blt pc 63 then (bif Nat.beq pc 60 then some (.invokevirtual 172, 63, 0, 0, 0) else none) else (bif Nat.blt pc 64 then (bif Nat.beq pc 63 then some (.iload_n 3, 64, 0, 0, 0) else none) else (bif Nat.beq pc 64 then some (.if_icmp .ge 6, 67, 70, 0, 0) else none))))))) else (bif Nat.blt pc 92 then (bif Nat.blt pc 79 then (bif Nat.blt pc 74 then (bif Nat.blt pc 70 then (bif Nat.blt pc 69 then (bif Nat.beq pc 67 then some (.bipush (-2), 69, 0, (-2), 0) else none) else (bif Nat.beq pc 69 then some (.ireturn, 70, 0, 0, 0) else none)) else (bif Nat.blt pc 71 then (bif Nat.beq pc 70 then some (.aload_n 0, 71, 0, 0, 0) else none) else (bif Nat.beq pc 71 then some (.getfield 25, 74, 0, 0, 0) else none))) else (bif Nat.blt pc 76 then (bif Nat.blt pc 75 then (bif Nat.beq pc 74 then some (.iload_n 2, 75, 0, 0, 0) else none) else (bif Nat.beq pc 75 then some (.dup2, 76, 0, 0, 0) else none)) else (bif Nat.blt pc 77 then (bif Nat.beq pc 76 then some (.iaload, 77, 0, 0, 0) else none) else (bif Nat.blt pc 78 then (bif Nat.beq pc 77 then some (.iload_n 3, 78, 0, 0, 0) else none) else (bif Nat.beq pc 78 then some (.isub, 79, 0, 0, 0) else none))))) else (bif Nat.blt pc 87 then (bif Nat.blt pc 81 then (bif Nat.blt pc 80 then (bif Nat.beq pc 79 then some (.iastore, 80, 0, 0, 0) else none) else (bif Nat.beq pc 80 then some (.aload_n 0, 81, 0, 0, 0) else none)) else (bif Nat.blt pc 84 then (bif Nat.beq pc 81 then some (.getfield 75, 84, 0, 0, 0) else none) else (bif Nat.blt pc 86 then (bif Nat.beq pc 84 then some (.bipush 60, 86, 0, 60, 0) else none) else (bif Nat.beq pc 86 then some (.iload_n 1, 87, 0, 0, 0) else none)))) else (bif Nat.blt pc 89 then (bif Nat.blt pc 88 then (bif Nat.beq pc 87 then some (.imul, 88, 0, 0, 0) else none) else (bif Nat.beq pc 88 then some (.iload_n 2, 89, 0, 0, 0) else none)) else (bif Nat.blt pc 90 then (bif Nat.beq pc 89 then some (.iadd, 90, 0, 0, 0) else none) else (bif Nat.blt pc 91 then (bif Nat.beq pc 90 then some (.dup2, 91, 0, 0, 0) else none) else (bif Nat.beq pc 91 then some (.iaload, 92, 0, 0, 0) else none)))))) else (bif Nat.blt pc 105 then (bif Nat.blt pc 99 then (bif Nat.blt pc 94 then (bif Nat.blt pc 93 then (bif Nat.beq pc 92 then some (.iload_n 3, 93, 0, 0, 0) else none) else (bif Nat.beq pc 93 then some (.iadd, 94, 0, 0, 0) else none)) else (bif Nat.blt pc 95 then (bif Nat.beq pc 94 then some (.iastore, 95, 0, 0, 0) else none) else (bif Nat.blt pc 96 then (bif Nat.beq pc 95 then some (.aload_n 0, 96, 0, 0, 0) else none) else (bif Nat.beq pc 96 then some (.getfield 13, 99, 0, 0, 0) else none)))) else (bif Nat.blt pc 102 then (bif Nat.blt pc 101 then (bif Nat.beq pc 99 then some (.iload 4, 101, 0, 0, 0) else none) else (bif Nat.beq pc 101 then some (.dup2, 102, 0, 0, 0) else none)) else (bif Nat.blt pc 103 then (bif Nat.beq pc 102 then some (.iaload, 103, 0, 0, 0) else none) else (bif Nat.blt pc 104 then (bif Nat.beq pc 103 then some (.iload_n 3, 104, 0, 0, 0) else none) else (bif Nat.beq pc 104 then some (.iadd, 105, 0, 0, 0) else none))))) else (bif Nat.blt pc 113 then (bif Nat.blt pc 107 then (bif Nat.blt pc 106 then (bif Nat.beq pc 105 then some (.iastore, 106, 0, 0, 0) else none) else (bif Nat.beq pc 106 then some (.aload_n 0, 107, 0, 0, 0) else none)) else (bif Nat.blt pc 110 then (bif Nat.beq pc 107 then some (.getfield 75, 110, 0, 0, 0) else none) else (bif Nat.blt pc 112 then (bif Nat.beq pc 110 then some (.bipush 60, 112, 0, 60, 0) else none) else (bif Nat.beq pc 112 then some (.iload_n 1, 113, 0, 0, 0) else none)))) else (bif Nat.blt pc 115 then (bif Nat.blt pc 114 then (bif Nat.beq pc 113 then some (.imul, 114, 0, 0, 0) else none) else (bif Nat.beq pc 114 then some (.iload_n 2, 115, 0, 0, 0) else none)) else (bif Nat.blt pc 116 then (bif Nat.beq pc 115 then some (.iadd, 116, 0, 0, 0) else none) else (bif Nat.blt pc 117 then (bif Nat.beq pc 116 then some (.iaload, 117, 0, 0, 0) else none) else (bif Nat.beq pc 117 then some (.ireturn, 118, 0, 0, 0) else none)))))))))
def tbX8_held : Nat → Option mv_R := mv_lim 48 (fun pc => (bif Nat.blt pc 24 then (bif Nat.blt pc 13 then (bif Nat.blt pc 5 then (bif Nat.blt pc 1 then (bif Nat.beq pc 0 then some (.aload_n 0, 1, 0, 0, 0) else none) else (bif Nat.blt pc 2 then (bif Nat.beq pc 1 then some (.iload_n 1, 2, 0, 0, 0) else none) else (bif Nat.beq pc 2 then some (.invokevirtual 200, 5, 0, 0, 0) else none))) else (bif Nat.blt pc 9 then (bif Nat.blt pc 8 then (bif Nat.beq pc 5 then some (.ifCond .eq 16, 8, 21, 0, 0) else none) else (bif Nat.beq pc 8 then some (.iload_n 2, 9, 0, 0, 0) else none)) else (bif Nat.blt pc 10 then (bif Nat.beq pc 9 then some (.iconst (-1), 10, 0, (-1), 0) else none) else (bif Nat.beq pc 10 then some (.if_icmp .eq 13, 13, 23, 0, 0) else none)))) else (bif Nat.blt pc 18 then (bif Nat.blt pc 14 then (bif Nat.beq pc 13 then some (.aload_n 0, 14, 0, 0, 0) else none) else (bif Nat.blt pc 15 then (bif Nat.beq pc 14 then some (.iload_n 2, 15, 0, 0, 0) else none) else (bif Nat.beq pc 15 then some (.invokevirtual 138, 18, 0, 0, 0) else none))) else (bif Nat.blt pc 22 then (bif Nat.blt pc 21 then (bif Nat.beq pc 18 then some (.ifCond .ne 5, 21, 23, 0, 0) else none) else (bif Nat.beq pc 21 then some (.iconst (-1), 22, 0, (-1), 0) else none)) else (bif Nat.blt pc 23 then (bif Nat.beq pc 22 then some (.ireturn, 23, 0, 0, 0) else none) else (bif Nat.beq pc 23 then some (.iload_n 2, 24, 0, 0, 0) else none))))) else (bif Nat.blt pc 37 then (bif Nat.blt pc 29 then (bif Nat.blt pc 25 then (bif Nat.beq pc 24 then some (.iconst (-1), 25, 0, (-1), 0) else none) else (bif Nat.blt pc 28 then (bif Nat.beq pc 25 then some (.if_icmp .ne 11, 28, 36, 0, 0) else none) else (bif Nat.beq pc 28 then some (.aload_n 0, 29, 0, 0, 0) else none))) else (bif Nat.blt pc 33 then (bif Nat.blt pc 30 then (bif Nat.beq pc 29 then some (.iload_n 1, 30, 0, 0, 0) else none) else (bif Nat.beq pc 30 then some (.invokevirtual 203, 33, 0, 0, 0) else none)) else (bif Nat.blt pc 36 then (bif Nat.beq pc 33 then some (.goto 14, 36, 47, 0, 0) else none) else (bif Nat.beq pc 36 then some (.aload_n 0, 37, 0, 0, 0) else none)))) else (bif Nat.blt pc 44 then (bif Nat.blt pc 42 then (bif Nat.blt pc 40 then (bif Nat.beq pc 37 then some (.getfield 75, 40, 0, 0, 0) else none) else (bif Nat.beq pc 40 then some (.bipush 60, 42, 0, 60, 0) else none)) else (bif Nat.blt pc 43 then (bif Nat.beq pc 42 then some (.iload_n 1, 43, 0, 0, 0) else none) else (bif Nat.beq pc 43 then some (.imul, 44, 0, 0, 0) else none))) else (bif Nat.blt pc 46 then (bif Nat.blt pc 45 then (bif Nat.beq pc 44 then some (.iload_n 2, 45, 0, 0, 0) else none) else (bif Nat.beq pc 45 then some (.iadd, 46, 0, 0, 0) else none)) else (bif Nat.blt pc 47 then (bif Nat.beq pc 46 then some (.iaload, 47, 0, 0, 0) else none) else (bif Nat.beq pc 47 then some (.ireturn, 48, 0, 0, 0) else none)))))))
def tbX8_grade : Nat → Option mv_R := mv_lim 72 (fun pc => (bif Nat.blt pc 37 then (bif Nat.blt pc 17 then (bif Nat.blt pc 9 then (bif Nat.blt pc 2 then (bif Nat.blt pc 1 then (bif Nat.beq pc 0 then some (.aload_n 0, 1, 0, 0, 0) else none) else (bif Nat.beq pc 1 then some (.iload_n 1, 2, 0, 0, 0) else none)) else (bif Nat.blt pc 5 then (bif Nat.beq pc 2 then some (.invokevirtual 200, 5, 0, 0, 0) else none) else (bif Nat.blt pc 8 then (bif Nat.beq pc 5 then some (.ifCond .ne 5, 8, 10, 0, 0) else none) else (bif Nat.beq pc 8 then some (.iconst (-1), 9, 0, (-1), 0) else none)))) else (bif Nat.blt pc 12 then (bif Nat.blt pc 10 then (bif Nat.beq pc 9 then some (.ireturn, 10, 0, 0, 0) else none) else (bif Nat.blt pc 11 then (bif Nat.beq pc 10 then some (.aload_n 0, 11, 0, 0, 0) else none) else (bif Nat.beq pc 11 then some (.iload_n 1, 12, 0, 0, 0) else none))) else (bif Nat.blt pc 15 then (bif Nat.beq pc 12 then some (.invokevirtual 203, 15, 0, 0, 0) else none) else (bif Nat.blt pc 16 then (bif Nat.beq pc 15 then some (.istore_n 2, 16, 0, 0, 0) else none) else (bif Nat.beq pc 16 then some (.iconst 0, 17, 0, 0, 0) else none))))) else (bif Nat.blt pc 24 then (bif Nat.blt pc 19 then (bif Nat.blt pc 18 then (bif Nat.beq pc 17 then some (.istore_n 3, 18, 0, 0, 0) else none) else (bif Nat.beq pc 18 then some (.iconst 0, 19, 0, 0, 0) else none)) else (bif Nat.blt pc 21 then (bif Nat.beq pc 19 then some (.istore 4, 21, 0, 0, 0) else none) else (bif Nat.blt pc 23 then (bif Nat.beq pc 21 then some (.iload 4, 23, 1, 0, 0) else none) else (bif Nat.beq pc 23 then some (.aload_n 0, 24, 0, 0, 0) else none)))) else (bif Nat.blt pc 31 then (bif Nat.blt pc 27 then (bif Nat.beq pc 24 then some (.getfield 128, 27, 0, 0, 0) else none) else (bif Nat.blt pc 30 then (bif Nat.beq pc 27 then some (.if_icmp .ge 32, 30, 59, 0, 0) else none) else (bif Nat.beq pc 30 then some (.iload_n 3, 31, 0, 0, 0) else none))) else (bif Nat.blt pc 32 then (bif Nat.beq pc 31 then some (.aload_n 0, 32, 0, 0, 0) else none) else (bif Nat.blt pc 35 then (bif Nat.beq pc 32 then some (.getfield 19, 35, 0, 0, 0) else none) else (bif Nat.beq pc 35 then some (.iload 4, 37, 0, 0, 0) else none)))))) else (bif Nat.blt pc 52 then (bif Nat.blt pc 45 then (bif Nat.blt pc 39 then (bif Nat.blt pc 38 then (bif Nat.beq pc 37 then some (.iaload, 38, 0, 0, 0) else none) else (bif Nat.beq pc 38 then some (.aload_n 0, 39, 0, 0, 0) else none)) else (bif Nat.blt pc 42 then (bif Nat.beq pc 39 then some (.getfield 75, 42, 0, 0, 0) else none) else (bif Nat.blt pc 44 then (bif Nat.beq pc 42 then some (.bipush 60, 44, 0, 60, 0) else none) else (bif Nat.beq pc 44 then some (.iload_n 1, 45, 0, 0, 0) else none)))) else (bif Nat.blt pc 49 then (bif Nat.blt pc 46 then (bif Nat.beq pc 45 then some (.imul, 46, 0, 0, 0) else none) else (bif Nat.blt pc 48 then (bif Nat.beq pc 46 then some (.iload 4, 48, 0, 0, 0) else none) else (bif Nat.beq pc 48 then some (.iadd, 49, 0, 0, 0) else none))) else (bif Nat.blt pc 50 then (bif Nat.beq pc 49 then some (.iaload, 50, 0, 0, 0) else none) else (bif Nat.blt pc 51 then (bif Nat.beq pc 50 then some (.imul, 51, 0, 0, 0) else none) else (bif Nat.beq pc 51 then some (.iadd, 52, 0, 0, 0) else none))))) else (bif Nat.blt pc 63 then (bif Nat.blt pc 56 then (bif Nat.blt pc 53 then (bif Nat.beq pc 52 then some (.istore_n 3, 53, 0, 0, 0) else none) else (bif Nat.beq pc 53 then some (.iinc 4 1, 56, 0, 1, 0) else none)) else (bif Nat.blt pc 59 then (bif Nat.beq pc 56 then some (.goto (-35), 59, 21, 0, 0) else none) else (bif Nat.blt pc 60 then (bif Nat.beq pc 59 then some (.iload_n 2, 60, 0, 0, 0) else none) else (bif Nat.beq pc 60 then some (.ifCond .ne 8, 63, 68, 0, 0) else none)))) else (bif Nat.blt pc 69 then (bif Nat.blt pc 65 then (bif Nat.beq pc 63 then some (.bipush (-2), 65, 0, (-2), 0) else none) else (bif Nat.blt pc 68 then (bif Nat.beq pc 65 then some (.goto 6, 68, 71, 0, 0) else none) else (bif Nat.beq pc 68 then some (.iload_n 3, 69, 0, 0, 0) else none))) else (bif Nat.blt pc 70 then (bif Nat.beq pc 69 then some (.iload_n 2, 70, 0, 0, 0) else none) else (bif Nat.blt pc 71 then (bif Nat.beq pc 70 then some (.idiv, 71, 0, 0, 0) else none) else (bif Nat.beq pc 71 then some (.ireturn, 72, 0, 0, 0) else none))))))))
def tbX8_taken : Nat → Option mv_R := mv_lim 100 (fun pc => (bif Nat.blt pc 54 then (bif Nat.blt pc 24 then (bif Nat.blt pc 11 then (bif Nat.blt pc 3 then (bif Nat.blt pc 1 then (bif Nat.beq pc 0 then some (.iload_n 1, 1, 0, 0, 0) else none) else (bif Nat.blt pc 2 then (bif Nat.beq pc 1 then some (.istore_n 2, 2, 0, 0, 0) else none) else (bif Nat.beq pc 2 then some (.iload_n 2, 3, 1, 0, 0) else none))) else (bif Nat.blt pc 7 then (bif Nat.blt pc 6 then (bif Nat.beq pc 3 then some (.ifCond .lt 18, 6, 21, 0, 0) else none) else (bif Nat.beq pc 6 then some (.aload_n 0, 7, 0, 0, 0) else none)) else (bif Nat.blt pc 10 then (bif Nat.beq pc 7 then some (.getfield 78, 10, 0, 0, 0) else none) else (bif Nat.beq pc 10 then some (.iload_n 2, 11, 0, 0, 0) else none)))) else (bif Nat.blt pc 18 then (bif Nat.blt pc 12 then (bif Nat.beq pc 11 then some (.iaload, 12, 0, 0, 0) else none) else (bif Nat.blt pc 15 then (bif Nat.beq pc 12 then some (.ifCond .ge 9, 15, 21, 0, 0) else none) else (bif Nat.beq pc 15 then some (.iinc 2 (-1), 18, 0, (-1), 0) else none))) else (bif Nat.blt pc 22 then (bif Nat.blt pc 21 then (bif Nat.beq pc 18 then some (.goto (-16), 21, 2, 0, 0) else none) else (bif Nat.beq pc 21 then some (.iload_n 1, 22, 0, 0, 0) else none)) else (bif Nat.blt pc 23 then (bif Nat.beq pc 22 then some (.istore_n 3, 23, 0, 0, 0) else none) else (bif Nat.beq pc 23 then some (.iload_n 3, 24, 1, 0, 0) else none))))) else (bif Nat.blt pc 38 then (bif Nat.blt pc 30 then (bif Nat.blt pc 26 then (bif Nat.beq pc 24 then some (.bipush 60, 26, 0, 60, 0) else none) else (bif Nat.blt pc 29 then (bif Nat.beq pc 26 then some (.if_icmp .ge 18, 29, 44, 0, 0) else none) else (bif Nat.beq pc 29 then some (.aload_n 0, 30, 0, 0, 0) else none))) else (bif Nat.blt pc 34 then (bif Nat.blt pc 33 then (bif Nat.beq pc 30 then some (.getfield 78, 33, 0, 0, 0) else none) else (bif Nat.beq pc 33 then some (.iload_n 3, 34, 0, 0, 0) else none)) else (bif Nat.blt pc 35 then (bif Nat.beq pc 34 then some (.iaload, 35, 0, 0, 0) else none) else (bif Nat.beq pc 35 then some (.ifCond .ge 9, 38, 44, 0, 0) else none)))) else (bif Nat.blt pc 45 then (bif Nat.blt pc 41 then (bif Nat.beq pc 38 then some (.iinc 3 1, 41, 0, 1, 0) else none) else (bif Nat.blt pc 44 then (bif Nat.beq pc 41 then some (.goto (-18), 44, 23, 0, 0) else none) else (bif Nat.beq pc 44 then some (.iload_n 2, 45, 0, 0, 0) else none))) else (bif Nat.blt pc 49 then (bif Nat.blt pc 48 then (bif Nat.beq pc 45 then some (.ifCond .lt 25, 48, 70, 0, 0) else none) else (bif Nat.beq pc 48 then some (.iload_n 3, 49, 0, 0, 0) else none)) else (bif Nat.blt pc 51 then (bif Nat.beq pc 49 then some (.bipush 60, 51, 0, 60, 0) else none) else (bif Nat.beq pc 51 then some (.if_icmp .ge 19, 54, 70, 0, 0) else none)))))) else (bif Nat.blt pc 74 then (bif Nat.blt pc 65 then (bif Nat.blt pc 59 then (bif Nat.blt pc 55 then (bif Nat.beq pc 54 then some (.aload_n 0, 55, 0, 0, 0) else none) else (bif Nat.blt pc 58 then (bif Nat.beq pc 55 then some (.getfield 78, 58, 0, 0, 0) else none) else (bif Nat.beq pc 58 then some (.iload_n 2, 59, 0, 0, 0) else none))) else (bif Nat.blt pc 61 then (bif Nat.blt pc 60 then (bif Nat.beq pc 59 then some (.iaload, 60, 0, 0, 0) else none) else (bif Nat.beq pc 60 then some (.aload_n 0, 61, 0, 0, 0) else none)) else (bif Nat.blt pc 64 then (bif Nat.beq pc 61 then some (.getfield 78, 64, 0, 0, 0) else none) else (bif Nat.beq pc 64 then some (.iload_n 3, 65, 0, 0, 0) else none)))) else (bif Nat.blt pc 68 then (bif Nat.blt pc 66 then (bif Nat.beq pc 65 then some (.iaload, 66, 0, 0, 0) else none) else (bif Nat.blt pc 67 then (bif Nat.beq pc 66 then some (.iadd, 67, 0, 0, 0) else none) else (bif Nat.beq pc 67 then some (.iconst 2, 68, 0, 2, 0) else none))) else (bif Nat.blt pc 70 then (bif Nat.blt pc 69 then (bif Nat.beq pc 68 then some (.idiv, 69, 0, 0, 0) else none) else (bif Nat.beq pc 69 then some (.ireturn, 70, 0, 0, 0) else none)) else (bif Nat.blt pc 71 then (bif Nat.beq pc 70 then some (.iload_n 2, 71, 0, 0, 0) else none) else (bif Nat.beq pc 71 then some (.ifCond .lt 12, 74, 83, 0, 0) else none))))) else (bif Nat.blt pc 86 then (bif Nat.blt pc 79 then (bif Nat.blt pc 75 then (bif Nat.beq pc 74 then some (.aload_n 0, 75, 0, 0, 0) else none) else (bif Nat.blt pc 78 then (bif Nat.beq pc 75 then some (.getfield 78, 78, 0, 0, 0) else none) else (bif Nat.beq pc 78 then some (.iload_n 2, 79, 0, 0, 0) else none))) else (bif Nat.blt pc 83 then (bif Nat.blt pc 80 then (bif Nat.beq pc 79 then some (.iaload, 80, 0, 0, 0) else none) else (bif Nat.beq pc 80 then some (.goto 19, 83, 99, 0, 0) else none)) else (bif Nat.blt pc 84 then (bif Nat.beq pc 83 then some (.iload_n 3, 84, 0, 0, 0) else none) else (bif Nat.beq pc 84 then some (.bipush 60, 86, 0, 60, 0) else none)))) else (bif Nat.blt pc 94 then (bif Nat.blt pc 90 then (bif Nat.blt pc 89 then (bif Nat.beq pc 86 then some (.if_icmp .ge 12, 89, 98, 0, 0) else none) else (bif Nat.beq pc 89 then some (.aload_n 0, 90, 0, 0, 0) else none)) else (bif Nat.blt pc 93 then (bif Nat.beq pc 90 then some (.getfield 78, 93, 0, 0, 0) else none) else (bif Nat.beq pc 93 then some (.iload_n 3, 94, 0, 0, 0) else none))) else (bif Nat.blt pc 98 then (bif Nat.blt pc 95 then (bif Nat.beq pc 94 then some (.iaload, 95, 0, 0, 0) else none) else (bif Nat.beq pc 95 then some (.goto 4, 98, 99, 0, 0) else none)) else (bif Nat.blt pc 99 then (bif Nat.beq pc 98 then some (.iconst 0, 99, 0, 0, 0) else none) else (bif Nat.beq pc 99 then some (.ireturn, 100, 0, 0, 0) else none))))))))
def tbX8_sea : Nat → Option mv_R := mv_lim 20 (fun pc => (bif Nat.blt pc 10 then (bif Nat.blt pc 2 then (bif Nat.blt pc 1 then (bif Nat.beq pc 0 then some (.iload_n 1, 1, 0, 0, 0) else none) else (bif Nat.beq pc 1 then some (.iconst 0, 2, 0, 0, 0) else none)) else (bif Nat.blt pc 4 then (bif Nat.beq pc 2 then some (.bipush 59, 4, 0, 59, 0) else none) else (bif Nat.blt pc 7 then (bif Nat.beq pc 4 then some (.invokestatic 124, 7, 0, 0, 0) else none) else (bif Nat.beq pc 7 then some (.ifCond .eq 11, 10, 18, 0, 0) else none)))) else (bif Nat.blt pc 15 then (bif Nat.blt pc 11 then (bif Nat.beq pc 10 then some (.aload_n 0, 11, 0, 0, 0) else none) else (bif Nat.blt pc 12 then (bif Nat.beq pc 11 then some (.iload_n 1, 12, 0, 0, 0) else none) else (bif Nat.beq pc 12 then some (.invokevirtual 206, 15, 0, 0, 0) else none))) else (bif Nat.blt pc 18 then (bif Nat.beq pc 15 then some (.goto 4, 18, 19, 0, 0) else none) else (bif Nat.blt pc 19 then (bif Nat.beq pc 18 then some (.iconst (-1), 19, 0, (-1), 0) else none) else (bif Nat.beq pc 19 then some (.ireturn, 20, 0, 0, 0) else none))))))
def tbX8_bar : Nat → Option mv_R := mv_lim 24 (fun pc => (bif Nat.blt pc 12 then (bif Nat.blt pc 4 then (bif Nat.blt pc 1 then (bif Nat.beq pc 0 then some (.iload_n 1, 1, 0, 0, 0) else none) else (bif Nat.blt pc 2 then (bif Nat.beq pc 1 then some (.iconst 0, 2, 0, 0, 0) else none) else (bif Nat.beq pc 2 then some (.bipush 9, 4, 0, 9, 0) else none))) else (bif Nat.blt pc 10 then (bif Nat.blt pc 7 then (bif Nat.beq pc 4 then some (.invokestatic 124, 7, 0, 0, 0) else none) else (bif Nat.beq pc 7 then some (.ifCond .ne 5, 10, 12, 0, 0) else none)) else (bif Nat.blt pc 11 then (bif Nat.beq pc 10 then some (.iconst (-1), 11, 0, (-1), 0) else none) else (bif Nat.beq pc 11 then some (.ireturn, 12, 0, 0, 0) else none)))) else (bif Nat.blt pc 18 then (bif Nat.blt pc 16 then (bif Nat.blt pc 13 then (bif Nat.beq pc 12 then some (.aload_n 0, 13, 0, 0, 0) else none) else (bif Nat.beq pc 13 then some (.getfield 81, 16, 0, 0, 0) else none)) else (bif Nat.blt pc 17 then (bif Nat.beq pc 16 then some (.istore_n 2, 17, 0, 0, 0) else none) else (bif Nat.beq pc 17 then some (.aload_n 0, 18, 0, 0, 0) else none))) else (bif Nat.blt pc 22 then (bif Nat.blt pc 19 then (bif Nat.beq pc 18 then some (.iload_n 1, 19, 0, 0, 0) else none) else (bif Nat.beq pc 19 then some (.putfield 81, 22, 0, 0, 0) else none)) else (bif Nat.blt pc 23 then (bif Nat.beq pc 22 then some (.iload_n 2, 23, 0, 0, 0) else none) else (bif Nat.beq pc 23 then some (.ireturn, 24, 0, 0, 0) else none))))))
def tbX8_lets : Nat → Option mv_R := mv_lim 29 (fun pc => (bif Nat.blt pc 13 then (bif Nat.blt pc 4 then (bif Nat.blt pc 1 then (bif Nat.beq pc 0 then some (.aload_n 0, 1, 0, 0, 0) else none) else (bif Nat.blt pc 2 then (bif Nat.beq pc 1 then some (.iload_n 1, 2, 0, 0, 0) else none) else (bif Nat.beq pc 2 then some (.bipush 59, 4, 0, 59, 0) else none))) else (bif Nat.blt pc 9 then (bif Nat.blt pc 7 then (bif Nat.beq pc 4 then some (.if_icmp .le 8, 7, 12, 0, 0) else none) else (bif Nat.beq pc 7 then some (.bipush 59, 9, 0, 59, 0) else none)) else (bif Nat.blt pc 12 then (bif Nat.beq pc 9 then some (.goto 4, 12, 13, 0, 0) else none) else (bif Nat.beq pc 12 then some (.iload_n 1, 13, 0, 0, 0) else none)))) else (bif Nat.blt pc 23 then (bif Nat.blt pc 17 then (bif Nat.blt pc 16 then (bif Nat.beq pc 13 then some (.invokevirtual 206, 16, 0, 0, 0) else none) else (bif Nat.beq pc 16 then some (.aload_n 0, 17, 0, 0, 0) else none)) else (bif Nat.blt pc 20 then (bif Nat.beq pc 17 then some (.getfield 81, 20, 0, 0, 0) else none) else (bif Nat.beq pc 20 then some (.if_icmp .gt 7, 23, 27, 0, 0) else none))) else (bif Nat.blt pc 27 then (bif Nat.blt pc 24 then (bif Nat.beq pc 23 then some (.iconst 1, 24, 0, 1, 0) else none) else (bif Nat.beq pc 24 then some (.goto 4, 27, 28, 0, 0) else none)) else (bif Nat.blt pc 28 then (bif Nat.beq pc 27 then some (.iconst 0, 28, 0, 0, 0) else none) else (bif Nat.beq pc 28 then some (.ireturn, 29, 0, 0, 0) else none))))))
def tbX8_endOf : Nat → Option mv_R := mv_lim 62 (fun pc => (bif Nat.blt pc 29 then (bif Nat.blt pc 13 then (bif Nat.blt pc 5 then (bif Nat.blt pc 2 then (bif Nat.blt pc 1 then (bif Nat.beq pc 0 then some (.iload_n 2, 1, 0, 0, 0) else none) else (bif Nat.beq pc 1 then some (.istore_n 3, 2, 0, 0, 0) else none)) else (bif Nat.blt pc 3 then (bif Nat.beq pc 2 then some (.iload_n 1, 3, 0, 0, 0) else none) else (bif Nat.beq pc 3 then some (.istore 4, 5, 0, 0, 0) else none))) else (bif Nat.blt pc 9 then (bif Nat.blt pc 7 then (bif Nat.beq pc 5 then some (.iload 4, 7, 1, 0, 0) else none) else (bif Nat.beq pc 7 then some (.bipush 60, 9, 0, 60, 0) else none)) else (bif Nat.blt pc 12 then (bif Nat.beq pc 9 then some (.if_icmp .ge 33, 12, 42, 0, 0) else none) else (bif Nat.beq pc 12 then some (.iload_n 3, 13, 0, 0, 0) else none)))) else (bif Nat.blt pc 22 then (bif Nat.blt pc 16 then (bif Nat.blt pc 14 then (bif Nat.beq pc 13 then some (.aload_n 0, 14, 0, 0, 0) else none) else (bif Nat.beq pc 14 then some (.iload 4, 16, 0, 0, 0) else none)) else (bif Nat.blt pc 19 then (bif Nat.beq pc 16 then some (.invokevirtual 209, 19, 0, 0, 0) else none) else (bif Nat.beq pc 19 then some (.ifCond .eq 7, 22, 26, 0, 0) else none))) else (bif Nat.blt pc 26 then (bif Nat.blt pc 23 then (bif Nat.beq pc 22 then some (.iconst 1, 23, 0, 1, 0) else none) else (bif Nat.beq pc 23 then some (.goto 4, 26, 27, 0, 0) else none)) else (bif Nat.blt pc 27 then (bif Nat.beq pc 26 then some (.iconst 0, 27, 0, 0, 0) else none) else (bif Nat.blt pc 28 then (bif Nat.beq pc 27 then some (.isub, 28, 0, 0, 0) else none) else (bif Nat.beq pc 28 then some (.istore_n 3, 29, 0, 0, 0) else none)))))) else (bif Nat.blt pc 48 then (bif Nat.blt pc 36 then (bif Nat.blt pc 33 then (bif Nat.blt pc 30 then (bif Nat.beq pc 29 then some (.iload_n 3, 30, 0, 0, 0) else none) else (bif Nat.beq pc 30 then some (.ifCond .ne 6, 33, 36, 0, 0) else none)) else (bif Nat.blt pc 35 then (bif Nat.beq pc 33 then some (.iload 4, 35, 0, 0, 0) else none) else (bif Nat.beq pc 35 then some (.ireturn, 36, 0, 0, 0) else none))) else (bif Nat.blt pc 42 then (bif Nat.blt pc 39 then (bif Nat.beq pc 36 then some (.iinc 4 1, 39, 0, 1, 0) else none) else (bif Nat.beq pc 39 then some (.goto (-34), 42, 5, 0, 0) else none)) else (bif Nat.blt pc 43 then (bif Nat.beq pc 42 then some (.aload_n 0, 43, 0, 0, 0) else none) else (bif Nat.blt pc 45 then (bif Nat.beq pc 43 then some (.bipush 59, 45, 0, 59, 0) else none) else (bif Nat.beq pc 45 then some (.invokevirtual 209, 48, 0, 0, 0) else none))))) else (bif Nat.blt pc 55 then (bif Nat.blt pc 53 then (bif Nat.blt pc 51 then (bif Nat.beq pc 48 then some (.ifCond .eq 12, 51, 60, 0, 0) else none) else (bif Nat.beq pc 51 then some (.iload 4, 53, 0, 0, 0) else none)) else (bif Nat.blt pc 54 then (bif Nat.beq pc 53 then some (.iload_n 3, 54, 0, 0, 0) else none) else (bif Nat.beq pc 54 then some (.iadd, 55, 0, 0, 0) else none))) else (bif Nat.blt pc 57 then (bif Nat.blt pc 56 then (bif Nat.beq pc 55 then some (.iconst 1, 56, 0, 1, 0) else none) else (bif Nat.beq pc 56 then some (.isub, 57, 0, 0, 0) else none)) else (bif Nat.blt pc 60 then (bif Nat.beq pc 57 then some (.goto 4, 60, 61, 0, 0) else none) else (bif Nat.blt pc 61 then (bif Nat.beq pc 60 then some (.iconst (-1), 61, 0, (-1), 0) else none) else (bif Nat.beq pc 61 then some (.ireturn, 62, 0, 0, 0) else none))))))))
def tbX8_costOf : Nat → Option mv_R := mv_lim 187 (fun pc => (bif Nat.blt pc 94 then (bif Nat.blt pc 49 then (bif Nat.blt pc 22 then (bif Nat.blt pc 9 then (bif Nat.blt pc 3 then (bif Nat.blt pc 1 then (bif Nat.beq pc 0 then some (.iconst 0, 1, 0, 0, 0) else none) else (bif Nat.blt pc 2 then (bif Nat.beq pc 1 then some (.istore_n 2, 2, 0, 0, 0) else none) else (bif Nat.beq pc 2 then some (.iconst 0, 3, 0, 0, 0) else none))) else (bif Nat.blt pc 5 then (bif Nat.blt pc 4 then (bif Nat.beq pc 3 then some (.istore_n 3, 4, 0, 0, 0) else none) else (bif Nat.beq pc 4 then some (.iconst 0, 5, 0, 0, 0) else none)) else (bif Nat.blt pc 7 then (bif Nat.beq pc 5 then some (.istore 4, 7, 0, 0, 0) else none) else (bif Nat.beq pc 7 then some (.iload 4, 9, 1, 0, 0) else none)))) else (bif Nat.blt pc 14 then (bif Nat.blt pc 10 then (bif Nat.beq pc 9 then some (.iload_n 1, 10, 0, 0, 0) else none) else (bif Nat.blt pc 13 then (bif Nat.beq pc 10 then some (.if_icmp .ge 175, 13, 185, 0, 0) else none) else (bif Nat.beq pc 13 then some (.aload_n 0, 14, 0, 0, 0) else none))) else (bif Nat.blt pc 19 then (bif Nat.blt pc 17 then (bif Nat.beq pc 14 then some (.getfield 85, 17, 0, 0, 0) else none) else (bif Nat.beq pc 17 then some (.iload 4, 19, 0, 0, 0) else none)) else (bif Nat.blt pc 20 then (bif Nat.beq pc 19 then some (.iaload, 20, 0, 0, 0) else none) else (bif Nat.beq pc 20 then some (.istore 5, 22, 0, 0, 0) else none))))) else (bif Nat.blt pc 35 then (bif Nat.blt pc 28 then (bif Nat.blt pc 23 then (bif Nat.beq pc 22 then some (.aload_n 0, 23, 0, 0, 0) else none) else (bif Nat.blt pc 26 then (bif Nat.beq pc 23 then some (.getfield 88, 26, 0, 0, 0) else none) else (bif Nat.beq pc 26 then some (.iload 4, 28, 0, 0, 0) else none))) else (bif Nat.blt pc 32 then (bif Nat.blt pc 29 then (bif Nat.beq pc 28 then some (.aload_n 0, 29, 0, 0, 0) else none) else (bif Nat.beq pc 29 then some (.getfield 60, 32, 0, 0, 0) else none)) else (bif Nat.blt pc 34 then (bif Nat.beq pc 32 then some (.iload 5, 34, 0, 0, 0) else none) else (bif Nat.beq pc 34 then some (.iaload, 35, 0, 0, 0) else none)))) else (bif Nat.blt pc 40 then (bif Nat.blt pc 36 then (bif Nat.beq pc 35 then some (.iload_n 2, 36, 0, 0, 0) else none) else (bif Nat.blt pc 39 then (bif Nat.beq pc 36 then some (.if_icmp .le 13, 39, 49, 0, 0) else none) else (bif Nat.beq pc 39 then some (.aload_n 0, 40, 0, 0, 0) else none))) else (bif Nat.blt pc 45 then (bif Nat.blt pc 43 then (bif Nat.beq pc 40 then some (.getfield 60, 43, 0, 0, 0) else none) else (bif Nat.beq pc 43 then some (.iload 5, 45, 0, 0, 0) else none)) else (bif Nat.blt pc 46 then (bif Nat.beq pc 45 then some (.iaload, 46, 0, 0, 0) else none) else (bif Nat.beq pc 46 then some (.goto 4, 49, 50, 0, 0) else none)))))) else (bif Nat.blt pc 72 then (bif Nat.blt pc 59 then (bif Nat.blt pc 52 then (bif Nat.blt pc 50 then (bif Nat.beq pc 49 then some (.iload_n 2, 50, 0, 0, 0) else none) else (bif Nat.blt pc 51 then (bif Nat.beq pc 50 then some (.iastore, 51, 0, 0, 0) else none) else (bif Nat.beq pc 51 then some (.aload_n 0, 52, 0, 0, 0) else none))) else (bif Nat.blt pc 57 then (bif Nat.blt pc 55 then (bif Nat.beq pc 52 then some (.getfield 91, 55, 0, 0, 0) else none) else (bif Nat.beq pc 55 then some (.iload 4, 57, 0, 0, 0) else none)) else (bif Nat.blt pc 58 then (bif Nat.beq pc 57 then some (.aload_n 0, 58, 0, 0, 0) else none) else (bif Nat.beq pc 58 then some (.aload_n 0, 59, 0, 0, 0) else none)))) else (bif Nat.blt pc 65 then (bif Nat.blt pc 62 then (bif Nat.beq pc 59 then some (.getfield 88, 62, 0, 0, 0) else none) else (bif Nat.blt pc 64 then (bif Nat.beq pc 62 then some (.iload 4, 64, 0, 0, 0) else none) else (bif Nat.beq pc 64 then some (.iaload, 65, 0, 0, 0) else none))) else (bif Nat.blt pc 69 then (bif Nat.blt pc 66 then (bif Nat.beq pc 65 then some (.aload_n 0, 66, 0, 0, 0) else none) else (bif Nat.beq pc 66 then some (.getfield 63, 69, 0, 0, 0) else none)) else (bif Nat.blt pc 71 then (bif Nat.beq pc 69 then some (.iload 5, 71, 0, 0, 0) else none) else (bif Nat.beq pc 71 then some (.iaload, 72, 0, 0, 0) else none))))) else (bif Nat.blt pc 82 then (bif Nat.blt pc 78 then (bif Nat.blt pc 73 then (bif Nat.beq pc 72 then some (.aload_n 0, 73, 0, 0, 0) else none) else (bif Nat.blt pc 76 then (bif Nat.beq pc 73 then some (.getfield 66, 76, 0, 0, 0) else none) else (bif Nat.beq pc 76 then some (.iload 5, 78, 0, 0, 0) else none))) else (bif Nat.blt pc 80 then (bif Nat.blt pc 79 then (bif Nat.beq pc 78 then some (.iaload, 79, 0, 0, 0) else none) else (bif Nat.beq pc 79 then some (.iadd, 80, 0, 0, 0) else none)) else (bif Nat.blt pc 81 then (bif Nat.beq pc 80 then some (.iconst 1, 81, 0, 1, 0) else none) else (bif Nat.beq pc 81 then some (.isub, 82, 0, 0, 0) else none)))) else (bif Nat.blt pc 88 then (bif Nat.blt pc 83 then (bif Nat.beq pc 82 then some (.aload_n 0, 83, 0, 0, 0) else none) else (bif Nat.blt pc 86 then (bif Nat.beq pc 83 then some (.getfield 66, 86, 0, 0, 0) else none) else (bif Nat.beq pc 86 then some (.iload 5, 88, 0, 0, 0) else none))) else (bif Nat.blt pc 90 then (bif Nat.blt pc 89 then (bif Nat.beq pc 88 then some (.iaload, 89, 0, 0, 0) else none) else (bif Nat.beq pc 89 then some (.idiv, 90, 0, 0, 0) else none)) else (bif Nat.blt pc 93 then (bif Nat.beq pc 90 then some (.invokevirtual 212, 93, 0, 0, 0) else none) else (bif Nat.beq pc 93 then some (.iastore, 94, 0, 0, 0) else none))))))) else (bif Nat.blt pc 139 then (bif Nat.blt pc 116 then (bif Nat.blt pc 106 then (bif Nat.blt pc 100 then (bif Nat.blt pc 95 then (bif Nat.beq pc 94 then some (.aload_n 0, 95, 0, 0, 0) else none) else (bif Nat.blt pc 98 then (bif Nat.beq pc 95 then some (.getfield 91, 98, 0, 0, 0) else none) else (bif Nat.beq pc 98 then some (.iload 4, 100, 0, 0, 0) else none))) else (bif Nat.blt pc 104 then (bif Nat.blt pc 101 then (bif Nat.beq pc 100 then some (.iaload, 101, 0, 0, 0) else none) else (bif Nat.beq pc 101 then some (.ifCond .ge 5, 104, 106, 0, 0) else none)) else (bif Nat.blt pc 105 then (bif Nat.beq pc 104 then some (.iconst (-1), 105, 0, (-1), 0) else none) else (bif Nat.beq pc 105 then some (.ireturn, 106, 0, 0, 0) else none)))) else (bif Nat.blt pc 112 then (bif Nat.blt pc 107 then (bif Nat.beq pc 106 then some (.aload_n 0, 107, 0, 0, 0) else none) else (bif Nat.blt pc 110 then (bif Nat.beq pc 107 then some (.getfield 91, 110, 0, 0, 0) else none) else (bif Nat.beq pc 110 then some (.iload 4, 112, 0, 0, 0) else none))) else (bif Nat.blt pc 114 then (bif Nat.blt pc 113 then (bif Nat.beq pc 112 then some (.iaload, 113, 0, 0, 0) else none) else (bif Nat.beq pc 113 then some (.iconst 1, 114, 0, 1, 0) else none)) else (bif Nat.blt pc 115 then (bif Nat.beq pc 114 then some (.iadd, 115, 0, 0, 0) else none) else (bif Nat.beq pc 115 then some (.istore_n 2, 116, 0, 0, 0) else none))))) else (bif Nat.blt pc 129 then (bif Nat.blt pc 122 then (bif Nat.blt pc 117 then (bif Nat.beq pc 116 then some (.aload_n 0, 117, 0, 0, 0) else none) else (bif Nat.blt pc 120 then (bif Nat.beq pc 117 then some (.getfield 91, 120, 0, 0, 0) else none) else (bif Nat.beq pc 120 then some (.iload 4, 122, 0, 0, 0) else none))) else (bif Nat.blt pc 124 then (bif Nat.blt pc 123 then (bif Nat.beq pc 122 then some (.iaload, 123, 0, 0, 0) else none) else (bif Nat.beq pc 123 then some (.aload_n 0, 124, 0, 0, 0) else none)) else (bif Nat.blt pc 127 then (bif Nat.beq pc 124 then some (.getfield 60, 127, 0, 0, 0) else none) else (bif Nat.beq pc 127 then some (.iload 5, 129, 0, 0, 0) else none)))) else (bif Nat.blt pc 132 then (bif Nat.blt pc 130 then (bif Nat.beq pc 129 then some (.iaload, 130, 0, 0, 0) else none) else (bif Nat.blt pc 131 then (bif Nat.beq pc 130 then some (.isub, 131, 0, 0, 0) else none) else (bif Nat.beq pc 131 then some (.iconst 1, 132, 0, 1, 0) else none))) else (bif Nat.blt pc 134 then (bif Nat.blt pc 133 then (bif Nat.beq pc 132 then some (.iadd, 133, 0, 0, 0) else none) else (bif Nat.beq pc 133 then some (.aload_n 0, 134, 0, 0, 0) else none)) else (bif Nat.blt pc 137 then (bif Nat.beq pc 134 then some (.getfield 69, 137, 0, 0, 0) else none) else (bif Nat.beq pc 137 then some (.iload 5, 139, 0, 0, 0) else none)))))) else (bif Nat.blt pc 164 then (bif Nat.blt pc 151 then (bif Nat.blt pc 143 then (bif Nat.blt pc 140 then (bif Nat.beq pc 139 then some (.iaload, 140, 0, 0, 0) else none) else (bif Nat.blt pc 141 then (bif Nat.beq pc 140 then some (.isub, 141, 0, 0, 0) else none) else (bif Nat.beq pc 141 then some (.istore 6, 143, 0, 0, 0) else none))) else (bif Nat.blt pc 147 then (bif Nat.blt pc 144 then (bif Nat.beq pc 143 then some (.aload_n 0, 144, 0, 0, 0) else none) else (bif Nat.beq pc 144 then some (.getfield 94, 147, 0, 0, 0) else none)) else (bif Nat.blt pc 149 then (bif Nat.beq pc 147 then some (.iload 4, 149, 0, 0, 0) else none) else (bif Nat.beq pc 149 then some (.iload 6, 151, 0, 0, 0) else none)))) else (bif Nat.blt pc 158 then (bif Nat.blt pc 154 then (bif Nat.beq pc 151 then some (.ifCond .le 16, 154, 167, 0, 0) else none) else (bif Nat.blt pc 155 then (bif Nat.beq pc 154 then some (.aload_n 0, 155, 0, 0, 0) else none) else (bif Nat.beq pc 155 then some (.getfield 72, 158, 0, 0, 0) else none))) else (bif Nat.blt pc 161 then (bif Nat.blt pc 160 then (bif Nat.beq pc 158 then some (.iload 5, 160, 0, 0, 0) else none) else (bif Nat.beq pc 160 then some (.iaload, 161, 0, 0, 0) else none)) else (bif Nat.blt pc 163 then (bif Nat.beq pc 161 then some (.iload 6, 163, 0, 0, 0) else none) else (bif Nat.beq pc 163 then some (.imul, 164, 0, 0, 0) else none))))) else (bif Nat.blt pc 176 then (bif Nat.blt pc 169 then (bif Nat.blt pc 167 then (bif Nat.beq pc 164 then some (.goto 4, 167, 168, 0, 0) else none) else (bif Nat.blt pc 168 then (bif Nat.beq pc 167 then some (.iconst 0, 168, 0, 0, 0) else none) else (bif Nat.beq pc 168 then some (.iastore, 169, 0, 0, 0) else none))) else (bif Nat.blt pc 171 then (bif Nat.blt pc 170 then (bif Nat.beq pc 169 then some (.iload_n 3, 170, 0, 0, 0) else none) else (bif Nat.beq pc 170 then some (.aload_n 0, 171, 0, 0, 0) else none)) else (bif Nat.blt pc 174 then (bif Nat.beq pc 171 then some (.getfield 94, 174, 0, 0, 0) else none) else (bif Nat.beq pc 174 then some (.iload 4, 176, 0, 0, 0) else none)))) else (bif Nat.blt pc 179 then (bif Nat.blt pc 177 then (bif Nat.beq pc 176 then some (.iaload, 177, 0, 0, 0) else none) else (bif Nat.blt pc 178 then (bif Nat.beq pc 177 then some (.iadd, 178, 0, 0, 0) else none) else (bif Nat.beq pc 178 then some (.istore_n 3, 179, 0, 0, 0) else none))) else (bif Nat.blt pc 185 then (bif Nat.blt pc 182 then (bif Nat.beq pc 179 then some (.iinc 4 1, 182, 0, 1, 0) else none) else (bif Nat.beq pc 182 then some (.goto (-175), 185, 7, 0, 0) else none)) else (bif Nat.blt pc 186 then (bif Nat.beq pc 185 then some (.iload_n 3, 186, 0, 0, 0) else none) else (bif Nat.beq pc 186 then some (.ireturn, 187, 0, 0, 0) else none)))))))))
def tbX8_keep : Nat → Option mv_R := mv_lim 103 (fun pc => (bif Nat.blt pc 53 then (bif Nat.blt pc 27 then (bif Nat.blt pc 13 then (bif Nat.blt pc 6 then (bif Nat.blt pc 2 then (bif Nat.blt pc 1 then (bif Nat.beq pc 0 then some (.aload_n 0, 1, 0, 0, 0) else none) else (bif Nat.beq pc 1 then some (.iconst 1, 2, 0, 1, 0) else none)) else (bif Nat.blt pc 5 then (bif Nat.beq pc 2 then some (.putfield 215, 5, 0, 0, 0) else none) else (bif Nat.beq pc 5 then some (.iconst 0, 6, 0, 0, 0) else none))) else (bif Nat.blt pc 8 then (bif Nat.blt pc 7 then (bif Nat.beq pc 6 then some (.istore_n 2, 7, 0, 0, 0) else none) else (bif Nat.beq pc 7 then some (.iload_n 2, 8, 1, 0, 0) else none)) else (bif Nat.blt pc 10 then (bif Nat.beq pc 8 then some (.bipush 6, 10, 0, 6, 0) else none) else (bif Nat.beq pc 10 then some (.if_icmp .ge 16, 13, 26, 0, 0) else none)))) else (bif Nat.blt pc 19 then (bif Nat.blt pc 17 then (bif Nat.blt pc 14 then (bif Nat.beq pc 13 then some (.aload_n 0, 14, 0, 0, 0) else none) else (bif Nat.beq pc 14 then some (.getfield 97, 17, 0, 0, 0) else none)) else (bif Nat.blt pc 18 then (bif Nat.beq pc 17 then some (.iload_n 2, 18, 0, 0, 0) else none) else (bif Nat.beq pc 18 then some (.iconst (-1), 19, 0, (-1), 0) else none))) else (bif Nat.blt pc 23 then (bif Nat.blt pc 20 then (bif Nat.beq pc 19 then some (.iastore, 20, 0, 0, 0) else none) else (bif Nat.beq pc 20 then some (.iinc 2 1, 23, 0, 1, 0) else none)) else (bif Nat.blt pc 26 then (bif Nat.beq pc 23 then some (.goto (-16), 26, 7, 0, 0) else none) else (bif Nat.beq pc 26 then some (.iconst 0, 27, 0, 0, 0) else none))))) else (bif Nat.blt pc 41 then (bif Nat.blt pc 33 then (bif Nat.blt pc 29 then (bif Nat.blt pc 28 then (bif Nat.beq pc 27 then some (.istore_n 2, 28, 0, 0, 0) else none) else (bif Nat.beq pc 28 then some (.iload_n 2, 29, 1, 0, 0) else none)) else (bif Nat.blt pc 30 then (bif Nat.beq pc 29 then some (.iload_n 1, 30, 0, 0, 0) else none) else (bif Nat.beq pc 30 then some (.if_icmp .ge 72, 33, 102, 0, 0) else none))) else (bif Nat.blt pc 37 then (bif Nat.blt pc 34 then (bif Nat.beq pc 33 then some (.aload_n 0, 34, 0, 0, 0) else none) else (bif Nat.beq pc 34 then some (.getfield 97, 37, 0, 0, 0) else none)) else (bif Nat.blt pc 38 then (bif Nat.beq pc 37 then some (.aload_n 0, 38, 0, 0, 0) else none) else (bif Nat.beq pc 38 then some (.getfield 85, 41, 0, 0, 0) else none)))) else (bif Nat.blt pc 45 then (bif Nat.blt pc 43 then (bif Nat.blt pc 42 then (bif Nat.beq pc 41 then some (.iload_n 2, 42, 0, 0, 0) else none) else (bif Nat.beq pc 42 then some (.iaload, 43, 0, 0, 0) else none)) else (bif Nat.blt pc 44 then (bif Nat.beq pc 43 then some (.iload_n 2, 44, 0, 0, 0) else none) else (bif Nat.beq pc 44 then some (.iastore, 45, 0, 0, 0) else none))) else (bif Nat.blt pc 49 then (bif Nat.blt pc 46 then (bif Nat.beq pc 45 then some (.aload_n 0, 46, 0, 0, 0) else none) else (bif Nat.beq pc 46 then some (.getfield 100, 49, 0, 0, 0) else none)) else (bif Nat.blt pc 50 then (bif Nat.beq pc 49 then some (.aload_n 0, 50, 0, 0, 0) else none) else (bif Nat.beq pc 50 then some (.getfield 85, 53, 0, 0, 0) else none)))))) else (bif Nat.blt pc 77 then (bif Nat.blt pc 63 then (bif Nat.blt pc 59 then (bif Nat.blt pc 55 then (bif Nat.blt pc 54 then (bif Nat.beq pc 53 then some (.iload_n 2, 54, 0, 0, 0) else none) else (bif Nat.beq pc 54 then some (.iaload, 55, 0, 0, 0) else none)) else (bif Nat.blt pc 56 then (bif Nat.beq pc 55 then some (.aload_n 0, 56, 0, 0, 0) else none) else (bif Nat.beq pc 56 then some (.getfield 88, 59, 0, 0, 0) else none))) else (bif Nat.blt pc 61 then (bif Nat.blt pc 60 then (bif Nat.beq pc 59 then some (.iload_n 2, 60, 0, 0, 0) else none) else (bif Nat.beq pc 60 then some (.iaload, 61, 0, 0, 0) else none)) else (bif Nat.blt pc 62 then (bif Nat.beq pc 61 then some (.iastore, 62, 0, 0, 0) else none) else (bif Nat.beq pc 62 then some (.aload_n 0, 63, 0, 0, 0) else none)))) else (bif Nat.blt pc 71 then (bif Nat.blt pc 67 then (bif Nat.blt pc 66 then (bif Nat.beq pc 63 then some (.getfield 103, 66, 0, 0, 0) else none) else (bif Nat.beq pc 66 then some (.aload_n 0, 67, 0, 0, 0) else none)) else (bif Nat.blt pc 70 then (bif Nat.beq pc 67 then some (.getfield 85, 70, 0, 0, 0) else none) else (bif Nat.beq pc 70 then some (.iload_n 2, 71, 0, 0, 0) else none))) else (bif Nat.blt pc 73 then (bif Nat.blt pc 72 then (bif Nat.beq pc 71 then some (.iaload, 72, 0, 0, 0) else none) else (bif Nat.beq pc 72 then some (.aload_n 0, 73, 0, 0, 0) else none)) else (bif Nat.blt pc 76 then (bif Nat.beq pc 73 then some (.getfield 91, 76, 0, 0, 0) else none) else (bif Nat.beq pc 76 then some (.iload_n 2, 77, 0, 0, 0) else none))))) else (bif Nat.blt pc 89 then (bif Nat.blt pc 83 then (bif Nat.blt pc 79 then (bif Nat.blt pc 78 then (bif Nat.beq pc 77 then some (.iaload, 78, 0, 0, 0) else none) else (bif Nat.beq pc 78 then some (.iastore, 79, 0, 0, 0) else none)) else (bif Nat.blt pc 80 then (bif Nat.beq pc 79 then some (.aload_n 0, 80, 0, 0, 0) else none) else (bif Nat.beq pc 80 then some (.getfield 106, 83, 0, 0, 0) else none))) else (bif Nat.blt pc 87 then (bif Nat.blt pc 84 then (bif Nat.beq pc 83 then some (.aload_n 0, 84, 0, 0, 0) else none) else (bif Nat.beq pc 84 then some (.getfield 85, 87, 0, 0, 0) else none)) else (bif Nat.blt pc 88 then (bif Nat.beq pc 87 then some (.iload_n 2, 88, 0, 0, 0) else none) else (bif Nat.beq pc 88 then some (.iaload, 89, 0, 0, 0) else none)))) else (bif Nat.blt pc 95 then (bif Nat.blt pc 93 then (bif Nat.blt pc 90 then (bif Nat.beq pc 89 then some (.aload_n 0, 90, 0, 0, 0) else none) else (bif Nat.beq pc 90 then some (.getfield 94, 93, 0, 0, 0) else none)) else (bif Nat.blt pc 94 then (bif Nat.beq pc 93 then some (.iload_n 2, 94, 0, 0, 0) else none) else (bif Nat.beq pc 94 then some (.iaload, 95, 0, 0, 0) else none))) else (bif Nat.blt pc 99 then (bif Nat.blt pc 96 then (bif Nat.beq pc 95 then some (.iastore, 96, 0, 0, 0) else none) else (bif Nat.beq pc 96 then some (.iinc 2 1, 99, 0, 1, 0) else none)) else (bif Nat.blt pc 102 then (bif Nat.beq pc 99 then some (.goto (-71), 102, 28, 0, 0) else none) else (bif Nat.beq pc 102 then some (.return_, 103, 0, 0, 0) else none))))))))
def tbX8_swap : Nat → Option mv_R := mv_lim 27 (fun pc => (bif Nat.blt pc 13 then (bif Nat.blt pc 6 then (bif Nat.blt pc 4 then (bif Nat.blt pc 1 then (bif Nat.beq pc 0 then some (.aload_n 0, 1, 0, 0, 0) else none) else (bif Nat.beq pc 1 then some (.getfield 85, 4, 0, 0, 0) else none)) else (bif Nat.blt pc 5 then (bif Nat.beq pc 4 then some (.iload_n 1, 5, 0, 0, 0) else none) else (bif Nat.beq pc 5 then some (.iaload, 6, 0, 0, 0) else none))) else (bif Nat.blt pc 8 then (bif Nat.blt pc 7 then (bif Nat.beq pc 6 then some (.istore_n 3, 7, 0, 0, 0) else none) else (bif Nat.beq pc 7 then some (.aload_n 0, 8, 0, 0, 0) else none)) else (bif Nat.blt pc 11 then (bif Nat.beq pc 8 then some (.getfield 85, 11, 0, 0, 0) else none) else (bif Nat.blt pc 12 then (bif Nat.beq pc 11 then some (.iload_n 1, 12, 0, 0, 0) else none) else (bif Nat.beq pc 12 then some (.aload_n 0, 13, 0, 0, 0) else none))))) else (bif Nat.blt pc 20 then (bif Nat.blt pc 17 then (bif Nat.blt pc 16 then (bif Nat.beq pc 13 then some (.getfield 85, 16, 0, 0, 0) else none) else (bif Nat.beq pc 16 then some (.iload_n 2, 17, 0, 0, 0) else none)) else (bif Nat.blt pc 18 then (bif Nat.beq pc 17 then some (.iaload, 18, 0, 0, 0) else none) else (bif Nat.blt pc 19 then (bif Nat.beq pc 18 then some (.iastore, 19, 0, 0, 0) else none) else (bif Nat.beq pc 19 then some (.aload_n 0, 20, 0, 0, 0) else none)))) else (bif Nat.blt pc 24 then (bif Nat.blt pc 23 then (bif Nat.beq pc 20 then some (.getfield 85, 23, 0, 0, 0) else none) else (bif Nat.beq pc 23 then some (.iload_n 2, 24, 0, 0, 0) else none)) else (bif Nat.blt pc 25 then (bif Nat.beq pc 24 then some (.iload_n 3, 25, 0, 0, 0) else none) else (bif Nat.blt pc 26 then (bif Nat.beq pc 25 then some (.iastore, 26, 0, 0, 0) else none) else (bif Nat.beq pc 26 then some (.return_, 27, 0, 0, 0) else none)))))))
def tbX8_countsUp : Nat → Option mv_R := mv_lim 104 (fun pc => (bif Nat.blt pc 47 then (bif Nat.blt pc 21 then (bif Nat.blt pc 9 then (bif Nat.blt pc 3 then (bif Nat.blt pc 1 then (bif Nat.beq pc 0 then some (.iload_n 1, 1, 0, 0, 0) else none) else (bif Nat.blt pc 2 then (bif Nat.beq pc 1 then some (.iconst 2, 2, 0, 2, 0) else none) else (bif Nat.beq pc 2 then some (.isub, 3, 0, 0, 0) else none))) else (bif Nat.blt pc 5 then (bif Nat.blt pc 4 then (bif Nat.beq pc 3 then some (.istore_n 2, 4, 0, 0, 0) else none) else (bif Nat.beq pc 4 then some (.iload_n 2, 5, 1, 0, 0) else none)) else (bif Nat.blt pc 8 then (bif Nat.beq pc 5 then some (.ifCond .lt 26, 8, 31, 0, 0) else none) else (bif Nat.beq pc 8 then some (.aload_n 0, 9, 0, 0, 0) else none)))) else (bif Nat.blt pc 15 then (bif Nat.blt pc 13 then (bif Nat.blt pc 12 then (bif Nat.beq pc 9 then some (.getfield 85, 12, 0, 0, 0) else none) else (bif Nat.beq pc 12 then some (.iload_n 2, 13, 0, 0, 0) else none)) else (bif Nat.blt pc 14 then (bif Nat.beq pc 13 then some (.iaload, 14, 0, 0, 0) else none) else (bif Nat.beq pc 14 then some (.aload_n 0, 15, 0, 0, 0) else none))) else (bif Nat.blt pc 19 then (bif Nat.blt pc 18 then (bif Nat.beq pc 15 then some (.getfield 85, 18, 0, 0, 0) else none) else (bif Nat.beq pc 18 then some (.iload_n 2, 19, 0, 0, 0) else none)) else (bif Nat.blt pc 20 then (bif Nat.beq pc 19 then some (.iconst 1, 20, 0, 1, 0) else none) else (bif Nat.beq pc 20 then some (.iadd, 21, 0, 0, 0) else none))))) else (bif Nat.blt pc 37 then (bif Nat.blt pc 31 then (bif Nat.blt pc 25 then (bif Nat.blt pc 22 then (bif Nat.beq pc 21 then some (.iaload, 22, 0, 0, 0) else none) else (bif Nat.beq pc 22 then some (.if_icmp .le 9, 25, 31, 0, 0) else none)) else (bif Nat.blt pc 28 then (bif Nat.beq pc 25 then some (.iinc 2 (-1), 28, 0, (-1), 0) else none) else (bif Nat.beq pc 28 then some (.goto (-24), 31, 4, 0, 0) else none))) else (bif Nat.blt pc 35 then (bif Nat.blt pc 32 then (bif Nat.beq pc 31 then some (.iload_n 2, 32, 0, 0, 0) else none) else (bif Nat.beq pc 32 then some (.ifCond .ge 5, 35, 37, 0, 0) else none)) else (bif Nat.blt pc 36 then (bif Nat.beq pc 35 then some (.iconst 0, 36, 0, 0, 0) else none) else (bif Nat.beq pc 36 then some (.ireturn, 37, 0, 0, 0) else none)))) else (bif Nat.blt pc 41 then (bif Nat.blt pc 39 then (bif Nat.blt pc 38 then (bif Nat.beq pc 37 then some (.iload_n 1, 38, 0, 0, 0) else none) else (bif Nat.beq pc 38 then some (.iconst 1, 39, 0, 1, 0) else none)) else (bif Nat.blt pc 40 then (bif Nat.beq pc 39 then some (.isub, 40, 0, 0, 0) else none) else (bif Nat.beq pc 40 then some (.istore_n 3, 41, 0, 0, 0) else none))) else (bif Nat.blt pc 45 then (bif Nat.blt pc 42 then (bif Nat.beq pc 41 then some (.aload_n 0, 42, 1, 0, 0) else none) else (bif Nat.beq pc 42 then some (.getfield 85, 45, 0, 0, 0) else none)) else (bif Nat.blt pc 46 then (bif Nat.beq pc 45 then some (.iload_n 3, 46, 0, 0, 0) else none) else (bif Nat.beq pc 46 then some (.iaload, 47, 0, 0, 0) else none)))))) else (bif Nat.blt pc 73 then (bif Nat.blt pc 62 then (bif Nat.blt pc 52 then (bif Nat.blt pc 48 then (bif Nat.beq pc 47 then some (.aload_n 0, 48, 0, 0, 0) else none) else (bif Nat.blt pc 51 then (bif Nat.beq pc 48 then some (.getfield 85, 51, 0, 0, 0) else none) else (bif Nat.beq pc 51 then some (.iload_n 2, 52, 0, 0, 0) else none))) else (bif Nat.blt pc 56 then (bif Nat.blt pc 53 then (bif Nat.beq pc 52 then some (.iaload, 53, 0, 0, 0) else none) else (bif Nat.beq pc 53 then some (.if_icmp .ge 9, 56, 62, 0, 0) else none)) else (bif Nat.blt pc 59 then (bif Nat.beq pc 56 then some (.iinc 3 (-1), 59, 0, (-1), 0) else none) else (bif Nat.beq pc 59 then some (.goto (-18), 62, 41, 0, 0) else none)))) else (bif Nat.blt pc 68 then (bif Nat.blt pc 64 then (bif Nat.blt pc 63 then (bif Nat.beq pc 62 then some (.aload_n 0, 63, 0, 0, 0) else none) else (bif Nat.beq pc 63 then some (.iload_n 2, 64, 0, 0, 0) else none)) else (bif Nat.blt pc 65 then (bif Nat.beq pc 64 then some (.iload_n 3, 65, 0, 0, 0) else none) else (bif Nat.beq pc 65 then some (.invokevirtual 219, 68, 0, 0, 0) else none))) else (bif Nat.blt pc 70 then (bif Nat.blt pc 69 then (bif Nat.beq pc 68 then some (.iload_n 2, 69, 0, 0, 0) else none) else (bif Nat.beq pc 69 then some (.iconst 1, 70, 0, 1, 0) else none)) else (bif Nat.blt pc 71 then (bif Nat.beq pc 70 then some (.iadd, 71, 0, 0, 0) else none) else (bif Nat.beq pc 71 then some (.istore 4, 73, 0, 0, 0) else none))))) else (bif Nat.blt pc 86 then (bif Nat.blt pc 78 then (bif Nat.blt pc 75 then (bif Nat.blt pc 74 then (bif Nat.beq pc 73 then some (.iload_n 1, 74, 0, 0, 0) else none) else (bif Nat.beq pc 74 then some (.iconst 1, 75, 0, 1, 0) else none)) else (bif Nat.blt pc 76 then (bif Nat.beq pc 75 then some (.isub, 76, 0, 0, 0) else none) else (bif Nat.beq pc 76 then some (.istore 5, 78, 0, 0, 0) else none))) else (bif Nat.blt pc 82 then (bif Nat.blt pc 80 then (bif Nat.beq pc 78 then some (.iload 4, 80, 1, 0, 0) else none) else (bif Nat.beq pc 80 then some (.iload 5, 82, 0, 0, 0) else none)) else (bif Nat.blt pc 85 then (bif Nat.beq pc 82 then some (.if_icmp .ge 20, 85, 102, 0, 0) else none) else (bif Nat.beq pc 85 then some (.aload_n 0, 86, 0, 0, 0) else none)))) else (bif Nat.blt pc 96 then (bif Nat.blt pc 90 then (bif Nat.blt pc 88 then (bif Nat.beq pc 86 then some (.iload 4, 88, 0, 0, 0) else none) else (bif Nat.beq pc 88 then some (.iload 5, 90, 0, 0, 0) else none)) else (bif Nat.blt pc 93 then (bif Nat.beq pc 90 then some (.invokevirtual 219, 93, 0, 0, 0) else none) else (bif Nat.beq pc 93 then some (.iinc 5 (-1), 96, 0, (-1), 0) else none))) else (bif Nat.blt pc 102 then (bif Nat.blt pc 99 then (bif Nat.beq pc 96 then some (.iinc 4 1, 99, 0, 1, 0) else none) else (bif Nat.beq pc 99 then some (.goto (-21), 102, 78, 0, 0) else none)) else (bif Nat.blt pc 103 then (bif Nat.beq pc 102 then some (.iconst 1, 103, 0, 1, 0) else none) else (bif Nat.beq pc 103 then some (.ireturn, 104, 0, 0, 0) else none))))))))
def tbX8_lay : Nat → Option mv_R := mv_lim 116 (fun pc => (bif Nat.blt pc 52 then (bif Nat.blt pc 23 then (bif Nat.blt pc 10 then (bif Nat.blt pc 4 then (bif Nat.blt pc 2 then (bif Nat.blt pc 1 then (bif Nat.beq pc 0 then some (.iload_n 1, 1, 0, 0, 0) else none) else (bif Nat.beq pc 1 then some (.iconst 1, 2, 0, 1, 0) else none)) else (bif Nat.blt pc 3 then (bif Nat.beq pc 2 then some (.iconst 1, 3, 0, 1, 0) else none) else (bif Nat.beq pc 3 then some (.aload_n 0, 4, 0, 0, 0) else none))) else (bif Nat.blt pc 8 then (bif Nat.blt pc 7 then (bif Nat.beq pc 4 then some (.getfield 197, 7, 0, 0, 0) else none) else (bif Nat.beq pc 7 then some (.ishl, 8, 0, 0, 0) else none)) else (bif Nat.blt pc 9 then (bif Nat.beq pc 8 then some (.iconst 1, 9, 0, 1, 0) else none) else (bif Nat.beq pc 9 then some (.isub, 10, 0, 0, 0) else none)))) else (bif Nat.blt pc 18 then (bif Nat.blt pc 16 then (bif Nat.blt pc 13 then (bif Nat.beq pc 10 then some (.invokestatic 124, 13, 0, 0, 0) else none) else (bif Nat.beq pc 13 then some (.ifCond .ne 5, 16, 18, 0, 0) else none)) else (bif Nat.blt pc 17 then (bif Nat.beq pc 16 then some (.iconst (-1), 17, 0, (-1), 0) else none) else (bif Nat.beq pc 17 then some (.ireturn, 18, 0, 0, 0) else none))) else (bif Nat.blt pc 20 then (bif Nat.blt pc 19 then (bif Nat.beq pc 18 then some (.iconst 0, 19, 0, 0, 0) else none) else (bif Nat.beq pc 19 then some (.istore_n 2, 20, 0, 0, 0) else none)) else (bif Nat.blt pc 21 then (bif Nat.beq pc 20 then some (.iconst 0, 21, 0, 0, 0) else none) else (bif Nat.blt pc 22 then (bif Nat.beq pc 21 then some (.istore_n 3, 22, 0, 0, 0) else none) else (bif Nat.beq pc 22 then some (.iload_n 3, 23, 1, 0, 0) else none)))))) else (bif Nat.blt pc 35 then (bif Nat.blt pc 31 then (bif Nat.blt pc 27 then (bif Nat.blt pc 24 then (bif Nat.beq pc 23 then some (.aload_n 0, 24, 0, 0, 0) else none) else (bif Nat.beq pc 24 then some (.getfield 197, 27, 0, 0, 0) else none)) else (bif Nat.blt pc 30 then (bif Nat.beq pc 27 then some (.if_icmp .ge 28, 30, 55, 0, 0) else none) else (bif Nat.beq pc 30 then some (.iload_n 1, 31, 0, 0, 0) else none))) else (bif Nat.blt pc 33 then (bif Nat.blt pc 32 then (bif Nat.beq pc 31 then some (.iload_n 3, 32, 0, 0, 0) else none) else (bif Nat.beq pc 32 then some (.ishr, 33, 0, 0, 0) else none)) else (bif Nat.blt pc 34 then (bif Nat.beq pc 33 then some (.iconst 1, 34, 0, 1, 0) else none) else (bif Nat.beq pc 34 then some (.iand, 35, 0, 0, 0) else none)))) else (bif Nat.blt pc 43 then (bif Nat.blt pc 39 then (bif Nat.blt pc 36 then (bif Nat.beq pc 35 then some (.iconst 1, 36, 0, 1, 0) else none) else (bif Nat.beq pc 36 then some (.if_icmp .ne 13, 39, 49, 0, 0) else none)) else (bif Nat.blt pc 40 then (bif Nat.beq pc 39 then some (.aload_n 0, 40, 0, 0, 0) else none) else (bif Nat.beq pc 40 then some (.getfield 85, 43, 0, 0, 0) else none))) else (bif Nat.blt pc 45 then (bif Nat.blt pc 44 then (bif Nat.beq pc 43 then some (.iload_n 2, 44, 0, 0, 0) else none) else (bif Nat.beq pc 44 then some (.iload_n 3, 45, 0, 0, 0) else none)) else (bif Nat.blt pc 46 then (bif Nat.beq pc 45 then some (.iastore, 46, 0, 0, 0) else none) else (bif Nat.blt pc 49 then (bif Nat.beq pc 46 then some (.iinc 2 1, 49, 0, 1, 0) else none) else (bif Nat.beq pc 49 then some (.iinc 3 1, 52, 0, 1, 0) else none))))))) else (bif Nat.blt pc 84 then (bif Nat.blt pc 66 then (bif Nat.blt pc 58 then (bif Nat.blt pc 56 then (bif Nat.blt pc 55 then (bif Nat.beq pc 52 then some (.goto (-30), 55, 22, 0, 0) else none) else (bif Nat.beq pc 55 then some (.iconst (-1), 56, 0, (-1), 0) else none)) else (bif Nat.blt pc 57 then (bif Nat.beq pc 56 then some (.istore_n 3, 57, 0, 0, 0) else none) else (bif Nat.beq pc 57 then some (.iconst 1, 58, 0, 1, 0) else none))) else (bif Nat.blt pc 62 then (bif Nat.blt pc 60 then (bif Nat.beq pc 58 then some (.istore 4, 60, 0, 0, 0) else none) else (bif Nat.beq pc 60 then some (.iload 4, 62, 1, 0, 0) else none)) else (bif Nat.blt pc 65 then (bif Nat.beq pc 62 then some (.ifCond .eq 43, 65, 105, 0, 0) else none) else (bif Nat.beq pc 65 then some (.aload_n 0, 66, 0, 0, 0) else none)))) else (bif Nat.blt pc 74 then (bif Nat.blt pc 70 then (bif Nat.blt pc 67 then (bif Nat.beq pc 66 then some (.iload_n 2, 67, 0, 0, 0) else none) else (bif Nat.beq pc 67 then some (.invokevirtual 222, 70, 0, 0, 0) else none)) else (bif Nat.blt pc 72 then (bif Nat.beq pc 70 then some (.istore 5, 72, 0, 0, 0) else none) else (bif Nat.beq pc 72 then some (.iload 5, 74, 0, 0, 0) else none))) else (bif Nat.blt pc 78 then (bif Nat.blt pc 77 then (bif Nat.beq pc 74 then some (.ifCond .lt 21, 77, 95, 0, 0) else none) else (bif Nat.beq pc 77 then some (.iload_n 3, 78, 0, 0, 0) else none)) else (bif Nat.blt pc 81 then (bif Nat.beq pc 78 then some (.ifCond .lt 9, 81, 87, 0, 0) else none) else (bif Nat.blt pc 83 then (bif Nat.beq pc 81 then some (.iload 5, 83, 0, 0, 0) else none) else (bif Nat.beq pc 83 then some (.iload_n 3, 84, 0, 0, 0) else none)))))) else (bif Nat.blt pc 97 then (bif Nat.blt pc 91 then (bif Nat.blt pc 89 then (bif Nat.blt pc 87 then (bif Nat.beq pc 84 then some (.if_icmp .ge 11, 87, 95, 0, 0) else none) else (bif Nat.beq pc 87 then some (.iload 5, 89, 0, 0, 0) else none)) else (bif Nat.blt pc 90 then (bif Nat.beq pc 89 then some (.istore_n 3, 90, 0, 0, 0) else none) else (bif Nat.beq pc 90 then some (.aload_n 0, 91, 0, 0, 0) else none))) else (bif Nat.blt pc 95 then (bif Nat.blt pc 92 then (bif Nat.beq pc 91 then some (.iload_n 2, 92, 0, 0, 0) else none) else (bif Nat.beq pc 92 then some (.invokevirtual 225, 95, 0, 0, 0) else none)) else (bif Nat.blt pc 96 then (bif Nat.beq pc 95 then some (.aload_n 0, 96, 0, 0, 0) else none) else (bif Nat.beq pc 96 then some (.iload_n 2, 97, 0, 0, 0) else none)))) else (bif Nat.blt pc 106 then (bif Nat.blt pc 102 then (bif Nat.blt pc 100 then (bif Nat.beq pc 97 then some (.invokevirtual 229, 100, 0, 0, 0) else none) else (bif Nat.beq pc 100 then some (.istore 4, 102, 0, 0, 0) else none)) else (bif Nat.blt pc 105 then (bif Nat.beq pc 102 then some (.goto (-42), 105, 60, 0, 0) else none) else (bif Nat.beq pc 105 then some (.iload_n 3, 106, 0, 0, 0) else none))) else (bif Nat.blt pc 111 then (bif Nat.blt pc 109 then (bif Nat.beq pc 106 then some (.ifCond .ge 8, 109, 114, 0, 0) else none) else (bif Nat.beq pc 109 then some (.bipush (-2), 111, 0, (-2), 0) else none)) else (bif Nat.blt pc 114 then (bif Nat.beq pc 111 then some (.goto 4, 114, 115, 0, 0) else none) else (bif Nat.blt pc 115 then (bif Nat.beq pc 114 then some (.iload_n 3, 115, 0, 0, 0) else none) else (bif Nat.beq pc 115 then some (.ireturn, 116, 0, 0, 0) else none)))))))))
def tbX8_laid : Nat → Option mv_R := mv_lim 86 (fun pc => (bif Nat.blt pc 43 then (bif Nat.blt pc 24 then (bif Nat.blt pc 12 then (bif Nat.blt pc 7 then (bif Nat.blt pc 1 then (bif Nat.beq pc 0 then some (.aload_n 0, 1, 0, 0, 0) else none) else (bif Nat.blt pc 4 then (bif Nat.beq pc 1 then some (.getfield 215, 4, 0, 0, 0) else none) else (bif Nat.beq pc 4 then some (.ifCond .eq 20, 7, 24, 0, 0) else none))) else (bif Nat.blt pc 8 then (bif Nat.beq pc 7 then some (.aload_n 0, 8, 0, 0, 0) else none) else (bif Nat.blt pc 9 then (bif Nat.beq pc 8 then some (.iload_n 1, 9, 0, 0, 0) else none) else (bif Nat.beq pc 9 then some (.invokevirtual 200, 12, 0, 0, 0) else none)))) else (bif Nat.blt pc 17 then (bif Nat.blt pc 15 then (bif Nat.beq pc 12 then some (.ifCond .eq 12, 15, 24, 0, 0) else none) else (bif Nat.blt pc 16 then (bif Nat.beq pc 15 then some (.iload_n 2, 16, 0, 0, 0) else none) else (bif Nat.beq pc 16 then some (.iconst 0, 17, 0, 0, 0) else none))) else (bif Nat.blt pc 18 then (bif Nat.beq pc 17 then some (.iconst 3, 18, 0, 3, 0) else none) else (bif Nat.blt pc 21 then (bif Nat.beq pc 18 then some (.invokestatic 124, 21, 0, 0, 0) else none) else (bif Nat.beq pc 21 then some (.ifCond .ne 5, 24, 26, 0, 0) else none))))) else (bif Nat.blt pc 32 then (bif Nat.blt pc 27 then (bif Nat.blt pc 25 then (bif Nat.beq pc 24 then some (.iconst (-1), 25, 0, (-1), 0) else none) else (bif Nat.blt pc 26 then (bif Nat.beq pc 25 then some (.ireturn, 26, 0, 0, 0) else none) else (bif Nat.beq pc 26 then some (.aload_n 0, 27, 0, 0, 0) else none))) else (bif Nat.blt pc 30 then (bif Nat.beq pc 27 then some (.getfield 97, 30, 0, 0, 0) else none) else (bif Nat.blt pc 31 then (bif Nat.beq pc 30 then some (.iload_n 1, 31, 0, 0, 0) else none) else (bif Nat.beq pc 31 then some (.iaload, 32, 0, 0, 0) else none)))) else (bif Nat.blt pc 38 then (bif Nat.blt pc 35 then (bif Nat.beq pc 32 then some (.ifCond .ge 6, 35, 38, 0, 0) else none) else (bif Nat.blt pc 37 then (bif Nat.beq pc 35 then some (.bipush (-2), 37, 0, (-2), 0) else none) else (bif Nat.beq pc 37 then some (.ireturn, 38, 0, 0, 0) else none))) else (bif Nat.blt pc 39 then (bif Nat.beq pc 38 then some (.iload_n 2, 39, 0, 0, 0) else none) else (bif Nat.blt pc 42 then (bif Nat.beq pc 39 then some (.ifCond .ne 12, 42, 51, 0, 0) else none) else (bif Nat.beq pc 42 then some (.aload_n 0, 43, 0, 0, 0) else none)))))) else (bif Nat.blt pc 65 then (bif Nat.blt pc 53 then (bif Nat.blt pc 48 then (bif Nat.blt pc 46 then (bif Nat.beq pc 43 then some (.getfield 97, 46, 0, 0, 0) else none) else (bif Nat.blt pc 47 then (bif Nat.beq pc 46 then some (.iload_n 1, 47, 0, 0, 0) else none) else (bif Nat.beq pc 47 then some (.iaload, 48, 0, 0, 0) else none))) else (bif Nat.blt pc 51 then (bif Nat.beq pc 48 then some (.goto 37, 51, 85, 0, 0) else none) else (bif Nat.blt pc 52 then (bif Nat.beq pc 51 then some (.iload_n 2, 52, 0, 0, 0) else none) else (bif Nat.beq pc 52 then some (.iconst 1, 53, 0, 1, 0) else none)))) else (bif Nat.blt pc 60 then (bif Nat.blt pc 56 then (bif Nat.beq pc 53 then some (.if_icmp .ne 12, 56, 65, 0, 0) else none) else (bif Nat.blt pc 57 then (bif Nat.beq pc 56 then some (.aload_n 0, 57, 0, 0, 0) else none) else (bif Nat.beq pc 57 then some (.getfield 100, 60, 0, 0, 0) else none))) else (bif Nat.blt pc 61 then (bif Nat.beq pc 60 then some (.iload_n 1, 61, 0, 0, 0) else none) else (bif Nat.blt pc 62 then (bif Nat.beq pc 61 then some (.iaload, 62, 0, 0, 0) else none) else (bif Nat.beq pc 62 then some (.goto 23, 65, 85, 0, 0) else none))))) else (bif Nat.blt pc 75 then (bif Nat.blt pc 70 then (bif Nat.blt pc 66 then (bif Nat.beq pc 65 then some (.iload_n 2, 66, 0, 0, 0) else none) else (bif Nat.blt pc 67 then (bif Nat.beq pc 66 then some (.iconst 2, 67, 0, 2, 0) else none) else (bif Nat.beq pc 67 then some (.if_icmp .ne 12, 70, 79, 0, 0) else none))) else (bif Nat.blt pc 71 then (bif Nat.beq pc 70 then some (.aload_n 0, 71, 0, 0, 0) else none) else (bif Nat.blt pc 74 then (bif Nat.beq pc 71 then some (.getfield 103, 74, 0, 0, 0) else none) else (bif Nat.beq pc 74 then some (.iload_n 1, 75, 0, 0, 0) else none)))) else (bif Nat.blt pc 80 then (bif Nat.blt pc 76 then (bif Nat.beq pc 75 then some (.iaload, 76, 0, 0, 0) else none) else (bif Nat.blt pc 79 then (bif Nat.beq pc 76 then some (.goto 9, 79, 85, 0, 0) else none) else (bif Nat.beq pc 79 then some (.aload_n 0, 80, 0, 0, 0) else none))) else (bif Nat.blt pc 84 then (bif Nat.blt pc 83 then (bif Nat.beq pc 80 then some (.getfield 106, 83, 0, 0, 0) else none) else (bif Nat.beq pc 83 then some (.iload_n 1, 84, 0, 0, 0) else none)) else (bif Nat.blt pc 85 then (bif Nat.beq pc 84 then some (.iaload, 85, 0, 0, 0) else none) else (bif Nat.beq pc 85 then some (.ireturn, 86, 0, 0, 0) else none))))))))
def tbX8_count : Nat → Option mv_R := mv_lim 141 (fun pc => (bif Nat.blt pc 49 then (bif Nat.blt pc 22 then (bif Nat.blt pc 9 then (bif Nat.blt pc 3 then (bif Nat.blt pc 1 then (bif Nat.beq pc 0 then some (.iconst 0, 1, 0, 0, 0) else none) else (bif Nat.blt pc 2 then (bif Nat.beq pc 1 then some (.istore_n 2, 2, 0, 0, 0) else none) else (bif Nat.beq pc 2 then some (.iconst 0, 3, 0, 0, 0) else none))) else (bif Nat.blt pc 5 then (bif Nat.blt pc 4 then (bif Nat.beq pc 3 then some (.istore_n 3, 4, 0, 0, 0) else none) else (bif Nat.beq pc 4 then some (.iload_n 3, 5, 1, 0, 0) else none)) else (bif Nat.blt pc 6 then (bif Nat.beq pc 5 then some (.aload_n 0, 6, 0, 0, 0) else none) else (bif Nat.beq pc 6 then some (.getfield 128, 9, 0, 0, 0) else none)))) else (bif Nat.blt pc 14 then (bif Nat.blt pc 12 then (bif Nat.beq pc 9 then some (.if_icmp .ge 56, 12, 65, 0, 0) else none) else (bif Nat.blt pc 13 then (bif Nat.beq pc 12 then some (.iload_n 2, 13, 0, 0, 0) else none) else (bif Nat.beq pc 13 then some (.iload_n 1, 14, 0, 0, 0) else none))) else (bif Nat.blt pc 18 then (bif Nat.blt pc 15 then (bif Nat.beq pc 14 then some (.iconst 5, 15, 0, 5, 0) else none) else (bif Nat.beq pc 15 then some (.if_icmp .ne 12, 18, 27, 0, 0) else none)) else (bif Nat.blt pc 19 then (bif Nat.beq pc 18 then some (.aload_n 0, 19, 0, 0, 0) else none) else (bif Nat.beq pc 19 then some (.getfield 22, 22, 0, 0, 0) else none))))) else (bif Nat.blt pc 34 then (bif Nat.blt pc 27 then (bif Nat.blt pc 23 then (bif Nat.beq pc 22 then some (.iload_n 3, 23, 0, 0, 0) else none) else (bif Nat.blt pc 24 then (bif Nat.beq pc 23 then some (.iaload, 24, 0, 0, 0) else none) else (bif Nat.beq pc 24 then some (.goto 33, 27, 57, 0, 0) else none))) else (bif Nat.blt pc 30 then (bif Nat.blt pc 28 then (bif Nat.beq pc 27 then some (.iload_n 1, 28, 0, 0, 0) else none) else (bif Nat.beq pc 28 then some (.bipush 6, 30, 0, 6, 0) else none)) else (bif Nat.blt pc 33 then (bif Nat.beq pc 30 then some (.if_icmp .ne 12, 33, 42, 0, 0) else none) else (bif Nat.beq pc 33 then some (.aload_n 0, 34, 0, 0, 0) else none)))) else (bif Nat.blt pc 42 then (bif Nat.blt pc 38 then (bif Nat.blt pc 37 then (bif Nat.beq pc 34 then some (.getfield 25, 37, 0, 0, 0) else none) else (bif Nat.beq pc 37 then some (.iload_n 3, 38, 0, 0, 0) else none)) else (bif Nat.blt pc 39 then (bif Nat.beq pc 38 then some (.iaload, 39, 0, 0, 0) else none) else (bif Nat.beq pc 39 then some (.goto 18, 42, 57, 0, 0) else none))) else (bif Nat.blt pc 45 then (bif Nat.blt pc 43 then (bif Nat.beq pc 42 then some (.iload_n 1, 43, 0, 0, 0) else none) else (bif Nat.beq pc 43 then some (.bipush 7, 45, 0, 7, 0) else none)) else (bif Nat.blt pc 48 then (bif Nat.beq pc 45 then some (.if_icmp .ne 11, 48, 56, 0, 0) else none) else (bif Nat.beq pc 48 then some (.aload_n 0, 49, 0, 0, 0) else none)))))) else (bif Nat.blt pc 118 then (bif Nat.blt pc 62 then (bif Nat.blt pc 56 then (bif Nat.blt pc 50 then (bif Nat.beq pc 49 then some (.iload_n 3, 50, 0, 0, 0) else none) else (bif Nat.blt pc 53 then (bif Nat.beq pc 50 then some (.invokevirtual 141, 53, 0, 0, 0) else none) else (bif Nat.beq pc 53 then some (.goto 4, 56, 57, 0, 0) else none))) else (bif Nat.blt pc 58 then (bif Nat.blt pc 57 then (bif Nat.beq pc 56 then some (.iconst 0, 57, 0, 0, 0) else none) else (bif Nat.beq pc 57 then some (.iadd, 58, 0, 0, 0) else none)) else (bif Nat.blt pc 59 then (bif Nat.beq pc 58 then some (.istore_n 2, 59, 0, 0, 0) else none) else (bif Nat.beq pc 59 then some (.iinc 3 1, 62, 0, 1, 0) else none)))) else (bif Nat.blt pc 112 then (bif Nat.blt pc 65 then (bif Nat.beq pc 62 then some (.goto (-58), 65, 4, 0, 0) else none) else (bif Nat.blt pc 66 then (bif Nat.beq pc 65 then some (.iload_n 1, 66, 0, 0, 0) else none) else (bif Nat.beq pc 66 then some (.tableswitch 73 0 7 #[46, 51, 56, 61, 66, 71, 71, 71], 112, 139, 0, 0) else none))) else (bif Nat.blt pc 116 then (bif Nat.blt pc 113 then (bif Nat.beq pc 112 then some (.aload_n 0, 113, 0, 0, 0) else none) else (bif Nat.beq pc 113 then some (.getfield 121, 116, 0, 0, 0) else none)) else (bif Nat.blt pc 117 then (bif Nat.beq pc 116 then some (.ireturn, 117, 0, 0, 0) else none) else (bif Nat.beq pc 117 then some (.aload_n 0, 118, 0, 0, 0) else none))))) else (bif Nat.blt pc 131 then (bif Nat.blt pc 123 then (bif Nat.blt pc 121 then (bif Nat.beq pc 118 then some (.getfield 128, 121, 0, 0, 0) else none) else (bif Nat.blt pc 122 then (bif Nat.beq pc 121 then some (.ireturn, 122, 0, 0, 0) else none) else (bif Nat.beq pc 122 then some (.aload_n 0, 123, 0, 0, 0) else none))) else (bif Nat.blt pc 127 then (bif Nat.blt pc 126 then (bif Nat.beq pc 123 then some (.getfield 149, 126, 0, 0, 0) else none) else (bif Nat.beq pc 126 then some (.ireturn, 127, 0, 0, 0) else none)) else (bif Nat.blt pc 128 then (bif Nat.beq pc 127 then some (.aload_n 0, 128, 0, 0, 0) else none) else (bif Nat.beq pc 128 then some (.getfield 197, 131, 0, 0, 0) else none)))) else (bif Nat.blt pc 137 then (bif Nat.blt pc 133 then (bif Nat.blt pc 132 then (bif Nat.beq pc 131 then some (.ireturn, 132, 0, 0, 0) else none) else (bif Nat.beq pc 132 then some (.aload_n 0, 133, 0, 0, 0) else none)) else (bif Nat.blt pc 136 then (bif Nat.beq pc 133 then some (.getfield 131, 136, 0, 0, 0) else none) else (bif Nat.beq pc 136 then some (.ireturn, 137, 0, 0, 0) else none))) else (bif Nat.blt pc 139 then (bif Nat.blt pc 138 then (bif Nat.beq pc 137 then some (.iload_n 2, 138, 0, 0, 0) else none) else (bif Nat.beq pc 138 then some (.ireturn, 139, 0, 0, 0) else none)) else (bif Nat.blt pc 140 then (bif Nat.beq pc 139 then some (.iconst (-1), 140, 0, (-1), 0) else none) else (bif Nat.beq pc 140 then some (.ireturn, 141, 0, 0, 0) else none))))))))
def tbX8_isSheet : Nat → Option mv_R := mv_lim 7 (fun pc => (bif Nat.blt pc 2 then (bif Nat.blt pc 1 then (bif Nat.beq pc 0 then some (.iload_n 0, 1, 0, 0, 0) else none) else (bif Nat.beq pc 1 then some (.iconst 0, 2, 0, 0, 0) else none)) else (bif Nat.blt pc 3 then (bif Nat.beq pc 2 then some (.iconst 3, 3, 0, 3, 0) else none) else (bif Nat.blt pc 6 then (bif Nat.beq pc 3 then some (.invokestatic 124, 6, 0, 0, 0) else none) else (bif Nat.beq pc 6 then some (.ireturn, 7, 0, 0, 0) else none)))))
def tbX8_sheet : Nat → Option mv_R := mv_lim 76 (fun pc => (bif Nat.blt pc 38 then (bif Nat.blt pc 22 then (bif Nat.blt pc 9 then (bif Nat.blt pc 4 then (bif Nat.blt pc 1 then (bif Nat.beq pc 0 then some (.iload_n 1, 1, 0, 0, 0) else none) else (bif Nat.beq pc 1 then some (.invokestatic 232, 4, 0, 0, 0) else none)) else (bif Nat.blt pc 7 then (bif Nat.beq pc 4 then some (.ifCond .eq 18, 7, 22, 0, 0) else none) else (bif Nat.blt pc 8 then (bif Nat.beq pc 7 then some (.iload_n 2, 8, 0, 0, 0) else none) else (bif Nat.beq pc 8 then some (.iconst 0, 9, 0, 0, 0) else none)))) else (bif Nat.blt pc 16 then (bif Nat.blt pc 10 then (bif Nat.beq pc 9 then some (.iconst 2, 10, 0, 2, 0) else none) else (bif Nat.blt pc 13 then (bif Nat.beq pc 10 then some (.invokestatic 124, 13, 0, 0, 0) else none) else (bif Nat.beq pc 13 then some (.ifCond .eq 9, 16, 22, 0, 0) else none))) else (bif Nat.blt pc 17 then (bif Nat.beq pc 16 then some (.iload_n 3, 17, 0, 0, 0) else none) else (bif Nat.blt pc 19 then (bif Nat.beq pc 17 then some (.bipush 60, 19, 0, 60, 0) else none) else (bif Nat.beq pc 19 then some (.if_icmp .le 5, 22, 24, 0, 0) else none))))) else (bif Nat.blt pc 30 then (bif Nat.blt pc 24 then (bif Nat.blt pc 23 then (bif Nat.beq pc 22 then some (.iconst (-1), 23, 0, (-1), 0) else none) else (bif Nat.beq pc 23 then some (.ireturn, 24, 0, 0, 0) else none)) else (bif Nat.blt pc 25 then (bif Nat.beq pc 24 then some (.iload_n 3, 25, 0, 0, 0) else none) else (bif Nat.blt pc 28 then (bif Nat.beq pc 25 then some (.ifCond .ge 6, 28, 31, 0, 0) else none) else (bif Nat.beq pc 28 then some (.bipush (-14), 30, 0, (-14), 0) else none)))) else (bif Nat.blt pc 35 then (bif Nat.blt pc 31 then (bif Nat.beq pc 30 then some (.ireturn, 31, 0, 0, 0) else none) else (bif Nat.blt pc 32 then (bif Nat.beq pc 31 then some (.aload_n 0, 32, 0, 0, 0) else none) else (bif Nat.beq pc 32 then some (.getfield 109, 35, 0, 0, 0) else none))) else (bif Nat.blt pc 36 then (bif Nat.beq pc 35 then some (.iload_n 1, 36, 0, 0, 0) else none) else (bif Nat.blt pc 37 then (bif Nat.beq pc 36 then some (.iload_n 2, 37, 0, 0, 0) else none) else (bif Nat.beq pc 37 then some (.iastore, 38, 0, 0, 0) else none)))))) else (bif Nat.blt pc 56 then (bif Nat.blt pc 45 then (bif Nat.blt pc 42 then (bif Nat.blt pc 39 then (bif Nat.beq pc 38 then some (.aload_n 0, 39, 0, 0, 0) else none) else (bif Nat.beq pc 39 then some (.getfield 112, 42, 0, 0, 0) else none)) else (bif Nat.blt pc 43 then (bif Nat.beq pc 42 then some (.iload_n 1, 43, 0, 0, 0) else none) else (bif Nat.blt pc 44 then (bif Nat.beq pc 43 then some (.iload_n 3, 44, 0, 0, 0) else none) else (bif Nat.beq pc 44 then some (.iastore, 45, 0, 0, 0) else none)))) else (bif Nat.blt pc 50 then (bif Nat.blt pc 46 then (bif Nat.beq pc 45 then some (.iconst 0, 46, 0, 0, 0) else none) else (bif Nat.blt pc 48 then (bif Nat.beq pc 46 then some (.istore 4, 48, 0, 0, 0) else none) else (bif Nat.beq pc 48 then some (.iload 4, 50, 1, 0, 0) else none))) else (bif Nat.blt pc 52 then (bif Nat.beq pc 50 then some (.bipush 60, 52, 0, 60, 0) else none) else (bif Nat.blt pc 55 then (bif Nat.beq pc 52 then some (.if_icmp .ge 22, 55, 74, 0, 0) else none) else (bif Nat.beq pc 55 then some (.aload_n 0, 56, 0, 0, 0) else none))))) else (bif Nat.blt pc 66 then (bif Nat.blt pc 62 then (bif Nat.blt pc 59 then (bif Nat.beq pc 56 then some (.getfield 115, 59, 0, 0, 0) else none) else (bif Nat.blt pc 61 then (bif Nat.beq pc 59 then some (.bipush 60, 61, 0, 60, 0) else none) else (bif Nat.beq pc 61 then some (.iload_n 1, 62, 0, 0, 0) else none))) else (bif Nat.blt pc 63 then (bif Nat.beq pc 62 then some (.imul, 63, 0, 0, 0) else none) else (bif Nat.blt pc 65 then (bif Nat.beq pc 63 then some (.iload 4, 65, 0, 0, 0) else none) else (bif Nat.beq pc 65 then some (.iadd, 66, 0, 0, 0) else none)))) else (bif Nat.blt pc 71 then (bif Nat.blt pc 67 then (bif Nat.beq pc 66 then some (.iconst 0, 67, 0, 0, 0) else none) else (bif Nat.blt pc 68 then (bif Nat.beq pc 67 then some (.iastore, 68, 0, 0, 0) else none) else (bif Nat.beq pc 68 then some (.iinc 4 1, 71, 0, 1, 0) else none))) else (bif Nat.blt pc 74 then (bif Nat.beq pc 71 then some (.goto (-23), 74, 48, 0, 0) else none) else (bif Nat.blt pc 75 then (bif Nat.beq pc 74 then some (.iload_n 3, 75, 0, 0, 0) else none) else (bif Nat.beq pc 75 then some (.ireturn, 76, 0, 0, 0) else none))))))))
def tbX8_drop : Nat → Option mv_R := mv_lim 35 (fun pc => (bif Nat.blt pc 20 then (bif Nat.blt pc 9 then (bif Nat.blt pc 4 then (bif Nat.blt pc 1 then (bif Nat.beq pc 0 then some (.iload_n 1, 1, 0, 0, 0) else none) else (bif Nat.beq pc 1 then some (.invokestatic 232, 4, 0, 0, 0) else none)) else (bif Nat.blt pc 7 then (bif Nat.beq pc 4 then some (.ifCond .ne 5, 7, 9, 0, 0) else none) else (bif Nat.blt pc 8 then (bif Nat.beq pc 7 then some (.iconst (-1), 8, 0, (-1), 0) else none) else (bif Nat.beq pc 8 then some (.ireturn, 9, 0, 0, 0) else none)))) else (bif Nat.blt pc 14 then (bif Nat.blt pc 10 then (bif Nat.beq pc 9 then some (.aload_n 0, 10, 0, 0, 0) else none) else (bif Nat.blt pc 13 then (bif Nat.beq pc 10 then some (.getfield 109, 13, 0, 0, 0) else none) else (bif Nat.beq pc 13 then some (.iload_n 1, 14, 0, 0, 0) else none))) else (bif Nat.blt pc 15 then (bif Nat.beq pc 14 then some (.iaload, 15, 0, 0, 0) else none) else (bif Nat.blt pc 18 then (bif Nat.beq pc 15 then some (.ifCond .ge 6, 18, 21, 0, 0) else none) else (bif Nat.beq pc 18 then some (.bipush (-11), 20, 0, (-11), 0) else none))))) else (bif Nat.blt pc 27 then (bif Nat.blt pc 22 then (bif Nat.blt pc 21 then (bif Nat.beq pc 20 then some (.ireturn, 21, 0, 0, 0) else none) else (bif Nat.beq pc 21 then some (.aload_n 0, 22, 0, 0, 0) else none)) else (bif Nat.blt pc 25 then (bif Nat.beq pc 22 then some (.getfield 109, 25, 0, 0, 0) else none) else (bif Nat.blt pc 26 then (bif Nat.beq pc 25 then some (.iload_n 1, 26, 0, 0, 0) else none) else (bif Nat.beq pc 26 then some (.iconst (-1), 27, 0, (-1), 0) else none)))) else (bif Nat.blt pc 32 then (bif Nat.blt pc 28 then (bif Nat.beq pc 27 then some (.iastore, 28, 0, 0, 0) else none) else (bif Nat.blt pc 29 then (bif Nat.beq pc 28 then some (.aload_n 0, 29, 0, 0, 0) else none) else (bif Nat.beq pc 29 then some (.getfield 112, 32, 0, 0, 0) else none))) else (bif Nat.blt pc 33 then (bif Nat.beq pc 32 then some (.iload_n 1, 33, 0, 0, 0) else none) else (bif Nat.blt pc 34 then (bif Nat.beq pc 33 then some (.iaload, 34, 0, 0, 0) else none) else (bif Nat.beq pc 34 then some (.ireturn, 35, 0, 0, 0) else none)))))))
def tbX8_item : Nat → Option mv_R := mv_lim 98 (fun pc => (bif Nat.blt pc 49 then (bif Nat.blt pc 24 then (bif Nat.blt pc 13 then (bif Nat.blt pc 7 then (bif Nat.blt pc 1 then (bif Nat.beq pc 0 then some (.iload_n 1, 1, 0, 0, 0) else none) else (bif Nat.blt pc 4 then (bif Nat.beq pc 1 then some (.invokestatic 232, 4, 0, 0, 0) else none) else (bif Nat.beq pc 4 then some (.ifCond .eq 12, 7, 16, 0, 0) else none))) else (bif Nat.blt pc 9 then (bif Nat.blt pc 8 then (bif Nat.beq pc 7 then some (.iload_n 2, 8, 0, 0, 0) else none) else (bif Nat.beq pc 8 then some (.iconst 0, 9, 0, 0, 0) else none)) else (bif Nat.blt pc 10 then (bif Nat.beq pc 9 then some (.iconst 2, 10, 0, 2, 0) else none) else (bif Nat.beq pc 10 then some (.invokestatic 124, 13, 0, 0, 0) else none)))) else (bif Nat.blt pc 18 then (bif Nat.blt pc 16 then (bif Nat.beq pc 13 then some (.ifCond .ne 5, 16, 18, 0, 0) else none) else (bif Nat.blt pc 17 then (bif Nat.beq pc 16 then some (.iconst (-1), 17, 0, (-1), 0) else none) else (bif Nat.beq pc 17 then some (.ireturn, 18, 0, 0, 0) else none))) else (bif Nat.blt pc 22 then (bif Nat.blt pc 19 then (bif Nat.beq pc 18 then some (.aload_n 0, 19, 0, 0, 0) else none) else (bif Nat.beq pc 19 then some (.getfield 109, 22, 0, 0, 0) else none)) else (bif Nat.blt pc 23 then (bif Nat.beq pc 22 then some (.iload_n 1, 23, 0, 0, 0) else none) else (bif Nat.beq pc 23 then some (.iaload, 24, 0, 0, 0) else none))))) else (bif Nat.blt pc 36 then (bif Nat.blt pc 30 then (bif Nat.blt pc 27 then (bif Nat.beq pc 24 then some (.ifCond .ge 6, 27, 30, 0, 0) else none) else (bif Nat.blt pc 29 then (bif Nat.beq pc 27 then some (.bipush (-11), 29, 0, (-11), 0) else none) else (bif Nat.beq pc 29 then some (.ireturn, 30, 0, 0, 0) else none))) else (bif Nat.blt pc 34 then (bif Nat.blt pc 31 then (bif Nat.beq pc 30 then some (.aload_n 0, 31, 0, 0, 0) else none) else (bif Nat.beq pc 31 then some (.getfield 109, 34, 0, 0, 0) else none)) else (bif Nat.blt pc 35 then (bif Nat.beq pc 34 then some (.iload_n 1, 35, 0, 0, 0) else none) else (bif Nat.beq pc 35 then some (.iaload, 36, 0, 0, 0) else none)))) else (bif Nat.blt pc 43 then (bif Nat.blt pc 40 then (bif Nat.blt pc 37 then (bif Nat.beq pc 36 then some (.iload_n 2, 37, 0, 0, 0) else none) else (bif Nat.beq pc 37 then some (.if_icmp .eq 6, 40, 43, 0, 0) else none)) else (bif Nat.blt pc 42 then (bif Nat.beq pc 40 then some (.bipush (-12), 42, 0, (-12), 0) else none) else (bif Nat.beq pc 42 then some (.ireturn, 43, 0, 0, 0) else none))) else (bif Nat.blt pc 45 then (bif Nat.blt pc 44 then (bif Nat.beq pc 43 then some (.iload_n 3, 44, 0, 0, 0) else none) else (bif Nat.beq pc 44 then some (.iconst 0, 45, 0, 0, 0) else none)) else (bif Nat.blt pc 46 then (bif Nat.beq pc 45 then some (.aload_n 0, 46, 0, 0, 0) else none) else (bif Nat.beq pc 46 then some (.getfield 112, 49, 0, 0, 0) else none)))))) else (bif Nat.blt pc 72 then (bif Nat.blt pc 61 then (bif Nat.blt pc 52 then (bif Nat.blt pc 50 then (bif Nat.beq pc 49 then some (.iload_n 1, 50, 0, 0, 0) else none) else (bif Nat.blt pc 51 then (bif Nat.beq pc 50 then some (.iaload, 51, 0, 0, 0) else none) else (bif Nat.beq pc 51 then some (.iconst 1, 52, 0, 1, 0) else none))) else (bif Nat.blt pc 56 then (bif Nat.blt pc 53 then (bif Nat.beq pc 52 then some (.isub, 53, 0, 0, 0) else none) else (bif Nat.beq pc 53 then some (.invokestatic 124, 56, 0, 0, 0) else none)) else (bif Nat.blt pc 59 then (bif Nat.beq pc 56 then some (.ifCond .ne 6, 59, 62, 0, 0) else none) else (bif Nat.beq pc 59 then some (.bipush (-13), 61, 0, (-13), 0) else none)))) else (bif Nat.blt pc 68 then (bif Nat.blt pc 63 then (bif Nat.blt pc 62 then (bif Nat.beq pc 61 then some (.ireturn, 62, 0, 0, 0) else none) else (bif Nat.beq pc 62 then some (.aload_n 0, 63, 0, 0, 0) else none)) else (bif Nat.blt pc 66 then (bif Nat.beq pc 63 then some (.getfield 115, 66, 0, 0, 0) else none) else (bif Nat.beq pc 66 then some (.bipush 60, 68, 0, 60, 0) else none))) else (bif Nat.blt pc 70 then (bif Nat.blt pc 69 then (bif Nat.beq pc 68 then some (.iload_n 1, 69, 0, 0, 0) else none) else (bif Nat.beq pc 69 then some (.imul, 70, 0, 0, 0) else none)) else (bif Nat.blt pc 71 then (bif Nat.beq pc 70 then some (.iload_n 3, 71, 0, 0, 0) else none) else (bif Nat.beq pc 71 then some (.iadd, 72, 0, 0, 0) else none))))) else (bif Nat.blt pc 84 then (bif Nat.blt pc 78 then (bif Nat.blt pc 73 then (bif Nat.beq pc 72 then some (.iload_n 2, 73, 0, 0, 0) else none) else (bif Nat.blt pc 76 then (bif Nat.beq pc 73 then some (.ifCond .ne 9, 76, 82, 0, 0) else none) else (bif Nat.beq pc 76 then some (.iload 4, 78, 0, 0, 0) else none))) else (bif Nat.blt pc 82 then (bif Nat.blt pc 79 then (bif Nat.beq pc 78 then some (.i2b, 79, 0, 0, 0) else none) else (bif Nat.beq pc 79 then some (.goto 16, 82, 95, 0, 0) else none)) else (bif Nat.blt pc 83 then (bif Nat.beq pc 82 then some (.iload_n 2, 83, 0, 0, 0) else none) else (bif Nat.beq pc 83 then some (.iconst 1, 84, 0, 1, 0) else none)))) else (bif Nat.blt pc 93 then (bif Nat.blt pc 89 then (bif Nat.blt pc 87 then (bif Nat.beq pc 84 then some (.if_icmp .ne 9, 87, 93, 0, 0) else none) else (bif Nat.beq pc 87 then some (.iload 4, 89, 0, 0, 0) else none)) else (bif Nat.blt pc 90 then (bif Nat.beq pc 89 then some (.i2s, 90, 0, 0, 0) else none) else (bif Nat.beq pc 90 then some (.goto 5, 93, 95, 0, 0) else none))) else (bif Nat.blt pc 96 then (bif Nat.blt pc 95 then (bif Nat.beq pc 93 then some (.iload 4, 95, 0, 0, 0) else none) else (bif Nat.beq pc 95 then some (.iastore, 96, 0, 0, 0) else none)) else (bif Nat.blt pc 97 then (bif Nat.beq pc 96 then some (.iconst 1, 97, 0, 1, 0) else none) else (bif Nat.beq pc 97 then some (.ireturn, 98, 0, 0, 0) else none))))))))
def tbX8_isWithin : Nat → Option mv_R := mv_lim 26 (fun pc => (bif Nat.blt pc 13 then (bif Nat.blt pc 6 then (bif Nat.blt pc 4 then (bif Nat.blt pc 1 then (bif Nat.beq pc 0 then some (.iload_n 2, 1, 0, 0, 0) else none) else (bif Nat.beq pc 1 then some (.ifCond .lt 23, 4, 24, 0, 0) else none)) else (bif Nat.blt pc 5 then (bif Nat.beq pc 4 then some (.iload_n 2, 5, 0, 0, 0) else none) else (bif Nat.beq pc 5 then some (.i2l, 6, 0, 0, 0) else none))) else (bif Nat.blt pc 8 then (bif Nat.blt pc 7 then (bif Nat.beq pc 6 then some (.iload_n 3, 7, 0, 0, 0) else none) else (bif Nat.beq pc 7 then some (.i2l, 8, 0, 0, 0) else none)) else (bif Nat.blt pc 9 then (bif Nat.beq pc 8 then some (.ladd, 9, 0, 0, 0) else none) else (bif Nat.blt pc 10 then (bif Nat.beq pc 9 then some (.aload_n 0, 10, 0, 0, 0) else none) else (bif Nat.beq pc 10 then some (.getfield 112, 13, 0, 0, 0) else none))))) else (bif Nat.blt pc 17 then (bif Nat.blt pc 15 then (bif Nat.blt pc 14 then (bif Nat.beq pc 13 then some (.iload_n 1, 14, 0, 0, 0) else none) else (bif Nat.beq pc 14 then some (.iaload, 15, 0, 0, 0) else none)) else (bif Nat.blt pc 16 then (bif Nat.beq pc 15 then some (.i2l, 16, 0, 0, 0) else none) else (bif Nat.beq pc 16 then some (.lcmp, 17, 0, 0, 0) else none))) else (bif Nat.blt pc 21 then (bif Nat.blt pc 20 then (bif Nat.beq pc 17 then some (.ifCond .gt 7, 20, 24, 0, 0) else none) else (bif Nat.beq pc 20 then some (.iconst 1, 21, 0, 1, 0) else none)) else (bif Nat.blt pc 24 then (bif Nat.beq pc 21 then some (.goto 4, 24, 25, 0, 0) else none) else (bif Nat.blt pc 25 then (bif Nat.beq pc 24 then some (.iconst 0, 25, 0, 0, 0) else none) else (bif Nat.beq pc 25 then some (.ireturn, 26, 0, 0, 0) else none)))))))
def tbX8_copy : Nat → Option mv_R := mv_lim 164 (fun pc => (bif Nat.blt pc 83 then (bif Nat.blt pc 41 then (bif Nat.blt pc 21 then (bif Nat.blt pc 11 then (bif Nat.blt pc 4 then (bif Nat.blt pc 1 then (bif Nat.beq pc 0 then some (.iload_n 1, 1, 0, 0, 0) else none) else (bif Nat.beq pc 1 then some (.invokestatic 232, 4, 0, 0, 0) else none)) else (bif Nat.blt pc 7 then (bif Nat.beq pc 4 then some (.ifCond .eq 10, 7, 14, 0, 0) else none) else (bif Nat.blt pc 8 then (bif Nat.beq pc 7 then some (.iload_n 3, 8, 0, 0, 0) else none) else (bif Nat.beq pc 8 then some (.invokestatic 232, 11, 0, 0, 0) else none)))) else (bif Nat.blt pc 16 then (bif Nat.blt pc 14 then (bif Nat.beq pc 11 then some (.ifCond .ne 5, 14, 16, 0, 0) else none) else (bif Nat.blt pc 15 then (bif Nat.beq pc 14 then some (.iconst (-1), 15, 0, (-1), 0) else none) else (bif Nat.beq pc 15 then some (.ireturn, 16, 0, 0, 0) else none))) else (bif Nat.blt pc 17 then (bif Nat.beq pc 16 then some (.aload_n 0, 17, 0, 0, 0) else none) else (bif Nat.blt pc 20 then (bif Nat.beq pc 17 then some (.getfield 109, 20, 0, 0, 0) else none) else (bif Nat.beq pc 20 then some (.iload_n 1, 21, 0, 0, 0) else none))))) else (bif Nat.blt pc 30 then (bif Nat.blt pc 25 then (bif Nat.blt pc 22 then (bif Nat.beq pc 21 then some (.iaload, 22, 0, 0, 0) else none) else (bif Nat.beq pc 22 then some (.ifCond .lt 12, 25, 34, 0, 0) else none)) else (bif Nat.blt pc 26 then (bif Nat.beq pc 25 then some (.aload_n 0, 26, 0, 0, 0) else none) else (bif Nat.blt pc 29 then (bif Nat.beq pc 26 then some (.getfield 109, 29, 0, 0, 0) else none) else (bif Nat.beq pc 29 then some (.iload_n 3, 30, 0, 0, 0) else none)))) else (bif Nat.blt pc 36 then (bif Nat.blt pc 31 then (bif Nat.beq pc 30 then some (.iaload, 31, 0, 0, 0) else none) else (bif Nat.blt pc 34 then (bif Nat.beq pc 31 then some (.ifCond .ge 6, 34, 37, 0, 0) else none) else (bif Nat.beq pc 34 then some (.bipush (-11), 36, 0, (-11), 0) else none))) else (bif Nat.blt pc 37 then (bif Nat.beq pc 36 then some (.ireturn, 37, 0, 0, 0) else none) else (bif Nat.blt pc 38 then (bif Nat.beq pc 37 then some (.aload_n 0, 38, 0, 0, 0) else none) else (bif Nat.beq pc 38 then some (.getfield 109, 41, 0, 0, 0) else none)))))) else (bif Nat.blt pc 60 then (bif Nat.blt pc 48 then (bif Nat.blt pc 43 then (bif Nat.blt pc 42 then (bif Nat.beq pc 41 then some (.iload_n 1, 42, 0, 0, 0) else none) else (bif Nat.beq pc 42 then some (.iaload, 43, 0, 0, 0) else none)) else (bif Nat.blt pc 44 then (bif Nat.beq pc 43 then some (.aload_n 0, 44, 0, 0, 0) else none) else (bif Nat.blt pc 47 then (bif Nat.beq pc 44 then some (.getfield 109, 47, 0, 0, 0) else none) else (bif Nat.beq pc 47 then some (.iload_n 3, 48, 0, 0, 0) else none)))) else (bif Nat.blt pc 54 then (bif Nat.blt pc 49 then (bif Nat.beq pc 48 then some (.iaload, 49, 0, 0, 0) else none) else (bif Nat.blt pc 52 then (bif Nat.beq pc 49 then some (.if_icmp .eq 6, 52, 55, 0, 0) else none) else (bif Nat.beq pc 52 then some (.bipush (-12), 54, 0, (-12), 0) else none))) else (bif Nat.blt pc 55 then (bif Nat.beq pc 54 then some (.ireturn, 55, 0, 0, 0) else none) else (bif Nat.blt pc 57 then (bif Nat.beq pc 55 then some (.iload 5, 57, 0, 0, 0) else none) else (bif Nat.beq pc 57 then some (.ifCond .lt 26, 60, 83, 0, 0) else none))))) else (bif Nat.blt pc 71 then (bif Nat.blt pc 63 then (bif Nat.blt pc 61 then (bif Nat.beq pc 60 then some (.aload_n 0, 61, 0, 0, 0) else none) else (bif Nat.blt pc 62 then (bif Nat.beq pc 61 then some (.iload_n 1, 62, 0, 0, 0) else none) else (bif Nat.beq pc 62 then some (.iload_n 2, 63, 0, 0, 0) else none))) else (bif Nat.blt pc 65 then (bif Nat.beq pc 63 then some (.iload 5, 65, 0, 0, 0) else none) else (bif Nat.blt pc 68 then (bif Nat.beq pc 65 then some (.invokevirtual 235, 68, 0, 0, 0) else none) else (bif Nat.beq pc 68 then some (.ifCond .eq 15, 71, 83, 0, 0) else none)))) else (bif Nat.blt pc 75 then (bif Nat.blt pc 72 then (bif Nat.beq pc 71 then some (.aload_n 0, 72, 0, 0, 0) else none) else (bif Nat.blt pc 73 then (bif Nat.beq pc 72 then some (.iload_n 3, 73, 0, 0, 0) else none) else (bif Nat.beq pc 73 then some (.iload 4, 75, 0, 0, 0) else none))) else (bif Nat.blt pc 77 then (bif Nat.beq pc 75 then some (.iload 5, 77, 0, 0, 0) else none) else (bif Nat.blt pc 80 then (bif Nat.beq pc 77 then some (.invokevirtual 235, 80, 0, 0, 0) else none) else (bif Nat.beq pc 80 then some (.ifCond .ne 6, 83, 86, 0, 0) else none))))))) else (bif Nat.blt pc 123 then (bif Nat.blt pc 103 then (bif Nat.blt pc 91 then (bif Nat.blt pc 86 then (bif Nat.blt pc 85 then (bif Nat.beq pc 83 then some (.bipush (-13), 85, 0, (-13), 0) else none) else (bif Nat.beq pc 85 then some (.ireturn, 86, 0, 0, 0) else none)) else (bif Nat.blt pc 87 then (bif Nat.beq pc 86 then some (.iconst 0, 87, 0, 0, 0) else none) else (bif Nat.blt pc 89 then (bif Nat.beq pc 87 then some (.istore 6, 89, 0, 0, 0) else none) else (bif Nat.beq pc 89 then some (.iload 6, 91, 1, 0, 0) else none)))) else (bif Nat.blt pc 97 then (bif Nat.blt pc 93 then (bif Nat.beq pc 91 then some (.iload 5, 93, 0, 0, 0) else none) else (bif Nat.blt pc 96 then (bif Nat.beq pc 93 then some (.if_icmp .ge 30, 96, 123, 0, 0) else none) else (bif Nat.beq pc 96 then some (.aload_n 0, 97, 0, 0, 0) else none))) else (bif Nat.blt pc 100 then (bif Nat.beq pc 97 then some (.getfield 118, 100, 0, 0, 0) else none) else (bif Nat.blt pc 102 then (bif Nat.beq pc 100 then some (.iload 6, 102, 0, 0, 0) else none) else (bif Nat.beq pc 102 then some (.aload_n 0, 103, 0, 0, 0) else none))))) else (bif Nat.blt pc 112 then (bif Nat.blt pc 109 then (bif Nat.blt pc 106 then (bif Nat.beq pc 103 then some (.getfield 115, 106, 0, 0, 0) else none) else (bif Nat.blt pc 108 then (bif Nat.beq pc 106 then some (.bipush 60, 108, 0, 60, 0) else none) else (bif Nat.beq pc 108 then some (.iload_n 1, 109, 0, 0, 0) else none))) else (bif Nat.blt pc 110 then (bif Nat.beq pc 109 then some (.imul, 110, 0, 0, 0) else none) else (bif Nat.blt pc 111 then (bif Nat.beq pc 110 then some (.iload_n 2, 111, 0, 0, 0) else none) else (bif Nat.beq pc 111 then some (.iadd, 112, 0, 0, 0) else none)))) else (bif Nat.blt pc 116 then (bif Nat.blt pc 114 then (bif Nat.beq pc 112 then some (.iload 6, 114, 0, 0, 0) else none) else (bif Nat.blt pc 115 then (bif Nat.beq pc 114 then some (.iadd, 115, 0, 0, 0) else none) else (bif Nat.beq pc 115 then some (.iaload, 116, 0, 0, 0) else none))) else (bif Nat.blt pc 117 then (bif Nat.beq pc 116 then some (.iastore, 117, 0, 0, 0) else none) else (bif Nat.blt pc 120 then (bif Nat.beq pc 117 then some (.iinc 6 1, 120, 0, 1, 0) else none) else (bif Nat.beq pc 120 then some (.goto (-31), 123, 89, 0, 0) else none)))))) else (bif Nat.blt pc 143 then (bif Nat.blt pc 133 then (bif Nat.blt pc 126 then (bif Nat.blt pc 124 then (bif Nat.beq pc 123 then some (.iconst 0, 124, 0, 0, 0) else none) else (bif Nat.beq pc 124 then some (.istore 6, 126, 0, 0, 0) else none)) else (bif Nat.blt pc 128 then (bif Nat.beq pc 126 then some (.iload 6, 128, 1, 0, 0) else none) else (bif Nat.blt pc 130 then (bif Nat.beq pc 128 then some (.iload 5, 130, 0, 0, 0) else none) else (bif Nat.beq pc 130 then some (.if_icmp .ge 31, 133, 161, 0, 0) else none)))) else (bif Nat.blt pc 139 then (bif Nat.blt pc 134 then (bif Nat.beq pc 133 then some (.aload_n 0, 134, 0, 0, 0) else none) else (bif Nat.blt pc 137 then (bif Nat.beq pc 134 then some (.getfield 115, 137, 0, 0, 0) else none) else (bif Nat.beq pc 137 then some (.bipush 60, 139, 0, 60, 0) else none))) else (bif Nat.blt pc 140 then (bif Nat.beq pc 139 then some (.iload_n 3, 140, 0, 0, 0) else none) else (bif Nat.blt pc 141 then (bif Nat.beq pc 140 then some (.imul, 141, 0, 0, 0) else none) else (bif Nat.beq pc 141 then some (.iload 4, 143, 0, 0, 0) else none))))) else (bif Nat.blt pc 153 then (bif Nat.blt pc 147 then (bif Nat.blt pc 144 then (bif Nat.beq pc 143 then some (.iadd, 144, 0, 0, 0) else none) else (bif Nat.blt pc 146 then (bif Nat.beq pc 144 then some (.iload 6, 146, 0, 0, 0) else none) else (bif Nat.beq pc 146 then some (.iadd, 147, 0, 0, 0) else none))) else (bif Nat.blt pc 148 then (bif Nat.beq pc 147 then some (.aload_n 0, 148, 0, 0, 0) else none) else (bif Nat.blt pc 151 then (bif Nat.beq pc 148 then some (.getfield 118, 151, 0, 0, 0) else none) else (bif Nat.beq pc 151 then some (.iload 6, 153, 0, 0, 0) else none)))) else (bif Nat.blt pc 158 then (bif Nat.blt pc 154 then (bif Nat.beq pc 153 then some (.iaload, 154, 0, 0, 0) else none) else (bif Nat.blt pc 155 then (bif Nat.beq pc 154 then some (.iastore, 155, 0, 0, 0) else none) else (bif Nat.beq pc 155 then some (.iinc 6 1, 158, 0, 1, 0) else none))) else (bif Nat.blt pc 161 then (bif Nat.beq pc 158 then some (.goto (-32), 161, 126, 0, 0) else none) else (bif Nat.blt pc 163 then (bif Nat.beq pc 161 then some (.iload 5, 163, 0, 0, 0) else none) else (bif Nat.beq pc 163 then some (.ireturn, 164, 0, 0, 0) else none)))))))))
def tbX8_surf : Nat → Option mv_R := mv_lim 177 (fun pc => (bif Nat.blt pc 87 then (bif Nat.blt pc 46 then (bif Nat.blt pc 23 then (bif Nat.blt pc 11 then (bif Nat.blt pc 4 then (bif Nat.blt pc 1 then (bif Nat.beq pc 0 then some (.iload_n 1, 1, 0, 0, 0) else none) else (bif Nat.blt pc 2 then (bif Nat.beq pc 1 then some (.iconst 0, 2, 0, 0, 0) else none) else (bif Nat.beq pc 2 then some (.bipush 59, 4, 0, 59, 0) else none))) else (bif Nat.blt pc 7 then (bif Nat.beq pc 4 then some (.invokestatic 124, 7, 0, 0, 0) else none) else (bif Nat.blt pc 10 then (bif Nat.beq pc 7 then some (.ifCond .eq 33, 10, 40, 0, 0) else none) else (bif Nat.beq pc 10 then some (.iload_n 2, 11, 0, 0, 0) else none)))) else (bif Nat.blt pc 18 then (bif Nat.blt pc 14 then (bif Nat.beq pc 11 then some (.invokestatic 232, 14, 0, 0, 0) else none) else (bif Nat.blt pc 17 then (bif Nat.beq pc 14 then some (.ifCond .eq 26, 17, 40, 0, 0) else none) else (bif Nat.beq pc 17 then some (.iload_n 3, 18, 0, 0, 0) else none))) else (bif Nat.blt pc 19 then (bif Nat.beq pc 18 then some (.iconst 0, 19, 0, 0, 0) else none) else (bif Nat.blt pc 20 then (bif Nat.beq pc 19 then some (.iconst 2, 20, 0, 2, 0) else none) else (bif Nat.beq pc 20 then some (.invokestatic 124, 23, 0, 0, 0) else none))))) else (bif Nat.blt pc 36 then (bif Nat.blt pc 31 then (bif Nat.blt pc 26 then (bif Nat.beq pc 23 then some (.ifCond .eq 17, 26, 40, 0, 0) else none) else (bif Nat.blt pc 28 then (bif Nat.beq pc 26 then some (.iload 5, 28, 0, 0, 0) else none) else (bif Nat.beq pc 28 then some (.ifCond .lt 12, 31, 40, 0, 0) else none))) else (bif Nat.blt pc 33 then (bif Nat.beq pc 31 then some (.iload 5, 33, 0, 0, 0) else none) else (bif Nat.blt pc 35 then (bif Nat.beq pc 33 then some (.bipush 60, 35, 0, 60, 0) else none) else (bif Nat.beq pc 35 then some (.iload_n 1, 36, 0, 0, 0) else none)))) else (bif Nat.blt pc 41 then (bif Nat.blt pc 37 then (bif Nat.beq pc 36 then some (.isub, 37, 0, 0, 0) else none) else (bif Nat.blt pc 40 then (bif Nat.beq pc 37 then some (.if_icmp .le 5, 40, 42, 0, 0) else none) else (bif Nat.beq pc 40 then some (.iconst (-1), 41, 0, (-1), 0) else none))) else (bif Nat.blt pc 42 then (bif Nat.beq pc 41 then some (.ireturn, 42, 0, 0, 0) else none) else (bif Nat.blt pc 43 then (bif Nat.beq pc 42 then some (.aload_n 0, 43, 0, 0, 0) else none) else (bif Nat.beq pc 43 then some (.getfield 109, 46, 0, 0, 0) else none)))))) else (bif Nat.blt pc 66 then (bif Nat.blt pc 55 then (bif Nat.blt pc 51 then (bif Nat.blt pc 47 then (bif Nat.beq pc 46 then some (.iload_n 2, 47, 0, 0, 0) else none) else (bif Nat.blt pc 48 then (bif Nat.beq pc 47 then some (.iaload, 48, 0, 0, 0) else none) else (bif Nat.beq pc 48 then some (.ifCond .ge 6, 51, 54, 0, 0) else none))) else (bif Nat.blt pc 53 then (bif Nat.beq pc 51 then some (.bipush (-11), 53, 0, (-11), 0) else none) else (bif Nat.blt pc 54 then (bif Nat.beq pc 53 then some (.ireturn, 54, 0, 0, 0) else none) else (bif Nat.beq pc 54 then some (.aload_n 0, 55, 0, 0, 0) else none)))) else (bif Nat.blt pc 60 then (bif Nat.blt pc 58 then (bif Nat.beq pc 55 then some (.getfield 109, 58, 0, 0, 0) else none) else (bif Nat.blt pc 59 then (bif Nat.beq pc 58 then some (.iload_n 2, 59, 0, 0, 0) else none) else (bif Nat.beq pc 59 then some (.iaload, 60, 0, 0, 0) else none))) else (bif Nat.blt pc 61 then (bif Nat.beq pc 60 then some (.iload_n 3, 61, 0, 0, 0) else none) else (bif Nat.blt pc 64 then (bif Nat.beq pc 61 then some (.if_icmp .eq 6, 64, 67, 0, 0) else none) else (bif Nat.beq pc 64 then some (.bipush (-12), 66, 0, (-12), 0) else none))))) else (bif Nat.blt pc 76 then (bif Nat.blt pc 69 then (bif Nat.blt pc 67 then (bif Nat.beq pc 66 then some (.ireturn, 67, 0, 0, 0) else none) else (bif Nat.blt pc 68 then (bif Nat.beq pc 67 then some (.aload_n 0, 68, 0, 0, 0) else none) else (bif Nat.beq pc 68 then some (.iload_n 2, 69, 0, 0, 0) else none))) else (bif Nat.blt pc 71 then (bif Nat.beq pc 69 then some (.iload 4, 71, 0, 0, 0) else none) else (bif Nat.blt pc 73 then (bif Nat.beq pc 71 then some (.iload 5, 73, 0, 0, 0) else none) else (bif Nat.beq pc 73 then some (.invokevirtual 235, 76, 0, 0, 0) else none)))) else (bif Nat.blt pc 82 then (bif Nat.blt pc 79 then (bif Nat.beq pc 76 then some (.ifCond .ne 6, 79, 82, 0, 0) else none) else (bif Nat.blt pc 81 then (bif Nat.beq pc 79 then some (.bipush (-13), 81, 0, (-13), 0) else none) else (bif Nat.beq pc 81 then some (.ireturn, 82, 0, 0, 0) else none))) else (bif Nat.blt pc 83 then (bif Nat.beq pc 82 then some (.iconst 0, 83, 0, 0, 0) else none) else (bif Nat.blt pc 85 then (bif Nat.beq pc 83 then some (.istore 6, 85, 0, 0, 0) else none) else (bif Nat.beq pc 85 then some (.iload 6, 87, 1, 0, 0) else none))))))) else (bif Nat.blt pc 132 then (bif Nat.blt pc 107 then (bif Nat.blt pc 99 then (bif Nat.blt pc 93 then (bif Nat.blt pc 89 then (bif Nat.beq pc 87 then some (.iload 5, 89, 0, 0, 0) else none) else (bif Nat.blt pc 92 then (bif Nat.beq pc 89 then some (.if_icmp .ge 32, 92, 121, 0, 0) else none) else (bif Nat.beq pc 92 then some (.aload_n 0, 93, 0, 0, 0) else none))) else (bif Nat.blt pc 96 then (bif Nat.beq pc 93 then some (.getfield 115, 96, 0, 0, 0) else none) else (bif Nat.blt pc 98 then (bif Nat.beq pc 96 then some (.bipush 60, 98, 0, 60, 0) else none) else (bif Nat.beq pc 98 then some (.iload_n 2, 99, 0, 0, 0) else none)))) else (bif Nat.blt pc 103 then (bif Nat.blt pc 100 then (bif Nat.beq pc 99 then some (.imul, 100, 0, 0, 0) else none) else (bif Nat.blt pc 102 then (bif Nat.beq pc 100 then some (.iload 4, 102, 0, 0, 0) else none) else (bif Nat.beq pc 102 then some (.iadd, 103, 0, 0, 0) else none))) else (bif Nat.blt pc 105 then (bif Nat.beq pc 103 then some (.iload 6, 105, 0, 0, 0) else none) else (bif Nat.blt pc 106 then (bif Nat.beq pc 105 then some (.iadd, 106, 0, 0, 0) else none) else (bif Nat.beq pc 106 then some (.iaload, 107, 0, 0, 0) else none))))) else (bif Nat.blt pc 121 then (bif Nat.blt pc 114 then (bif Nat.blt pc 109 then (bif Nat.beq pc 107 then some (.bipush 9, 109, 0, 9, 0) else none) else (bif Nat.blt pc 112 then (bif Nat.beq pc 109 then some (.if_icmp .le 6, 112, 115, 0, 0) else none) else (bif Nat.beq pc 112 then some (.bipush (-2), 114, 0, (-2), 0) else none))) else (bif Nat.blt pc 115 then (bif Nat.beq pc 114 then some (.ireturn, 115, 0, 0, 0) else none) else (bif Nat.blt pc 118 then (bif Nat.beq pc 115 then some (.iinc 6 1, 118, 0, 1, 0) else none) else (bif Nat.beq pc 118 then some (.goto (-33), 121, 85, 0, 0) else none)))) else (bif Nat.blt pc 126 then (bif Nat.blt pc 122 then (bif Nat.beq pc 121 then some (.iconst 0, 122, 0, 0, 0) else none) else (bif Nat.blt pc 124 then (bif Nat.beq pc 122 then some (.istore 6, 124, 0, 0, 0) else none) else (bif Nat.beq pc 124 then some (.iload 6, 126, 1, 0, 0) else none))) else (bif Nat.blt pc 128 then (bif Nat.beq pc 126 then some (.iload 5, 128, 0, 0, 0) else none) else (bif Nat.blt pc 131 then (bif Nat.beq pc 128 then some (.if_icmp .ge 46, 131, 174, 0, 0) else none) else (bif Nat.beq pc 131 then some (.aload_n 0, 132, 0, 0, 0) else none)))))) else (bif Nat.blt pc 152 then (bif Nat.blt pc 142 then (bif Nat.blt pc 138 then (bif Nat.blt pc 135 then (bif Nat.beq pc 132 then some (.getfield 115, 135, 0, 0, 0) else none) else (bif Nat.blt pc 137 then (bif Nat.beq pc 135 then some (.bipush 60, 137, 0, 60, 0) else none) else (bif Nat.beq pc 137 then some (.iload_n 2, 138, 0, 0, 0) else none))) else (bif Nat.blt pc 139 then (bif Nat.beq pc 138 then some (.imul, 139, 0, 0, 0) else none) else (bif Nat.blt pc 141 then (bif Nat.beq pc 139 then some (.iload 4, 141, 0, 0, 0) else none) else (bif Nat.beq pc 141 then some (.iadd, 142, 0, 0, 0) else none)))) else (bif Nat.blt pc 146 then (bif Nat.blt pc 144 then (bif Nat.beq pc 142 then some (.iload 6, 144, 0, 0, 0) else none) else (bif Nat.blt pc 145 then (bif Nat.beq pc 144 then some (.iadd, 145, 0, 0, 0) else none) else (bif Nat.beq pc 145 then some (.iaload, 146, 0, 0, 0) else none))) else (bif Nat.blt pc 148 then (bif Nat.beq pc 146 then some (.istore 7, 148, 0, 0, 0) else none) else (bif Nat.blt pc 149 then (bif Nat.beq pc 148 then some (.aload_n 0, 149, 0, 0, 0) else none) else (bif Nat.beq pc 149 then some (.getfield 78, 152, 0, 0, 0) else none))))) else (bif Nat.blt pc 162 then (bif Nat.blt pc 156 then (bif Nat.blt pc 153 then (bif Nat.beq pc 152 then some (.iload_n 1, 153, 0, 0, 0) else none) else (bif Nat.blt pc 155 then (bif Nat.beq pc 153 then some (.iload 6, 155, 0, 0, 0) else none) else (bif Nat.beq pc 155 then some (.iadd, 156, 0, 0, 0) else none))) else (bif Nat.blt pc 158 then (bif Nat.beq pc 156 then some (.iload 7, 158, 0, 0, 0) else none) else (bif Nat.blt pc 161 then (bif Nat.beq pc 158 then some (.ifCond .ge 7, 161, 165, 0, 0) else none) else (bif Nat.beq pc 161 then some (.iconst (-1), 162, 0, (-1), 0) else none)))) else (bif Nat.blt pc 168 then (bif Nat.blt pc 165 then (bif Nat.beq pc 162 then some (.goto 5, 165, 167, 0, 0) else none) else (bif Nat.blt pc 167 then (bif Nat.beq pc 165 then some (.iload 7, 167, 0, 0, 0) else none) else (bif Nat.beq pc 167 then some (.iastore, 168, 0, 0, 0) else none))) else (bif Nat.blt pc 174 then (bif Nat.blt pc 171 then (bif Nat.beq pc 168 then some (.iinc 6 1, 171, 0, 1, 0) else none) else (bif Nat.beq pc 171 then some (.goto (-47), 174, 124, 0, 0) else none)) else (bif Nat.blt pc 176 then (bif Nat.beq pc 174 then some (.iload 5, 176, 0, 0, 0) else none) else (bif Nat.beq pc 176 then some (.ireturn, 177, 0, 0, 0) else none)))))))))
def flJ6 : Nat → Option (Nat × Nat) := mv_lk []
def csJ6 : Nat → Option (Nat × Nat × Nat) := mv_lk []
def flJ7 : Nat → Option (Nat × Nat) := mv_lk []
def csJ7 : Nat → Option (Nat × Nat × Nat) := mv_lk []
def flX0 : Nat → Option (Nat × Nat) := mv_lk [(9, (0, 0)), (15, (0, 1)), (18, (0, 2)), (21, (0, 3)), (24, (0, 4)), (27, (0, 5)), (30, (0, 6)), (33, (0, 7))]
def csX0 : Nat → Option (Nat × Nat × Nat) := mv_lk [(37, (3, 3, 0)), (41, (1000, 2, 100))]
def flX1 : Nat → Option (Nat × Nat) := mv_lk [(9, (1, 0)), (15, (1, 1)), (18, (1, 2)), (21, (1, 3)), (24, (1, 4)), (27, (1, 5)), (30, (1, 6))]
def csX1 : Nat → Option (Nat × Nat × Nat) := mv_lk []
def flX2 : Nat → Option (Nat × Nat) := mv_lk [(9, (2, 0)), (15, (2, 1)), (18, (2, 2)), (21, (2, 3)), (24, (2, 5)), (27, (2, 6)), (36, (2, 7)), (60, (0, 7)), (84, (2, 4))]
def csX2 : Nat → Option (Nat × Nat × Nat) := mv_lk [(30, (14, 1, 4)), (40, (16, 7, 2)), (44, (17, 1, 100)), (50, (19, 4, 2)), (54, (1002, 5, 100)), (65, (5, 3, 0)), (69, (6, 2, 0)), (72, (15, 3, 4)), (75, (7, 3, 0)), (78, (18, 2, 100))]
def flX3 : Nat → Option (Nat × Nat) := mv_lk [(9, (3, 0)), (15, (3, 1)), (18, (3, 4)), (21, (3, 5)), (24, (3, 6)), (27, (3, 7)), (30, (3, 8)), (33, (3, 10)), (36, (3, 11)), (39, (3, 12)), (43, (3, 2)), (47, (3, 9)), (60, (3, 3))]
def csX3 : Nat → Option (Nat × Nat × Nat) := mv_lk [(50, (30, 4, 3)), (54, (18, 2, 100)), (63, (27, 2, 3)), (67, (28, 4, 3)), (71, (29, 4, 3)), (74, (25, 1, 3)), (78, (26, 2, 3))]
def flX4 : Nat → Option (Nat × Nat) := mv_lk [(9, (4, 0)), (15, (4, 1)), (19, (4, 2)), (22, (4, 3)), (31, (4, 4)), (38, (4, 5))]
def csX4 : Nat → Option (Nat × Nat × Nat) := mv_lk [(25, (18, 2, 100)), (34, (13, 2, 4))]
def flX5 : Nat → Option (Nat × Nat) := mv_lk [(9, (5, 0)), (15, (5, 1)), (25, (5, 2))]
def csX5 : Nat → Option (Nat × Nat × Nat) := mv_lk [(19, (18, 2, 100)), (28, (32, 1, 5)), (32, (34, 3, 5))]
def flX6 : Nat → Option (Nat × Nat) := mv_lk [(9, (6, 0)), (15, (6, 1)), (27, (6, 2)), (37, (6, 3))]
def csX6 : Nat → Option (Nat × Nat × Nat) := mv_lk [(19, (38, 2, 100)), (31, (18, 2, 100)), (40, (45, 2, 6)), (44, (42, 1, 6)), (47, (44, 2, 6)), (51, (43, 3, 6)), (56, (1001, 2, 100)), (23, (39, 3, 101))]
def flX7 : Nat → Option (Nat × Nat) := mv_lk [(10, (7, 0)), (19, (7, 1)), (26, (7, 2)), (33, (7, 3)), (40, (7, 4)), (47, (7, 5)), (53, (7, 6)), (66, (7, 7)), (81, (1, 3)), (89, (1, 0)), (92, (1, 1)), (95, (1, 4)), (98, (1, 5)), (101, (1, 2)), (105, (3, 3)), (144, (3, 2)), (149, (6, 2)), (152, (6, 0)), (171, (3, 1)), (177, (0, 5)), (183, (1, 6)), (198, (5, 0)), (201, (4, 0)), (213, (4, 1)), (216, (0, 7)), (221, (2, 4)), (225, (2, 0)), (228, (2, 1)), (231, (2, 2)), (234, (2, 3)), (237, (3, 9)), (251, (5, 1)), (254, (5, 2))]
def csX7 : Nat → Option (Nat × Nat × Nat) := mv_lk [(58, (39, 3, 100)), (62, (22, 2, 3)), (70, (21, 2, 3)), (74, (9, 5, 1)), (78, (8, 2, 1)), (85, (10, 3, 1)), (109, (31, 3, 3)), (113, (23, 6, 3)), (117, (54, 1, 100)), (120, (56, 4, 7)), (123, (28, 4, 3)), (127, (30, 4, 3)), (131, (1000, 2, 100)), (136, (40, 2, 100)), (140, (41, 3, 6)), (146, (46, 2, 6)), (155, (24, 2, 3)), (159, (62, 1, 100)), (162, (1, 6, 0)), (164, (0, 2, 0)), (165, (2, 2, 0)), (168, (11, 3, 1)), (174, (4, 4, 0)), (180, (3, 3, 0)), (186, (67, 1, 100)), (189, (68, 1, 100)), (192, (35, 4, 5)), (195, (36, 4, 5)), (204, (1002, 5, 100)), (210, (13, 2, 4)), (217, (20, 4, 2)), (240, (12, 2, 1)), (244, (33, 3, 5)), (247, (32, 1, 5)), (255, (37, 3, 5)), (258, (34, 3, 5))]
def flX8 : Nat → Option (Nat × Nat) := mv_lk [(7, (8, 1)), (13, (8, 2)), (16, (8, 5)), (19, (8, 6)), (22, (8, 7)), (25, (8, 8)), (28, (8, 9)), (31, (8, 12)), (34, (8, 13)), (37, (8, 14)), (40, (8, 15)), (43, (8, 16)), (46, (8, 17)), (50, (8, 18)), (54, (8, 19)), (57, (8, 23)), (60, (8, 25)), (63, (8, 26)), (66, (8, 27)), (69, (8, 28)), (72, (8, 29)), (75, (8, 30)), (78, (8, 31)), (81, (8, 32)), (85, (8, 33)), (88, (8, 34)), (91, (8, 35)), (94, (8, 36)), (97, (8, 38)), (100, (8, 39)), (103, (8, 40)), (106, (8, 41)), (109, (8, 42)), (112, (8, 43)), (115, (8, 44)), (118, (8, 45)), (121, (8, 0)), (128, (8, 4)), (131, (8, 3)), (146, (8, 10)), (149, (8, 11)), (177, (8, 20)), (180, (8, 21)), (187, (8, 22)), (197, (8, 24)), (215, (8, 37))]
def csX8 : Nat → Option (Nat × Nat × Nat) := mv_lk [(124, (79, 3, 100)), (134, (80, 2, 8)), (138, (81, 2, 8)), (141, (86, 2, 8)), (152, (90, 4, 8)), (155, (91, 3, 8)), (160, (92, 3, 8)), (164, (89, 6, 8)), (168, (95, 4, 8)), (172, (98, 2, 8)), (183, (101, 1, 8)), (190, (102, 3, 8)), (194, (103, 1, 8)), (200, (105, 2, 8)), (203, (107, 2, 8)), (206, (111, 2, 8)), (209, (114, 2, 8)), (212, (115, 3, 8)), (219, (118, 3, 8)), (222, (116, 2, 8)), (225, (117, 2, 8)), (229, (119, 2, 8)), (232, (123, 1, 100)), (235, (127, 4, 8))]
def flL : Nat → Option (Nat × Nat) := mv_lk []
def csL : Nat → Option (Nat × Nat × Nat) := mv_lk [(13, (47, 2, 7)), (17, (82, 2, 8)), (18, (48, 2, 7)), (21, (83, 2, 8)), (22, (49, 4, 7)), (26, (84, 4, 8)), (27, (50, 3, 7)), (31, (85, 3, 8)), (32, (51, 3, 7)), (35, (87, 3, 8)), (36, (52, 2, 7)), (39, (88, 2, 8)), (40, (53, 4, 7)), (43, (93, 4, 8)), (44, (55, 4, 7)), (48, (94, 4, 8)), (49, (57, 4, 7)), (52, (96, 4, 8)), (53, (58, 4, 7)), (56, (97, 4, 8)), (57, (59, 2, 7)), (60, (99, 2, 8)), (63, (60, 3, 7)), (67, (100, 3, 8)), (68, (61, 1, 7)), (72, (104, 1, 8)), (73, (63, 6, 7)), (77, (106, 6, 8)), (78, (64, 4, 7)), (81, (108, 4, 8)), (82, (65, 3, 7)), (85, (109, 3, 8)), (86, (66, 2, 7)), (89, (110, 2, 8)), (90, (69, 6, 7)), (93, (129, 6, 8)), (94, (70, 2, 7)), (97, (112, 2, 8)), (98, (71, 2, 7)), (101, (113, 2, 8)), (102, (72, 2, 7)), (105, (120, 2, 8)), (106, (73, 3, 7)), (109, (121, 3, 8)), (110, (74, 2, 7)), (113, (122, 2, 8)), (114, (75, 4, 7)), (117, (124, 4, 8)), (118, (76, 2, 7)), (121, (125, 2, 8)), (122, (77, 5, 7)), (126, (126, 5, 8)), (127, (78, 6, 7)), (130, (128, 6, 8))]
def mv_tab : List mv_N := [
  (yX0_has, cX0_has, 2, (some .boolean), RX0, tbX0_has, flX0, csX0),
  (yX0_add, cX0_add, 6, (some .int), RX0, tbX0_add, flX0, csX0),
  (yX0_freeRoom, cX0_freeRoom, 2, (some .int), RX0, tbX0_freeRoom, flX0, csX0),
  (yX0_stowedOf, cX0_stowedOf, 3, (some .int), RX0, tbX0_stowedOf, flX0, csX0),
  (yX0_stow, cX0_stow, 4, (some .int), RX0, tbX0_stow, flX0, csX0),
  (yX0_turnBehind, cX0_turnBehind, 3, (some .int), RX0, tbX0_turnBehind, flX0, csX0),
  (yX0_loadingDays, cX0_loadingDays, 3, (some .int), RX0, tbX0_loadingDays, flX0, csX0),
  (yX0_costOf, cX0_costOf, 4, (some .int), RX0, tbX0_costOf, flX0, csX0),
  (yX1_has, cX1_has, 2, (some .boolean), RX1, tbX1_has, flX1, csX1),
  (yX1_add, cX1_add, 5, (some .int), RX1, tbX1_add, flX1, csX1),
  (yX1_moveToPort, cX1_moveToPort, 3, none, RX1, tbX1_moveToPort, flX1, csX1),
  (yX1_moveToHolds, cX1_moveToHolds, 3, none, RX1, tbX1_moveToHolds, flX1, csX1),
  (yX1_sumOf, cX1_sumOf, 4, (some .int), RX1, tbX1_sumOf, flX1, csX1),
  (yX4_takenOn, cX4_takenOn, 4, (some .int), RX4, tbX4_takenOn, flX4, csX4),
  (yX4_countLoadableDays, cX4_countLoadableDays, 2, none, RX4, tbX4_countLoadableDays, flX4, csX4),
  (yX4_endFrom, cX4_endFrom, 4, (some .int), RX4, tbX4_endFrom, flX4, csX4),
  (yX2_seek, cX2_seek, 10, none, RX2, tbX2_seek, flX2, csX2),
  (yJ6_bitCount_0f7a4, cJ6_bitCount_0f7a4, 1, (some .int), RJ6, tbJ6_bitCount_0f7a4, flJ6, csJ6),
  (yJ7_fill_53178, cJ7_fill_53178, 4, none, RJ7, tbJ7_fill_53178, flJ7, csJ7),
  (yX2_keepCheapest, cX2_keepCheapest, 7, none, RX2, tbX2_keepCheapest, flX2, csX2),
  (yX2_layCheapest, cX2_layCheapest, 4, (some .int), RX2, tbX2_layCheapest, flX2, csX2),
  (yX3_hasWorks, cX3_hasWorks, 2, (some .boolean), RX3, tbX3_hasWorks, flX3, csX3),
  (yX3_addWorks, cX3_addWorks, 2, (some .int), RX3, tbX3_addWorks, flX3, csX3),
  (yX3_addEntry, cX3_addEntry, 6, (some .int), RX3, tbX3_addEntry, flX3, csX3),
  (yX3_takeParts, cX3_takeParts, 3, none, RX3, tbX3_takeParts, flX3, csX3),
  (yX3_partsAmong, cX3_partsAmong, 3, (some .int), RX3, tbX3_partsAmong, flX3, csX3),
  (yX3_raiseGreatestRests, cX3_raiseGreatestRests, 5, none, RX3, tbX3_raiseGreatestRests, flX3, csX3),
  (yX3_partAmong, cX3_partAmong, 6, none, RX3, tbX3_partAmong, flX3, csX3),
  (yX3_isOpen, cX3_isOpen, 7, (some .boolean), RX3, tbX3_isOpen, flX3, csX3),
  (yX3_lentTo, cX3_lentTo, 6, (some .int), RX3, tbX3_lentTo, flX3, csX3),
  (yX3_quotaOf, cX3_quotaOf, 5, (some .int), RX3, tbX3_quotaOf, flX3, csX3),
  (yX3_unshipped, cX3_unshipped, 3, (some .int), RX3, tbX3_unshipped, flX3, csX3),
  (yX5_isNothing, cX5_isNothing, 1, (some .boolean), RX5, tbX5_isNothing, flX5, csX5),
  (yX5_begin, cX5_begin, 3, none, RX5, tbX5_begin, flX5, csX5),
  (yX5_hasItems, cX5_hasItems, 3, (some .boolean), RX5, tbX5_hasItems, flX5, csX5),
  (yX5_faultAs, cX5_faultAs, 4, (some .int), RX5, tbX5_faultAs, flX5, csX5),
  (yX5_hasAbove, cX5_hasAbove, 5, (some .boolean), RX5, tbX5_hasAbove, flX5, csX5),
  (yX5_put, cX5_put, 3, none, RX5, tbX5_put, flX5, csX5),
  (yX6_byteOf, cX6_byteOf, 3, (some .int), RX6, tbX6_byteOf, flX6, csX6),
  (yX7_isWithin, cX7_isWithin, 3, (some .boolean), RX7, tbX7_isWithin, flX7, csX7),
  (yX6_canHold, cX6_canHold, 4, (some .boolean), RX6, tbX6_canHold, flX6, csX6),
  (yX6_append, cX6_append, 5, (some .int), RX6, tbX6_append, flX6, csX6),
  (yX6_skipBlanks, cX6_skipBlanks, 1, none, RX6, tbX6_skipBlanks, flX6, csX6),
  (yX6_readNumber, cX6_readNumber, 5, (some .int), RX6, tbX6_readNumber, flX6, csX6),
  (yX6_readSign, cX6_readSign, 2, (some .boolean), RX6, tbX6_readSign, flX6, csX6),
  (yX6_readPair, cX6_readPair, 4, (some .boolean), RX6, tbX6_readPair, flX6, csX6),
  (yX6_readPairs, cX6_readPairs, 3, (some .int), RX6, tbX6_readPairs, flX6, csX6),
  (yX7_works, cX7_works, 2, (some .int), RX7, tbX7_works, flX7, csX7),
  (yX7_weeks, cX7_weeks, 2, (some .int), RX7, tbX7_weeks, flX7, csX7),
  (yX7_lot, cX7_lot, 4, (some .int), RX7, tbX7_lot, flX7, csX7),
  (yX7_rail, cX7_rail, 3, (some .int), RX7, tbX7_rail, flX7, csX7),
  (yX7_told, cX7_told, 3, (some .int), RX7, tbX7_told, flX7, csX7),
  (yX7_total, cX7_total, 3, (some .int), RX7, tbX7_total, flX7, csX7),
  (yX7_lend, cX7_lend, 4, (some .int), RX7, tbX7_lend, flX7, csX7),
  (yX7_isWeek, cX7_isWeek, 1, (some .boolean), RX7, tbX7_isWeek, flX7, csX7),
  (yX7_shut, cX7_shut, 4, (some .int), RX7, tbX7_shut, flX7, csX7),
  (yX7_isAsked, cX7_isAsked, 4, (some .boolean), RX7, tbX7_isAsked, flX7, csX7),
  (yX7_open, cX7_open, 4, (some .int), RX7, tbX7_open, flX7, csX7),
  (yX7_quota, cX7_quota, 4, (some .int), RX7, tbX7_quota, flX7, csX7),
  (yX7_left, cX7_left, 2, (some .int), RX7, tbX7_left, flX7, csX7),
  (yX7_type, cX7_type, 4, (some .int), RX7, tbX7_type, flX7, csX7),
  (yX7_parts, cX7_parts, 2, (some .int), RX7, tbX7_parts, flX7, csX7),
  (yX7_isDay, cX7_isDay, 1, (some .boolean), RX7, tbX7_isDay, flX7, csX7),
  (yX7_ship, cX7_ship, 6, (some .int), RX7, tbX7_ship, flX7, csX7),
  (yX7_load, cX7_load, 5, (some .int), RX7, tbX7_load, flX7, csX7),
  (yX7_held, cX7_held, 3, (some .int), RX7, tbX7_held, flX7, csX7),
  (yX7_grade, cX7_grade, 5, (some .int), RX7, tbX7_grade, flX7, csX7),
  (yX7_isSheet, cX7_isSheet, 1, (some .boolean), RX7, tbX7_isSheet, flX7, csX7),
  (yX7_isLane, cX7_isLane, 1, (some .boolean), RX7, tbX7_isLane, flX7, csX7),
  (yX7_surf, cX7_surf, 8, (some .int), RX7, tbX7_surf, flX7, csX7),
  (yX7_sea, cX7_sea, 2, (some .int), RX7, tbX7_sea, flX7, csX7),
  (yX7_bar, cX7_bar, 3, (some .int), RX7, tbX7_bar, flX7, csX7),
  (yX7_lay, cX7_lay, 2, (some .int), RX7, tbX7_lay, flX7, csX7),
  (yX7_laid, cX7_laid, 3, (some .int), RX7, tbX7_laid, flX7, csX7),
  (yX7_count, cX7_count, 2, (some .int), RX7, tbX7_count, flX7, csX7),
  (yX7_sheet, cX7_sheet, 4, (some .int), RX7, tbX7_sheet, flX7, csX7),
  (yX7_drop, cX7_drop, 3, (some .int), RX7, tbX7_drop, flX7, csX7),
  (yX7_item, cX7_item, 6, (some .int), RX7, tbX7_item, flX7, csX7),
  (yX7_copy, cX7_copy, 8, (some .int), RX7, tbX7_copy, flX7, csX7),
  (yX8_in, cX8_in, 3, (some .boolean), RX8, tbX8_in, flX8, csX8),
  (yX8_isWorks, cX8_isWorks, 2, (some .boolean), RX8, tbX8_isWorks, flX8, csX8),
  (yX8_isLot, cX8_isLot, 2, (some .boolean), RX8, tbX8_isLot, flX8, csX8),
  (yX8_works, cX8_works, 2, (some .int), RX8, tbX8_works, flX8, csX8),
  (yX8_weeks, cX8_weeks, 2, (some .int), RX8, tbX8_weeks, flX8, csX8),
  (yX8_lot, cX8_lot, 4, (some .int), RX8, tbX8_lot, flX8, csX8),
  (yX8_rail, cX8_rail, 3, (some .int), RX8, tbX8_rail, flX8, csX8),
  (yX8_inHolds, cX8_inHolds, 4, (some .int), RX8, tbX8_inHolds, flX8, csX8),
  (yX8_told, cX8_told, 3, (some .int), RX8, tbX8_told, flX8, csX8),
  (yX8_total, cX8_total, 3, (some .int), RX8, tbX8_total, flX8, csX8),
  (yX8_entry, cX8_entry, 6, (some .int), RX8, tbX8_entry, flX8, csX8),
  (yX8_isOpen, cX8_isOpen, 7, (some .boolean), RX8, tbX8_isOpen, flX8, csX8),
  (yX8_part, cX8_part, 11, none, RX8, tbX8_part, flX8, csX8),
  (yX8_quotas, cX8_quotas, 7, none, RX8, tbX8_quotas, flX8, csX8),
  (yX8_lend, cX8_lend, 4, (some .int), RX8, tbX8_lend, flX8, csX8),
  (yX8_shut, cX8_shut, 4, (some .int), RX8, tbX8_shut, flX8, csX8),
  (yX8_isAsOf, cX8_isAsOf, 4, (some .boolean), RX8, tbX8_isAsOf, flX8, csX8),
  (yX8_open, cX8_open, 4, (some .int), RX8, tbX8_open, flX8, csX8),
  (yX8_quota, cX8_quota, 4, (some .int), RX8, tbX8_quota, flX8, csX8),
  (yX8_leftOf, cX8_leftOf, 4, (some .int), RX8, tbX8_leftOf, flX8, csX8),
  (yX8_left, cX8_left, 2, (some .int), RX8, tbX8_left, flX8, csX8),
  (yX8_type, cX8_type, 5, (some .int), RX8, tbX8_type, flX8, csX8),
  (yX8_next, cX8_next, 1, (some .int), RX8, tbX8_next, flX8, csX8),
  (yX8_number, cX8_number, 5, (some .int), RX8, tbX8_number, flX8, csX8),
  (yX8_reads, cX8_reads, 5, (some .int), RX8, tbX8_reads, flX8, csX8),
  (yX8_parts, cX8_parts, 3, (some .int), RX8, tbX8_parts, flX8, csX8),
  (yX8_isShip, cX8_isShip, 2, (some .boolean), RX8, tbX8_isShip, flX8, csX8),
  (yX8_ship, cX8_ship, 6, (some .int), RX8, tbX8_ship, flX8, csX8),
  (yX8_inHold, cX8_inHold, 4, (some .int), RX8, tbX8_inHold, flX8, csX8),
  (yX8_load, cX8_load, 5, (some .int), RX8, tbX8_load, flX8, csX8),
  (yX8_held, cX8_held, 3, (some .int), RX8, tbX8_held, flX8, csX8),
  (yX8_grade, cX8_grade, 5, (some .int), RX8, tbX8_grade, flX8, csX8),
  (yX8_taken, cX8_taken, 4, (some .int), RX8, tbX8_taken, flX8, csX8),
  (yX8_sea, cX8_sea, 2, (some .int), RX8, tbX8_sea, flX8, csX8),
  (yX8_bar, cX8_bar, 3, (some .int), RX8, tbX8_bar, flX8, csX8),
  (yX8_lets, cX8_lets, 2, (some .boolean), RX8, tbX8_lets, flX8, csX8),
  (yX8_endOf, cX8_endOf, 5, (some .int), RX8, tbX8_endOf, flX8, csX8),
  (yX8_costOf, cX8_costOf, 7, (some .int), RX8, tbX8_costOf, flX8, csX8),
  (yX8_keep, cX8_keep, 3, none, RX8, tbX8_keep, flX8, csX8),
  (yX8_swap, cX8_swap, 4, none, RX8, tbX8_swap, flX8, csX8),
  (yX8_countsUp, cX8_countsUp, 6, (some .boolean), RX8, tbX8_countsUp, flX8, csX8),
  (yX8_lay, cX8_lay, 6, (some .int), RX8, tbX8_lay, flX8, csX8),
  (yX8_laid, cX8_laid, 3, (some .int), RX8, tbX8_laid, flX8, csX8),
  (yX8_count, cX8_count, 4, (some .int), RX8, tbX8_count, flX8, csX8),
  (yX8_isSheet, cX8_isSheet, 1, (some .boolean), RX8, tbX8_isSheet, flX8, csX8),
  (yX8_sheet, cX8_sheet, 5, (some .int), RX8, tbX8_sheet, flX8, csX8),
  (yX8_drop, cX8_drop, 2, (some .int), RX8, tbX8_drop, flX8, csX8),
  (yX8_item, cX8_item, 5, (some .int), RX8, tbX8_item, flX8, csX8),
  (yX8_isWithin, cX8_isWithin, 4, (some .boolean), RX8, tbX8_isWithin, flX8, csX8),
  (yX8_copy, cX8_copy, 7, (some .int), RX8, tbX8_copy, flX8, csX8),
  (yX8_surf, cX8_surf, 8, (some .int), RX8, tbX8_surf, flX8, csX8)]
def tbL_h : Nat → Option mv_R := mv_seg 18 156 (fun pc => (bif Nat.blt pc 27 then (bif Nat.blt pc 21 then (bif Nat.blt pc 19 then (bif Nat.beq pc 18 then some (.iload_n 3, 19, 0, 0, 0) else none) else (bif Nat.blt pc 20 then (bif Nat.beq pc 19 then some (.aload_n 0, 20, 0, 0, 0) else none) else (bif Nat.beq pc 20 then some (.arraylength, 21, 0, 0, 0) else none))) else (bif Nat.blt pc 23 then (bif Nat.beq pc 21 then some (.bipush 6, 23, 0, 6, 0) else none) else (bif Nat.blt pc 24 then (bif Nat.beq pc 23 then some (.isub, 24, 0, 0, 0) else none) else (bif Nat.beq pc 24 then some (.if_icmp .gt 1135, 27, 1159, 0, 0) else none)))) else (bif Nat.blt pc 30 then (bif Nat.blt pc 28 then (bif Nat.beq pc 27 then some (.aload_n 0, 28, 0, 0, 0) else none) else (bif Nat.blt pc 29 then (bif Nat.beq pc 28 then some (.iload_n 3, 29, 0, 0, 0) else none) else (bif Nat.beq pc 29 then some (.iaload, 30, 0, 0, 0) else none))) else (bif Nat.blt pc 32 then (bif Nat.beq pc 30 then some (.bipush 31, 32, 0, 31, 0) else none) else (bif Nat.blt pc 33 then (bif Nat.beq pc 32 then some (.iand, 33, 0, 0, 0) else none) else (bif Nat.beq pc 33 then some (.tableswitch 1120 0 26 #[123, 146, 169, 212, 245, 278, 301, 344, 403, 446, 489, 512, 575, 588, 651, 694, 727, 750, 813, 836, 859, 882, 915, 938, 981, 1004, 1057], 156, 1153, 0, 0) else none))))))
def tbL_0 : Nat → Option mv_R := mv_seg 156 179 (fun pc => (bif Nat.blt pc 166 then (bif Nat.blt pc 160 then (bif Nat.blt pc 158 then (bif Nat.blt pc 157 then (bif Nat.beq pc 156 then some (.aload_n 1, 157, 0, 0, 0) else none) else (bif Nat.beq pc 157 then some (.aload_n 0, 158, 0, 0, 0) else none)) else (bif Nat.blt pc 159 then (bif Nat.beq pc 158 then some (.iload_n 3, 159, 0, 0, 0) else none) else (bif Nat.beq pc 159 then some (.iconst 1, 160, 0, 1, 0) else none))) else (bif Nat.blt pc 162 then (bif Nat.blt pc 161 then (bif Nat.beq pc 160 then some (.iadd, 161, 0, 0, 0) else none) else (bif Nat.beq pc 161 then some (.iaload, 162, 0, 0, 0) else none)) else (bif Nat.blt pc 165 then (bif Nat.beq pc 162 then some (.invokevirtual 13, 165, 0, 0, 0) else none) else (bif Nat.beq pc 165 then some (.aload_n 2, 166, 0, 0, 0) else none)))) else (bif Nat.blt pc 170 then (bif Nat.blt pc 168 then (bif Nat.blt pc 167 then (bif Nat.beq pc 166 then some (.aload_n 0, 167, 0, 0, 0) else none) else (bif Nat.beq pc 167 then some (.iload_n 3, 168, 0, 0, 0) else none)) else (bif Nat.blt pc 169 then (bif Nat.beq pc 168 then some (.iconst 1, 169, 0, 1, 0) else none) else (bif Nat.beq pc 169 then some (.iadd, 170, 0, 0, 0) else none))) else (bif Nat.blt pc 174 then (bif Nat.blt pc 171 then (bif Nat.beq pc 170 then some (.iaload, 171, 0, 0, 0) else none) else (bif Nat.beq pc 171 then some (.invokevirtual 17, 174, 0, 0, 0) else none)) else (bif Nat.blt pc 177 then (bif Nat.beq pc 174 then some (.if_icmp .eq 979, 177, 1153, 0, 0) else none) else (bif Nat.blt pc 178 then (bif Nat.beq pc 177 then some (.iconst 0, 178, 0, 0, 0) else none) else (bif Nat.beq pc 178 then some (.ireturn, 179, 0, 0, 0) else none)))))))
def tbL_1 : Nat → Option mv_R := mv_seg 179 202 (fun pc => (bif Nat.blt pc 189 then (bif Nat.blt pc 183 then (bif Nat.blt pc 181 then (bif Nat.blt pc 180 then (bif Nat.beq pc 179 then some (.aload_n 1, 180, 0, 0, 0) else none) else (bif Nat.beq pc 180 then some (.aload_n 0, 181, 0, 0, 0) else none)) else (bif Nat.blt pc 182 then (bif Nat.beq pc 181 then some (.iload_n 3, 182, 0, 0, 0) else none) else (bif Nat.beq pc 182 then some (.iconst 1, 183, 0, 1, 0) else none))) else (bif Nat.blt pc 185 then (bif Nat.blt pc 184 then (bif Nat.beq pc 183 then some (.iadd, 184, 0, 0, 0) else none) else (bif Nat.beq pc 184 then some (.iaload, 185, 0, 0, 0) else none)) else (bif Nat.blt pc 188 then (bif Nat.beq pc 185 then some (.invokevirtual 18, 188, 0, 0, 0) else none) else (bif Nat.beq pc 188 then some (.aload_n 2, 189, 0, 0, 0) else none)))) else (bif Nat.blt pc 193 then (bif Nat.blt pc 191 then (bif Nat.blt pc 190 then (bif Nat.beq pc 189 then some (.aload_n 0, 190, 0, 0, 0) else none) else (bif Nat.beq pc 190 then some (.iload_n 3, 191, 0, 0, 0) else none)) else (bif Nat.blt pc 192 then (bif Nat.beq pc 191 then some (.iconst 1, 192, 0, 1, 0) else none) else (bif Nat.beq pc 192 then some (.iadd, 193, 0, 0, 0) else none))) else (bif Nat.blt pc 197 then (bif Nat.blt pc 194 then (bif Nat.beq pc 193 then some (.iaload, 194, 0, 0, 0) else none) else (bif Nat.beq pc 194 then some (.invokevirtual 21, 197, 0, 0, 0) else none)) else (bif Nat.blt pc 200 then (bif Nat.beq pc 197 then some (.if_icmp .eq 956, 200, 1153, 0, 0) else none) else (bif Nat.blt pc 201 then (bif Nat.beq pc 200 then some (.iconst 0, 201, 0, 0, 0) else none) else (bif Nat.beq pc 201 then some (.ireturn, 202, 0, 0, 0) else none)))))))
def tbL_2 : Nat → Option mv_R := mv_seg 202 245 (fun pc => (bif Nat.blt pc 222 then (bif Nat.blt pc 211 then (bif Nat.blt pc 206 then (bif Nat.blt pc 204 then (bif Nat.blt pc 203 then (bif Nat.beq pc 202 then some (.aload_n 1, 203, 0, 0, 0) else none) else (bif Nat.beq pc 203 then some (.aload_n 0, 204, 0, 0, 0) else none)) else (bif Nat.blt pc 205 then (bif Nat.beq pc 204 then some (.iload_n 3, 205, 0, 0, 0) else none) else (bif Nat.beq pc 205 then some (.iconst 1, 206, 0, 1, 0) else none))) else (bif Nat.blt pc 208 then (bif Nat.blt pc 207 then (bif Nat.beq pc 206 then some (.iadd, 207, 0, 0, 0) else none) else (bif Nat.beq pc 207 then some (.iaload, 208, 0, 0, 0) else none)) else (bif Nat.blt pc 209 then (bif Nat.beq pc 208 then some (.aload_n 0, 209, 0, 0, 0) else none) else (bif Nat.blt pc 210 then (bif Nat.beq pc 209 then some (.iload_n 3, 210, 0, 0, 0) else none) else (bif Nat.beq pc 210 then some (.iconst 2, 211, 0, 2, 0) else none))))) else (bif Nat.blt pc 215 then (bif Nat.blt pc 213 then (bif Nat.blt pc 212 then (bif Nat.beq pc 211 then some (.iadd, 212, 0, 0, 0) else none) else (bif Nat.beq pc 212 then some (.iaload, 213, 0, 0, 0) else none)) else (bif Nat.blt pc 214 then (bif Nat.beq pc 213 then some (.aload_n 0, 214, 0, 0, 0) else none) else (bif Nat.beq pc 214 then some (.iload_n 3, 215, 0, 0, 0) else none))) else (bif Nat.blt pc 217 then (bif Nat.blt pc 216 then (bif Nat.beq pc 215 then some (.iconst 3, 216, 0, 3, 0) else none) else (bif Nat.beq pc 216 then some (.iadd, 217, 0, 0, 0) else none)) else (bif Nat.blt pc 218 then (bif Nat.beq pc 217 then some (.iaload, 218, 0, 0, 0) else none) else (bif Nat.blt pc 221 then (bif Nat.beq pc 218 then some (.invokevirtual 22, 221, 0, 0, 0) else none) else (bif Nat.beq pc 221 then some (.aload_n 2, 222, 0, 0, 0) else none)))))) else (bif Nat.blt pc 231 then (bif Nat.blt pc 226 then (bif Nat.blt pc 224 then (bif Nat.blt pc 223 then (bif Nat.beq pc 222 then some (.aload_n 0, 223, 0, 0, 0) else none) else (bif Nat.beq pc 223 then some (.iload_n 3, 224, 0, 0, 0) else none)) else (bif Nat.blt pc 225 then (bif Nat.beq pc 224 then some (.iconst 1, 225, 0, 1, 0) else none) else (bif Nat.beq pc 225 then some (.iadd, 226, 0, 0, 0) else none))) else (bif Nat.blt pc 228 then (bif Nat.blt pc 227 then (bif Nat.beq pc 226 then some (.iaload, 227, 0, 0, 0) else none) else (bif Nat.beq pc 227 then some (.aload_n 0, 228, 0, 0, 0) else none)) else (bif Nat.blt pc 229 then (bif Nat.beq pc 228 then some (.iload_n 3, 229, 0, 0, 0) else none) else (bif Nat.blt pc 230 then (bif Nat.beq pc 229 then some (.iconst 2, 230, 0, 2, 0) else none) else (bif Nat.beq pc 230 then some (.iadd, 231, 0, 0, 0) else none))))) else (bif Nat.blt pc 236 then (bif Nat.blt pc 233 then (bif Nat.blt pc 232 then (bif Nat.beq pc 231 then some (.iaload, 232, 0, 0, 0) else none) else (bif Nat.beq pc 232 then some (.aload_n 0, 233, 0, 0, 0) else none)) else (bif Nat.blt pc 234 then (bif Nat.beq pc 233 then some (.iload_n 3, 234, 0, 0, 0) else none) else (bif Nat.blt pc 235 then (bif Nat.beq pc 234 then some (.iconst 3, 235, 0, 3, 0) else none) else (bif Nat.beq pc 235 then some (.iadd, 236, 0, 0, 0) else none)))) else (bif Nat.blt pc 240 then (bif Nat.blt pc 237 then (bif Nat.beq pc 236 then some (.iaload, 237, 0, 0, 0) else none) else (bif Nat.beq pc 237 then some (.invokevirtual 26, 240, 0, 0, 0) else none)) else (bif Nat.blt pc 243 then (bif Nat.beq pc 240 then some (.if_icmp .eq 913, 243, 1153, 0, 0) else none) else (bif Nat.blt pc 244 then (bif Nat.beq pc 243 then some (.iconst 0, 244, 0, 0, 0) else none) else (bif Nat.beq pc 244 then some (.ireturn, 245, 0, 0, 0) else none))))))))
def tbL_3 : Nat → Option mv_R := mv_seg 245 278 (fun pc => (bif Nat.blt pc 260 then (bif Nat.blt pc 251 then (bif Nat.blt pc 248 then (bif Nat.blt pc 246 then (bif Nat.beq pc 245 then some (.aload_n 1, 246, 0, 0, 0) else none) else (bif Nat.blt pc 247 then (bif Nat.beq pc 246 then some (.aload_n 0, 247, 0, 0, 0) else none) else (bif Nat.beq pc 247 then some (.iload_n 3, 248, 0, 0, 0) else none))) else (bif Nat.blt pc 249 then (bif Nat.beq pc 248 then some (.iconst 1, 249, 0, 1, 0) else none) else (bif Nat.blt pc 250 then (bif Nat.beq pc 249 then some (.iadd, 250, 0, 0, 0) else none) else (bif Nat.beq pc 250 then some (.iaload, 251, 0, 0, 0) else none)))) else (bif Nat.blt pc 254 then (bif Nat.blt pc 252 then (bif Nat.beq pc 251 then some (.aload_n 0, 252, 0, 0, 0) else none) else (bif Nat.blt pc 253 then (bif Nat.beq pc 252 then some (.iload_n 3, 253, 0, 0, 0) else none) else (bif Nat.beq pc 253 then some (.iconst 2, 254, 0, 2, 0) else none))) else (bif Nat.blt pc 256 then (bif Nat.blt pc 255 then (bif Nat.beq pc 254 then some (.iadd, 255, 0, 0, 0) else none) else (bif Nat.beq pc 255 then some (.iaload, 256, 0, 0, 0) else none)) else (bif Nat.blt pc 259 then (bif Nat.beq pc 256 then some (.invokevirtual 27, 259, 0, 0, 0) else none) else (bif Nat.beq pc 259 then some (.aload_n 2, 260, 0, 0, 0) else none))))) else (bif Nat.blt pc 267 then (bif Nat.blt pc 263 then (bif Nat.blt pc 261 then (bif Nat.beq pc 260 then some (.aload_n 0, 261, 0, 0, 0) else none) else (bif Nat.blt pc 262 then (bif Nat.beq pc 261 then some (.iload_n 3, 262, 0, 0, 0) else none) else (bif Nat.beq pc 262 then some (.iconst 1, 263, 0, 1, 0) else none))) else (bif Nat.blt pc 265 then (bif Nat.blt pc 264 then (bif Nat.beq pc 263 then some (.iadd, 264, 0, 0, 0) else none) else (bif Nat.beq pc 264 then some (.iaload, 265, 0, 0, 0) else none)) else (bif Nat.blt pc 266 then (bif Nat.beq pc 265 then some (.aload_n 0, 266, 0, 0, 0) else none) else (bif Nat.beq pc 266 then some (.iload_n 3, 267, 0, 0, 0) else none)))) else (bif Nat.blt pc 270 then (bif Nat.blt pc 268 then (bif Nat.beq pc 267 then some (.iconst 2, 268, 0, 2, 0) else none) else (bif Nat.blt pc 269 then (bif Nat.beq pc 268 then some (.iadd, 269, 0, 0, 0) else none) else (bif Nat.beq pc 269 then some (.iaload, 270, 0, 0, 0) else none))) else (bif Nat.blt pc 276 then (bif Nat.blt pc 273 then (bif Nat.beq pc 270 then some (.invokevirtual 31, 273, 0, 0, 0) else none) else (bif Nat.beq pc 273 then some (.if_icmp .eq 880, 276, 1153, 0, 0) else none)) else (bif Nat.blt pc 277 then (bif Nat.beq pc 276 then some (.iconst 0, 277, 0, 0, 0) else none) else (bif Nat.beq pc 277 then some (.ireturn, 278, 0, 0, 0) else none)))))))
def tbL_4 : Nat → Option mv_R := mv_seg 278 311 (fun pc => (bif Nat.blt pc 293 then (bif Nat.blt pc 284 then (bif Nat.blt pc 281 then (bif Nat.blt pc 279 then (bif Nat.beq pc 278 then some (.aload_n 1, 279, 0, 0, 0) else none) else (bif Nat.blt pc 280 then (bif Nat.beq pc 279 then some (.aload_n 0, 280, 0, 0, 0) else none) else (bif Nat.beq pc 280 then some (.iload_n 3, 281, 0, 0, 0) else none))) else (bif Nat.blt pc 282 then (bif Nat.beq pc 281 then some (.iconst 1, 282, 0, 1, 0) else none) else (bif Nat.blt pc 283 then (bif Nat.beq pc 282 then some (.iadd, 283, 0, 0, 0) else none) else (bif Nat.beq pc 283 then some (.iaload, 284, 0, 0, 0) else none)))) else (bif Nat.blt pc 287 then (bif Nat.blt pc 285 then (bif Nat.beq pc 284 then some (.aload_n 0, 285, 0, 0, 0) else none) else (bif Nat.blt pc 286 then (bif Nat.beq pc 285 then some (.iload_n 3, 286, 0, 0, 0) else none) else (bif Nat.beq pc 286 then some (.iconst 2, 287, 0, 2, 0) else none))) else (bif Nat.blt pc 289 then (bif Nat.blt pc 288 then (bif Nat.beq pc 287 then some (.iadd, 288, 0, 0, 0) else none) else (bif Nat.beq pc 288 then some (.iaload, 289, 0, 0, 0) else none)) else (bif Nat.blt pc 292 then (bif Nat.beq pc 289 then some (.invokevirtual 32, 292, 0, 0, 0) else none) else (bif Nat.beq pc 292 then some (.aload_n 2, 293, 0, 0, 0) else none))))) else (bif Nat.blt pc 300 then (bif Nat.blt pc 296 then (bif Nat.blt pc 294 then (bif Nat.beq pc 293 then some (.aload_n 0, 294, 0, 0, 0) else none) else (bif Nat.blt pc 295 then (bif Nat.beq pc 294 then some (.iload_n 3, 295, 0, 0, 0) else none) else (bif Nat.beq pc 295 then some (.iconst 1, 296, 0, 1, 0) else none))) else (bif Nat.blt pc 298 then (bif Nat.blt pc 297 then (bif Nat.beq pc 296 then some (.iadd, 297, 0, 0, 0) else none) else (bif Nat.beq pc 297 then some (.iaload, 298, 0, 0, 0) else none)) else (bif Nat.blt pc 299 then (bif Nat.beq pc 298 then some (.aload_n 0, 299, 0, 0, 0) else none) else (bif Nat.beq pc 299 then some (.iload_n 3, 300, 0, 0, 0) else none)))) else (bif Nat.blt pc 303 then (bif Nat.blt pc 301 then (bif Nat.beq pc 300 then some (.iconst 2, 301, 0, 2, 0) else none) else (bif Nat.blt pc 302 then (bif Nat.beq pc 301 then some (.iadd, 302, 0, 0, 0) else none) else (bif Nat.beq pc 302 then some (.iaload, 303, 0, 0, 0) else none))) else (bif Nat.blt pc 309 then (bif Nat.blt pc 306 then (bif Nat.beq pc 303 then some (.invokevirtual 35, 306, 0, 0, 0) else none) else (bif Nat.beq pc 306 then some (.if_icmp .eq 847, 309, 1153, 0, 0) else none)) else (bif Nat.blt pc 310 then (bif Nat.beq pc 309 then some (.iconst 0, 310, 0, 0, 0) else none) else (bif Nat.beq pc 310 then some (.ireturn, 311, 0, 0, 0) else none)))))))
def tbL_5 : Nat → Option mv_R := mv_seg 311 334 (fun pc => (bif Nat.blt pc 321 then (bif Nat.blt pc 315 then (bif Nat.blt pc 313 then (bif Nat.blt pc 312 then (bif Nat.beq pc 311 then some (.aload_n 1, 312, 0, 0, 0) else none) else (bif Nat.beq pc 312 then some (.aload_n 0, 313, 0, 0, 0) else none)) else (bif Nat.blt pc 314 then (bif Nat.beq pc 313 then some (.iload_n 3, 314, 0, 0, 0) else none) else (bif Nat.beq pc 314 then some (.iconst 1, 315, 0, 1, 0) else none))) else (bif Nat.blt pc 317 then (bif Nat.blt pc 316 then (bif Nat.beq pc 315 then some (.iadd, 316, 0, 0, 0) else none) else (bif Nat.beq pc 316 then some (.iaload, 317, 0, 0, 0) else none)) else (bif Nat.blt pc 320 then (bif Nat.beq pc 317 then some (.invokevirtual 36, 320, 0, 0, 0) else none) else (bif Nat.beq pc 320 then some (.aload_n 2, 321, 0, 0, 0) else none)))) else (bif Nat.blt pc 325 then (bif Nat.blt pc 323 then (bif Nat.blt pc 322 then (bif Nat.beq pc 321 then some (.aload_n 0, 322, 0, 0, 0) else none) else (bif Nat.beq pc 322 then some (.iload_n 3, 323, 0, 0, 0) else none)) else (bif Nat.blt pc 324 then (bif Nat.beq pc 323 then some (.iconst 1, 324, 0, 1, 0) else none) else (bif Nat.beq pc 324 then some (.iadd, 325, 0, 0, 0) else none))) else (bif Nat.blt pc 329 then (bif Nat.blt pc 326 then (bif Nat.beq pc 325 then some (.iaload, 326, 0, 0, 0) else none) else (bif Nat.beq pc 326 then some (.invokevirtual 39, 329, 0, 0, 0) else none)) else (bif Nat.blt pc 332 then (bif Nat.beq pc 329 then some (.if_icmp .eq 824, 332, 1153, 0, 0) else none) else (bif Nat.blt pc 333 then (bif Nat.beq pc 332 then some (.iconst 0, 333, 0, 0, 0) else none) else (bif Nat.beq pc 333 then some (.ireturn, 334, 0, 0, 0) else none)))))))
def tbL_6 : Nat → Option mv_R := mv_seg 334 377 (fun pc => (bif Nat.blt pc 354 then (bif Nat.blt pc 343 then (bif Nat.blt pc 338 then (bif Nat.blt pc 336 then (bif Nat.blt pc 335 then (bif Nat.beq pc 334 then some (.aload_n 1, 335, 0, 0, 0) else none) else (bif Nat.beq pc 335 then some (.aload_n 0, 336, 0, 0, 0) else none)) else (bif Nat.blt pc 337 then (bif Nat.beq pc 336 then some (.iload_n 3, 337, 0, 0, 0) else none) else (bif Nat.beq pc 337 then some (.iconst 1, 338, 0, 1, 0) else none))) else (bif Nat.blt pc 340 then (bif Nat.blt pc 339 then (bif Nat.beq pc 338 then some (.iadd, 339, 0, 0, 0) else none) else (bif Nat.beq pc 339 then some (.iaload, 340, 0, 0, 0) else none)) else (bif Nat.blt pc 341 then (bif Nat.beq pc 340 then some (.aload_n 0, 341, 0, 0, 0) else none) else (bif Nat.blt pc 342 then (bif Nat.beq pc 341 then some (.iload_n 3, 342, 0, 0, 0) else none) else (bif Nat.beq pc 342 then some (.iconst 2, 343, 0, 2, 0) else none))))) else (bif Nat.blt pc 347 then (bif Nat.blt pc 345 then (bif Nat.blt pc 344 then (bif Nat.beq pc 343 then some (.iadd, 344, 0, 0, 0) else none) else (bif Nat.beq pc 344 then some (.iaload, 345, 0, 0, 0) else none)) else (bif Nat.blt pc 346 then (bif Nat.beq pc 345 then some (.aload_n 0, 346, 0, 0, 0) else none) else (bif Nat.beq pc 346 then some (.iload_n 3, 347, 0, 0, 0) else none))) else (bif Nat.blt pc 349 then (bif Nat.blt pc 348 then (bif Nat.beq pc 347 then some (.iconst 3, 348, 0, 3, 0) else none) else (bif Nat.beq pc 348 then some (.iadd, 349, 0, 0, 0) else none)) else (bif Nat.blt pc 350 then (bif Nat.beq pc 349 then some (.iaload, 350, 0, 0, 0) else none) else (bif Nat.blt pc 353 then (bif Nat.beq pc 350 then some (.invokevirtual 40, 353, 0, 0, 0) else none) else (bif Nat.beq pc 353 then some (.aload_n 2, 354, 0, 0, 0) else none)))))) else (bif Nat.blt pc 363 then (bif Nat.blt pc 358 then (bif Nat.blt pc 356 then (bif Nat.blt pc 355 then (bif Nat.beq pc 354 then some (.aload_n 0, 355, 0, 0, 0) else none) else (bif Nat.beq pc 355 then some (.iload_n 3, 356, 0, 0, 0) else none)) else (bif Nat.blt pc 357 then (bif Nat.beq pc 356 then some (.iconst 1, 357, 0, 1, 0) else none) else (bif Nat.beq pc 357 then some (.iadd, 358, 0, 0, 0) else none))) else (bif Nat.blt pc 360 then (bif Nat.blt pc 359 then (bif Nat.beq pc 358 then some (.iaload, 359, 0, 0, 0) else none) else (bif Nat.beq pc 359 then some (.aload_n 0, 360, 0, 0, 0) else none)) else (bif Nat.blt pc 361 then (bif Nat.beq pc 360 then some (.iload_n 3, 361, 0, 0, 0) else none) else (bif Nat.blt pc 362 then (bif Nat.beq pc 361 then some (.iconst 2, 362, 0, 2, 0) else none) else (bif Nat.beq pc 362 then some (.iadd, 363, 0, 0, 0) else none))))) else (bif Nat.blt pc 368 then (bif Nat.blt pc 365 then (bif Nat.blt pc 364 then (bif Nat.beq pc 363 then some (.iaload, 364, 0, 0, 0) else none) else (bif Nat.beq pc 364 then some (.aload_n 0, 365, 0, 0, 0) else none)) else (bif Nat.blt pc 366 then (bif Nat.beq pc 365 then some (.iload_n 3, 366, 0, 0, 0) else none) else (bif Nat.blt pc 367 then (bif Nat.beq pc 366 then some (.iconst 3, 367, 0, 3, 0) else none) else (bif Nat.beq pc 367 then some (.iadd, 368, 0, 0, 0) else none)))) else (bif Nat.blt pc 372 then (bif Nat.blt pc 369 then (bif Nat.beq pc 368 then some (.iaload, 369, 0, 0, 0) else none) else (bif Nat.beq pc 369 then some (.invokevirtual 43, 372, 0, 0, 0) else none)) else (bif Nat.blt pc 375 then (bif Nat.beq pc 372 then some (.if_icmp .eq 781, 375, 1153, 0, 0) else none) else (bif Nat.blt pc 376 then (bif Nat.beq pc 375 then some (.iconst 0, 376, 0, 0, 0) else none) else (bif Nat.beq pc 376 then some (.ireturn, 377, 0, 0, 0) else none))))))))
def tbL_7 : Nat → Option mv_R := mv_seg 377 436 (fun pc => (bif Nat.blt pc 405 then (bif Nat.blt pc 388 then (bif Nat.blt pc 382 then (bif Nat.blt pc 379 then (bif Nat.blt pc 378 then (bif Nat.beq pc 377 then some (.aload_n 1, 378, 0, 0, 0) else none) else (bif Nat.beq pc 378 then some (.aload_n 0, 379, 0, 0, 0) else none)) else (bif Nat.blt pc 380 then (bif Nat.beq pc 379 then some (.iload_n 3, 380, 0, 0, 0) else none) else (bif Nat.blt pc 381 then (bif Nat.beq pc 380 then some (.iconst 1, 381, 0, 1, 0) else none) else (bif Nat.beq pc 381 then some (.iadd, 382, 0, 0, 0) else none)))) else (bif Nat.blt pc 385 then (bif Nat.blt pc 383 then (bif Nat.beq pc 382 then some (.iaload, 383, 0, 0, 0) else none) else (bif Nat.blt pc 384 then (bif Nat.beq pc 383 then some (.aload_n 0, 384, 0, 0, 0) else none) else (bif Nat.beq pc 384 then some (.iload_n 3, 385, 0, 0, 0) else none))) else (bif Nat.blt pc 386 then (bif Nat.beq pc 385 then some (.iconst 2, 386, 0, 2, 0) else none) else (bif Nat.blt pc 387 then (bif Nat.beq pc 386 then some (.iadd, 387, 0, 0, 0) else none) else (bif Nat.beq pc 387 then some (.iaload, 388, 0, 0, 0) else none))))) else (bif Nat.blt pc 397 then (bif Nat.blt pc 392 then (bif Nat.blt pc 391 then (bif Nat.beq pc 388 then some (.ifCond .eq 7, 391, 395, 0, 0) else none) else (bif Nat.beq pc 391 then some (.iconst 1, 392, 0, 1, 0) else none)) else (bif Nat.blt pc 395 then (bif Nat.beq pc 392 then some (.goto 4, 395, 396, 0, 0) else none) else (bif Nat.blt pc 396 then (bif Nat.beq pc 395 then some (.iconst 0, 396, 0, 0, 0) else none) else (bif Nat.beq pc 396 then some (.aload_n 0, 397, 0, 0, 0) else none)))) else (bif Nat.blt pc 400 then (bif Nat.blt pc 398 then (bif Nat.beq pc 397 then some (.iload_n 3, 398, 0, 0, 0) else none) else (bif Nat.blt pc 399 then (bif Nat.beq pc 398 then some (.iconst 3, 399, 0, 3, 0) else none) else (bif Nat.beq pc 399 then some (.iadd, 400, 0, 0, 0) else none))) else (bif Nat.blt pc 401 then (bif Nat.beq pc 400 then some (.iaload, 401, 0, 0, 0) else none) else (bif Nat.blt pc 404 then (bif Nat.beq pc 401 then some (.invokevirtual 44, 404, 0, 0, 0) else none) else (bif Nat.beq pc 404 then some (.aload_n 2, 405, 0, 0, 0) else none)))))) else (bif Nat.blt pc 418 then (bif Nat.blt pc 410 then (bif Nat.blt pc 407 then (bif Nat.blt pc 406 then (bif Nat.beq pc 405 then some (.aload_n 0, 406, 0, 0, 0) else none) else (bif Nat.beq pc 406 then some (.iload_n 3, 407, 0, 0, 0) else none)) else (bif Nat.blt pc 408 then (bif Nat.beq pc 407 then some (.iconst 1, 408, 0, 1, 0) else none) else (bif Nat.blt pc 409 then (bif Nat.beq pc 408 then some (.iadd, 409, 0, 0, 0) else none) else (bif Nat.beq pc 409 then some (.iaload, 410, 0, 0, 0) else none)))) else (bif Nat.blt pc 413 then (bif Nat.blt pc 411 then (bif Nat.beq pc 410 then some (.aload_n 0, 411, 0, 0, 0) else none) else (bif Nat.blt pc 412 then (bif Nat.beq pc 411 then some (.iload_n 3, 412, 0, 0, 0) else none) else (bif Nat.beq pc 412 then some (.iconst 2, 413, 0, 2, 0) else none))) else (bif Nat.blt pc 414 then (bif Nat.beq pc 413 then some (.iadd, 414, 0, 0, 0) else none) else (bif Nat.blt pc 415 then (bif Nat.beq pc 414 then some (.iaload, 415, 0, 0, 0) else none) else (bif Nat.beq pc 415 then some (.ifCond .eq 7, 418, 422, 0, 0) else none))))) else (bif Nat.blt pc 426 then (bif Nat.blt pc 423 then (bif Nat.blt pc 419 then (bif Nat.beq pc 418 then some (.iconst 1, 419, 0, 1, 0) else none) else (bif Nat.blt pc 422 then (bif Nat.beq pc 419 then some (.goto 4, 422, 423, 0, 0) else none) else (bif Nat.beq pc 422 then some (.iconst 0, 423, 0, 0, 0) else none))) else (bif Nat.blt pc 424 then (bif Nat.beq pc 423 then some (.aload_n 0, 424, 0, 0, 0) else none) else (bif Nat.blt pc 425 then (bif Nat.beq pc 424 then some (.iload_n 3, 425, 0, 0, 0) else none) else (bif Nat.beq pc 425 then some (.iconst 3, 426, 0, 3, 0) else none)))) else (bif Nat.blt pc 431 then (bif Nat.blt pc 427 then (bif Nat.beq pc 426 then some (.iadd, 427, 0, 0, 0) else none) else (bif Nat.blt pc 428 then (bif Nat.beq pc 427 then some (.iaload, 428, 0, 0, 0) else none) else (bif Nat.beq pc 428 then some (.invokevirtual 48, 431, 0, 0, 0) else none))) else (bif Nat.blt pc 434 then (bif Nat.beq pc 431 then some (.if_icmp .eq 722, 434, 1153, 0, 0) else none) else (bif Nat.blt pc 435 then (bif Nat.beq pc 434 then some (.iconst 0, 435, 0, 0, 0) else none) else (bif Nat.beq pc 435 then some (.ireturn, 436, 0, 0, 0) else none))))))))
def tbL_8 : Nat → Option mv_R := mv_seg 436 479 (fun pc => (bif Nat.blt pc 456 then (bif Nat.blt pc 445 then (bif Nat.blt pc 440 then (bif Nat.blt pc 438 then (bif Nat.blt pc 437 then (bif Nat.beq pc 436 then some (.aload_n 1, 437, 0, 0, 0) else none) else (bif Nat.beq pc 437 then some (.aload_n 0, 438, 0, 0, 0) else none)) else (bif Nat.blt pc 439 then (bif Nat.beq pc 438 then some (.iload_n 3, 439, 0, 0, 0) else none) else (bif Nat.beq pc 439 then some (.iconst 1, 440, 0, 1, 0) else none))) else (bif Nat.blt pc 442 then (bif Nat.blt pc 441 then (bif Nat.beq pc 440 then some (.iadd, 441, 0, 0, 0) else none) else (bif Nat.beq pc 441 then some (.iaload, 442, 0, 0, 0) else none)) else (bif Nat.blt pc 443 then (bif Nat.beq pc 442 then some (.aload_n 0, 443, 0, 0, 0) else none) else (bif Nat.blt pc 444 then (bif Nat.beq pc 443 then some (.iload_n 3, 444, 0, 0, 0) else none) else (bif Nat.beq pc 444 then some (.iconst 2, 445, 0, 2, 0) else none))))) else (bif Nat.blt pc 449 then (bif Nat.blt pc 447 then (bif Nat.blt pc 446 then (bif Nat.beq pc 445 then some (.iadd, 446, 0, 0, 0) else none) else (bif Nat.beq pc 446 then some (.iaload, 447, 0, 0, 0) else none)) else (bif Nat.blt pc 448 then (bif Nat.beq pc 447 then some (.aload_n 0, 448, 0, 0, 0) else none) else (bif Nat.beq pc 448 then some (.iload_n 3, 449, 0, 0, 0) else none))) else (bif Nat.blt pc 451 then (bif Nat.blt pc 450 then (bif Nat.beq pc 449 then some (.iconst 3, 450, 0, 3, 0) else none) else (bif Nat.beq pc 450 then some (.iadd, 451, 0, 0, 0) else none)) else (bif Nat.blt pc 452 then (bif Nat.beq pc 451 then some (.iaload, 452, 0, 0, 0) else none) else (bif Nat.blt pc 455 then (bif Nat.beq pc 452 then some (.invokevirtual 49, 455, 0, 0, 0) else none) else (bif Nat.beq pc 455 then some (.aload_n 2, 456, 0, 0, 0) else none)))))) else (bif Nat.blt pc 465 then (bif Nat.blt pc 460 then (bif Nat.blt pc 458 then (bif Nat.blt pc 457 then (bif Nat.beq pc 456 then some (.aload_n 0, 457, 0, 0, 0) else none) else (bif Nat.beq pc 457 then some (.iload_n 3, 458, 0, 0, 0) else none)) else (bif Nat.blt pc 459 then (bif Nat.beq pc 458 then some (.iconst 1, 459, 0, 1, 0) else none) else (bif Nat.beq pc 459 then some (.iadd, 460, 0, 0, 0) else none))) else (bif Nat.blt pc 462 then (bif Nat.blt pc 461 then (bif Nat.beq pc 460 then some (.iaload, 461, 0, 0, 0) else none) else (bif Nat.beq pc 461 then some (.aload_n 0, 462, 0, 0, 0) else none)) else (bif Nat.blt pc 463 then (bif Nat.beq pc 462 then some (.iload_n 3, 463, 0, 0, 0) else none) else (bif Nat.blt pc 464 then (bif Nat.beq pc 463 then some (.iconst 2, 464, 0, 2, 0) else none) else (bif Nat.beq pc 464 then some (.iadd, 465, 0, 0, 0) else none))))) else (bif Nat.blt pc 470 then (bif Nat.blt pc 467 then (bif Nat.blt pc 466 then (bif Nat.beq pc 465 then some (.iaload, 466, 0, 0, 0) else none) else (bif Nat.beq pc 466 then some (.aload_n 0, 467, 0, 0, 0) else none)) else (bif Nat.blt pc 468 then (bif Nat.beq pc 467 then some (.iload_n 3, 468, 0, 0, 0) else none) else (bif Nat.blt pc 469 then (bif Nat.beq pc 468 then some (.iconst 3, 469, 0, 3, 0) else none) else (bif Nat.beq pc 469 then some (.iadd, 470, 0, 0, 0) else none)))) else (bif Nat.blt pc 474 then (bif Nat.blt pc 471 then (bif Nat.beq pc 470 then some (.iaload, 471, 0, 0, 0) else none) else (bif Nat.beq pc 471 then some (.invokevirtual 52, 474, 0, 0, 0) else none)) else (bif Nat.blt pc 477 then (bif Nat.beq pc 474 then some (.if_icmp .eq 679, 477, 1153, 0, 0) else none) else (bif Nat.blt pc 478 then (bif Nat.beq pc 477 then some (.iconst 0, 478, 0, 0, 0) else none) else (bif Nat.beq pc 478 then some (.ireturn, 479, 0, 0, 0) else none))))))))
def tbL_9 : Nat → Option mv_R := mv_seg 479 522 (fun pc => (bif Nat.blt pc 499 then (bif Nat.blt pc 488 then (bif Nat.blt pc 483 then (bif Nat.blt pc 481 then (bif Nat.blt pc 480 then (bif Nat.beq pc 479 then some (.aload_n 1, 480, 0, 0, 0) else none) else (bif Nat.beq pc 480 then some (.aload_n 0, 481, 0, 0, 0) else none)) else (bif Nat.blt pc 482 then (bif Nat.beq pc 481 then some (.iload_n 3, 482, 0, 0, 0) else none) else (bif Nat.beq pc 482 then some (.iconst 1, 483, 0, 1, 0) else none))) else (bif Nat.blt pc 485 then (bif Nat.blt pc 484 then (bif Nat.beq pc 483 then some (.iadd, 484, 0, 0, 0) else none) else (bif Nat.beq pc 484 then some (.iaload, 485, 0, 0, 0) else none)) else (bif Nat.blt pc 486 then (bif Nat.beq pc 485 then some (.aload_n 0, 486, 0, 0, 0) else none) else (bif Nat.blt pc 487 then (bif Nat.beq pc 486 then some (.iload_n 3, 487, 0, 0, 0) else none) else (bif Nat.beq pc 487 then some (.iconst 2, 488, 0, 2, 0) else none))))) else (bif Nat.blt pc 492 then (bif Nat.blt pc 490 then (bif Nat.blt pc 489 then (bif Nat.beq pc 488 then some (.iadd, 489, 0, 0, 0) else none) else (bif Nat.beq pc 489 then some (.iaload, 490, 0, 0, 0) else none)) else (bif Nat.blt pc 491 then (bif Nat.beq pc 490 then some (.aload_n 0, 491, 0, 0, 0) else none) else (bif Nat.beq pc 491 then some (.iload_n 3, 492, 0, 0, 0) else none))) else (bif Nat.blt pc 494 then (bif Nat.blt pc 493 then (bif Nat.beq pc 492 then some (.iconst 3, 493, 0, 3, 0) else none) else (bif Nat.beq pc 493 then some (.iadd, 494, 0, 0, 0) else none)) else (bif Nat.blt pc 495 then (bif Nat.beq pc 494 then some (.iaload, 495, 0, 0, 0) else none) else (bif Nat.blt pc 498 then (bif Nat.beq pc 495 then some (.invokevirtual 53, 498, 0, 0, 0) else none) else (bif Nat.beq pc 498 then some (.aload_n 2, 499, 0, 0, 0) else none)))))) else (bif Nat.blt pc 508 then (bif Nat.blt pc 503 then (bif Nat.blt pc 501 then (bif Nat.blt pc 500 then (bif Nat.beq pc 499 then some (.aload_n 0, 500, 0, 0, 0) else none) else (bif Nat.beq pc 500 then some (.iload_n 3, 501, 0, 0, 0) else none)) else (bif Nat.blt pc 502 then (bif Nat.beq pc 501 then some (.iconst 1, 502, 0, 1, 0) else none) else (bif Nat.beq pc 502 then some (.iadd, 503, 0, 0, 0) else none))) else (bif Nat.blt pc 505 then (bif Nat.blt pc 504 then (bif Nat.beq pc 503 then some (.iaload, 504, 0, 0, 0) else none) else (bif Nat.beq pc 504 then some (.aload_n 0, 505, 0, 0, 0) else none)) else (bif Nat.blt pc 506 then (bif Nat.beq pc 505 then some (.iload_n 3, 506, 0, 0, 0) else none) else (bif Nat.blt pc 507 then (bif Nat.beq pc 506 then some (.iconst 2, 507, 0, 2, 0) else none) else (bif Nat.beq pc 507 then some (.iadd, 508, 0, 0, 0) else none))))) else (bif Nat.blt pc 513 then (bif Nat.blt pc 510 then (bif Nat.blt pc 509 then (bif Nat.beq pc 508 then some (.iaload, 509, 0, 0, 0) else none) else (bif Nat.beq pc 509 then some (.aload_n 0, 510, 0, 0, 0) else none)) else (bif Nat.blt pc 511 then (bif Nat.beq pc 510 then some (.iload_n 3, 511, 0, 0, 0) else none) else (bif Nat.blt pc 512 then (bif Nat.beq pc 511 then some (.iconst 3, 512, 0, 3, 0) else none) else (bif Nat.beq pc 512 then some (.iadd, 513, 0, 0, 0) else none)))) else (bif Nat.blt pc 517 then (bif Nat.blt pc 514 then (bif Nat.beq pc 513 then some (.iaload, 514, 0, 0, 0) else none) else (bif Nat.beq pc 514 then some (.invokevirtual 56, 517, 0, 0, 0) else none)) else (bif Nat.blt pc 520 then (bif Nat.beq pc 517 then some (.if_icmp .eq 636, 520, 1153, 0, 0) else none) else (bif Nat.blt pc 521 then (bif Nat.beq pc 520 then some (.iconst 0, 521, 0, 0, 0) else none) else (bif Nat.beq pc 521 then some (.ireturn, 522, 0, 0, 0) else none))))))))
def tbL_10 : Nat → Option mv_R := mv_seg 522 545 (fun pc => (bif Nat.blt pc 532 then (bif Nat.blt pc 526 then (bif Nat.blt pc 524 then (bif Nat.blt pc 523 then (bif Nat.beq pc 522 then some (.aload_n 1, 523, 0, 0, 0) else none) else (bif Nat.beq pc 523 then some (.aload_n 0, 524, 0, 0, 0) else none)) else (bif Nat.blt pc 525 then (bif Nat.beq pc 524 then some (.iload_n 3, 525, 0, 0, 0) else none) else (bif Nat.beq pc 525 then some (.iconst 1, 526, 0, 1, 0) else none))) else (bif Nat.blt pc 528 then (bif Nat.blt pc 527 then (bif Nat.beq pc 526 then some (.iadd, 527, 0, 0, 0) else none) else (bif Nat.beq pc 527 then some (.iaload, 528, 0, 0, 0) else none)) else (bif Nat.blt pc 531 then (bif Nat.beq pc 528 then some (.invokevirtual 57, 531, 0, 0, 0) else none) else (bif Nat.beq pc 531 then some (.aload_n 2, 532, 0, 0, 0) else none)))) else (bif Nat.blt pc 536 then (bif Nat.blt pc 534 then (bif Nat.blt pc 533 then (bif Nat.beq pc 532 then some (.aload_n 0, 533, 0, 0, 0) else none) else (bif Nat.beq pc 533 then some (.iload_n 3, 534, 0, 0, 0) else none)) else (bif Nat.blt pc 535 then (bif Nat.beq pc 534 then some (.iconst 1, 535, 0, 1, 0) else none) else (bif Nat.beq pc 535 then some (.iadd, 536, 0, 0, 0) else none))) else (bif Nat.blt pc 540 then (bif Nat.blt pc 537 then (bif Nat.beq pc 536 then some (.iaload, 537, 0, 0, 0) else none) else (bif Nat.beq pc 537 then some (.invokevirtual 60, 540, 0, 0, 0) else none)) else (bif Nat.blt pc 543 then (bif Nat.beq pc 540 then some (.if_icmp .eq 613, 543, 1153, 0, 0) else none) else (bif Nat.blt pc 544 then (bif Nat.beq pc 543 then some (.iconst 0, 544, 0, 0, 0) else none) else (bif Nat.beq pc 544 then some (.ireturn, 545, 0, 0, 0) else none)))))))
def tbL_11 : Nat → Option mv_R := mv_seg 545 608 (fun pc => (bif Nat.blt pc 575 then (bif Nat.blt pc 558 then (bif Nat.blt pc 551 then (bif Nat.blt pc 548 then (bif Nat.blt pc 546 then (bif Nat.beq pc 545 then some (.aload_n 1, 546, 0, 0, 0) else none) else (bif Nat.blt pc 547 then (bif Nat.beq pc 546 then some (.aload_n 0, 547, 0, 0, 0) else none) else (bif Nat.beq pc 547 then some (.iload_n 3, 548, 0, 0, 0) else none))) else (bif Nat.blt pc 549 then (bif Nat.beq pc 548 then some (.iconst 1, 549, 0, 1, 0) else none) else (bif Nat.blt pc 550 then (bif Nat.beq pc 549 then some (.iadd, 550, 0, 0, 0) else none) else (bif Nat.beq pc 550 then some (.iaload, 551, 0, 0, 0) else none)))) else (bif Nat.blt pc 555 then (bif Nat.blt pc 552 then (bif Nat.beq pc 551 then some (.i2l, 552, 0, 0, 0) else none) else (bif Nat.blt pc 554 then (bif Nat.beq pc 552 then some (.bipush 32, 554, 0, 32, 0) else none) else (bif Nat.beq pc 554 then some (.lshl, 555, 0, 0, 0) else none))) else (bif Nat.blt pc 556 then (bif Nat.beq pc 555 then some (.aload_n 0, 556, 0, 0, 0) else none) else (bif Nat.blt pc 557 then (bif Nat.beq pc 556 then some (.iload_n 3, 557, 0, 0, 0) else none) else (bif Nat.beq pc 557 then some (.iconst 2, 558, 0, 2, 0) else none))))) else (bif Nat.blt pc 566 then (bif Nat.blt pc 561 then (bif Nat.blt pc 559 then (bif Nat.beq pc 558 then some (.iadd, 559, 0, 0, 0) else none) else (bif Nat.blt pc 560 then (bif Nat.beq pc 559 then some (.iaload, 560, 0, 0, 0) else none) else (bif Nat.beq pc 560 then some (.i2l, 561, 0, 0, 0) else none))) else (bif Nat.blt pc 564 then (bif Nat.beq pc 561 then some (.ldc2_w 61, 564, 0, 0, 4294967295) else none) else (bif Nat.blt pc 565 then (bif Nat.beq pc 564 then some (.land, 565, 0, 0, 0) else none) else (bif Nat.beq pc 565 then some (.lor, 566, 0, 0, 0) else none)))) else (bif Nat.blt pc 569 then (bif Nat.blt pc 567 then (bif Nat.beq pc 566 then some (.aload_n 0, 567, 0, 0, 0) else none) else (bif Nat.blt pc 568 then (bif Nat.beq pc 567 then some (.iload_n 3, 568, 0, 0, 0) else none) else (bif Nat.beq pc 568 then some (.iconst 3, 569, 0, 3, 0) else none))) else (bif Nat.blt pc 571 then (bif Nat.blt pc 570 then (bif Nat.beq pc 569 then some (.iadd, 570, 0, 0, 0) else none) else (bif Nat.beq pc 570 then some (.iaload, 571, 0, 0, 0) else none)) else (bif Nat.blt pc 574 then (bif Nat.beq pc 571 then some (.invokevirtual 63, 574, 0, 0, 0) else none) else (bif Nat.beq pc 574 then some (.aload_n 2, 575, 0, 0, 0) else none)))))) else (bif Nat.blt pc 589 then (bif Nat.blt pc 581 then (bif Nat.blt pc 578 then (bif Nat.blt pc 576 then (bif Nat.beq pc 575 then some (.aload_n 0, 576, 0, 0, 0) else none) else (bif Nat.blt pc 577 then (bif Nat.beq pc 576 then some (.iload_n 3, 577, 0, 0, 0) else none) else (bif Nat.beq pc 577 then some (.iconst 1, 578, 0, 1, 0) else none))) else (bif Nat.blt pc 579 then (bif Nat.beq pc 578 then some (.iadd, 579, 0, 0, 0) else none) else (bif Nat.blt pc 580 then (bif Nat.beq pc 579 then some (.iaload, 580, 0, 0, 0) else none) else (bif Nat.beq pc 580 then some (.i2l, 581, 0, 0, 0) else none)))) else (bif Nat.blt pc 585 then (bif Nat.blt pc 583 then (bif Nat.beq pc 581 then some (.bipush 32, 583, 0, 32, 0) else none) else (bif Nat.blt pc 584 then (bif Nat.beq pc 583 then some (.lshl, 584, 0, 0, 0) else none) else (bif Nat.beq pc 584 then some (.aload_n 0, 585, 0, 0, 0) else none))) else (bif Nat.blt pc 587 then (bif Nat.blt pc 586 then (bif Nat.beq pc 585 then some (.iload_n 3, 586, 0, 0, 0) else none) else (bif Nat.beq pc 586 then some (.iconst 2, 587, 0, 2, 0) else none)) else (bif Nat.blt pc 588 then (bif Nat.beq pc 587 then some (.iadd, 588, 0, 0, 0) else none) else (bif Nat.beq pc 588 then some (.iaload, 589, 0, 0, 0) else none))))) else (bif Nat.blt pc 597 then (bif Nat.blt pc 594 then (bif Nat.blt pc 590 then (bif Nat.beq pc 589 then some (.i2l, 590, 0, 0, 0) else none) else (bif Nat.blt pc 593 then (bif Nat.beq pc 590 then some (.ldc2_w 61, 593, 0, 0, 4294967295) else none) else (bif Nat.beq pc 593 then some (.land, 594, 0, 0, 0) else none))) else (bif Nat.blt pc 595 then (bif Nat.beq pc 594 then some (.lor, 595, 0, 0, 0) else none) else (bif Nat.blt pc 596 then (bif Nat.beq pc 595 then some (.aload_n 0, 596, 0, 0, 0) else none) else (bif Nat.beq pc 596 then some (.iload_n 3, 597, 0, 0, 0) else none)))) else (bif Nat.blt pc 600 then (bif Nat.blt pc 598 then (bif Nat.beq pc 597 then some (.iconst 3, 598, 0, 3, 0) else none) else (bif Nat.blt pc 599 then (bif Nat.beq pc 598 then some (.iadd, 599, 0, 0, 0) else none) else (bif Nat.beq pc 599 then some (.iaload, 600, 0, 0, 0) else none))) else (bif Nat.blt pc 606 then (bif Nat.blt pc 603 then (bif Nat.beq pc 600 then some (.invokevirtual 67, 603, 0, 0, 0) else none) else (bif Nat.beq pc 603 then some (.if_icmp .eq 550, 606, 1153, 0, 0) else none)) else (bif Nat.blt pc 607 then (bif Nat.beq pc 606 then some (.iconst 0, 607, 0, 0, 0) else none) else (bif Nat.beq pc 607 then some (.ireturn, 608, 0, 0, 0) else none))))))))
def tbL_12 : Nat → Option mv_R := mv_seg 608 621 (fun pc => (bif Nat.blt pc 613 then (bif Nat.blt pc 609 then (bif Nat.beq pc 608 then some (.aload_n 1, 609, 0, 0, 0) else none) else (bif Nat.blt pc 612 then (bif Nat.beq pc 609 then some (.invokevirtual 68, 612, 0, 0, 0) else none) else (bif Nat.beq pc 612 then some (.aload_n 2, 613, 0, 0, 0) else none))) else (bif Nat.blt pc 619 then (bif Nat.blt pc 616 then (bif Nat.beq pc 613 then some (.invokevirtual 72, 616, 0, 0, 0) else none) else (bif Nat.beq pc 616 then some (.if_icmp .eq 537, 619, 1153, 0, 0) else none)) else (bif Nat.blt pc 620 then (bif Nat.beq pc 619 then some (.iconst 0, 620, 0, 0, 0) else none) else (bif Nat.beq pc 620 then some (.ireturn, 621, 0, 0, 0) else none)))))
def tbL_13 : Nat → Option mv_R := mv_seg 621 684 (fun pc => (bif Nat.blt pc 651 then (bif Nat.blt pc 635 then (bif Nat.blt pc 628 then (bif Nat.blt pc 624 then (bif Nat.blt pc 622 then (bif Nat.beq pc 621 then some (.aload_n 1, 622, 0, 0, 0) else none) else (bif Nat.blt pc 623 then (bif Nat.beq pc 622 then some (.aload_n 0, 623, 0, 0, 0) else none) else (bif Nat.beq pc 623 then some (.iload_n 3, 624, 0, 0, 0) else none))) else (bif Nat.blt pc 626 then (bif Nat.blt pc 625 then (bif Nat.beq pc 624 then some (.iconst 1, 625, 0, 1, 0) else none) else (bif Nat.beq pc 625 then some (.iadd, 626, 0, 0, 0) else none)) else (bif Nat.blt pc 627 then (bif Nat.beq pc 626 then some (.iaload, 627, 0, 0, 0) else none) else (bif Nat.beq pc 627 then some (.aload_n 0, 628, 0, 0, 0) else none)))) else (bif Nat.blt pc 631 then (bif Nat.blt pc 629 then (bif Nat.beq pc 628 then some (.iload_n 3, 629, 0, 0, 0) else none) else (bif Nat.blt pc 630 then (bif Nat.beq pc 629 then some (.iconst 2, 630, 0, 2, 0) else none) else (bif Nat.beq pc 630 then some (.iadd, 631, 0, 0, 0) else none))) else (bif Nat.blt pc 633 then (bif Nat.blt pc 632 then (bif Nat.beq pc 631 then some (.iaload, 632, 0, 0, 0) else none) else (bif Nat.beq pc 632 then some (.aload_n 0, 633, 0, 0, 0) else none)) else (bif Nat.blt pc 634 then (bif Nat.beq pc 633 then some (.iload_n 3, 634, 0, 0, 0) else none) else (bif Nat.beq pc 634 then some (.iconst 3, 635, 0, 3, 0) else none))))) else (bif Nat.blt pc 642 then (bif Nat.blt pc 638 then (bif Nat.blt pc 636 then (bif Nat.beq pc 635 then some (.iadd, 636, 0, 0, 0) else none) else (bif Nat.blt pc 637 then (bif Nat.beq pc 636 then some (.iaload, 637, 0, 0, 0) else none) else (bif Nat.beq pc 637 then some (.aload_n 0, 638, 0, 0, 0) else none))) else (bif Nat.blt pc 640 then (bif Nat.blt pc 639 then (bif Nat.beq pc 638 then some (.iload_n 3, 639, 0, 0, 0) else none) else (bif Nat.beq pc 639 then some (.iconst 4, 640, 0, 4, 0) else none)) else (bif Nat.blt pc 641 then (bif Nat.beq pc 640 then some (.iadd, 641, 0, 0, 0) else none) else (bif Nat.beq pc 641 then some (.iaload, 642, 0, 0, 0) else none)))) else (bif Nat.blt pc 645 then (bif Nat.blt pc 643 then (bif Nat.beq pc 642 then some (.aload_n 0, 643, 0, 0, 0) else none) else (bif Nat.blt pc 644 then (bif Nat.beq pc 643 then some (.iload_n 3, 644, 0, 0, 0) else none) else (bif Nat.beq pc 644 then some (.iconst 5, 645, 0, 5, 0) else none))) else (bif Nat.blt pc 647 then (bif Nat.blt pc 646 then (bif Nat.beq pc 645 then some (.iadd, 646, 0, 0, 0) else none) else (bif Nat.beq pc 646 then some (.iaload, 647, 0, 0, 0) else none)) else (bif Nat.blt pc 650 then (bif Nat.beq pc 647 then some (.invokevirtual 73, 650, 0, 0, 0) else none) else (bif Nat.beq pc 650 then some (.aload_n 2, 651, 0, 0, 0) else none)))))) else (bif Nat.blt pc 665 then (bif Nat.blt pc 658 then (bif Nat.blt pc 654 then (bif Nat.blt pc 652 then (bif Nat.beq pc 651 then some (.aload_n 0, 652, 0, 0, 0) else none) else (bif Nat.blt pc 653 then (bif Nat.beq pc 652 then some (.iload_n 3, 653, 0, 0, 0) else none) else (bif Nat.beq pc 653 then some (.iconst 1, 654, 0, 1, 0) else none))) else (bif Nat.blt pc 656 then (bif Nat.blt pc 655 then (bif Nat.beq pc 654 then some (.iadd, 655, 0, 0, 0) else none) else (bif Nat.beq pc 655 then some (.iaload, 656, 0, 0, 0) else none)) else (bif Nat.blt pc 657 then (bif Nat.beq pc 656 then some (.aload_n 0, 657, 0, 0, 0) else none) else (bif Nat.beq pc 657 then some (.iload_n 3, 658, 0, 0, 0) else none)))) else (bif Nat.blt pc 661 then (bif Nat.blt pc 659 then (bif Nat.beq pc 658 then some (.iconst 2, 659, 0, 2, 0) else none) else (bif Nat.blt pc 660 then (bif Nat.beq pc 659 then some (.iadd, 660, 0, 0, 0) else none) else (bif Nat.beq pc 660 then some (.iaload, 661, 0, 0, 0) else none))) else (bif Nat.blt pc 663 then (bif Nat.blt pc 662 then (bif Nat.beq pc 661 then some (.aload_n 0, 662, 0, 0, 0) else none) else (bif Nat.beq pc 662 then some (.iload_n 3, 663, 0, 0, 0) else none)) else (bif Nat.blt pc 664 then (bif Nat.beq pc 663 then some (.iconst 3, 664, 0, 3, 0) else none) else (bif Nat.beq pc 664 then some (.iadd, 665, 0, 0, 0) else none))))) else (bif Nat.blt pc 672 then (bif Nat.blt pc 668 then (bif Nat.blt pc 666 then (bif Nat.beq pc 665 then some (.iaload, 666, 0, 0, 0) else none) else (bif Nat.blt pc 667 then (bif Nat.beq pc 666 then some (.aload_n 0, 667, 0, 0, 0) else none) else (bif Nat.beq pc 667 then some (.iload_n 3, 668, 0, 0, 0) else none))) else (bif Nat.blt pc 670 then (bif Nat.blt pc 669 then (bif Nat.beq pc 668 then some (.iconst 4, 669, 0, 4, 0) else none) else (bif Nat.beq pc 669 then some (.iadd, 670, 0, 0, 0) else none)) else (bif Nat.blt pc 671 then (bif Nat.beq pc 670 then some (.iaload, 671, 0, 0, 0) else none) else (bif Nat.beq pc 671 then some (.aload_n 0, 672, 0, 0, 0) else none)))) else (bif Nat.blt pc 676 then (bif Nat.blt pc 674 then (bif Nat.blt pc 673 then (bif Nat.beq pc 672 then some (.iload_n 3, 673, 0, 0, 0) else none) else (bif Nat.beq pc 673 then some (.iconst 5, 674, 0, 5, 0) else none)) else (bif Nat.blt pc 675 then (bif Nat.beq pc 674 then some (.iadd, 675, 0, 0, 0) else none) else (bif Nat.beq pc 675 then some (.iaload, 676, 0, 0, 0) else none))) else (bif Nat.blt pc 682 then (bif Nat.blt pc 679 then (bif Nat.beq pc 676 then some (.invokevirtual 77, 679, 0, 0, 0) else none) else (bif Nat.beq pc 679 then some (.if_icmp .eq 474, 682, 1153, 0, 0) else none)) else (bif Nat.blt pc 683 then (bif Nat.beq pc 682 then some (.iconst 0, 683, 0, 0, 0) else none) else (bif Nat.beq pc 683 then some (.ireturn, 684, 0, 0, 0) else none))))))))
def tbL_14 : Nat → Option mv_R := mv_seg 684 727 (fun pc => (bif Nat.blt pc 704 then (bif Nat.blt pc 693 then (bif Nat.blt pc 688 then (bif Nat.blt pc 686 then (bif Nat.blt pc 685 then (bif Nat.beq pc 684 then some (.aload_n 1, 685, 0, 0, 0) else none) else (bif Nat.beq pc 685 then some (.aload_n 0, 686, 0, 0, 0) else none)) else (bif Nat.blt pc 687 then (bif Nat.beq pc 686 then some (.iload_n 3, 687, 0, 0, 0) else none) else (bif Nat.beq pc 687 then some (.iconst 1, 688, 0, 1, 0) else none))) else (bif Nat.blt pc 690 then (bif Nat.blt pc 689 then (bif Nat.beq pc 688 then some (.iadd, 689, 0, 0, 0) else none) else (bif Nat.beq pc 689 then some (.iaload, 690, 0, 0, 0) else none)) else (bif Nat.blt pc 691 then (bif Nat.beq pc 690 then some (.aload_n 0, 691, 0, 0, 0) else none) else (bif Nat.blt pc 692 then (bif Nat.beq pc 691 then some (.iload_n 3, 692, 0, 0, 0) else none) else (bif Nat.beq pc 692 then some (.iconst 2, 693, 0, 2, 0) else none))))) else (bif Nat.blt pc 697 then (bif Nat.blt pc 695 then (bif Nat.blt pc 694 then (bif Nat.beq pc 693 then some (.iadd, 694, 0, 0, 0) else none) else (bif Nat.beq pc 694 then some (.iaload, 695, 0, 0, 0) else none)) else (bif Nat.blt pc 696 then (bif Nat.beq pc 695 then some (.aload_n 0, 696, 0, 0, 0) else none) else (bif Nat.beq pc 696 then some (.iload_n 3, 697, 0, 0, 0) else none))) else (bif Nat.blt pc 699 then (bif Nat.blt pc 698 then (bif Nat.beq pc 697 then some (.iconst 3, 698, 0, 3, 0) else none) else (bif Nat.beq pc 698 then some (.iadd, 699, 0, 0, 0) else none)) else (bif Nat.blt pc 700 then (bif Nat.beq pc 699 then some (.iaload, 700, 0, 0, 0) else none) else (bif Nat.blt pc 703 then (bif Nat.beq pc 700 then some (.invokevirtual 78, 703, 0, 0, 0) else none) else (bif Nat.beq pc 703 then some (.aload_n 2, 704, 0, 0, 0) else none)))))) else (bif Nat.blt pc 713 then (bif Nat.blt pc 708 then (bif Nat.blt pc 706 then (bif Nat.blt pc 705 then (bif Nat.beq pc 704 then some (.aload_n 0, 705, 0, 0, 0) else none) else (bif Nat.beq pc 705 then some (.iload_n 3, 706, 0, 0, 0) else none)) else (bif Nat.blt pc 707 then (bif Nat.beq pc 706 then some (.iconst 1, 707, 0, 1, 0) else none) else (bif Nat.beq pc 707 then some (.iadd, 708, 0, 0, 0) else none))) else (bif Nat.blt pc 710 then (bif Nat.blt pc 709 then (bif Nat.beq pc 708 then some (.iaload, 709, 0, 0, 0) else none) else (bif Nat.beq pc 709 then some (.aload_n 0, 710, 0, 0, 0) else none)) else (bif Nat.blt pc 711 then (bif Nat.beq pc 710 then some (.iload_n 3, 711, 0, 0, 0) else none) else (bif Nat.blt pc 712 then (bif Nat.beq pc 711 then some (.iconst 2, 712, 0, 2, 0) else none) else (bif Nat.beq pc 712 then some (.iadd, 713, 0, 0, 0) else none))))) else (bif Nat.blt pc 718 then (bif Nat.blt pc 715 then (bif Nat.blt pc 714 then (bif Nat.beq pc 713 then some (.iaload, 714, 0, 0, 0) else none) else (bif Nat.beq pc 714 then some (.aload_n 0, 715, 0, 0, 0) else none)) else (bif Nat.blt pc 716 then (bif Nat.beq pc 715 then some (.iload_n 3, 716, 0, 0, 0) else none) else (bif Nat.blt pc 717 then (bif Nat.beq pc 716 then some (.iconst 3, 717, 0, 3, 0) else none) else (bif Nat.beq pc 717 then some (.iadd, 718, 0, 0, 0) else none)))) else (bif Nat.blt pc 722 then (bif Nat.blt pc 719 then (bif Nat.beq pc 718 then some (.iaload, 719, 0, 0, 0) else none) else (bif Nat.beq pc 719 then some (.invokevirtual 81, 722, 0, 0, 0) else none)) else (bif Nat.blt pc 725 then (bif Nat.beq pc 722 then some (.if_icmp .eq 431, 725, 1153, 0, 0) else none) else (bif Nat.blt pc 726 then (bif Nat.beq pc 725 then some (.iconst 0, 726, 0, 0, 0) else none) else (bif Nat.beq pc 726 then some (.ireturn, 727, 0, 0, 0) else none))))))))
def tbL_15 : Nat → Option mv_R := mv_seg 727 760 (fun pc => (bif Nat.blt pc 742 then (bif Nat.blt pc 733 then (bif Nat.blt pc 730 then (bif Nat.blt pc 728 then (bif Nat.beq pc 727 then some (.aload_n 1, 728, 0, 0, 0) else none) else (bif Nat.blt pc 729 then (bif Nat.beq pc 728 then some (.aload_n 0, 729, 0, 0, 0) else none) else (bif Nat.beq pc 729 then some (.iload_n 3, 730, 0, 0, 0) else none))) else (bif Nat.blt pc 731 then (bif Nat.beq pc 730 then some (.iconst 1, 731, 0, 1, 0) else none) else (bif Nat.blt pc 732 then (bif Nat.beq pc 731 then some (.iadd, 732, 0, 0, 0) else none) else (bif Nat.beq pc 732 then some (.iaload, 733, 0, 0, 0) else none)))) else (bif Nat.blt pc 736 then (bif Nat.blt pc 734 then (bif Nat.beq pc 733 then some (.aload_n 0, 734, 0, 0, 0) else none) else (bif Nat.blt pc 735 then (bif Nat.beq pc 734 then some (.iload_n 3, 735, 0, 0, 0) else none) else (bif Nat.beq pc 735 then some (.iconst 2, 736, 0, 2, 0) else none))) else (bif Nat.blt pc 738 then (bif Nat.blt pc 737 then (bif Nat.beq pc 736 then some (.iadd, 737, 0, 0, 0) else none) else (bif Nat.beq pc 737 then some (.iaload, 738, 0, 0, 0) else none)) else (bif Nat.blt pc 741 then (bif Nat.beq pc 738 then some (.invokevirtual 82, 741, 0, 0, 0) else none) else (bif Nat.beq pc 741 then some (.aload_n 2, 742, 0, 0, 0) else none))))) else (bif Nat.blt pc 749 then (bif Nat.blt pc 745 then (bif Nat.blt pc 743 then (bif Nat.beq pc 742 then some (.aload_n 0, 743, 0, 0, 0) else none) else (bif Nat.blt pc 744 then (bif Nat.beq pc 743 then some (.iload_n 3, 744, 0, 0, 0) else none) else (bif Nat.beq pc 744 then some (.iconst 1, 745, 0, 1, 0) else none))) else (bif Nat.blt pc 747 then (bif Nat.blt pc 746 then (bif Nat.beq pc 745 then some (.iadd, 746, 0, 0, 0) else none) else (bif Nat.beq pc 746 then some (.iaload, 747, 0, 0, 0) else none)) else (bif Nat.blt pc 748 then (bif Nat.beq pc 747 then some (.aload_n 0, 748, 0, 0, 0) else none) else (bif Nat.beq pc 748 then some (.iload_n 3, 749, 0, 0, 0) else none)))) else (bif Nat.blt pc 752 then (bif Nat.blt pc 750 then (bif Nat.beq pc 749 then some (.iconst 2, 750, 0, 2, 0) else none) else (bif Nat.blt pc 751 then (bif Nat.beq pc 750 then some (.iadd, 751, 0, 0, 0) else none) else (bif Nat.beq pc 751 then some (.iaload, 752, 0, 0, 0) else none))) else (bif Nat.blt pc 758 then (bif Nat.blt pc 755 then (bif Nat.beq pc 752 then some (.invokevirtual 85, 755, 0, 0, 0) else none) else (bif Nat.beq pc 755 then some (.if_icmp .eq 398, 758, 1153, 0, 0) else none)) else (bif Nat.blt pc 759 then (bif Nat.beq pc 758 then some (.iconst 0, 759, 0, 0, 0) else none) else (bif Nat.beq pc 759 then some (.ireturn, 760, 0, 0, 0) else none)))))))
def tbL_16 : Nat → Option mv_R := mv_seg 760 783 (fun pc => (bif Nat.blt pc 770 then (bif Nat.blt pc 764 then (bif Nat.blt pc 762 then (bif Nat.blt pc 761 then (bif Nat.beq pc 760 then some (.aload_n 1, 761, 0, 0, 0) else none) else (bif Nat.beq pc 761 then some (.aload_n 0, 762, 0, 0, 0) else none)) else (bif Nat.blt pc 763 then (bif Nat.beq pc 762 then some (.iload_n 3, 763, 0, 0, 0) else none) else (bif Nat.beq pc 763 then some (.iconst 1, 764, 0, 1, 0) else none))) else (bif Nat.blt pc 766 then (bif Nat.blt pc 765 then (bif Nat.beq pc 764 then some (.iadd, 765, 0, 0, 0) else none) else (bif Nat.beq pc 765 then some (.iaload, 766, 0, 0, 0) else none)) else (bif Nat.blt pc 769 then (bif Nat.beq pc 766 then some (.invokevirtual 86, 769, 0, 0, 0) else none) else (bif Nat.beq pc 769 then some (.aload_n 2, 770, 0, 0, 0) else none)))) else (bif Nat.blt pc 774 then (bif Nat.blt pc 772 then (bif Nat.blt pc 771 then (bif Nat.beq pc 770 then some (.aload_n 0, 771, 0, 0, 0) else none) else (bif Nat.beq pc 771 then some (.iload_n 3, 772, 0, 0, 0) else none)) else (bif Nat.blt pc 773 then (bif Nat.beq pc 772 then some (.iconst 1, 773, 0, 1, 0) else none) else (bif Nat.beq pc 773 then some (.iadd, 774, 0, 0, 0) else none))) else (bif Nat.blt pc 778 then (bif Nat.blt pc 775 then (bif Nat.beq pc 774 then some (.iaload, 775, 0, 0, 0) else none) else (bif Nat.beq pc 775 then some (.invokevirtual 89, 778, 0, 0, 0) else none)) else (bif Nat.blt pc 781 then (bif Nat.beq pc 778 then some (.if_icmp .eq 375, 781, 1153, 0, 0) else none) else (bif Nat.blt pc 782 then (bif Nat.beq pc 781 then some (.iconst 0, 782, 0, 0, 0) else none) else (bif Nat.beq pc 782 then some (.ireturn, 783, 0, 0, 0) else none)))))))
def tbL_17 : Nat → Option mv_R := mv_seg 783 846 (fun pc => (bif Nat.blt pc 813 then (bif Nat.blt pc 797 then (bif Nat.blt pc 790 then (bif Nat.blt pc 786 then (bif Nat.blt pc 784 then (bif Nat.beq pc 783 then some (.aload_n 1, 784, 0, 0, 0) else none) else (bif Nat.blt pc 785 then (bif Nat.beq pc 784 then some (.aload_n 0, 785, 0, 0, 0) else none) else (bif Nat.beq pc 785 then some (.iload_n 3, 786, 0, 0, 0) else none))) else (bif Nat.blt pc 788 then (bif Nat.blt pc 787 then (bif Nat.beq pc 786 then some (.iconst 1, 787, 0, 1, 0) else none) else (bif Nat.beq pc 787 then some (.iadd, 788, 0, 0, 0) else none)) else (bif Nat.blt pc 789 then (bif Nat.beq pc 788 then some (.iaload, 789, 0, 0, 0) else none) else (bif Nat.beq pc 789 then some (.aload_n 0, 790, 0, 0, 0) else none)))) else (bif Nat.blt pc 793 then (bif Nat.blt pc 791 then (bif Nat.beq pc 790 then some (.iload_n 3, 791, 0, 0, 0) else none) else (bif Nat.blt pc 792 then (bif Nat.beq pc 791 then some (.iconst 2, 792, 0, 2, 0) else none) else (bif Nat.beq pc 792 then some (.iadd, 793, 0, 0, 0) else none))) else (bif Nat.blt pc 795 then (bif Nat.blt pc 794 then (bif Nat.beq pc 793 then some (.iaload, 794, 0, 0, 0) else none) else (bif Nat.beq pc 794 then some (.aload_n 0, 795, 0, 0, 0) else none)) else (bif Nat.blt pc 796 then (bif Nat.beq pc 795 then some (.iload_n 3, 796, 0, 0, 0) else none) else (bif Nat.beq pc 796 then some (.iconst 3, 797, 0, 3, 0) else none))))) else (bif Nat.blt pc 804 then (bif Nat.blt pc 800 then (bif Nat.blt pc 798 then (bif Nat.beq pc 797 then some (.iadd, 798, 0, 0, 0) else none) else (bif Nat.blt pc 799 then (bif Nat.beq pc 798 then some (.iaload, 799, 0, 0, 0) else none) else (bif Nat.beq pc 799 then some (.aload_n 0, 800, 0, 0, 0) else none))) else (bif Nat.blt pc 802 then (bif Nat.blt pc 801 then (bif Nat.beq pc 800 then some (.iload_n 3, 801, 0, 0, 0) else none) else (bif Nat.beq pc 801 then some (.iconst 4, 802, 0, 4, 0) else none)) else (bif Nat.blt pc 803 then (bif Nat.beq pc 802 then some (.iadd, 803, 0, 0, 0) else none) else (bif Nat.beq pc 803 then some (.iaload, 804, 0, 0, 0) else none)))) else (bif Nat.blt pc 807 then (bif Nat.blt pc 805 then (bif Nat.beq pc 804 then some (.aload_n 0, 805, 0, 0, 0) else none) else (bif Nat.blt pc 806 then (bif Nat.beq pc 805 then some (.iload_n 3, 806, 0, 0, 0) else none) else (bif Nat.beq pc 806 then some (.iconst 5, 807, 0, 5, 0) else none))) else (bif Nat.blt pc 809 then (bif Nat.blt pc 808 then (bif Nat.beq pc 807 then some (.iadd, 808, 0, 0, 0) else none) else (bif Nat.beq pc 808 then some (.iaload, 809, 0, 0, 0) else none)) else (bif Nat.blt pc 812 then (bif Nat.beq pc 809 then some (.invokevirtual 90, 812, 0, 0, 0) else none) else (bif Nat.beq pc 812 then some (.aload_n 2, 813, 0, 0, 0) else none)))))) else (bif Nat.blt pc 827 then (bif Nat.blt pc 820 then (bif Nat.blt pc 816 then (bif Nat.blt pc 814 then (bif Nat.beq pc 813 then some (.aload_n 0, 814, 0, 0, 0) else none) else (bif Nat.blt pc 815 then (bif Nat.beq pc 814 then some (.iload_n 3, 815, 0, 0, 0) else none) else (bif Nat.beq pc 815 then some (.iconst 1, 816, 0, 1, 0) else none))) else (bif Nat.blt pc 818 then (bif Nat.blt pc 817 then (bif Nat.beq pc 816 then some (.iadd, 817, 0, 0, 0) else none) else (bif Nat.beq pc 817 then some (.iaload, 818, 0, 0, 0) else none)) else (bif Nat.blt pc 819 then (bif Nat.beq pc 818 then some (.aload_n 0, 819, 0, 0, 0) else none) else (bif Nat.beq pc 819 then some (.iload_n 3, 820, 0, 0, 0) else none)))) else (bif Nat.blt pc 823 then (bif Nat.blt pc 821 then (bif Nat.beq pc 820 then some (.iconst 2, 821, 0, 2, 0) else none) else (bif Nat.blt pc 822 then (bif Nat.beq pc 821 then some (.iadd, 822, 0, 0, 0) else none) else (bif Nat.beq pc 822 then some (.iaload, 823, 0, 0, 0) else none))) else (bif Nat.blt pc 825 then (bif Nat.blt pc 824 then (bif Nat.beq pc 823 then some (.aload_n 0, 824, 0, 0, 0) else none) else (bif Nat.beq pc 824 then some (.iload_n 3, 825, 0, 0, 0) else none)) else (bif Nat.blt pc 826 then (bif Nat.beq pc 825 then some (.iconst 3, 826, 0, 3, 0) else none) else (bif Nat.beq pc 826 then some (.iadd, 827, 0, 0, 0) else none))))) else (bif Nat.blt pc 834 then (bif Nat.blt pc 830 then (bif Nat.blt pc 828 then (bif Nat.beq pc 827 then some (.iaload, 828, 0, 0, 0) else none) else (bif Nat.blt pc 829 then (bif Nat.beq pc 828 then some (.aload_n 0, 829, 0, 0, 0) else none) else (bif Nat.beq pc 829 then some (.iload_n 3, 830, 0, 0, 0) else none))) else (bif Nat.blt pc 832 then (bif Nat.blt pc 831 then (bif Nat.beq pc 830 then some (.iconst 4, 831, 0, 4, 0) else none) else (bif Nat.beq pc 831 then some (.iadd, 832, 0, 0, 0) else none)) else (bif Nat.blt pc 833 then (bif Nat.beq pc 832 then some (.iaload, 833, 0, 0, 0) else none) else (bif Nat.beq pc 833 then some (.aload_n 0, 834, 0, 0, 0) else none)))) else (bif Nat.blt pc 838 then (bif Nat.blt pc 836 then (bif Nat.blt pc 835 then (bif Nat.beq pc 834 then some (.iload_n 3, 835, 0, 0, 0) else none) else (bif Nat.beq pc 835 then some (.iconst 5, 836, 0, 5, 0) else none)) else (bif Nat.blt pc 837 then (bif Nat.beq pc 836 then some (.iadd, 837, 0, 0, 0) else none) else (bif Nat.beq pc 837 then some (.iaload, 838, 0, 0, 0) else none))) else (bif Nat.blt pc 844 then (bif Nat.blt pc 841 then (bif Nat.beq pc 838 then some (.invokevirtual 93, 841, 0, 0, 0) else none) else (bif Nat.beq pc 841 then some (.if_icmp .eq 312, 844, 1153, 0, 0) else none)) else (bif Nat.blt pc 845 then (bif Nat.beq pc 844 then some (.iconst 0, 845, 0, 0, 0) else none) else (bif Nat.beq pc 845 then some (.ireturn, 846, 0, 0, 0) else none))))))))
def tbL_18 : Nat → Option mv_R := mv_seg 846 869 (fun pc => (bif Nat.blt pc 856 then (bif Nat.blt pc 850 then (bif Nat.blt pc 848 then (bif Nat.blt pc 847 then (bif Nat.beq pc 846 then some (.aload_n 1, 847, 0, 0, 0) else none) else (bif Nat.beq pc 847 then some (.aload_n 0, 848, 0, 0, 0) else none)) else (bif Nat.blt pc 849 then (bif Nat.beq pc 848 then some (.iload_n 3, 849, 0, 0, 0) else none) else (bif Nat.beq pc 849 then some (.iconst 1, 850, 0, 1, 0) else none))) else (bif Nat.blt pc 852 then (bif Nat.blt pc 851 then (bif Nat.beq pc 850 then some (.iadd, 851, 0, 0, 0) else none) else (bif Nat.beq pc 851 then some (.iaload, 852, 0, 0, 0) else none)) else (bif Nat.blt pc 855 then (bif Nat.beq pc 852 then some (.invokevirtual 94, 855, 0, 0, 0) else none) else (bif Nat.beq pc 855 then some (.aload_n 2, 856, 0, 0, 0) else none)))) else (bif Nat.blt pc 860 then (bif Nat.blt pc 858 then (bif Nat.blt pc 857 then (bif Nat.beq pc 856 then some (.aload_n 0, 857, 0, 0, 0) else none) else (bif Nat.beq pc 857 then some (.iload_n 3, 858, 0, 0, 0) else none)) else (bif Nat.blt pc 859 then (bif Nat.beq pc 858 then some (.iconst 1, 859, 0, 1, 0) else none) else (bif Nat.beq pc 859 then some (.iadd, 860, 0, 0, 0) else none))) else (bif Nat.blt pc 864 then (bif Nat.blt pc 861 then (bif Nat.beq pc 860 then some (.iaload, 861, 0, 0, 0) else none) else (bif Nat.beq pc 861 then some (.invokevirtual 97, 864, 0, 0, 0) else none)) else (bif Nat.blt pc 867 then (bif Nat.beq pc 864 then some (.if_icmp .eq 289, 867, 1153, 0, 0) else none) else (bif Nat.blt pc 868 then (bif Nat.beq pc 867 then some (.iconst 0, 868, 0, 0, 0) else none) else (bif Nat.beq pc 868 then some (.ireturn, 869, 0, 0, 0) else none)))))))
def tbL_19 : Nat → Option mv_R := mv_seg 869 892 (fun pc => (bif Nat.blt pc 879 then (bif Nat.blt pc 873 then (bif Nat.blt pc 871 then (bif Nat.blt pc 870 then (bif Nat.beq pc 869 then some (.aload_n 1, 870, 0, 0, 0) else none) else (bif Nat.beq pc 870 then some (.aload_n 0, 871, 0, 0, 0) else none)) else (bif Nat.blt pc 872 then (bif Nat.beq pc 871 then some (.iload_n 3, 872, 0, 0, 0) else none) else (bif Nat.beq pc 872 then some (.iconst 1, 873, 0, 1, 0) else none))) else (bif Nat.blt pc 875 then (bif Nat.blt pc 874 then (bif Nat.beq pc 873 then some (.iadd, 874, 0, 0, 0) else none) else (bif Nat.beq pc 874 then some (.iaload, 875, 0, 0, 0) else none)) else (bif Nat.blt pc 878 then (bif Nat.beq pc 875 then some (.invokevirtual 98, 878, 0, 0, 0) else none) else (bif Nat.beq pc 878 then some (.aload_n 2, 879, 0, 0, 0) else none)))) else (bif Nat.blt pc 883 then (bif Nat.blt pc 881 then (bif Nat.blt pc 880 then (bif Nat.beq pc 879 then some (.aload_n 0, 880, 0, 0, 0) else none) else (bif Nat.beq pc 880 then some (.iload_n 3, 881, 0, 0, 0) else none)) else (bif Nat.blt pc 882 then (bif Nat.beq pc 881 then some (.iconst 1, 882, 0, 1, 0) else none) else (bif Nat.beq pc 882 then some (.iadd, 883, 0, 0, 0) else none))) else (bif Nat.blt pc 887 then (bif Nat.blt pc 884 then (bif Nat.beq pc 883 then some (.iaload, 884, 0, 0, 0) else none) else (bif Nat.beq pc 884 then some (.invokevirtual 101, 887, 0, 0, 0) else none)) else (bif Nat.blt pc 890 then (bif Nat.beq pc 887 then some (.if_icmp .eq 266, 890, 1153, 0, 0) else none) else (bif Nat.blt pc 891 then (bif Nat.beq pc 890 then some (.iconst 0, 891, 0, 0, 0) else none) else (bif Nat.beq pc 891 then some (.ireturn, 892, 0, 0, 0) else none)))))))
def tbL_20 : Nat → Option mv_R := mv_seg 892 915 (fun pc => (bif Nat.blt pc 902 then (bif Nat.blt pc 896 then (bif Nat.blt pc 894 then (bif Nat.blt pc 893 then (bif Nat.beq pc 892 then some (.aload_n 1, 893, 0, 0, 0) else none) else (bif Nat.beq pc 893 then some (.aload_n 0, 894, 0, 0, 0) else none)) else (bif Nat.blt pc 895 then (bif Nat.beq pc 894 then some (.iload_n 3, 895, 0, 0, 0) else none) else (bif Nat.beq pc 895 then some (.iconst 1, 896, 0, 1, 0) else none))) else (bif Nat.blt pc 898 then (bif Nat.blt pc 897 then (bif Nat.beq pc 896 then some (.iadd, 897, 0, 0, 0) else none) else (bif Nat.beq pc 897 then some (.iaload, 898, 0, 0, 0) else none)) else (bif Nat.blt pc 901 then (bif Nat.beq pc 898 then some (.invokevirtual 102, 901, 0, 0, 0) else none) else (bif Nat.beq pc 901 then some (.aload_n 2, 902, 0, 0, 0) else none)))) else (bif Nat.blt pc 906 then (bif Nat.blt pc 904 then (bif Nat.blt pc 903 then (bif Nat.beq pc 902 then some (.aload_n 0, 903, 0, 0, 0) else none) else (bif Nat.beq pc 903 then some (.iload_n 3, 904, 0, 0, 0) else none)) else (bif Nat.blt pc 905 then (bif Nat.beq pc 904 then some (.iconst 1, 905, 0, 1, 0) else none) else (bif Nat.beq pc 905 then some (.iadd, 906, 0, 0, 0) else none))) else (bif Nat.blt pc 910 then (bif Nat.blt pc 907 then (bif Nat.beq pc 906 then some (.iaload, 907, 0, 0, 0) else none) else (bif Nat.beq pc 907 then some (.invokevirtual 105, 910, 0, 0, 0) else none)) else (bif Nat.blt pc 913 then (bif Nat.beq pc 910 then some (.if_icmp .eq 243, 913, 1153, 0, 0) else none) else (bif Nat.blt pc 914 then (bif Nat.beq pc 913 then some (.iconst 0, 914, 0, 0, 0) else none) else (bif Nat.beq pc 914 then some (.ireturn, 915, 0, 0, 0) else none)))))))
def tbL_21 : Nat → Option mv_R := mv_seg 915 948 (fun pc => (bif Nat.blt pc 930 then (bif Nat.blt pc 921 then (bif Nat.blt pc 918 then (bif Nat.blt pc 916 then (bif Nat.beq pc 915 then some (.aload_n 1, 916, 0, 0, 0) else none) else (bif Nat.blt pc 917 then (bif Nat.beq pc 916 then some (.aload_n 0, 917, 0, 0, 0) else none) else (bif Nat.beq pc 917 then some (.iload_n 3, 918, 0, 0, 0) else none))) else (bif Nat.blt pc 919 then (bif Nat.beq pc 918 then some (.iconst 1, 919, 0, 1, 0) else none) else (bif Nat.blt pc 920 then (bif Nat.beq pc 919 then some (.iadd, 920, 0, 0, 0) else none) else (bif Nat.beq pc 920 then some (.iaload, 921, 0, 0, 0) else none)))) else (bif Nat.blt pc 924 then (bif Nat.blt pc 922 then (bif Nat.beq pc 921 then some (.aload_n 0, 922, 0, 0, 0) else none) else (bif Nat.blt pc 923 then (bif Nat.beq pc 922 then some (.iload_n 3, 923, 0, 0, 0) else none) else (bif Nat.beq pc 923 then some (.iconst 2, 924, 0, 2, 0) else none))) else (bif Nat.blt pc 926 then (bif Nat.blt pc 925 then (bif Nat.beq pc 924 then some (.iadd, 925, 0, 0, 0) else none) else (bif Nat.beq pc 925 then some (.iaload, 926, 0, 0, 0) else none)) else (bif Nat.blt pc 929 then (bif Nat.beq pc 926 then some (.invokevirtual 106, 929, 0, 0, 0) else none) else (bif Nat.beq pc 929 then some (.aload_n 2, 930, 0, 0, 0) else none))))) else (bif Nat.blt pc 937 then (bif Nat.blt pc 933 then (bif Nat.blt pc 931 then (bif Nat.beq pc 930 then some (.aload_n 0, 931, 0, 0, 0) else none) else (bif Nat.blt pc 932 then (bif Nat.beq pc 931 then some (.iload_n 3, 932, 0, 0, 0) else none) else (bif Nat.beq pc 932 then some (.iconst 1, 933, 0, 1, 0) else none))) else (bif Nat.blt pc 935 then (bif Nat.blt pc 934 then (bif Nat.beq pc 933 then some (.iadd, 934, 0, 0, 0) else none) else (bif Nat.beq pc 934 then some (.iaload, 935, 0, 0, 0) else none)) else (bif Nat.blt pc 936 then (bif Nat.beq pc 935 then some (.aload_n 0, 936, 0, 0, 0) else none) else (bif Nat.beq pc 936 then some (.iload_n 3, 937, 0, 0, 0) else none)))) else (bif Nat.blt pc 940 then (bif Nat.blt pc 938 then (bif Nat.beq pc 937 then some (.iconst 2, 938, 0, 2, 0) else none) else (bif Nat.blt pc 939 then (bif Nat.beq pc 938 then some (.iadd, 939, 0, 0, 0) else none) else (bif Nat.beq pc 939 then some (.iaload, 940, 0, 0, 0) else none))) else (bif Nat.blt pc 946 then (bif Nat.blt pc 943 then (bif Nat.beq pc 940 then some (.invokevirtual 109, 943, 0, 0, 0) else none) else (bif Nat.beq pc 943 then some (.if_icmp .eq 210, 946, 1153, 0, 0) else none)) else (bif Nat.blt pc 947 then (bif Nat.beq pc 946 then some (.iconst 0, 947, 0, 0, 0) else none) else (bif Nat.beq pc 947 then some (.ireturn, 948, 0, 0, 0) else none)))))))
def tbL_22 : Nat → Option mv_R := mv_seg 948 971 (fun pc => (bif Nat.blt pc 958 then (bif Nat.blt pc 952 then (bif Nat.blt pc 950 then (bif Nat.blt pc 949 then (bif Nat.beq pc 948 then some (.aload_n 1, 949, 0, 0, 0) else none) else (bif Nat.beq pc 949 then some (.aload_n 0, 950, 0, 0, 0) else none)) else (bif Nat.blt pc 951 then (bif Nat.beq pc 950 then some (.iload_n 3, 951, 0, 0, 0) else none) else (bif Nat.beq pc 951 then some (.iconst 1, 952, 0, 1, 0) else none))) else (bif Nat.blt pc 954 then (bif Nat.blt pc 953 then (bif Nat.beq pc 952 then some (.iadd, 953, 0, 0, 0) else none) else (bif Nat.beq pc 953 then some (.iaload, 954, 0, 0, 0) else none)) else (bif Nat.blt pc 957 then (bif Nat.beq pc 954 then some (.invokevirtual 110, 957, 0, 0, 0) else none) else (bif Nat.beq pc 957 then some (.aload_n 2, 958, 0, 0, 0) else none)))) else (bif Nat.blt pc 962 then (bif Nat.blt pc 960 then (bif Nat.blt pc 959 then (bif Nat.beq pc 958 then some (.aload_n 0, 959, 0, 0, 0) else none) else (bif Nat.beq pc 959 then some (.iload_n 3, 960, 0, 0, 0) else none)) else (bif Nat.blt pc 961 then (bif Nat.beq pc 960 then some (.iconst 1, 961, 0, 1, 0) else none) else (bif Nat.beq pc 961 then some (.iadd, 962, 0, 0, 0) else none))) else (bif Nat.blt pc 966 then (bif Nat.blt pc 963 then (bif Nat.beq pc 962 then some (.iaload, 963, 0, 0, 0) else none) else (bif Nat.beq pc 963 then some (.invokevirtual 113, 966, 0, 0, 0) else none)) else (bif Nat.blt pc 969 then (bif Nat.beq pc 966 then some (.if_icmp .eq 187, 969, 1153, 0, 0) else none) else (bif Nat.blt pc 970 then (bif Nat.beq pc 969 then some (.iconst 0, 970, 0, 0, 0) else none) else (bif Nat.beq pc 970 then some (.ireturn, 971, 0, 0, 0) else none)))))))
def tbL_23 : Nat → Option mv_R := mv_seg 971 1014 (fun pc => (bif Nat.blt pc 991 then (bif Nat.blt pc 980 then (bif Nat.blt pc 975 then (bif Nat.blt pc 973 then (bif Nat.blt pc 972 then (bif Nat.beq pc 971 then some (.aload_n 1, 972, 0, 0, 0) else none) else (bif Nat.beq pc 972 then some (.aload_n 0, 973, 0, 0, 0) else none)) else (bif Nat.blt pc 974 then (bif Nat.beq pc 973 then some (.iload_n 3, 974, 0, 0, 0) else none) else (bif Nat.beq pc 974 then some (.iconst 1, 975, 0, 1, 0) else none))) else (bif Nat.blt pc 977 then (bif Nat.blt pc 976 then (bif Nat.beq pc 975 then some (.iadd, 976, 0, 0, 0) else none) else (bif Nat.beq pc 976 then some (.iaload, 977, 0, 0, 0) else none)) else (bif Nat.blt pc 978 then (bif Nat.beq pc 977 then some (.aload_n 0, 978, 0, 0, 0) else none) else (bif Nat.blt pc 979 then (bif Nat.beq pc 978 then some (.iload_n 3, 979, 0, 0, 0) else none) else (bif Nat.beq pc 979 then some (.iconst 2, 980, 0, 2, 0) else none))))) else (bif Nat.blt pc 984 then (bif Nat.blt pc 982 then (bif Nat.blt pc 981 then (bif Nat.beq pc 980 then some (.iadd, 981, 0, 0, 0) else none) else (bif Nat.beq pc 981 then some (.iaload, 982, 0, 0, 0) else none)) else (bif Nat.blt pc 983 then (bif Nat.beq pc 982 then some (.aload_n 0, 983, 0, 0, 0) else none) else (bif Nat.beq pc 983 then some (.iload_n 3, 984, 0, 0, 0) else none))) else (bif Nat.blt pc 986 then (bif Nat.blt pc 985 then (bif Nat.beq pc 984 then some (.iconst 3, 985, 0, 3, 0) else none) else (bif Nat.beq pc 985 then some (.iadd, 986, 0, 0, 0) else none)) else (bif Nat.blt pc 987 then (bif Nat.beq pc 986 then some (.iaload, 987, 0, 0, 0) else none) else (bif Nat.blt pc 990 then (bif Nat.beq pc 987 then some (.invokevirtual 114, 990, 0, 0, 0) else none) else (bif Nat.beq pc 990 then some (.aload_n 2, 991, 0, 0, 0) else none)))))) else (bif Nat.blt pc 1000 then (bif Nat.blt pc 995 then (bif Nat.blt pc 993 then (bif Nat.blt pc 992 then (bif Nat.beq pc 991 then some (.aload_n 0, 992, 0, 0, 0) else none) else (bif Nat.beq pc 992 then some (.iload_n 3, 993, 0, 0, 0) else none)) else (bif Nat.blt pc 994 then (bif Nat.beq pc 993 then some (.iconst 1, 994, 0, 1, 0) else none) else (bif Nat.beq pc 994 then some (.iadd, 995, 0, 0, 0) else none))) else (bif Nat.blt pc 997 then (bif Nat.blt pc 996 then (bif Nat.beq pc 995 then some (.iaload, 996, 0, 0, 0) else none) else (bif Nat.beq pc 996 then some (.aload_n 0, 997, 0, 0, 0) else none)) else (bif Nat.blt pc 998 then (bif Nat.beq pc 997 then some (.iload_n 3, 998, 0, 0, 0) else none) else (bif Nat.blt pc 999 then (bif Nat.beq pc 998 then some (.iconst 2, 999, 0, 2, 0) else none) else (bif Nat.beq pc 999 then some (.iadd, 1000, 0, 0, 0) else none))))) else (bif Nat.blt pc 1005 then (bif Nat.blt pc 1002 then (bif Nat.blt pc 1001 then (bif Nat.beq pc 1000 then some (.iaload, 1001, 0, 0, 0) else none) else (bif Nat.beq pc 1001 then some (.aload_n 0, 1002, 0, 0, 0) else none)) else (bif Nat.blt pc 1003 then (bif Nat.beq pc 1002 then some (.iload_n 3, 1003, 0, 0, 0) else none) else (bif Nat.blt pc 1004 then (bif Nat.beq pc 1003 then some (.iconst 3, 1004, 0, 3, 0) else none) else (bif Nat.beq pc 1004 then some (.iadd, 1005, 0, 0, 0) else none)))) else (bif Nat.blt pc 1009 then (bif Nat.blt pc 1006 then (bif Nat.beq pc 1005 then some (.iaload, 1006, 0, 0, 0) else none) else (bif Nat.beq pc 1006 then some (.invokevirtual 117, 1009, 0, 0, 0) else none)) else (bif Nat.blt pc 1012 then (bif Nat.beq pc 1009 then some (.if_icmp .eq 144, 1012, 1153, 0, 0) else none) else (bif Nat.blt pc 1013 then (bif Nat.beq pc 1012 then some (.iconst 0, 1013, 0, 0, 0) else none) else (bif Nat.beq pc 1013 then some (.ireturn, 1014, 0, 0, 0) else none))))))))
def tbL_24 : Nat → Option mv_R := mv_seg 1014 1037 (fun pc => (bif Nat.blt pc 1024 then (bif Nat.blt pc 1018 then (bif Nat.blt pc 1016 then (bif Nat.blt pc 1015 then (bif Nat.beq pc 1014 then some (.aload_n 1, 1015, 0, 0, 0) else none) else (bif Nat.beq pc 1015 then some (.aload_n 0, 1016, 0, 0, 0) else none)) else (bif Nat.blt pc 1017 then (bif Nat.beq pc 1016 then some (.iload_n 3, 1017, 0, 0, 0) else none) else (bif Nat.beq pc 1017 then some (.iconst 1, 1018, 0, 1, 0) else none))) else (bif Nat.blt pc 1020 then (bif Nat.blt pc 1019 then (bif Nat.beq pc 1018 then some (.iadd, 1019, 0, 0, 0) else none) else (bif Nat.beq pc 1019 then some (.iaload, 1020, 0, 0, 0) else none)) else (bif Nat.blt pc 1023 then (bif Nat.beq pc 1020 then some (.invokevirtual 118, 1023, 0, 0, 0) else none) else (bif Nat.beq pc 1023 then some (.aload_n 2, 1024, 0, 0, 0) else none)))) else (bif Nat.blt pc 1028 then (bif Nat.blt pc 1026 then (bif Nat.blt pc 1025 then (bif Nat.beq pc 1024 then some (.aload_n 0, 1025, 0, 0, 0) else none) else (bif Nat.beq pc 1025 then some (.iload_n 3, 1026, 0, 0, 0) else none)) else (bif Nat.blt pc 1027 then (bif Nat.beq pc 1026 then some (.iconst 1, 1027, 0, 1, 0) else none) else (bif Nat.beq pc 1027 then some (.iadd, 1028, 0, 0, 0) else none))) else (bif Nat.blt pc 1032 then (bif Nat.blt pc 1029 then (bif Nat.beq pc 1028 then some (.iaload, 1029, 0, 0, 0) else none) else (bif Nat.beq pc 1029 then some (.invokevirtual 121, 1032, 0, 0, 0) else none)) else (bif Nat.blt pc 1035 then (bif Nat.beq pc 1032 then some (.if_icmp .eq 121, 1035, 1153, 0, 0) else none) else (bif Nat.blt pc 1036 then (bif Nat.beq pc 1035 then some (.iconst 0, 1036, 0, 0, 0) else none) else (bif Nat.beq pc 1036 then some (.ireturn, 1037, 0, 0, 0) else none)))))))
def tbL_25 : Nat → Option mv_R := mv_seg 1037 1090 (fun pc => (bif Nat.blt pc 1062 then (bif Nat.blt pc 1048 then (bif Nat.blt pc 1042 then (bif Nat.blt pc 1039 then (bif Nat.blt pc 1038 then (bif Nat.beq pc 1037 then some (.aload_n 1, 1038, 0, 0, 0) else none) else (bif Nat.beq pc 1038 then some (.aload_n 0, 1039, 0, 0, 0) else none)) else (bif Nat.blt pc 1040 then (bif Nat.beq pc 1039 then some (.iload_n 3, 1040, 0, 0, 0) else none) else (bif Nat.blt pc 1041 then (bif Nat.beq pc 1040 then some (.iconst 1, 1041, 0, 1, 0) else none) else (bif Nat.beq pc 1041 then some (.iadd, 1042, 0, 0, 0) else none)))) else (bif Nat.blt pc 1045 then (bif Nat.blt pc 1043 then (bif Nat.beq pc 1042 then some (.iaload, 1043, 0, 0, 0) else none) else (bif Nat.blt pc 1044 then (bif Nat.beq pc 1043 then some (.aload_n 0, 1044, 0, 0, 0) else none) else (bif Nat.beq pc 1044 then some (.iload_n 3, 1045, 0, 0, 0) else none))) else (bif Nat.blt pc 1046 then (bif Nat.beq pc 1045 then some (.iconst 2, 1046, 0, 2, 0) else none) else (bif Nat.blt pc 1047 then (bif Nat.beq pc 1046 then some (.iadd, 1047, 0, 0, 0) else none) else (bif Nat.beq pc 1047 then some (.iaload, 1048, 0, 0, 0) else none))))) else (bif Nat.blt pc 1054 then (bif Nat.blt pc 1051 then (bif Nat.blt pc 1049 then (bif Nat.beq pc 1048 then some (.aload_n 0, 1049, 0, 0, 0) else none) else (bif Nat.blt pc 1050 then (bif Nat.beq pc 1049 then some (.iload_n 3, 1050, 0, 0, 0) else none) else (bif Nat.beq pc 1050 then some (.iconst 3, 1051, 0, 3, 0) else none))) else (bif Nat.blt pc 1052 then (bif Nat.beq pc 1051 then some (.iadd, 1052, 0, 0, 0) else none) else (bif Nat.blt pc 1053 then (bif Nat.beq pc 1052 then some (.iaload, 1053, 0, 0, 0) else none) else (bif Nat.beq pc 1053 then some (.aload_n 0, 1054, 0, 0, 0) else none)))) else (bif Nat.blt pc 1057 then (bif Nat.blt pc 1055 then (bif Nat.beq pc 1054 then some (.iload_n 3, 1055, 0, 0, 0) else none) else (bif Nat.blt pc 1056 then (bif Nat.beq pc 1055 then some (.iconst 4, 1056, 0, 4, 0) else none) else (bif Nat.beq pc 1056 then some (.iadd, 1057, 0, 0, 0) else none))) else (bif Nat.blt pc 1058 then (bif Nat.beq pc 1057 then some (.iaload, 1058, 0, 0, 0) else none) else (bif Nat.blt pc 1061 then (bif Nat.beq pc 1058 then some (.invokevirtual 122, 1061, 0, 0, 0) else none) else (bif Nat.beq pc 1061 then some (.aload_n 2, 1062, 0, 0, 0) else none)))))) else (bif Nat.blt pc 1074 then (bif Nat.blt pc 1068 then (bif Nat.blt pc 1065 then (bif Nat.blt pc 1063 then (bif Nat.beq pc 1062 then some (.aload_n 0, 1063, 0, 0, 0) else none) else (bif Nat.blt pc 1064 then (bif Nat.beq pc 1063 then some (.iload_n 3, 1064, 0, 0, 0) else none) else (bif Nat.beq pc 1064 then some (.iconst 1, 1065, 0, 1, 0) else none))) else (bif Nat.blt pc 1066 then (bif Nat.beq pc 1065 then some (.iadd, 1066, 0, 0, 0) else none) else (bif Nat.blt pc 1067 then (bif Nat.beq pc 1066 then some (.iaload, 1067, 0, 0, 0) else none) else (bif Nat.beq pc 1067 then some (.aload_n 0, 1068, 0, 0, 0) else none)))) else (bif Nat.blt pc 1071 then (bif Nat.blt pc 1069 then (bif Nat.beq pc 1068 then some (.iload_n 3, 1069, 0, 0, 0) else none) else (bif Nat.blt pc 1070 then (bif Nat.beq pc 1069 then some (.iconst 2, 1070, 0, 2, 0) else none) else (bif Nat.beq pc 1070 then some (.iadd, 1071, 0, 0, 0) else none))) else (bif Nat.blt pc 1072 then (bif Nat.beq pc 1071 then some (.iaload, 1072, 0, 0, 0) else none) else (bif Nat.blt pc 1073 then (bif Nat.beq pc 1072 then some (.aload_n 0, 1073, 0, 0, 0) else none) else (bif Nat.beq pc 1073 then some (.iload_n 3, 1074, 0, 0, 0) else none))))) else (bif Nat.blt pc 1080 then (bif Nat.blt pc 1077 then (bif Nat.blt pc 1075 then (bif Nat.beq pc 1074 then some (.iconst 3, 1075, 0, 3, 0) else none) else (bif Nat.blt pc 1076 then (bif Nat.beq pc 1075 then some (.iadd, 1076, 0, 0, 0) else none) else (bif Nat.beq pc 1076 then some (.iaload, 1077, 0, 0, 0) else none))) else (bif Nat.blt pc 1078 then (bif Nat.beq pc 1077 then some (.aload_n 0, 1078, 0, 0, 0) else none) else (bif Nat.blt pc 1079 then (bif Nat.beq pc 1078 then some (.iload_n 3, 1079, 0, 0, 0) else none) else (bif Nat.beq pc 1079 then some (.iconst 4, 1080, 0, 4, 0) else none)))) else (bif Nat.blt pc 1085 then (bif Nat.blt pc 1081 then (bif Nat.beq pc 1080 then some (.iadd, 1081, 0, 0, 0) else none) else (bif Nat.blt pc 1082 then (bif Nat.beq pc 1081 then some (.iaload, 1082, 0, 0, 0) else none) else (bif Nat.beq pc 1082 then some (.invokevirtual 126, 1085, 0, 0, 0) else none))) else (bif Nat.blt pc 1088 then (bif Nat.beq pc 1085 then some (.if_icmp .eq 68, 1088, 1153, 0, 0) else none) else (bif Nat.blt pc 1089 then (bif Nat.beq pc 1088 then some (.iconst 0, 1089, 0, 0, 0) else none) else (bif Nat.beq pc 1089 then some (.ireturn, 1090, 0, 0, 0) else none))))))))
def tbL_26 : Nat → Option mv_R := mv_seg 1090 1153 (fun pc => (bif Nat.blt pc 1120 then (bif Nat.blt pc 1104 then (bif Nat.blt pc 1097 then (bif Nat.blt pc 1093 then (bif Nat.blt pc 1091 then (bif Nat.beq pc 1090 then some (.aload_n 1, 1091, 0, 0, 0) else none) else (bif Nat.blt pc 1092 then (bif Nat.beq pc 1091 then some (.aload_n 0, 1092, 0, 0, 0) else none) else (bif Nat.beq pc 1092 then some (.iload_n 3, 1093, 0, 0, 0) else none))) else (bif Nat.blt pc 1095 then (bif Nat.blt pc 1094 then (bif Nat.beq pc 1093 then some (.iconst 1, 1094, 0, 1, 0) else none) else (bif Nat.beq pc 1094 then some (.iadd, 1095, 0, 0, 0) else none)) else (bif Nat.blt pc 1096 then (bif Nat.beq pc 1095 then some (.iaload, 1096, 0, 0, 0) else none) else (bif Nat.beq pc 1096 then some (.aload_n 0, 1097, 0, 0, 0) else none)))) else (bif Nat.blt pc 1100 then (bif Nat.blt pc 1098 then (bif Nat.beq pc 1097 then some (.iload_n 3, 1098, 0, 0, 0) else none) else (bif Nat.blt pc 1099 then (bif Nat.beq pc 1098 then some (.iconst 2, 1099, 0, 2, 0) else none) else (bif Nat.beq pc 1099 then some (.iadd, 1100, 0, 0, 0) else none))) else (bif Nat.blt pc 1102 then (bif Nat.blt pc 1101 then (bif Nat.beq pc 1100 then some (.iaload, 1101, 0, 0, 0) else none) else (bif Nat.beq pc 1101 then some (.aload_n 0, 1102, 0, 0, 0) else none)) else (bif Nat.blt pc 1103 then (bif Nat.beq pc 1102 then some (.iload_n 3, 1103, 0, 0, 0) else none) else (bif Nat.beq pc 1103 then some (.iconst 3, 1104, 0, 3, 0) else none))))) else (bif Nat.blt pc 1111 then (bif Nat.blt pc 1107 then (bif Nat.blt pc 1105 then (bif Nat.beq pc 1104 then some (.iadd, 1105, 0, 0, 0) else none) else (bif Nat.blt pc 1106 then (bif Nat.beq pc 1105 then some (.iaload, 1106, 0, 0, 0) else none) else (bif Nat.beq pc 1106 then some (.aload_n 0, 1107, 0, 0, 0) else none))) else (bif Nat.blt pc 1109 then (bif Nat.blt pc 1108 then (bif Nat.beq pc 1107 then some (.iload_n 3, 1108, 0, 0, 0) else none) else (bif Nat.beq pc 1108 then some (.iconst 4, 1109, 0, 4, 0) else none)) else (bif Nat.blt pc 1110 then (bif Nat.beq pc 1109 then some (.iadd, 1110, 0, 0, 0) else none) else (bif Nat.beq pc 1110 then some (.iaload, 1111, 0, 0, 0) else none)))) else (bif Nat.blt pc 1114 then (bif Nat.blt pc 1112 then (bif Nat.beq pc 1111 then some (.aload_n 0, 1112, 0, 0, 0) else none) else (bif Nat.blt pc 1113 then (bif Nat.beq pc 1112 then some (.iload_n 3, 1113, 0, 0, 0) else none) else (bif Nat.beq pc 1113 then some (.iconst 5, 1114, 0, 5, 0) else none))) else (bif Nat.blt pc 1116 then (bif Nat.blt pc 1115 then (bif Nat.beq pc 1114 then some (.iadd, 1115, 0, 0, 0) else none) else (bif Nat.beq pc 1115 then some (.iaload, 1116, 0, 0, 0) else none)) else (bif Nat.blt pc 1119 then (bif Nat.beq pc 1116 then some (.invokevirtual 127, 1119, 0, 0, 0) else none) else (bif Nat.beq pc 1119 then some (.aload_n 2, 1120, 0, 0, 0) else none)))))) else (bif Nat.blt pc 1134 then (bif Nat.blt pc 1127 then (bif Nat.blt pc 1123 then (bif Nat.blt pc 1121 then (bif Nat.beq pc 1120 then some (.aload_n 0, 1121, 0, 0, 0) else none) else (bif Nat.blt pc 1122 then (bif Nat.beq pc 1121 then some (.iload_n 3, 1122, 0, 0, 0) else none) else (bif Nat.beq pc 1122 then some (.iconst 1, 1123, 0, 1, 0) else none))) else (bif Nat.blt pc 1125 then (bif Nat.blt pc 1124 then (bif Nat.beq pc 1123 then some (.iadd, 1124, 0, 0, 0) else none) else (bif Nat.beq pc 1124 then some (.iaload, 1125, 0, 0, 0) else none)) else (bif Nat.blt pc 1126 then (bif Nat.beq pc 1125 then some (.aload_n 0, 1126, 0, 0, 0) else none) else (bif Nat.beq pc 1126 then some (.iload_n 3, 1127, 0, 0, 0) else none)))) else (bif Nat.blt pc 1130 then (bif Nat.blt pc 1128 then (bif Nat.beq pc 1127 then some (.iconst 2, 1128, 0, 2, 0) else none) else (bif Nat.blt pc 1129 then (bif Nat.beq pc 1128 then some (.iadd, 1129, 0, 0, 0) else none) else (bif Nat.beq pc 1129 then some (.iaload, 1130, 0, 0, 0) else none))) else (bif Nat.blt pc 1132 then (bif Nat.blt pc 1131 then (bif Nat.beq pc 1130 then some (.aload_n 0, 1131, 0, 0, 0) else none) else (bif Nat.beq pc 1131 then some (.iload_n 3, 1132, 0, 0, 0) else none)) else (bif Nat.blt pc 1133 then (bif Nat.beq pc 1132 then some (.iconst 3, 1133, 0, 3, 0) else none) else (bif Nat.beq pc 1133 then some (.iadd, 1134, 0, 0, 0) else none))))) else (bif Nat.blt pc 1141 then (bif Nat.blt pc 1137 then (bif Nat.blt pc 1135 then (bif Nat.beq pc 1134 then some (.iaload, 1135, 0, 0, 0) else none) else (bif Nat.blt pc 1136 then (bif Nat.beq pc 1135 then some (.aload_n 0, 1136, 0, 0, 0) else none) else (bif Nat.beq pc 1136 then some (.iload_n 3, 1137, 0, 0, 0) else none))) else (bif Nat.blt pc 1139 then (bif Nat.blt pc 1138 then (bif Nat.beq pc 1137 then some (.iconst 4, 1138, 0, 4, 0) else none) else (bif Nat.beq pc 1138 then some (.iadd, 1139, 0, 0, 0) else none)) else (bif Nat.blt pc 1140 then (bif Nat.beq pc 1139 then some (.iaload, 1140, 0, 0, 0) else none) else (bif Nat.beq pc 1140 then some (.aload_n 0, 1141, 0, 0, 0) else none)))) else (bif Nat.blt pc 1145 then (bif Nat.blt pc 1143 then (bif Nat.blt pc 1142 then (bif Nat.beq pc 1141 then some (.iload_n 3, 1142, 0, 0, 0) else none) else (bif Nat.beq pc 1142 then some (.iconst 5, 1143, 0, 5, 0) else none)) else (bif Nat.blt pc 1144 then (bif Nat.beq pc 1143 then some (.iadd, 1144, 0, 0, 0) else none) else (bif Nat.beq pc 1144 then some (.iaload, 1145, 0, 0, 0) else none))) else (bif Nat.blt pc 1151 then (bif Nat.blt pc 1148 then (bif Nat.beq pc 1145 then some (.invokevirtual 130, 1148, 0, 0, 0) else none) else (bif Nat.beq pc 1148 then some (.if_icmp .eq 5, 1151, 1153, 0, 0) else none)) else (bif Nat.blt pc 1152 then (bif Nat.beq pc 1151 then some (.iconst 0, 1152, 0, 0, 0) else none) else (bif Nat.beq pc 1152 then some (.ireturn, 1153, 0, 0, 0) else none))))))))
def tbL_e : Nat → Option mv_R := mv_seg 1153 1161 (fun pc => (bif Nat.blt pc 1159 then (bif Nat.blt pc 1156 then (bif Nat.beq pc 1153 then some (.iinc 3 6, 1156, 0, 6, 0) else none) else (bif Nat.beq pc 1156 then some (.goto (-1138), 1159, 18, 0, 0) else none)) else (bif Nat.blt pc 1160 then (bif Nat.beq pc 1159 then some (.iconst 1, 1160, 0, 1, 0) else none) else (bif Nat.beq pc 1160 then some (.ireturn, 1161, 0, 0, 0) else none))))
end
section
set_option maxRecDepth 100000 in
theorem mu_X0 : ∀ w ∈ u_ws RX0 TX0 8, w ∈ mv_TT := by
  intro w hw
  obtain ⟨k, hk, rfl⟩ := List.mem_map.mp hw
  have hk := List.mem_range.mp hk
  match k, hk with
  | 0, _ => exact (mT1 _ (List.mem_of_getElem? (i := 148) rfl) rfl)
  | 1, _ => exact (mT1 _ (List.mem_of_getElem? (i := 150) rfl) rfl)
  | 2, _ => exact (mT1 _ (List.mem_of_getElem? (i := 152) rfl) rfl)
  | 3, _ => exact (mT1 _ (List.mem_of_getElem? (i := 154) rfl) rfl)
  | 4, _ => exact (mT1 _ (List.mem_of_getElem? (i := 156) rfl) rfl)
  | 5, _ => exact (mT1 _ (List.mem_of_getElem? (i := 158) rfl) rfl)
  | 6, _ => exact (mT1 _ (List.mem_of_getElem? (i := 160) rfl) rfl)
  | 7, _ => exact (mT1 _ (List.mem_of_getElem? (i := 162) rfl) rfl)
  | k + 8, hk => omega
set_option maxRecDepth 100000 in
theorem mu_X1 : ∀ w ∈ u_ws RX1 TX1 7, w ∈ mv_TT := by
  intro w hw
  obtain ⟨k, hk, rfl⟩ := List.mem_map.mp hw
  have hk := List.mem_range.mp hk
  match k, hk with
  | 0, _ => exact (mT1 _ (List.mem_of_getElem? (i := 116) rfl) rfl)
  | 1, _ => exact (mT1 _ (List.mem_of_getElem? (i := 118) rfl) rfl)
  | 2, _ => exact (mT1 _ (List.mem_of_getElem? (i := 120) rfl) rfl)
  | 3, _ => exact (mT1 _ (List.mem_of_getElem? (i := 122) rfl) rfl)
  | 4, _ => exact (mT1 _ (List.mem_of_getElem? (i := 124) rfl) rfl)
  | 5, _ => exact (mT1 _ (List.mem_of_getElem? (i := 126) rfl) rfl)
  | 6, _ => exact (mT1 _ (List.mem_of_getElem? (i := 128) rfl) rfl)
  | k + 7, hk => omega
set_option maxRecDepth 100000 in
theorem mu_X2 : ∀ w ∈ u_ws RX2 TX2 8, w ∈ mv_TT := by
  intro w hw
  obtain ⟨k, hk, rfl⟩ := List.mem_map.mp hw
  have hk := List.mem_range.mp hk
  match k, hk with
  | 0, _ => exact (mT1 _ (List.mem_of_getElem? (i := 214) rfl) rfl)
  | 1, _ => exact (mT1 _ (List.mem_of_getElem? (i := 216) rfl) rfl)
  | 2, _ => exact (mT1 _ (List.mem_of_getElem? (i := 218) rfl) rfl)
  | 3, _ => exact (mT1 _ (List.mem_of_getElem? (i := 220) rfl) rfl)
  | 4, _ => exact (mT1 _ (List.mem_of_getElem? (i := 222) rfl) rfl)
  | 5, _ => exact (mT1 _ (List.mem_of_getElem? (i := 224) rfl) rfl)
  | 6, _ => exact (mT1 _ (List.mem_of_getElem? (i := 226) rfl) rfl)
  | 7, _ => exact (mT1 _ (List.mem_of_getElem? (i := 228) rfl) rfl)
  | k + 8, hk => omega
set_option maxRecDepth 100000 in
theorem mu_X3 : ∀ w ∈ u_ws RX3 TX3 13, w ∈ mv_TT := by
  intro w hw
  obtain ⟨k, hk, rfl⟩ := List.mem_map.mp hw
  have hk := List.mem_range.mp hk
  match k, hk with
  | 0, _ => exact (mT1 _ (List.mem_of_getElem? (i := 45) rfl) rfl)
  | 1, _ => exact (mT1 _ (List.mem_of_getElem? (i := 47) rfl) rfl)
  | 2, _ => exact (mT1 _ (List.mem_of_getElem? (i := 49) rfl) rfl)
  | 3, _ => exact (mT1 _ (List.mem_of_getElem? (i := 51) rfl) rfl)
  | 4, _ => exact (mT1 _ (List.mem_of_getElem? (i := 53) rfl) rfl)
  | 5, _ => exact (mT1 _ (List.mem_of_getElem? (i := 55) rfl) rfl)
  | 6, _ => exact (mT1 _ (List.mem_of_getElem? (i := 57) rfl) rfl)
  | 7, _ => exact (mT1 _ (List.mem_of_getElem? (i := 59) rfl) rfl)
  | 8, _ => exact (mT1 _ (List.mem_of_getElem? (i := 61) rfl) rfl)
  | 9, _ => exact (mT1 _ (List.mem_of_getElem? (i := 63) rfl) rfl)
  | 10, _ => exact (mT1 _ (List.mem_of_getElem? (i := 65) rfl) rfl)
  | 11, _ => exact (mT1 _ (List.mem_of_getElem? (i := 67) rfl) rfl)
  | 12, _ => exact (mT1 _ (List.mem_of_getElem? (i := 69) rfl) rfl)
  | k + 13, hk => omega
set_option maxRecDepth 100000 in
theorem mu_X4 : ∀ w ∈ u_ws RX4 TX4 6, w ∈ mv_TT := by
  intro w hw
  obtain ⟨k, hk, rfl⟩ := List.mem_map.mp hw
  have hk := List.mem_range.mp hk
  match k, hk with
  | 0, _ => exact (mT1 _ (List.mem_of_getElem? (i := 182) rfl) rfl)
  | 1, _ => exact (mT1 _ (List.mem_of_getElem? (i := 184) rfl) rfl)
  | 2, _ => exact (mT1 _ (List.mem_of_getElem? (i := 186) rfl) rfl)
  | 3, _ => exact (mT1 _ (List.mem_of_getElem? (i := 188) rfl) rfl)
  | 4, _ => exact (mT1 _ (List.mem_of_getElem? (i := 190) rfl) rfl)
  | 5, _ => exact (mT1 _ (List.mem_of_getElem? (i := 192) rfl) rfl)
  | k + 6, hk => omega
set_option maxRecDepth 100000 in
theorem mu_X5 : ∀ w ∈ u_ws RX5 TX5 3, w ∈ mv_TT := by
  intro w hw
  obtain ⟨k, hk, rfl⟩ := List.mem_map.mp hw
  have hk := List.mem_range.mp hk
  match k, hk with
  | 0, _ => exact (mT2 _ (List.mem_of_getElem? (i := 4) rfl) rfl)
  | 1, _ => exact (mT2 _ (List.mem_of_getElem? (i := 6) rfl) rfl)
  | 2, _ => exact (mT2 _ (List.mem_of_getElem? (i := 8) rfl) rfl)
  | k + 3, hk => omega
set_option maxRecDepth 100000 in
theorem mu_X6 : ∀ w ∈ u_ws RX6 TX6 4, w ∈ mv_TT := by
  intro w hw
  obtain ⟨k, hk, rfl⟩ := List.mem_map.mp hw
  have hk := List.mem_range.mp hk
  match k, hk with
  | 0, _ => exact (mT1 _ (List.mem_of_getElem? (i := 86) rfl) rfl)
  | 1, _ => exact (mT1 _ (List.mem_of_getElem? (i := 88) rfl) rfl)
  | 2, _ => exact (mT1 _ (List.mem_of_getElem? (i := 90) rfl) rfl)
  | 3, _ => exact (mT1 _ (List.mem_of_getElem? (i := 92) rfl) rfl)
  | k + 4, hk => omega
set_option maxRecDepth 100000 in
theorem mu_X7 : ∀ w ∈ u_ws RX7 TX7 8, w ∈ mv_TT := by
  intro w hw
  obtain ⟨k, hk, rfl⟩ := List.mem_map.mp hw
  have hk := List.mem_range.mp hk
  match k, hk with
  | 0, _ => exact (mT2 _ (List.mem_of_getElem? (i := 19) rfl) rfl)
  | 1, _ => exact (mT2 _ (List.mem_of_getElem? (i := 21) rfl) rfl)
  | 2, _ => exact (mT2 _ (List.mem_of_getElem? (i := 23) rfl) rfl)
  | 3, _ => exact (mT2 _ (List.mem_of_getElem? (i := 25) rfl) rfl)
  | 4, _ => exact (mT2 _ (List.mem_of_getElem? (i := 27) rfl) rfl)
  | 5, _ => exact (mT2 _ (List.mem_of_getElem? (i := 29) rfl) rfl)
  | 6, _ => exact (mT2 _ (List.mem_of_getElem? (i := 31) rfl) rfl)
  | 7, _ => exact (mT2 _ (List.mem_of_getElem? (i := 33) rfl) rfl)
  | k + 8, hk => omega
set_option maxRecDepth 100000 in
theorem mu_X8 : ∀ w ∈ u_ws RX8 TX8 46, w ∈ mv_TT := by
  intro w hw
  obtain ⟨k, hk, rfl⟩ := List.mem_map.mp hw
  have hk := List.mem_range.mp hk
  match k, hk with
  | 0, _ => exact (mT3 _ (List.mem_of_getElem? (i := 182) rfl) rfl)
  | 1, _ => exact (mT3 _ (List.mem_of_getElem? (i := 184) rfl) rfl)
  | 2, _ => exact (mT3 _ (List.mem_of_getElem? (i := 186) rfl) rfl)
  | 3, _ => exact (mT3 _ (List.mem_of_getElem? (i := 188) rfl) rfl)
  | 4, _ => exact (mT3 _ (List.mem_of_getElem? (i := 190) rfl) rfl)
  | 5, _ => exact (mT3 _ (List.mem_of_getElem? (i := 192) rfl) rfl)
  | 6, _ => exact (mT3 _ (List.mem_of_getElem? (i := 194) rfl) rfl)
  | 7, _ => exact (mT3 _ (List.mem_of_getElem? (i := 196) rfl) rfl)
  | 8, _ => exact (mT3 _ (List.mem_of_getElem? (i := 198) rfl) rfl)
  | 9, _ => exact (mT3 _ (List.mem_of_getElem? (i := 200) rfl) rfl)
  | 10, _ => exact (mT3 _ (List.mem_of_getElem? (i := 202) rfl) rfl)
  | 11, _ => exact (mT3 _ (List.mem_of_getElem? (i := 204) rfl) rfl)
  | 12, _ => exact (mT3 _ (List.mem_of_getElem? (i := 206) rfl) rfl)
  | 13, _ => exact (mT3 _ (List.mem_of_getElem? (i := 208) rfl) rfl)
  | 14, _ => exact (mT3 _ (List.mem_of_getElem? (i := 210) rfl) rfl)
  | 15, _ => exact (mT3 _ (List.mem_of_getElem? (i := 212) rfl) rfl)
  | 16, _ => exact (mT3 _ (List.mem_of_getElem? (i := 214) rfl) rfl)
  | 17, _ => exact (mT3 _ (List.mem_of_getElem? (i := 216) rfl) rfl)
  | 18, _ => exact (mT3 _ (List.mem_of_getElem? (i := 218) rfl) rfl)
  | 19, _ => exact (mT3 _ (List.mem_of_getElem? (i := 220) rfl) rfl)
  | 20, _ => exact (mT3 _ (List.mem_of_getElem? (i := 222) rfl) rfl)
  | 21, _ => exact (mT3 _ (List.mem_of_getElem? (i := 224) rfl) rfl)
  | 22, _ => exact (mT3 _ (List.mem_of_getElem? (i := 226) rfl) rfl)
  | 23, _ => exact (mT3 _ (List.mem_of_getElem? (i := 228) rfl) rfl)
  | 24, _ => exact (mT3 _ (List.mem_of_getElem? (i := 230) rfl) rfl)
  | 25, _ => exact (mT3 _ (List.mem_of_getElem? (i := 232) rfl) rfl)
  | 26, _ => exact (mT3 _ (List.mem_of_getElem? (i := 234) rfl) rfl)
  | 27, _ => exact (mT3 _ (List.mem_of_getElem? (i := 236) rfl) rfl)
  | 28, _ => exact (mT3 _ (List.mem_of_getElem? (i := 238) rfl) rfl)
  | 29, _ => exact (mT4 _ (List.mem_of_getElem? (i := 0) rfl) rfl)
  | 30, _ => exact (mT4 _ (List.mem_of_getElem? (i := 2) rfl) rfl)
  | 31, _ => exact (mT4 _ (List.mem_of_getElem? (i := 4) rfl) rfl)
  | 32, _ => exact (mT4 _ (List.mem_of_getElem? (i := 6) rfl) rfl)
  | 33, _ => exact (mT4 _ (List.mem_of_getElem? (i := 8) rfl) rfl)
  | 34, _ => exact (mT4 _ (List.mem_of_getElem? (i := 10) rfl) rfl)
  | 35, _ => exact (mT4 _ (List.mem_of_getElem? (i := 12) rfl) rfl)
  | 36, _ => exact (mT4 _ (List.mem_of_getElem? (i := 14) rfl) rfl)
  | 37, _ => exact (mT4 _ (List.mem_of_getElem? (i := 16) rfl) rfl)
  | 38, _ => exact (mT4 _ (List.mem_of_getElem? (i := 18) rfl) rfl)
  | 39, _ => exact (mT4 _ (List.mem_of_getElem? (i := 20) rfl) rfl)
  | 40, _ => exact (mT4 _ (List.mem_of_getElem? (i := 22) rfl) rfl)
  | 41, _ => exact (mT4 _ (List.mem_of_getElem? (i := 24) rfl) rfl)
  | 42, _ => exact (mT4 _ (List.mem_of_getElem? (i := 26) rfl) rfl)
  | 43, _ => exact (mT4 _ (List.mem_of_getElem? (i := 28) rfl) rfl)
  | 44, _ => exact (mT4 _ (List.mem_of_getElem? (i := 30) rfl) rfl)
  | 45, _ => exact (mT4 _ (List.mem_of_getElem? (i := 32) rfl) rfl)
  | k + 46, hk => omega
set_option maxRecDepth 100000 in
theorem flJ6_ok : mv_flB vwCl RJ6 mv_TT flJ6 := mv_flB_of (fun _ h => absurd h List.not_mem_nil)
set_option maxRecDepth 100000 in
theorem flJ7_ok : mv_flB vwCl RJ7 mv_TT flJ7 := mv_flB_of (fun _ h => absurd h List.not_mem_nil)
set_option maxRecDepth 100000 in
theorem flX0_ok : mv_flB vwCl RX0 mv_TT flX0 := mv_flB_of (List.forall_mem_cons.mpr ⟨⟨RX0, TX0, 8, tyX0, rfl, by decide, mu_X0, (mT1 _ (List.mem_of_getElem? (i := 137) rfl) rfl), tyX0_ok, nmX0⟩, (List.forall_mem_cons.mpr ⟨⟨RX0, TX0, 8, tyX0, rfl, by decide, mu_X0, (mT1 _ (List.mem_of_getElem? (i := 138) rfl) rfl), tyX0_ok, nmX0⟩, (List.forall_mem_cons.mpr ⟨⟨RX0, TX0, 8, tyX0, rfl, by decide, mu_X0, (mT1 _ (List.mem_of_getElem? (i := 139) rfl) rfl), tyX0_ok, nmX0⟩, (List.forall_mem_cons.mpr ⟨⟨RX0, TX0, 8, tyX0, rfl, by decide, mu_X0, (mT1 _ (List.mem_of_getElem? (i := 140) rfl) rfl), tyX0_ok, nmX0⟩, (List.forall_mem_cons.mpr ⟨⟨RX0, TX0, 8, tyX0, rfl, by decide, mu_X0, (mT1 _ (List.mem_of_getElem? (i := 141) rfl) rfl), tyX0_ok, nmX0⟩, (List.forall_mem_cons.mpr ⟨⟨RX0, TX0, 8, tyX0, rfl, by decide, mu_X0, (mT1 _ (List.mem_of_getElem? (i := 142) rfl) rfl), tyX0_ok, nmX0⟩, (List.forall_mem_cons.mpr ⟨⟨RX0, TX0, 8, tyX0, rfl, by decide, mu_X0, (mT1 _ (List.mem_of_getElem? (i := 144) rfl) rfl), tyX0_ok, nmX0⟩, (List.forall_mem_cons.mpr ⟨⟨RX0, TX0, 8, tyX0, rfl, by decide, mu_X0, (mT1 _ (List.mem_of_getElem? (i := 145) rfl) rfl), tyX0_ok, nmX0⟩, (fun _ h => absurd h List.not_mem_nil)⟩)⟩)⟩)⟩)⟩)⟩)⟩)⟩)
set_option maxRecDepth 100000 in
theorem flX1_ok : mv_flB vwCl RX1 mv_TT flX1 := mv_flB_of (List.forall_mem_cons.mpr ⟨⟨RX1, TX1, 7, tyX1, rfl, by decide, mu_X1, (mT1 _ (List.mem_of_getElem? (i := 102) rfl) rfl), tyX1_ok, nmX1⟩, (List.forall_mem_cons.mpr ⟨⟨RX1, TX1, 7, tyX1, rfl, by decide, mu_X1, (mT1 _ (List.mem_of_getElem? (i := 104) rfl) rfl), tyX1_ok, nmX1⟩, (List.forall_mem_cons.mpr ⟨⟨RX1, TX1, 7, tyX1, rfl, by decide, mu_X1, (mT1 _ (List.mem_of_getElem? (i := 106) rfl) rfl), tyX1_ok, nmX1⟩, (List.forall_mem_cons.mpr ⟨⟨RX1, TX1, 7, tyX1, rfl, by decide, mu_X1, (mT1 _ (List.mem_of_getElem? (i := 108) rfl) rfl), tyX1_ok, nmX1⟩, (List.forall_mem_cons.mpr ⟨⟨RX1, TX1, 7, tyX1, rfl, by decide, mu_X1, (mT1 _ (List.mem_of_getElem? (i := 110) rfl) rfl), tyX1_ok, nmX1⟩, (List.forall_mem_cons.mpr ⟨⟨RX1, TX1, 7, tyX1, rfl, by decide, mu_X1, (mT1 _ (List.mem_of_getElem? (i := 112) rfl) rfl), tyX1_ok, nmX1⟩, (List.forall_mem_cons.mpr ⟨⟨RX1, TX1, 7, tyX1, rfl, by decide, mu_X1, (mT1 _ (List.mem_of_getElem? (i := 114) rfl) rfl), tyX1_ok, nmX1⟩, (fun _ h => absurd h List.not_mem_nil)⟩)⟩)⟩)⟩)⟩)⟩)⟩)
set_option maxRecDepth 100000 in
theorem flX2_ok : mv_flB vwCl RX2 mv_TT flX2 := mv_flB_of (List.forall_mem_cons.mpr ⟨⟨RX2, TX2, 8, tyX2, rfl, by decide, mu_X2, (mT1 _ (List.mem_of_getElem? (i := 201) rfl) rfl), tyX2_ok, nmX2⟩, (List.forall_mem_cons.mpr ⟨⟨RX2, TX2, 8, tyX2, rfl, by decide, mu_X2, (mT1 _ (List.mem_of_getElem? (i := 203) rfl) rfl), tyX2_ok, nmX2⟩, (List.forall_mem_cons.mpr ⟨⟨RX2, TX2, 8, tyX2, rfl, by decide, mu_X2, (mT1 _ (List.mem_of_getElem? (i := 205) rfl) rfl), tyX2_ok, nmX2⟩, (List.forall_mem_cons.mpr ⟨⟨RX2, TX2, 8, tyX2, rfl, by decide, mu_X2, (mT1 _ (List.mem_of_getElem? (i := 207) rfl) rfl), tyX2_ok, nmX2⟩, (List.forall_mem_cons.mpr ⟨⟨RX2, TX2, 8, tyX2, rfl, by decide, mu_X2, (mT1 _ (List.mem_of_getElem? (i := 211) rfl) rfl), tyX2_ok, nmX2⟩, (List.forall_mem_cons.mpr ⟨⟨RX2, TX2, 8, tyX2, rfl, by decide, mu_X2, (mT1 _ (List.mem_of_getElem? (i := 212) rfl) rfl), tyX2_ok, nmX2⟩, (List.forall_mem_cons.mpr ⟨⟨RX2, TX2, 8, tyX2, rfl, by decide, mu_X2, (mT1 _ (List.mem_of_getElem? (i := 213) rfl) rfl), tyX2_ok, nmX2⟩, (List.forall_mem_cons.mpr ⟨⟨RX0, TX0, 8, tyX0, rfl, by decide, mu_X0, (mT1 _ (List.mem_of_getElem? (i := 146) rfl) rfl), tyX0_ok, nmX0⟩, (List.forall_mem_cons.mpr ⟨⟨RX2, TX2, 8, tyX2, rfl, by decide, mu_X2, (mT1 _ (List.mem_of_getElem? (i := 209) rfl) rfl), tyX2_ok, nmX2⟩, (fun _ h => absurd h List.not_mem_nil)⟩)⟩)⟩)⟩)⟩)⟩)⟩)⟩)⟩)
set_option maxRecDepth 100000 in
theorem flX3_ok : mv_flB vwCl RX3 mv_TT flX3 := mv_flB_of (List.forall_mem_cons.mpr ⟨⟨RX3, TX3, 13, tyX3, rfl, by decide, mu_X3, (mT1 _ (List.mem_of_getElem? (i := 28) rfl) rfl), tyX3_ok, nmX3⟩, (List.forall_mem_cons.mpr ⟨⟨RX3, TX3, 13, tyX3, rfl, by decide, mu_X3, (mT1 _ (List.mem_of_getElem? (i := 29) rfl) rfl), tyX3_ok, nmX3⟩, (List.forall_mem_cons.mpr ⟨⟨RX3, TX3, 13, tyX3, rfl, by decide, mu_X3, (mT1 _ (List.mem_of_getElem? (i := 35) rfl) rfl), tyX3_ok, nmX3⟩, (List.forall_mem_cons.mpr ⟨⟨RX3, TX3, 13, tyX3, rfl, by decide, mu_X3, (mT1 _ (List.mem_of_getElem? (i := 36) rfl) rfl), tyX3_ok, nmX3⟩, (List.forall_mem_cons.mpr ⟨⟨RX3, TX3, 13, tyX3, rfl, by decide, mu_X3, (mT1 _ (List.mem_of_getElem? (i := 37) rfl) rfl), tyX3_ok, nmX3⟩, (List.forall_mem_cons.mpr ⟨⟨RX3, TX3, 13, tyX3, rfl, by decide, mu_X3, (mT1 _ (List.mem_of_getElem? (i := 38) rfl) rfl), tyX3_ok, nmX3⟩, (List.forall_mem_cons.mpr ⟨⟨RX3, TX3, 13, tyX3, rfl, by decide, mu_X3, (mT1 _ (List.mem_of_getElem? (i := 39) rfl) rfl), tyX3_ok, nmX3⟩, (List.forall_mem_cons.mpr ⟨⟨RX3, TX3, 13, tyX3, rfl, by decide, mu_X3, (mT1 _ (List.mem_of_getElem? (i := 42) rfl) rfl), tyX3_ok, nmX3⟩, (List.forall_mem_cons.mpr ⟨⟨RX3, TX3, 13, tyX3, rfl, by decide, mu_X3, (mT1 _ (List.mem_of_getElem? (i := 43) rfl) rfl), tyX3_ok, nmX3⟩, (List.forall_mem_cons.mpr ⟨⟨RX3, TX3, 13, tyX3, rfl, by decide, mu_X3, (mT1 _ (List.mem_of_getElem? (i := 44) rfl) rfl), tyX3_ok, nmX3⟩, (List.forall_mem_cons.mpr ⟨⟨RX3, TX3, 13, tyX3, rfl, by decide, mu_X3, (mT1 _ (List.mem_of_getElem? (i := 31) rfl) rfl), tyX3_ok, nmX3⟩, (List.forall_mem_cons.mpr ⟨⟨RX3, TX3, 13, tyX3, rfl, by decide, mu_X3, (mT1 _ (List.mem_of_getElem? (i := 40) rfl) rfl), tyX3_ok, nmX3⟩, (List.forall_mem_cons.mpr ⟨⟨RX3, TX3, 13, tyX3, rfl, by decide, mu_X3, (mT1 _ (List.mem_of_getElem? (i := 34) rfl) rfl), tyX3_ok, nmX3⟩, (fun _ h => absurd h List.not_mem_nil)⟩)⟩)⟩)⟩)⟩)⟩)⟩)⟩)⟩)⟩)⟩)⟩)⟩)
set_option maxRecDepth 100000 in
theorem flX4_ok : mv_flB vwCl RX4 mv_TT flX4 := mv_flB_of (List.forall_mem_cons.mpr ⟨⟨RX4, TX4, 6, tyX4, rfl, by decide, mu_X4, (mT1 _ (List.mem_of_getElem? (i := 174) rfl) rfl), tyX4_ok, nmX4⟩, (List.forall_mem_cons.mpr ⟨⟨RX4, TX4, 6, tyX4, rfl, by decide, mu_X4, (mT1 _ (List.mem_of_getElem? (i := 176) rfl) rfl), tyX4_ok, nmX4⟩, (List.forall_mem_cons.mpr ⟨⟨RX4, TX4, 6, tyX4, rfl, by decide, mu_X4, (mT1 _ (List.mem_of_getElem? (i := 178) rfl) rfl), tyX4_ok, nmX4⟩, (List.forall_mem_cons.mpr ⟨⟨RX4, TX4, 6, tyX4, rfl, by decide, mu_X4, (mT1 _ (List.mem_of_getElem? (i := 179) rfl) rfl), tyX4_ok, nmX4⟩, (List.forall_mem_cons.mpr ⟨⟨RX4, TX4, 6, tyX4, rfl, by decide, mu_X4, (mT1 _ (List.mem_of_getElem? (i := 180) rfl) rfl), tyX4_ok, nmX4⟩, (List.forall_mem_cons.mpr ⟨⟨RX4, TX4, 6, tyX4, rfl, by decide, mu_X4, (mT1 _ (List.mem_of_getElem? (i := 181) rfl) rfl), tyX4_ok, nmX4⟩, (fun _ h => absurd h List.not_mem_nil)⟩)⟩)⟩)⟩)⟩)⟩)
set_option maxRecDepth 100000 in
theorem flX5_ok : mv_flB vwCl RX5 mv_TT flX5 := mv_flB_of (List.forall_mem_cons.mpr ⟨⟨RX5, TX5, 3, tyX5, rfl, by decide, mu_X5, (mT1 _ (List.mem_of_getElem? (i := 238) rfl) rfl), tyX5_ok, nmX5⟩, (List.forall_mem_cons.mpr ⟨⟨RX5, TX5, 3, tyX5, rfl, by decide, mu_X5, (mT2 _ (List.mem_of_getElem? (i := 0) rfl) rfl), tyX5_ok, nmX5⟩, (List.forall_mem_cons.mpr ⟨⟨RX5, TX5, 3, tyX5, rfl, by decide, mu_X5, (mT2 _ (List.mem_of_getElem? (i := 2) rfl) rfl), tyX5_ok, nmX5⟩, (fun _ h => absurd h List.not_mem_nil)⟩)⟩)⟩)
set_option maxRecDepth 100000 in
theorem flX6_ok : mv_flB vwCl RX6 mv_TT flX6 := mv_flB_of (List.forall_mem_cons.mpr ⟨⟨RX6, TX6, 4, tyX6, rfl, by decide, mu_X6, (mT1 _ (List.mem_of_getElem? (i := 80) rfl) rfl), tyX6_ok, nmX6⟩, (List.forall_mem_cons.mpr ⟨⟨RX6, TX6, 4, tyX6, rfl, by decide, mu_X6, (mT1 _ (List.mem_of_getElem? (i := 82) rfl) rfl), tyX6_ok, nmX6⟩, (List.forall_mem_cons.mpr ⟨⟨RX6, TX6, 4, tyX6, rfl, by decide, mu_X6, (mT1 _ (List.mem_of_getElem? (i := 83) rfl) rfl), tyX6_ok, nmX6⟩, (List.forall_mem_cons.mpr ⟨⟨RX6, TX6, 4, tyX6, rfl, by decide, mu_X6, (mT1 _ (List.mem_of_getElem? (i := 85) rfl) rfl), tyX6_ok, nmX6⟩, (fun _ h => absurd h List.not_mem_nil)⟩)⟩)⟩)⟩)
set_option maxRecDepth 100000 in
theorem flX7_ok : mv_flB vwCl RX7 mv_TT flX7 := mv_flB_of (List.forall_mem_cons.mpr ⟨⟨RX7, TX7, 8, tyX7, rfl, by decide, mu_X7, (mT2 _ (List.mem_of_getElem? (i := 11) rfl) rfl), tyX7_ok, nmX7⟩, (List.forall_mem_cons.mpr ⟨⟨RX7, TX7, 8, tyX7, rfl, by decide, mu_X7, (mT2 _ (List.mem_of_getElem? (i := 12) rfl) rfl), tyX7_ok, nmX7⟩, (List.forall_mem_cons.mpr ⟨⟨RX7, TX7, 8, tyX7, rfl, by decide, mu_X7, (mT2 _ (List.mem_of_getElem? (i := 13) rfl) rfl), tyX7_ok, nmX7⟩, (List.forall_mem_cons.mpr ⟨⟨RX7, TX7, 8, tyX7, rfl, by decide, mu_X7, (mT2 _ (List.mem_of_getElem? (i := 14) rfl) rfl), tyX7_ok, nmX7⟩, (List.forall_mem_cons.mpr ⟨⟨RX7, TX7, 8, tyX7, rfl, by decide, mu_X7, (mT2 _ (List.mem_of_getElem? (i := 15) rfl) rfl), tyX7_ok, nmX7⟩, (List.forall_mem_cons.mpr ⟨⟨RX7, TX7, 8, tyX7, rfl, by decide, mu_X7, (mT2 _ (List.mem_of_getElem? (i := 16) rfl) rfl), tyX7_ok, nmX7⟩, (List.forall_mem_cons.mpr ⟨⟨RX7, TX7, 8, tyX7, rfl, by decide, mu_X7, (mT2 _ (List.mem_of_getElem? (i := 17) rfl) rfl), tyX7_ok, nmX7⟩, (List.forall_mem_cons.mpr ⟨⟨RX7, TX7, 8, tyX7, rfl, by decide, mu_X7, (mT2 _ (List.mem_of_getElem? (i := 18) rfl) rfl), tyX7_ok, nmX7⟩, (List.forall_mem_cons.mpr ⟨⟨RX1, TX1, 7, tyX1, rfl, by decide, mu_X1, (mT1 _ (List.mem_of_getElem? (i := 109) rfl) rfl), tyX1_ok, nmX1⟩, (List.forall_mem_cons.mpr ⟨⟨RX1, TX1, 7, tyX1, rfl, by decide, mu_X1, (mT1 _ (List.mem_of_getElem? (i := 103) rfl) rfl), tyX1_ok, nmX1⟩, (List.forall_mem_cons.mpr ⟨⟨RX1, TX1, 7, tyX1, rfl, by decide, mu_X1, (mT1 _ (List.mem_of_getElem? (i := 105) rfl) rfl), tyX1_ok, nmX1⟩, (List.forall_mem_cons.mpr ⟨⟨RX1, TX1, 7, tyX1, rfl, by decide, mu_X1, (mT1 _ (List.mem_of_getElem? (i := 111) rfl) rfl), tyX1_ok, nmX1⟩, (List.forall_mem_cons.mpr ⟨⟨RX1, TX1, 7, tyX1, rfl, by decide, mu_X1, (mT1 _ (List.mem_of_getElem? (i := 113) rfl) rfl), tyX1_ok, nmX1⟩, (List.forall_mem_cons.mpr ⟨⟨RX1, TX1, 7, tyX1, rfl, by decide, mu_X1, (mT1 _ (List.mem_of_getElem? (i := 107) rfl) rfl), tyX1_ok, nmX1⟩, (List.forall_mem_cons.mpr ⟨⟨RX3, TX3, 13, tyX3, rfl, by decide, mu_X3, (mT1 _ (List.mem_of_getElem? (i := 33) rfl) rfl), tyX3_ok, nmX3⟩, (List.forall_mem_cons.mpr ⟨⟨RX3, TX3, 13, tyX3, rfl, by decide, mu_X3, (mT1 _ (List.mem_of_getElem? (i := 32) rfl) rfl), tyX3_ok, nmX3⟩, (List.forall_mem_cons.mpr ⟨⟨RX6, TX6, 4, tyX6, rfl, by decide, mu_X6, (mT1 _ (List.mem_of_getElem? (i := 84) rfl) rfl), tyX6_ok, nmX6⟩, (List.forall_mem_cons.mpr ⟨⟨RX6, TX6, 4, tyX6, rfl, by decide, mu_X6, (mT1 _ (List.mem_of_getElem? (i := 81) rfl) rfl), tyX6_ok, nmX6⟩, (List.forall_mem_cons.mpr ⟨⟨RX3, TX3, 13, tyX3, rfl, by decide, mu_X3, (mT1 _ (List.mem_of_getElem? (i := 30) rfl) rfl), tyX3_ok, nmX3⟩, (List.forall_mem_cons.mpr ⟨⟨RX0, TX0, 8, tyX0, rfl, by decide, mu_X0, (mT1 _ (List.mem_of_getElem? (i := 143) rfl) rfl), tyX0_ok, nmX0⟩, (List.forall_mem_cons.mpr ⟨⟨RX1, TX1, 7, tyX1, rfl, by decide, mu_X1, (mT1 _ (List.mem_of_getElem? (i := 115) rfl) rfl), tyX1_ok, nmX1⟩, (List.forall_mem_cons.mpr ⟨⟨RX5, TX5, 3, tyX5, rfl, by decide, mu_X5, (mT1 _ (List.mem_of_getElem? (i := 239) rfl) rfl), tyX5_ok, nmX5⟩, (List.forall_mem_cons.mpr ⟨⟨RX4, TX4, 6, tyX4, rfl, by decide, mu_X4, (mT1 _ (List.mem_of_getElem? (i := 175) rfl) rfl), tyX4_ok, nmX4⟩, (List.forall_mem_cons.mpr ⟨⟨RX4, TX4, 6, tyX4, rfl, by decide, mu_X4, (mT1 _ (List.mem_of_getElem? (i := 177) rfl) rfl), tyX4_ok, nmX4⟩, (List.forall_mem_cons.mpr ⟨⟨RX0, TX0, 8, tyX0, rfl, by decide, mu_X0, (mT1 _ (List.mem_of_getElem? (i := 147) rfl) rfl), tyX0_ok, nmX0⟩, (List.forall_mem_cons.mpr ⟨⟨RX2, TX2, 8, tyX2, rfl, by decide, mu_X2, (mT1 _ (List.mem_of_getElem? (i := 210) rfl) rfl), tyX2_ok, nmX2⟩, (List.forall_mem_cons.mpr ⟨⟨RX2, TX2, 8, tyX2, rfl, by decide, mu_X2, (mT1 _ (List.mem_of_getElem? (i := 202) rfl) rfl), tyX2_ok, nmX2⟩, (List.forall_mem_cons.mpr ⟨⟨RX2, TX2, 8, tyX2, rfl, by decide, mu_X2, (mT1 _ (List.mem_of_getElem? (i := 204) rfl) rfl), tyX2_ok, nmX2⟩, (List.forall_mem_cons.mpr ⟨⟨RX2, TX2, 8, tyX2, rfl, by decide, mu_X2, (mT1 _ (List.mem_of_getElem? (i := 206) rfl) rfl), tyX2_ok, nmX2⟩, (List.forall_mem_cons.mpr ⟨⟨RX2, TX2, 8, tyX2, rfl, by decide, mu_X2, (mT1 _ (List.mem_of_getElem? (i := 208) rfl) rfl), tyX2_ok, nmX2⟩, (List.forall_mem_cons.mpr ⟨⟨RX3, TX3, 13, tyX3, rfl, by decide, mu_X3, (mT1 _ (List.mem_of_getElem? (i := 41) rfl) rfl), tyX3_ok, nmX3⟩, (List.forall_mem_cons.mpr ⟨⟨RX5, TX5, 3, tyX5, rfl, by decide, mu_X5, (mT2 _ (List.mem_of_getElem? (i := 1) rfl) rfl), tyX5_ok, nmX5⟩, (List.forall_mem_cons.mpr ⟨⟨RX5, TX5, 3, tyX5, rfl, by decide, mu_X5, (mT2 _ (List.mem_of_getElem? (i := 3) rfl) rfl), tyX5_ok, nmX5⟩, (fun _ h => absurd h List.not_mem_nil)⟩)⟩)⟩)⟩)⟩)⟩)⟩)⟩)⟩)⟩)⟩)⟩)⟩)⟩)⟩)⟩)⟩)⟩)⟩)⟩)⟩)⟩)⟩)⟩)⟩)⟩)⟩)⟩)⟩)⟩)⟩)⟩)⟩)
set_option maxRecDepth 100000 in
theorem flX8_ok : mv_flB vwCl RX8 mv_TT flX8 := mv_flB_of (List.forall_mem_cons.mpr ⟨⟨RX8, TX8, 46, tyX8, rfl, by decide, mu_X8, (mT3 _ (List.mem_of_getElem? (i := 137) rfl) rfl), tyX8_ok, nmX8⟩, (List.forall_mem_cons.mpr ⟨⟨RX8, TX8, 46, tyX8, rfl, by decide, mu_X8, (mT3 _ (List.mem_of_getElem? (i := 138) rfl) rfl), tyX8_ok, nmX8⟩, (List.forall_mem_cons.mpr ⟨⟨RX8, TX8, 46, tyX8, rfl, by decide, mu_X8, (mT3 _ (List.mem_of_getElem? (i := 141) rfl) rfl), tyX8_ok, nmX8⟩, (List.forall_mem_cons.mpr ⟨⟨RX8, TX8, 46, tyX8, rfl, by decide, mu_X8, (mT3 _ (List.mem_of_getElem? (i := 142) rfl) rfl), tyX8_ok, nmX8⟩, (List.forall_mem_cons.mpr ⟨⟨RX8, TX8, 46, tyX8, rfl, by decide, mu_X8, (mT3 _ (List.mem_of_getElem? (i := 143) rfl) rfl), tyX8_ok, nmX8⟩, (List.forall_mem_cons.mpr ⟨⟨RX8, TX8, 46, tyX8, rfl, by decide, mu_X8, (mT3 _ (List.mem_of_getElem? (i := 144) rfl) rfl), tyX8_ok, nmX8⟩, (List.forall_mem_cons.mpr ⟨⟨RX8, TX8, 46, tyX8, rfl, by decide, mu_X8, (mT3 _ (List.mem_of_getElem? (i := 145) rfl) rfl), tyX8_ok, nmX8⟩, (List.forall_mem_cons.mpr ⟨⟨RX8, TX8, 46, tyX8, rfl, by decide, mu_X8, (mT3 _ (List.mem_of_getElem? (i := 148) rfl) rfl), tyX8_ok, nmX8⟩, (List.forall_mem_cons.mpr ⟨⟨RX8, TX8, 46, tyX8, rfl, by decide, mu_X8, (mT3 _ (List.mem_of_getElem? (i := 149) rfl) rfl), tyX8_ok, nmX8⟩, (List.forall_mem_cons.mpr ⟨⟨RX8, TX8, 46, tyX8, rfl, by decide, mu_X8, (mT3 _ (List.mem_of_getElem? (i := 150) rfl) rfl), tyX8_ok, nmX8⟩, (List.forall_mem_cons.mpr ⟨⟨RX8, TX8, 46, tyX8, rfl, by decide, mu_X8, (mT3 _ (List.mem_of_getElem? (i := 151) rfl) rfl), tyX8_ok, nmX8⟩, (List.forall_mem_cons.mpr ⟨⟨RX8, TX8, 46, tyX8, rfl, by decide, mu_X8, (mT3 _ (List.mem_of_getElem? (i := 152) rfl) rfl), tyX8_ok, nmX8⟩, (List.forall_mem_cons.mpr ⟨⟨RX8, TX8, 46, tyX8, rfl, by decide, mu_X8, (mT3 _ (List.mem_of_getElem? (i := 153) rfl) rfl), tyX8_ok, nmX8⟩, (List.forall_mem_cons.mpr ⟨⟨RX8, TX8, 46, tyX8, rfl, by decide, mu_X8, (mT3 _ (List.mem_of_getElem? (i := 154) rfl) rfl), tyX8_ok, nmX8⟩, (List.forall_mem_cons.mpr ⟨⟨RX8, TX8, 46, tyX8, rfl, by decide, mu_X8, (mT3 _ (List.mem_of_getElem? (i := 155) rfl) rfl), tyX8_ok, nmX8⟩, (List.forall_mem_cons.mpr ⟨⟨RX8, TX8, 46, tyX8, rfl, by decide, mu_X8, (mT3 _ (List.mem_of_getElem? (i := 159) rfl) rfl), tyX8_ok, nmX8⟩, (List.forall_mem_cons.mpr ⟨⟨RX8, TX8, 46, tyX8, rfl, by decide, mu_X8, (mT3 _ (List.mem_of_getElem? (i := 161) rfl) rfl), tyX8_ok, nmX8⟩, (List.forall_mem_cons.mpr ⟨⟨RX8, TX8, 46, tyX8, rfl, by decide, mu_X8, (mT3 _ (List.mem_of_getElem? (i := 162) rfl) rfl), tyX8_ok, nmX8⟩, (List.forall_mem_cons.mpr ⟨⟨RX8, TX8, 46, tyX8, rfl, by decide, mu_X8, (mT3 _ (List.mem_of_getElem? (i := 163) rfl) rfl), tyX8_ok, nmX8⟩, (List.forall_mem_cons.mpr ⟨⟨RX8, TX8, 46, tyX8, rfl, by decide, mu_X8, (mT3 _ (List.mem_of_getElem? (i := 164) rfl) rfl), tyX8_ok, nmX8⟩, (List.forall_mem_cons.mpr ⟨⟨RX8, TX8, 46, tyX8, rfl, by decide, mu_X8, (mT3 _ (List.mem_of_getElem? (i := 165) rfl) rfl), tyX8_ok, nmX8⟩, (List.forall_mem_cons.mpr ⟨⟨RX8, TX8, 46, tyX8, rfl, by decide, mu_X8, (mT3 _ (List.mem_of_getElem? (i := 166) rfl) rfl), tyX8_ok, nmX8⟩, (List.forall_mem_cons.mpr ⟨⟨RX8, TX8, 46, tyX8, rfl, by decide, mu_X8, (mT3 _ (List.mem_of_getElem? (i := 167) rfl) rfl), tyX8_ok, nmX8⟩, (List.forall_mem_cons.mpr ⟨⟨RX8, TX8, 46, tyX8, rfl, by decide, mu_X8, (mT3 _ (List.mem_of_getElem? (i := 168) rfl) rfl), tyX8_ok, nmX8⟩, (List.forall_mem_cons.mpr ⟨⟨RX8, TX8, 46, tyX8, rfl, by decide, mu_X8, (mT3 _ (List.mem_of_getElem? (i := 169) rfl) rfl), tyX8_ok, nmX8⟩, (List.forall_mem_cons.mpr ⟨⟨RX8, TX8, 46, tyX8, rfl, by decide, mu_X8, (mT3 _ (List.mem_of_getElem? (i := 170) rfl) rfl), tyX8_ok, nmX8⟩, (List.forall_mem_cons.mpr ⟨⟨RX8, TX8, 46, tyX8, rfl, by decide, mu_X8, (mT3 _ (List.mem_of_getElem? (i := 171) rfl) rfl), tyX8_ok, nmX8⟩, (List.forall_mem_cons.mpr ⟨⟨RX8, TX8, 46, tyX8, rfl, by decide, mu_X8, (mT3 _ (List.mem_of_getElem? (i := 172) rfl) rfl), tyX8_ok, nmX8⟩, (List.forall_mem_cons.mpr ⟨⟨RX8, TX8, 46, tyX8, rfl, by decide, mu_X8, (mT3 _ (List.mem_of_getElem? (i := 174) rfl) rfl), tyX8_ok, nmX8⟩, (List.forall_mem_cons.mpr ⟨⟨RX8, TX8, 46, tyX8, rfl, by decide, mu_X8, (mT3 _ (List.mem_of_getElem? (i := 175) rfl) rfl), tyX8_ok, nmX8⟩, (List.forall_mem_cons.mpr ⟨⟨RX8, TX8, 46, tyX8, rfl, by decide, mu_X8, (mT3 _ (List.mem_of_getElem? (i := 176) rfl) rfl), tyX8_ok, nmX8⟩, (List.forall_mem_cons.mpr ⟨⟨RX8, TX8, 46, tyX8, rfl, by decide, mu_X8, (mT3 _ (List.mem_of_getElem? (i := 177) rfl) rfl), tyX8_ok, nmX8⟩, (List.forall_mem_cons.mpr ⟨⟨RX8, TX8, 46, tyX8, rfl, by decide, mu_X8, (mT3 _ (List.mem_of_getElem? (i := 178) rfl) rfl), tyX8_ok, nmX8⟩, (List.forall_mem_cons.mpr ⟨⟨RX8, TX8, 46, tyX8, rfl, by decide, mu_X8, (mT3 _ (List.mem_of_getElem? (i := 179) rfl) rfl), tyX8_ok, nmX8⟩, (List.forall_mem_cons.mpr ⟨⟨RX8, TX8, 46, tyX8, rfl, by decide, mu_X8, (mT3 _ (List.mem_of_getElem? (i := 180) rfl) rfl), tyX8_ok, nmX8⟩, (List.forall_mem_cons.mpr ⟨⟨RX8, TX8, 46, tyX8, rfl, by decide, mu_X8, (mT3 _ (List.mem_of_getElem? (i := 181) rfl) rfl), tyX8_ok, nmX8⟩, (List.forall_mem_cons.mpr ⟨⟨RX8, TX8, 46, tyX8, rfl, by decide, mu_X8, (mT3 _ (List.mem_of_getElem? (i := 136) rfl) rfl), tyX8_ok, nmX8⟩, (List.forall_mem_cons.mpr ⟨⟨RX8, TX8, 46, tyX8, rfl, by decide, mu_X8, (mT3 _ (List.mem_of_getElem? (i := 140) rfl) rfl), tyX8_ok, nmX8⟩, (List.forall_mem_cons.mpr ⟨⟨RX8, TX8, 46, tyX8, rfl, by decide, mu_X8, (mT3 _ (List.mem_of_getElem? (i := 139) rfl) rfl), tyX8_ok, nmX8⟩, (List.forall_mem_cons.mpr ⟨⟨RX8, TX8, 46, tyX8, rfl, by decide, mu_X8, (mT3 _ (List.mem_of_getElem? (i := 146) rfl) rfl), tyX8_ok, nmX8⟩, (List.forall_mem_cons.mpr ⟨⟨RX8, TX8, 46, tyX8, rfl, by decide, mu_X8, (mT3 _ (List.mem_of_getElem? (i := 147) rfl) rfl), tyX8_ok, nmX8⟩, (List.forall_mem_cons.mpr ⟨⟨RX8, TX8, 46, tyX8, rfl, by decide, mu_X8, (mT3 _ (List.mem_of_getElem? (i := 156) rfl) rfl), tyX8_ok, nmX8⟩, (List.forall_mem_cons.mpr ⟨⟨RX8, TX8, 46, tyX8, rfl, by decide, mu_X8, (mT3 _ (List.mem_of_getElem? (i := 157) rfl) rfl), tyX8_ok, nmX8⟩, (List.forall_mem_cons.mpr ⟨⟨RX8, TX8, 46, tyX8, rfl, by decide, mu_X8, (mT3 _ (List.mem_of_getElem? (i := 158) rfl) rfl), tyX8_ok, nmX8⟩, (List.forall_mem_cons.mpr ⟨⟨RX8, TX8, 46, tyX8, rfl, by decide, mu_X8, (mT3 _ (List.mem_of_getElem? (i := 160) rfl) rfl), tyX8_ok, nmX8⟩, (List.forall_mem_cons.mpr ⟨⟨RX8, TX8, 46, tyX8, rfl, by decide, mu_X8, (mT3 _ (List.mem_of_getElem? (i := 173) rfl) rfl), tyX8_ok, nmX8⟩, (fun _ h => absurd h List.not_mem_nil)⟩)⟩)⟩)⟩)⟩)⟩)⟩)⟩)⟩)⟩)⟩)⟩)⟩)⟩)⟩)⟩)⟩)⟩)⟩)⟩)⟩)⟩)⟩)⟩)⟩)⟩)⟩)⟩)⟩)⟩)⟩)⟩)⟩)⟩)⟩)⟩)⟩)⟩)⟩)⟩)⟩)⟩)⟩)⟩)⟩)⟩)
set_option maxRecDepth 100000 in
theorem flL_ok : mv_flB vwCl RL mv_TT flL := mv_flB_of (fun _ h => absurd h List.not_mem_nil)
end
section
theorem mi_le {a b : Int32} : a ≤ b ↔ a.toInt ≤ b.toInt := Int32.le_iff_toInt_le
theorem mi_lt {a b : Int32} : a < b ↔ a.toInt < b.toInt := Int32.lt_iff_toInt_lt
theorem mi_l : (4 : Int32).toInt = 4 ∧ (5 : Int32).toInt = 5 ∧ (6 : Int32).toInt = 6 ∧ (7 : Int32).toInt = 7 ∧ (32 : Int32).toInt = 32 ∧ (48 : Int32).toInt = 48 ∧ (57 : Int32).toInt = 57 ∧ (70 : Int32).toInt = 70 ∧ (126 : Int32).toInt = 126 ∧ (0 : Int32).toInt = 0 ∧ (1 : Int32).toInt = 1 ∧ (2 : Int32).toInt = 2 ∧ (3 : Int32).toInt = 3 ∧ (8 : Int32).toInt = 8 ∧ (9 : Int32).toInt = 9 ∧ (30 : Int32).toInt = 30 ∧ (51 : Int32).toInt = 51 ∧ (59 : Int32).toInt = 59 ∧ (60 : Int32).toInt = 60 ∧ (100 : Int32).toInt = 100 ∧ (1000 : Int32).toInt = 1000 ∧ (2000 : Int32).toInt = 2000 ∧ (10000 : Int32).toInt = 10000 ∧ (20000 : Int32).toInt = 20000 ∧ (100000 : Int32).toInt = 100000 ∧ (1000000 : Int32).toInt = 1000000 ∧ (-1 : Int32).toInt = -1 := by decide
theorem mi_eq {a b : Int32} : a = b ↔ a.toInt = b.toInt := Int32.toInt_inj.symm
set_option maxHeartbeats 1000000 in
theorem c_isWithin {d : Nat} (hd : 1 ≤ d) (a b c : Int32) {I : mv_I} {J : mv_J} {Q : mv_Q}  (h1 : (b ≤ a ∧ a ≤ c) → Q (some (.inl 1)) I J) (h0 : ¬ ((b ≤ a ∧ a ≤ c)) → Q (some (.inl 0)) I J) : mv_wpM mv_tab mv_sh d 39 [.inl a, .inl b, .inl c] I J Q := by
  obtain ⟨d, rfl⟩ : ∃ e, d = e + 1 := ⟨d - 1, by omega⟩
  refine (show ∃ fu9, mv_wp (mv_wpM mv_tab mv_sh d) mv_sh none tbX7_isWithin flX7 csX7 2 (fun _ _ _ _ _ => False) Q fu9 0 [some (.inl a), some (.inl b), some (.inl c)] [] I J from ?_)
  refine ⟨60, ?_⟩
  repeat' (first | refine And.intro (fun q => ?_) (fun q => ?_) | refine And.intro (by decide) ?_)
  all_goals first | exact h1 (by (simp only [mi_le, mi_lt, mi_eq] at *; have := mi_l; omega)) | exact h0 (by (simp only [mi_le, mi_lt, mi_eq] at *; have := mi_l; omega))

set_option maxHeartbeats 1000000 in
theorem c_in {d : Nat} (hd : 1 ≤ d) (a b c : Int32) {I : mv_I} {J : mv_J} {Q : mv_Q}  (h1 : (b ≤ a ∧ a ≤ c) → Q (some (.inl 1)) I J) (h0 : ¬ ((b ≤ a ∧ a ≤ c)) → Q (some (.inl 0)) I J) : mv_wpM mv_tab mv_sh d 79 [.inl a, .inl b, .inl c] I J Q := by
  obtain ⟨d, rfl⟩ : ∃ e, d = e + 1 := ⟨d - 1, by omega⟩
  refine (show ∃ fu9, mv_wp (mv_wpM mv_tab mv_sh d) mv_sh none tbX8_in flX8 csX8 2 (fun _ _ _ _ _ => False) Q fu9 0 [some (.inl a), some (.inl b), some (.inl c)] [] I J from ?_)
  refine ⟨60, ?_⟩
  repeat' (first | refine And.intro (fun q => ?_) (fun q => ?_) | refine And.intro (by decide) ?_)
  all_goals first | exact h1 (by (simp only [mi_le, mi_lt, mi_eq] at *; have := mi_l; omega)) | exact h0 (by (simp only [mi_le, mi_lt, mi_eq] at *; have := mi_l; omega))

set_option maxHeartbeats 1000000 in
theorem c_hasWorks {d : Nat} (hd : 1 ≤ d) (a : Int32) {I : mv_I} {J : mv_J} {Q : mv_Q}  (h1 : (0 ≤ a ∧ a < I 1 2) → Q (some (.inl 1)) I J) (h0 : ¬ ((0 ≤ a ∧ a < I 1 2)) → Q (some (.inl 0)) I J) : mv_wpM mv_tab mv_sh d 21 [.inr (.inr 1), .inl a] I J Q := by
  obtain ⟨d, rfl⟩ : ∃ e, d = e + 1 := ⟨d - 1, by omega⟩
  refine (show ∃ fu9, mv_wp (mv_wpM mv_tab mv_sh d) mv_sh none tbX3_hasWorks flX3 csX3 2 (fun _ _ _ _ _ => False) Q fu9 0 [some (.inr (.inr 1)), some (.inl a)] [] I J from ?_)
  refine ⟨60, ?_⟩
  repeat' (first | refine And.intro (fun q => ?_) (fun q => ?_) | refine And.intro (by decide) ?_)
  all_goals first | exact h1 (by (simp only [mi_le, mi_lt, mi_eq] at *; have := mi_l; omega)) | exact h0 (by (simp only [mi_le, mi_lt, mi_eq] at *; have := mi_l; omega))

set_option maxHeartbeats 1000000 in
theorem c_hasLot {d : Nat} (hd : 1 ≤ d) (a : Int32) {I : mv_I} {J : mv_J} {Q : mv_Q}  (h1 : (0 ≤ a ∧ a < I 3 6) → Q (some (.inl 1)) I J) (h0 : ¬ ((0 ≤ a ∧ a < I 3 6)) → Q (some (.inl 0)) I J) : mv_wpM mv_tab mv_sh d 8 [.inr (.inr 3), .inl a] I J Q := by
  obtain ⟨d, rfl⟩ : ∃ e, d = e + 1 := ⟨d - 1, by omega⟩
  refine (show ∃ fu9, mv_wp (mv_wpM mv_tab mv_sh d) mv_sh none tbX1_has flX1 csX1 2 (fun _ _ _ _ _ => False) Q fu9 0 [some (.inr (.inr 3)), some (.inl a)] [] I J from ?_)
  refine ⟨60, ?_⟩
  repeat' (first | refine And.intro (fun q => ?_) (fun q => ?_) | refine And.intro (by decide) ?_)
  all_goals first | exact h1 (by (simp only [mi_le, mi_lt, mi_eq] at *; have := mi_l; omega)) | exact h0 (by (simp only [mi_le, mi_lt, mi_eq] at *; have := mi_l; omega))

set_option maxHeartbeats 1000000 in
theorem c_hasShip {d : Nat} (hd : 1 ≤ d) (a : Int32) {I : mv_I} {J : mv_J} {Q : mv_Q}  (h1 : (0 ≤ a ∧ a < I 4 7) → Q (some (.inl 1)) I J) (h0 : ¬ ((0 ≤ a ∧ a < I 4 7)) → Q (some (.inl 0)) I J) : mv_wpM mv_tab mv_sh d 0 [.inr (.inr 4), .inl a] I J Q := by
  obtain ⟨d, rfl⟩ : ∃ e, d = e + 1 := ⟨d - 1, by omega⟩
  refine (show ∃ fu9, mv_wp (mv_wpM mv_tab mv_sh d) mv_sh none tbX0_has flX0 csX0 2 (fun _ _ _ _ _ => False) Q fu9 0 [some (.inr (.inr 4)), some (.inl a)] [] I J from ?_)
  refine ⟨60, ?_⟩
  repeat' (first | refine And.intro (fun q => ?_) (fun q => ?_) | refine And.intro (by decide) ?_)
  all_goals first | exact h1 (by (simp only [mi_le, mi_lt, mi_eq] at *; have := mi_l; omega)) | exact h0 (by (simp only [mi_le, mi_lt, mi_eq] at *; have := mi_l; omega))

set_option maxHeartbeats 1000000 in
theorem c_isWeek {d : Nat} (hd : 2 ≤ d) (a : Int32) {I : mv_I} {J : mv_J} {Q : mv_Q} (h1 : (0 ≤ a ∧ a ≤ 51) → Q (some (.inl 1)) I J) (h0 : ¬ (0 ≤ a ∧ a ≤ 51) → Q (some (.inl 0)) I J) : mv_wpM mv_tab mv_sh d 54 [.inl a] I J Q := by
  obtain ⟨d, rfl⟩ : ∃ e, d = e + 1 := ⟨d - 1, by omega⟩
  refine (show ∃ fu9, mv_wp (mv_wpM mv_tab mv_sh d) mv_sh none tbX7_isWeek flX7 csX7 2 (fun _ _ _ _ _ => False) Q fu9 0 [some (.inl a)] [] I J from ?_)
  refine ⟨60, ?_⟩
  exact c_isWithin (by omega) a 0 51 (fun q => And.intro (by decide) (h1 q)) (fun q => And.intro (by decide) (h0 q))

set_option maxHeartbeats 1000000 in
theorem c_isDay {d : Nat} (hd : 2 ≤ d) (a : Int32) {I : mv_I} {J : mv_J} {Q : mv_Q} (h1 : (0 ≤ a ∧ a ≤ 59) → Q (some (.inl 1)) I J) (h0 : ¬ (0 ≤ a ∧ a ≤ 59) → Q (some (.inl 0)) I J) : mv_wpM mv_tab mv_sh d 62 [.inl a] I J Q := by
  obtain ⟨d, rfl⟩ : ∃ e, d = e + 1 := ⟨d - 1, by omega⟩
  refine (show ∃ fu9, mv_wp (mv_wpM mv_tab mv_sh d) mv_sh none tbX7_isDay flX7 csX7 2 (fun _ _ _ _ _ => False) Q fu9 0 [some (.inl a)] [] I J from ?_)
  refine ⟨60, ?_⟩
  exact c_isWithin (by omega) a 0 59 (fun q => And.intro (by decide) (h1 q)) (fun q => And.intro (by decide) (h0 q))

set_option maxHeartbeats 1000000 in
theorem c_isSheet {d : Nat} (hd : 2 ≤ d) (a : Int32) {I : mv_I} {J : mv_J} {Q : mv_Q} (h1 : (0 ≤ a ∧ a ≤ 3) → Q (some (.inl 1)) I J) (h0 : ¬ (0 ≤ a ∧ a ≤ 3) → Q (some (.inl 0)) I J) : mv_wpM mv_tab mv_sh d 67 [.inl a] I J Q := by
  obtain ⟨d, rfl⟩ : ∃ e, d = e + 1 := ⟨d - 1, by omega⟩
  refine (show ∃ fu9, mv_wp (mv_wpM mv_tab mv_sh d) mv_sh none tbX7_isSheet flX7 csX7 2 (fun _ _ _ _ _ => False) Q fu9 0 [some (.inl a)] [] I J from ?_)
  refine ⟨60, ?_⟩
  exact c_isWithin (by omega) a 0 3 (fun q => And.intro (by decide) (h1 q)) (fun q => And.intro (by decide) (h0 q))

set_option maxHeartbeats 1000000 in
theorem c_isLane {d : Nat} (hd : 2 ≤ d) (a : Int32) {I : mv_I} {J : mv_J} {Q : mv_Q} (h1 : (0 ≤ a ∧ a ≤ 2) → Q (some (.inl 1)) I J) (h0 : ¬ (0 ≤ a ∧ a ≤ 2) → Q (some (.inl 0)) I J) : mv_wpM mv_tab mv_sh d 68 [.inl a] I J Q := by
  obtain ⟨d, rfl⟩ : ∃ e, d = e + 1 := ⟨d - 1, by omega⟩
  refine (show ∃ fu9, mv_wp (mv_wpM mv_tab mv_sh d) mv_sh none tbX7_isLane flX7 csX7 2 (fun _ _ _ _ _ => False) Q fu9 0 [some (.inl a)] [] I J from ?_)
  refine ⟨60, ?_⟩
  exact c_isWithin (by omega) a 0 2 (fun q => And.intro (by decide) (h1 q)) (fun q => And.intro (by decide) (h0 q))

set_option maxHeartbeats 1000000 in
theorem c8_isSheet {d : Nat} (hd : 2 ≤ d) (a : Int32) {I : mv_I} {J : mv_J} {Q : mv_Q} (h1 : (0 ≤ a ∧ a ≤ 3) → Q (some (.inl 1)) I J) (h0 : ¬ (0 ≤ a ∧ a ≤ 3) → Q (some (.inl 0)) I J) : mv_wpM mv_tab mv_sh d 123 [.inl a] I J Q := by
  obtain ⟨d, rfl⟩ : ∃ e, d = e + 1 := ⟨d - 1, by omega⟩
  refine (show ∃ fu9, mv_wp (mv_wpM mv_tab mv_sh d) mv_sh none tbX8_isSheet flX8 csX8 2 (fun _ _ _ _ _ => False) Q fu9 0 [some (.inl a)] [] I J from ?_)
  refine ⟨60, ?_⟩
  exact c_in (by omega) a 0 3 (fun q => And.intro (by decide) (h1 q)) (fun q => And.intro (by decide) (h0 q))

set_option maxHeartbeats 1000000 in
theorem c8_isWorks {d : Nat} (hd : 2 ≤ d) (a : Int32) {I : mv_I} {J : mv_J} {Q : mv_Q} (h1 : (0 ≤ a ∧ a ≤ I 12 0 - 1) → Q (some (.inl 1)) I J) (h0 : ¬ (0 ≤ a ∧ a ≤ I 12 0 - 1) → Q (some (.inl 0)) I J) : mv_wpM mv_tab mv_sh d 80 [.inr (.inr 12), .inl a] I J Q := by
  obtain ⟨d, rfl⟩ : ∃ e, d = e + 1 := ⟨d - 1, by omega⟩
  refine (show ∃ fu9, mv_wp (mv_wpM mv_tab mv_sh d) mv_sh none tbX8_isWorks flX8 csX8 2 (fun _ _ _ _ _ => False) Q fu9 0 [some (.inr (.inr 12)), some (.inl a)] [] I J from ?_)
  refine ⟨60, ?_⟩
  exact c_in (by omega) a 0 _ (fun q => And.intro (by decide) (h1 q)) (fun q => And.intro (by decide) (h0 q))

set_option maxHeartbeats 1000000 in
theorem c8_isLot {d : Nat} (hd : 2 ≤ d) (a : Int32) {I : mv_I} {J : mv_J} {Q : mv_Q} (h1 : (0 ≤ a ∧ a ≤ I 12 4 - 1) → Q (some (.inl 1)) I J) (h0 : ¬ (0 ≤ a ∧ a ≤ I 12 4 - 1) → Q (some (.inl 0)) I J) : mv_wpM mv_tab mv_sh d 81 [.inr (.inr 12), .inl a] I J Q := by
  obtain ⟨d, rfl⟩ : ∃ e, d = e + 1 := ⟨d - 1, by omega⟩
  refine (show ∃ fu9, mv_wp (mv_wpM mv_tab mv_sh d) mv_sh none tbX8_isLot flX8 csX8 2 (fun _ _ _ _ _ => False) Q fu9 0 [some (.inr (.inr 12)), some (.inl a)] [] I J from ?_)
  refine ⟨60, ?_⟩
  exact c_in (by omega) a 0 _ (fun q => And.intro (by decide) (h1 q)) (fun q => And.intro (by decide) (h0 q))

set_option maxHeartbeats 1000000 in
theorem c8_isShip {d : Nat} (hd : 2 ≤ d) (a : Int32) {I : mv_I} {J : mv_J} {Q : mv_Q} (h1 : (0 ≤ a ∧ a ≤ I 12 24 - 1) → Q (some (.inl 1)) I J) (h0 : ¬ (0 ≤ a ∧ a ≤ I 12 24 - 1) → Q (some (.inl 0)) I J) : mv_wpM mv_tab mv_sh d 105 [.inr (.inr 12), .inl a] I J Q := by
  obtain ⟨d, rfl⟩ : ∃ e, d = e + 1 := ⟨d - 1, by omega⟩
  refine (show ∃ fu9, mv_wp (mv_wpM mv_tab mv_sh d) mv_sh none tbX8_isShip flX8 csX8 2 (fun _ _ _ _ _ => False) Q fu9 0 [some (.inr (.inr 12)), some (.inl a)] [] I J from ?_)
  refine ⟨60, ?_⟩
  exact c_in (by omega) a 0 _ (fun q => And.intro (by decide) (h1 q)) (fun q => And.intro (by decide) (h0 q))

set_option maxHeartbeats 1000000 in
theorem c_isAsked {d : Nat} (hd : 3 ≤ d) (a b c : Int32) {I : mv_I} {J : mv_J} {Q : mv_Q} (h1 : ((0 ≤ a ∧ a < I 1 2) ∧ (0 ≤ b ∧ b ≤ 51) ∧ (0 ≤ c ∧ c ≤ I 1 9)) → Q (some (.inl 1)) I J) (h0 : ¬ ((0 ≤ a ∧ a < I 1 2) ∧ (0 ≤ b ∧ b ≤ 51) ∧ (0 ≤ c ∧ c ≤ I 1 9)) → Q (some (.inl 0)) I J) : mv_wpM mv_tab mv_sh d 56 [.inr (.inr 0), .inl a, .inl b, .inl c] I J Q := by
  obtain ⟨d, rfl⟩ : ∃ e, d = e + 1 := ⟨d - 1, by omega⟩
  refine (show ∃ fu9, mv_wp (mv_wpM mv_tab mv_sh d) mv_sh none tbX7_isAsked flX7 csX7 2 (fun _ _ _ _ _ => False) Q fu9 0 [some (.inr (.inr 0)), some (.inl a), some (.inl b), some (.inl c)] [] I J from ?_)
  refine ⟨60, ?_⟩
  refine c_hasWorks (by omega) a (fun q1 => ?_) (fun q1 => ?_)
  · refine And.intro (fun z => absurd z (by decide)) (fun _ => ?_)
    refine c_isWeek (by omega) b (fun q2 => ?_) (fun q2 => ?_)
    · refine And.intro (fun z => absurd z (by decide)) (fun _ => ?_)
      refine c_isWithin (by omega) c 0 _ (fun q3 => ?_) (fun q3 => ?_)
      · refine And.intro (fun z => absurd z (by decide)) (fun _ => ?_)
        exact And.intro (by decide) (h1 ⟨q1, q2, q3⟩)
      · refine And.intro (fun _ => ?_) (fun z => absurd rfl z)
        exact And.intro (by decide) (h0 (fun z => q3 z.2.2))
    · refine And.intro (fun _ => ?_) (fun z => absurd rfl z)
      exact And.intro (by decide) (h0 (fun z => q2 z.2.1))
  · refine And.intro (fun _ => ?_) (fun z => absurd rfl z)
    exact And.intro (by decide) (h0 (fun z => q1 z.1))

set_option maxHeartbeats 1000000 in
theorem c8_isAsOf {d : Nat} (hd : 3 ≤ d) (a b c : Int32) {I : mv_I} {J : mv_J} {Q : mv_Q} (h1 : ((0 ≤ a ∧ a ≤ I 12 0 - 1) ∧ (0 ≤ b ∧ b ≤ 51) ∧ (0 ≤ c ∧ c ≤ I 12 11)) → Q (some (.inl 1)) I J) (h0 : ¬ ((0 ≤ a ∧ a ≤ I 12 0 - 1) ∧ (0 ≤ b ∧ b ≤ 51) ∧ (0 ≤ c ∧ c ≤ I 12 11)) → Q (some (.inl 0)) I J) : mv_wpM mv_tab mv_sh d 95 [.inr (.inr 12), .inl a, .inl b, .inl c] I J Q := by
  obtain ⟨d, rfl⟩ : ∃ e, d = e + 1 := ⟨d - 1, by omega⟩
  refine (show ∃ fu9, mv_wp (mv_wpM mv_tab mv_sh d) mv_sh none tbX8_isAsOf flX8 csX8 2 (fun _ _ _ _ _ => False) Q fu9 0 [some (.inr (.inr 12)), some (.inl a), some (.inl b), some (.inl c)] [] I J from ?_)
  refine ⟨60, ?_⟩
  refine c8_isWorks (by omega) a (fun q1 => ?_) (fun q1 => ?_)
  · refine And.intro (fun z => absurd z (by decide)) (fun _ => ?_)
    refine c_in (by omega) b 0 51 (fun q2 => ?_) (fun q2 => ?_)
    · refine And.intro (fun z => absurd z (by decide)) (fun _ => ?_)
      refine c_in (by omega) c 0 _ (fun q3 => ?_) (fun q3 => ?_)
      · refine And.intro (fun z => absurd z (by decide)) (fun _ => ?_)
        exact And.intro (by decide) (h1 ⟨q1, q2, q3⟩)
      · refine And.intro (fun _ => ?_) (fun z => absurd rfl z)
        exact And.intro (by decide) (h0 (fun z => q3 z.2.2))
    · refine And.intro (fun _ => ?_) (fun z => absurd rfl z)
      exact And.intro (by decide) (h0 (fun z => q2 z.2.1))
  · refine And.intro (fun _ => ?_) (fun z => absurd rfl z)
    exact And.intro (by decide) (h0 (fun z => q1 z.1))
end
section
/-- a new object's ints, of the system -/
def mv_fr (I : mv_I) : Prop := I 0 7 = 0 ∧ I 1 2 = 0 ∧ I 1 3 = 0 ∧ I 1 9 = 0 ∧ I 2 2 = 0 ∧ I 3 6 = 0 ∧ I 4 7 = 0 ∧ I 5 1 = 5 ∧ I 6 4 = 0 ∧ (∀ j, j < 60 → I 38 j = -1) ∧ I 8 1 = -1 ∧ I 9 1 = -1 ∧ I 10 1 = -1 ∧ I 11 1 = -1
/-- of the reference -/
def mv_fm (I : mv_I) : Prop := I 12 0 = 0 ∧ I 12 3 = 0 ∧ I 12 4 = 0 ∧ I 12 10 = 0 ∧ I 12 11 = 0 ∧ I 12 20 = 0 ∧ I 12 24 = 0 ∧ I 12 32 = 5 ∧ I 12 37 = 0 ∧ (∀ j, j < 60 → I 73 j = -1) ∧ (∀ j, j < 4 → I 82 j = -1)
def mv_md (I I' : mv_I) : Prop := ∀ k, (k = 12 ∨ 51 ≤ k) → I' k = I k
theorem mv_md.rf {I : mv_I} : mv_md I I := fun _ _ => rfl
theorem mv_md.up {I I' : mv_I} (h : mv_md I I') {c : Nat} {f : Nat → Int32} (hc : c ≠ 12 ∧ c < 51) : mv_md I (va_up I' c f) := fun k hk => by rw [va_up_ne _ _ (by omega)]; exact h k hk
theorem mv_md.fm {I I' : mv_I} (h : mv_md I I') (f : mv_fm I) : mv_fm I' := by
  unfold mv_fm at *
  rw [h 12 (by omega), h 73 (by omega), h 82 (by omega)]
  exact f
theorem mi_01 : (0 - 1 : Int32) = -1 := by decide
theorem mi_sh : (1 <<< ((0 : Int32) &&& 31) - 1 : Int32) = 0 := by decide
set_option maxHeartbeats 1000000 in
theorem f_lot {d : Nat} (hd : 4 ≤ d) (a b c : Int32) {I : mv_I} {J : mv_J} {Q : mv_Q} (fr : mv_fr I) (h : ∀ (r : Int32) (I' : mv_I), mv_md I I' → r = -1 → Q (some (.inl r)) I' J) : mv_wpM mv_tab mv_sh d 49 [.inr (.inr 0), .inl a, .inl b, .inl c] I J Q := by
  obtain ⟨d, rfl⟩ : ∃ e, d = e + 1 := ⟨d - 1, by omega⟩
  refine (show ∃ fu9, mv_wp (mv_wpM mv_tab mv_sh d) mv_sh none tbX7_lot flX7 csX7 1 (fun _ _ _ _ _ => False) Q fu9 0 [some (.inr (.inr 0)), some (.inl a), some (.inl b), some (.inl c)] [] I J from ?_)
  refine ⟨60, ?_⟩
  obtain ⟨f1, f2, f3, f4, f5, f6, f7, f8, f9, f10, f11, f12, f13, f14⟩ := fr
  refine c_hasWorks (by omega) a (fun q => absurd q (fun q => (by simp only [f2, mi_01, mi_sh] at q; (simp only [mi_le, mi_lt, mi_eq] at *; have := mi_l; omega)))) (fun _ => ?_)
  first | refine And.intro (fun z => absurd z (by decide)) (fun _ => ?_) | refine And.intro (fun _ => ?_) (fun z => absurd z (by decide))
  exact h _ _ mv_md.rf rfl

set_option maxHeartbeats 1000000 in
theorem f_lend {d : Nat} (hd : 4 ≤ d) (a b c : Int32) {I : mv_I} {J : mv_J} {Q : mv_Q} (fr : mv_fr I) (h : ∀ (r : Int32) (I' : mv_I), mv_md I I' → r = -1 → Q (some (.inl r)) I' J) : mv_wpM mv_tab mv_sh d 53 [.inr (.inr 0), .inl a, .inl b, .inl c] I J Q := by
  obtain ⟨d, rfl⟩ : ∃ e, d = e + 1 := ⟨d - 1, by omega⟩
  refine (show ∃ fu9, mv_wp (mv_wpM mv_tab mv_sh d) mv_sh none tbX7_lend flX7 csX7 1 (fun _ _ _ _ _ => False) Q fu9 0 [some (.inr (.inr 0)), some (.inl a), some (.inl b), some (.inl c)] [] I J from ?_)
  refine ⟨60, ?_⟩
  obtain ⟨f1, f2, f3, f4, f5, f6, f7, f8, f9, f10, f11, f12, f13, f14⟩ := fr
  refine c_hasWorks (by omega) a (fun q => absurd q (fun q => (by simp only [f2, mi_01, mi_sh] at q; (simp only [mi_le, mi_lt, mi_eq] at *; have := mi_l; omega)))) (fun _ => ?_)
  first | refine And.intro (fun z => absurd z (by decide)) (fun _ => ?_) | refine And.intro (fun _ => ?_) (fun z => absurd z (by decide))
  exact h _ _ mv_md.rf rfl

set_option maxHeartbeats 1000000 in
theorem f_shut {d : Nat} (hd : 4 ≤ d) (a b c : Int32) {I : mv_I} {J : mv_J} {Q : mv_Q} (fr : mv_fr I) (h : ∀ (r : Int32) (I' : mv_I), mv_md I I' → r = -1 → Q (some (.inl r)) I' J) : mv_wpM mv_tab mv_sh d 55 [.inr (.inr 0), .inl a, .inl b, .inl c] I J Q := by
  obtain ⟨d, rfl⟩ : ∃ e, d = e + 1 := ⟨d - 1, by omega⟩
  refine (show ∃ fu9, mv_wp (mv_wpM mv_tab mv_sh d) mv_sh none tbX7_shut flX7 csX7 1 (fun _ _ _ _ _ => False) Q fu9 0 [some (.inr (.inr 0)), some (.inl a), some (.inl b), some (.inl c)] [] I J from ?_)
  refine ⟨60, ?_⟩
  obtain ⟨f1, f2, f3, f4, f5, f6, f7, f8, f9, f10, f11, f12, f13, f14⟩ := fr
  refine c_hasWorks (by omega) a (fun q => absurd q (fun q => (by simp only [f2, mi_01, mi_sh] at q; (simp only [mi_le, mi_lt, mi_eq] at *; have := mi_l; omega)))) (fun _ => ?_)
  first | refine And.intro (fun z => absurd z (by decide)) (fun _ => ?_) | refine And.intro (fun _ => ?_) (fun z => absurd z (by decide))
  exact h _ _ mv_md.rf rfl

set_option maxHeartbeats 1000000 in
theorem f_left {d : Nat} (hd : 4 ≤ d) (a : Int32) {I : mv_I} {J : mv_J} {Q : mv_Q} (fr : mv_fr I) (h : ∀ (r : Int32) (I' : mv_I), mv_md I I' → r = -1 → Q (some (.inl r)) I' J) : mv_wpM mv_tab mv_sh d 59 [.inr (.inr 0), .inl a] I J Q := by
  obtain ⟨d, rfl⟩ : ∃ e, d = e + 1 := ⟨d - 1, by omega⟩
  refine (show ∃ fu9, mv_wp (mv_wpM mv_tab mv_sh d) mv_sh none tbX7_left flX7 csX7 1 (fun _ _ _ _ _ => False) Q fu9 0 [some (.inr (.inr 0)), some (.inl a)] [] I J from ?_)
  refine ⟨60, ?_⟩
  obtain ⟨f1, f2, f3, f4, f5, f6, f7, f8, f9, f10, f11, f12, f13, f14⟩ := fr
  refine c_hasWorks (by omega) a (fun q => absurd q (fun q => (by simp only [f2, mi_01, mi_sh] at q; (simp only [mi_le, mi_lt, mi_eq] at *; have := mi_l; omega)))) (fun _ => ?_)
  first | refine And.intro (fun z => absurd z (by decide)) (fun _ => ?_) | refine And.intro (fun _ => ?_) (fun z => absurd z (by decide))
  exact h _ _ mv_md.rf rfl

set_option maxHeartbeats 1000000 in
theorem f_rail {d : Nat} (hd : 4 ≤ d) (a b : Int32) {I : mv_I} {J : mv_J} {Q : mv_Q} (fr : mv_fr I) (h : ∀ (r : Int32) (I' : mv_I), mv_md I I' → r = -1 → Q (some (.inl r)) I' J) : mv_wpM mv_tab mv_sh d 50 [.inr (.inr 0), .inl a, .inl b] I J Q := by
  obtain ⟨d, rfl⟩ : ∃ e, d = e + 1 := ⟨d - 1, by omega⟩
  refine (show ∃ fu9, mv_wp (mv_wpM mv_tab mv_sh d) mv_sh none tbX7_rail flX7 csX7 1 (fun _ _ _ _ _ => False) Q fu9 0 [some (.inr (.inr 0)), some (.inl a), some (.inl b)] [] I J from ?_)
  refine ⟨60, ?_⟩
  obtain ⟨f1, f2, f3, f4, f5, f6, f7, f8, f9, f10, f11, f12, f13, f14⟩ := fr
  refine c_hasLot (by omega) a (fun q => absurd q (fun q => (by simp only [f6, mi_01, mi_sh] at q; (simp only [mi_le, mi_lt, mi_eq] at *; have := mi_l; omega)))) (fun _ => ?_)
  first | refine And.intro (fun z => absurd z (by decide)) (fun _ => ?_) | refine And.intro (fun _ => ?_) (fun z => absurd z (by decide))
  exact h _ _ mv_md.rf rfl

set_option maxHeartbeats 1000000 in
theorem f_told {d : Nat} (hd : 4 ≤ d) (a b : Int32) {I : mv_I} {J : mv_J} {Q : mv_Q} (fr : mv_fr I) (h : ∀ (r : Int32) (I' : mv_I), mv_md I I' → r = -1 → Q (some (.inl r)) I' J) : mv_wpM mv_tab mv_sh d 51 [.inr (.inr 0), .inl a, .inl b] I J Q := by
  obtain ⟨d, rfl⟩ : ∃ e, d = e + 1 := ⟨d - 1, by omega⟩
  refine (show ∃ fu9, mv_wp (mv_wpM mv_tab mv_sh d) mv_sh none tbX7_told flX7 csX7 1 (fun _ _ _ _ _ => False) Q fu9 0 [some (.inr (.inr 0)), some (.inl a), some (.inl b)] [] I J from ?_)
  refine ⟨60, ?_⟩
  obtain ⟨f1, f2, f3, f4, f5, f6, f7, f8, f9, f10, f11, f12, f13, f14⟩ := fr
  refine c_hasLot (by omega) a (fun q => absurd q (fun q => (by simp only [f6, mi_01, mi_sh] at q; (simp only [mi_le, mi_lt, mi_eq] at *; have := mi_l; omega)))) (fun _ => ?_)
  first | refine And.intro (fun z => absurd z (by decide)) (fun _ => ?_) | refine And.intro (fun _ => ?_) (fun z => absurd z (by decide))
  exact h _ _ mv_md.rf rfl

set_option maxHeartbeats 1000000 in
theorem f_load {d : Nat} (hd : 4 ≤ d) (a b c : Int32) {I : mv_I} {J : mv_J} {Q : mv_Q} (fr : mv_fr I) (h : ∀ (r : Int32) (I' : mv_I), mv_md I I' → r = -1 → Q (some (.inl r)) I' J) : mv_wpM mv_tab mv_sh d 64 [.inr (.inr 0), .inl a, .inl b, .inl c] I J Q := by
  obtain ⟨d, rfl⟩ : ∃ e, d = e + 1 := ⟨d - 1, by omega⟩
  refine (show ∃ fu9, mv_wp (mv_wpM mv_tab mv_sh d) mv_sh none tbX7_load flX7 csX7 1 (fun _ _ _ _ _ => False) Q fu9 0 [some (.inr (.inr 0)), some (.inl a), some (.inl b), some (.inl c), none] [] I J from ?_)
  refine ⟨60, ?_⟩
  obtain ⟨f1, f2, f3, f4, f5, f6, f7, f8, f9, f10, f11, f12, f13, f14⟩ := fr
  refine c_hasShip (by omega) a (fun q => absurd q (fun q => (by simp only [f7, mi_01, mi_sh] at q; (simp only [mi_le, mi_lt, mi_eq] at *; have := mi_l; omega)))) (fun _ => ?_)
  first | refine And.intro (fun z => absurd z (by decide)) (fun _ => ?_) | refine And.intro (fun _ => ?_) (fun z => absurd z (by decide))
  exact h _ _ mv_md.rf rfl

set_option maxHeartbeats 1000000 in
theorem f_held {d : Nat} (hd : 4 ≤ d) (a b : Int32) {I : mv_I} {J : mv_J} {Q : mv_Q} (fr : mv_fr I) (h : ∀ (r : Int32) (I' : mv_I), mv_md I I' → r = -1 → Q (some (.inl r)) I' J) : mv_wpM mv_tab mv_sh d 65 [.inr (.inr 0), .inl a, .inl b] I J Q := by
  obtain ⟨d, rfl⟩ : ∃ e, d = e + 1 := ⟨d - 1, by omega⟩
  refine (show ∃ fu9, mv_wp (mv_wpM mv_tab mv_sh d) mv_sh none tbX7_held flX7 csX7 1 (fun _ _ _ _ _ => False) Q fu9 0 [some (.inr (.inr 0)), some (.inl a), some (.inl b)] [] I J from ?_)
  refine ⟨60, ?_⟩
  obtain ⟨f1, f2, f3, f4, f5, f6, f7, f8, f9, f10, f11, f12, f13, f14⟩ := fr
  refine c_hasShip (by omega) a (fun q => absurd q (fun q => (by simp only [f7, mi_01, mi_sh] at q; (simp only [mi_le, mi_lt, mi_eq] at *; have := mi_l; omega)))) (fun _ => ?_)
  first | refine And.intro (fun z => absurd z (by decide)) (fun _ => ?_) | refine And.intro (fun _ => ?_) (fun z => absurd z (by decide))
  exact h _ _ mv_md.rf rfl

set_option maxHeartbeats 1000000 in
theorem f_grade {d : Nat} (hd : 4 ≤ d) (a : Int32) {I : mv_I} {J : mv_J} {Q : mv_Q} (fr : mv_fr I) (h : ∀ (r : Int32) (I' : mv_I), mv_md I I' → r = -1 → Q (some (.inl r)) I' J) : mv_wpM mv_tab mv_sh d 66 [.inr (.inr 0), .inl a] I J Q := by
  obtain ⟨d, rfl⟩ : ∃ e, d = e + 1 := ⟨d - 1, by omega⟩
  refine (show ∃ fu9, mv_wp (mv_wpM mv_tab mv_sh d) mv_sh none tbX7_grade flX7 csX7 1 (fun _ _ _ _ _ => False) Q fu9 0 [some (.inr (.inr 0)), some (.inl a), none, none, none] [] I J from ?_)
  refine ⟨60, ?_⟩
  obtain ⟨f1, f2, f3, f4, f5, f6, f7, f8, f9, f10, f11, f12, f13, f14⟩ := fr
  refine c_hasShip (by omega) a (fun q => absurd q (fun q => (by simp only [f7, mi_01, mi_sh] at q; (simp only [mi_le, mi_lt, mi_eq] at *; have := mi_l; omega)))) (fun _ => ?_)
  first | refine And.intro (fun z => absurd z (by decide)) (fun _ => ?_) | refine And.intro (fun _ => ?_) (fun z => absurd z (by decide))
  exact h _ _ mv_md.rf rfl

set_option maxHeartbeats 1000000 in
theorem f_laid {d : Nat} (hd : 4 ≤ d) (a b : Int32) {I : mv_I} {J : mv_J} {Q : mv_Q} (fr : mv_fr I) (h : ∀ (r : Int32) (I' : mv_I), mv_md I I' → r = -1 → Q (some (.inl r)) I' J) : mv_wpM mv_tab mv_sh d 73 [.inr (.inr 0), .inl a, .inl b] I J Q := by
  obtain ⟨d, rfl⟩ : ∃ e, d = e + 1 := ⟨d - 1, by omega⟩
  refine (show ∃ fu9, mv_wp (mv_wpM mv_tab mv_sh d) mv_sh none tbX7_laid flX7 csX7 1 (fun _ _ _ _ _ => False) Q fu9 0 [some (.inr (.inr 0)), some (.inl a), some (.inl b)] [] I J from ?_)
  refine ⟨60, ?_⟩
  obtain ⟨f1, f2, f3, f4, f5, f6, f7, f8, f9, f10, f11, f12, f13, f14⟩ := fr
  refine c_hasShip (by omega) a (fun q => absurd q (fun q => (by simp only [f7, mi_01, mi_sh] at q; (simp only [mi_le, mi_lt, mi_eq] at *; have := mi_l; omega)))) (fun _ => ?_)
  first | refine And.intro (fun z => absurd z (by decide)) (fun _ => ?_) | refine And.intro (fun _ => ?_) (fun z => absurd z (by decide))
  exact h _ _ mv_md.rf rfl

set_option maxHeartbeats 1000000 in
theorem f_open {d : Nat} (hd : 4 ≤ d) (a b c : Int32) {I : mv_I} {J : mv_J} {Q : mv_Q} (fr : mv_fr I) (h : ∀ (r : Int32) (I' : mv_I), mv_md I I' → r = -1 → Q (some (.inl r)) I' J) : mv_wpM mv_tab mv_sh d 57 [.inr (.inr 0), .inl a, .inl b, .inl c] I J Q := by
  obtain ⟨d, rfl⟩ : ∃ e, d = e + 1 := ⟨d - 1, by omega⟩
  refine (show ∃ fu9, mv_wp (mv_wpM mv_tab mv_sh d) mv_sh none tbX7_open flX7 csX7 1 (fun _ _ _ _ _ => False) Q fu9 0 [some (.inr (.inr 0)), some (.inl a), some (.inl b), some (.inl c)] [] I J from ?_)
  refine ⟨60, ?_⟩
  obtain ⟨f1, f2, f3, f4, f5, f6, f7, f8, f9, f10, f11, f12, f13, f14⟩ := fr
  refine c_isAsked (by omega) a b c (fun q => absurd q (fun q => (by simp only [f2, mi_01, mi_sh] at q; (simp only [mi_le, mi_lt, mi_eq] at *; have := mi_l; omega)))) (fun _ => ?_)
  first | refine And.intro (fun z => absurd z (by decide)) (fun _ => ?_) | refine And.intro (fun _ => ?_) (fun z => absurd z (by decide))
  exact h _ _ mv_md.rf rfl

set_option maxHeartbeats 1000000 in
theorem f_quota {d : Nat} (hd : 4 ≤ d) (a b c : Int32) {I : mv_I} {J : mv_J} {Q : mv_Q} (fr : mv_fr I) (h : ∀ (r : Int32) (I' : mv_I), mv_md I I' → r = -10000001 → Q (some (.inl r)) I' J) : mv_wpM mv_tab mv_sh d 58 [.inr (.inr 0), .inl a, .inl b, .inl c] I J Q := by
  obtain ⟨d, rfl⟩ : ∃ e, d = e + 1 := ⟨d - 1, by omega⟩
  refine (show ∃ fu9, mv_wp (mv_wpM mv_tab mv_sh d) mv_sh none tbX7_quota flX7 csX7 1 (fun _ _ _ _ _ => False) Q fu9 0 [some (.inr (.inr 0)), some (.inl a), some (.inl b), some (.inl c)] [] I J from ?_)
  refine ⟨60, ?_⟩
  obtain ⟨f1, f2, f3, f4, f5, f6, f7, f8, f9, f10, f11, f12, f13, f14⟩ := fr
  refine c_isAsked (by omega) a b c (fun q => absurd q (fun q => (by simp only [f2, mi_01, mi_sh] at q; (simp only [mi_le, mi_lt, mi_eq] at *; have := mi_l; omega)))) (fun _ => ?_)
  first | refine And.intro (fun z => absurd z (by decide)) (fun _ => ?_) | refine And.intro (fun _ => ?_) (fun z => absurd z (by decide))
  exact h _ _ mv_md.rf rfl

set_option maxHeartbeats 1000000 in
theorem f_lay {d : Nat} (hd : 4 ≤ d) (a : Int32) {I : mv_I} {J : mv_J} {Q : mv_Q} (fr : mv_fr I) (h : ∀ (r : Int32) (I' : mv_I), mv_md I I' → r = -1 → Q (some (.inl r)) I' J) : mv_wpM mv_tab mv_sh d 72 [.inr (.inr 0), .inl a] I J Q := by
  obtain ⟨d, rfl⟩ : ∃ e, d = e + 1 := ⟨d - 1, by omega⟩
  refine (show ∃ fu9, mv_wp (mv_wpM mv_tab mv_sh d) mv_sh none tbX7_lay flX7 csX7 1 (fun _ _ _ _ _ => False) Q fu9 0 [some (.inr (.inr 0)), some (.inl a)] [] I J from ?_)
  refine ⟨60, ?_⟩
  obtain ⟨f1, f2, f3, f4, f5, f6, f7, f8, f9, f10, f11, f12, f13, f14⟩ := fr
  refine c_isWithin (by omega) a 1 _ (fun q => absurd q (fun q => (by simp only [f7, mi_01, mi_sh] at q; (simp only [mi_le, mi_lt, mi_eq] at *; have := mi_l; omega)))) (fun _ => ?_)
  first | refine And.intro (fun z => absurd z (by decide)) (fun _ => ?_) | refine And.intro (fun _ => ?_) (fun z => absurd z (by decide))
  exact h _ _ mv_md.rf rfl

set_option maxHeartbeats 1000000 in
theorem g_lot {d : Nat} (hd : 4 ≤ d) (a b c : Int32) {I : mv_I} {J : mv_J} {Q : mv_Q} (fm : mv_fm I) (h : ∀ (r : Int32) (I' : mv_I) (J' : mv_J), r = -1 → Q (some (.inl r)) I' J') : mv_wpM mv_tab mv_sh d 84 [.inr (.inr 12), .inl a, .inl b, .inl c] I J Q := by
  obtain ⟨d, rfl⟩ : ∃ e, d = e + 1 := ⟨d - 1, by omega⟩
  refine (show ∃ fu9, mv_wp (mv_wpM mv_tab mv_sh d) mv_sh none tbX8_lot flX8 csX8 1 (fun _ _ _ _ _ => False) Q fu9 0 [some (.inr (.inr 12)), some (.inl a), some (.inl b), some (.inl c)] [] I J from ?_)
  refine ⟨60, ?_⟩
  obtain ⟨f1, f2, f3, f4, f5, f6, f7, f8, f9, f10, f11⟩ := fm
  refine c8_isWorks (by omega) a (fun q => absurd q (fun q => (by simp only [f1, mi_01, mi_sh] at q; (simp only [mi_le, mi_lt, mi_eq] at *; have := mi_l; omega)))) (fun _ => ?_)
  first | refine And.intro (fun z => absurd z (by decide)) (fun _ => ?_) | refine And.intro (fun _ => ?_) (fun z => absurd z (by decide))
  exact h _ _ _ rfl

set_option maxHeartbeats 1000000 in
theorem g_lend {d : Nat} (hd : 4 ≤ d) (a b c : Int32) {I : mv_I} {J : mv_J} {Q : mv_Q} (fm : mv_fm I) (h : ∀ (r : Int32) (I' : mv_I) (J' : mv_J), r = -1 → Q (some (.inl r)) I' J') : mv_wpM mv_tab mv_sh d 93 [.inr (.inr 12), .inl a, .inl b, .inl c] I J Q := by
  obtain ⟨d, rfl⟩ : ∃ e, d = e + 1 := ⟨d - 1, by omega⟩
  refine (show ∃ fu9, mv_wp (mv_wpM mv_tab mv_sh d) mv_sh none tbX8_lend flX8 csX8 1 (fun _ _ _ _ _ => False) Q fu9 0 [some (.inr (.inr 12)), some (.inl a), some (.inl b), some (.inl c)] [] I J from ?_)
  refine ⟨60, ?_⟩
  obtain ⟨f1, f2, f3, f4, f5, f6, f7, f8, f9, f10, f11⟩ := fm
  refine c8_isWorks (by omega) a (fun q => absurd q (fun q => (by simp only [f1, mi_01, mi_sh] at q; (simp only [mi_le, mi_lt, mi_eq] at *; have := mi_l; omega)))) (fun _ => ?_)
  first | refine And.intro (fun z => absurd z (by decide)) (fun _ => ?_) | refine And.intro (fun _ => ?_) (fun z => absurd z (by decide))
  exact h _ _ _ rfl

set_option maxHeartbeats 1000000 in
theorem g_shut {d : Nat} (hd : 4 ≤ d) (a b c : Int32) {I : mv_I} {J : mv_J} {Q : mv_Q} (fm : mv_fm I) (h : ∀ (r : Int32) (I' : mv_I) (J' : mv_J), r = -1 → Q (some (.inl r)) I' J') : mv_wpM mv_tab mv_sh d 94 [.inr (.inr 12), .inl a, .inl b, .inl c] I J Q := by
  obtain ⟨d, rfl⟩ : ∃ e, d = e + 1 := ⟨d - 1, by omega⟩
  refine (show ∃ fu9, mv_wp (mv_wpM mv_tab mv_sh d) mv_sh none tbX8_shut flX8 csX8 1 (fun _ _ _ _ _ => False) Q fu9 0 [some (.inr (.inr 12)), some (.inl a), some (.inl b), some (.inl c)] [] I J from ?_)
  refine ⟨60, ?_⟩
  obtain ⟨f1, f2, f3, f4, f5, f6, f7, f8, f9, f10, f11⟩ := fm
  refine c8_isWorks (by omega) a (fun q => absurd q (fun q => (by simp only [f1, mi_01, mi_sh] at q; (simp only [mi_le, mi_lt, mi_eq] at *; have := mi_l; omega)))) (fun _ => ?_)
  first | refine And.intro (fun z => absurd z (by decide)) (fun _ => ?_) | refine And.intro (fun _ => ?_) (fun z => absurd z (by decide))
  exact h _ _ _ rfl

set_option maxHeartbeats 1000000 in
theorem g_left {d : Nat} (hd : 4 ≤ d) (a : Int32) {I : mv_I} {J : mv_J} {Q : mv_Q} (fm : mv_fm I) (h : ∀ (r : Int32) (I' : mv_I) (J' : mv_J), r = -1 → Q (some (.inl r)) I' J') : mv_wpM mv_tab mv_sh d 99 [.inr (.inr 12), .inl a] I J Q := by
  obtain ⟨d, rfl⟩ : ∃ e, d = e + 1 := ⟨d - 1, by omega⟩
  refine (show ∃ fu9, mv_wp (mv_wpM mv_tab mv_sh d) mv_sh none tbX8_left flX8 csX8 1 (fun _ _ _ _ _ => False) Q fu9 0 [some (.inr (.inr 12)), some (.inl a)] [] I J from ?_)
  refine ⟨60, ?_⟩
  obtain ⟨f1, f2, f3, f4, f5, f6, f7, f8, f9, f10, f11⟩ := fm
  refine c8_isWorks (by omega) a (fun q => absurd q (fun q => (by simp only [f1, mi_01, mi_sh] at q; (simp only [mi_le, mi_lt, mi_eq] at *; have := mi_l; omega)))) (fun _ => ?_)
  first | refine And.intro (fun z => absurd z (by decide)) (fun _ => ?_) | refine And.intro (fun _ => ?_) (fun z => absurd z (by decide))
  exact h _ _ _ rfl

set_option maxHeartbeats 1000000 in
theorem g_rail {d : Nat} (hd : 4 ≤ d) (a b : Int32) {I : mv_I} {J : mv_J} {Q : mv_Q} (fm : mv_fm I) (h : ∀ (r : Int32) (I' : mv_I) (J' : mv_J), r = -1 → Q (some (.inl r)) I' J') : mv_wpM mv_tab mv_sh d 85 [.inr (.inr 12), .inl a, .inl b] I J Q := by
  obtain ⟨d, rfl⟩ : ∃ e, d = e + 1 := ⟨d - 1, by omega⟩
  refine (show ∃ fu9, mv_wp (mv_wpM mv_tab mv_sh d) mv_sh none tbX8_rail flX8 csX8 1 (fun _ _ _ _ _ => False) Q fu9 0 [some (.inr (.inr 12)), some (.inl a), some (.inl b)] [] I J from ?_)
  refine ⟨60, ?_⟩
  obtain ⟨f1, f2, f3, f4, f5, f6, f7, f8, f9, f10, f11⟩ := fm
  refine c8_isLot (by omega) a (fun q => absurd q (fun q => (by simp only [f3, mi_01, mi_sh] at q; (simp only [mi_le, mi_lt, mi_eq] at *; have := mi_l; omega)))) (fun _ => ?_)
  first | refine And.intro (fun z => absurd z (by decide)) (fun _ => ?_) | refine And.intro (fun _ => ?_) (fun z => absurd z (by decide))
  exact h _ _ _ rfl

set_option maxHeartbeats 1000000 in
theorem g_told {d : Nat} (hd : 4 ≤ d) (a b : Int32) {I : mv_I} {J : mv_J} {Q : mv_Q} (fm : mv_fm I) (h : ∀ (r : Int32) (I' : mv_I) (J' : mv_J), r = -1 → Q (some (.inl r)) I' J') : mv_wpM mv_tab mv_sh d 87 [.inr (.inr 12), .inl a, .inl b] I J Q := by
  obtain ⟨d, rfl⟩ : ∃ e, d = e + 1 := ⟨d - 1, by omega⟩
  refine (show ∃ fu9, mv_wp (mv_wpM mv_tab mv_sh d) mv_sh none tbX8_told flX8 csX8 1 (fun _ _ _ _ _ => False) Q fu9 0 [some (.inr (.inr 12)), some (.inl a), some (.inl b)] [] I J from ?_)
  refine ⟨60, ?_⟩
  obtain ⟨f1, f2, f3, f4, f5, f6, f7, f8, f9, f10, f11⟩ := fm
  refine c8_isLot (by omega) a (fun q => absurd q (fun q => (by simp only [f3, mi_01, mi_sh] at q; (simp only [mi_le, mi_lt, mi_eq] at *; have := mi_l; omega)))) (fun _ => ?_)
  first | refine And.intro (fun z => absurd z (by decide)) (fun _ => ?_) | refine And.intro (fun _ => ?_) (fun z => absurd z (by decide))
  exact h _ _ _ rfl

set_option maxHeartbeats 1000000 in
theorem g_load {d : Nat} (hd : 4 ≤ d) (a b c : Int32) {I : mv_I} {J : mv_J} {Q : mv_Q} (fm : mv_fm I) (h : ∀ (r : Int32) (I' : mv_I) (J' : mv_J), r = -1 → Q (some (.inl r)) I' J') : mv_wpM mv_tab mv_sh d 108 [.inr (.inr 12), .inl a, .inl b, .inl c] I J Q := by
  obtain ⟨d, rfl⟩ : ∃ e, d = e + 1 := ⟨d - 1, by omega⟩
  refine (show ∃ fu9, mv_wp (mv_wpM mv_tab mv_sh d) mv_sh none tbX8_load flX8 csX8 1 (fun _ _ _ _ _ => False) Q fu9 0 [some (.inr (.inr 12)), some (.inl a), some (.inl b), some (.inl c), none] [] I J from ?_)
  refine ⟨60, ?_⟩
  obtain ⟨f1, f2, f3, f4, f5, f6, f7, f8, f9, f10, f11⟩ := fm
  refine c8_isShip (by omega) a (fun q => absurd q (fun q => (by simp only [f7, mi_01, mi_sh] at q; (simp only [mi_le, mi_lt, mi_eq] at *; have := mi_l; omega)))) (fun _ => ?_)
  first | refine And.intro (fun z => absurd z (by decide)) (fun _ => ?_) | refine And.intro (fun _ => ?_) (fun z => absurd z (by decide))
  exact h _ _ _ rfl

set_option maxHeartbeats 1000000 in
theorem g_held {d : Nat} (hd : 4 ≤ d) (a b : Int32) {I : mv_I} {J : mv_J} {Q : mv_Q} (fm : mv_fm I) (h : ∀ (r : Int32) (I' : mv_I) (J' : mv_J), r = -1 → Q (some (.inl r)) I' J') : mv_wpM mv_tab mv_sh d 109 [.inr (.inr 12), .inl a, .inl b] I J Q := by
  obtain ⟨d, rfl⟩ : ∃ e, d = e + 1 := ⟨d - 1, by omega⟩
  refine (show ∃ fu9, mv_wp (mv_wpM mv_tab mv_sh d) mv_sh none tbX8_held flX8 csX8 1 (fun _ _ _ _ _ => False) Q fu9 0 [some (.inr (.inr 12)), some (.inl a), some (.inl b)] [] I J from ?_)
  refine ⟨60, ?_⟩
  obtain ⟨f1, f2, f3, f4, f5, f6, f7, f8, f9, f10, f11⟩ := fm
  refine c8_isShip (by omega) a (fun q => absurd q (fun q => (by simp only [f7, mi_01, mi_sh] at q; (simp only [mi_le, mi_lt, mi_eq] at *; have := mi_l; omega)))) (fun _ => ?_)
  first | refine And.intro (fun z => absurd z (by decide)) (fun _ => ?_) | refine And.intro (fun _ => ?_) (fun z => absurd z (by decide))
  exact h _ _ _ rfl

set_option maxHeartbeats 1000000 in
theorem g_grade {d : Nat} (hd : 4 ≤ d) (a : Int32) {I : mv_I} {J : mv_J} {Q : mv_Q} (fm : mv_fm I) (h : ∀ (r : Int32) (I' : mv_I) (J' : mv_J), r = -1 → Q (some (.inl r)) I' J') : mv_wpM mv_tab mv_sh d 110 [.inr (.inr 12), .inl a] I J Q := by
  obtain ⟨d, rfl⟩ : ∃ e, d = e + 1 := ⟨d - 1, by omega⟩
  refine (show ∃ fu9, mv_wp (mv_wpM mv_tab mv_sh d) mv_sh none tbX8_grade flX8 csX8 1 (fun _ _ _ _ _ => False) Q fu9 0 [some (.inr (.inr 12)), some (.inl a), none, none, none] [] I J from ?_)
  refine ⟨60, ?_⟩
  obtain ⟨f1, f2, f3, f4, f5, f6, f7, f8, f9, f10, f11⟩ := fm
  refine c8_isShip (by omega) a (fun q => absurd q (fun q => (by simp only [f7, mi_01, mi_sh] at q; (simp only [mi_le, mi_lt, mi_eq] at *; have := mi_l; omega)))) (fun _ => ?_)
  first | refine And.intro (fun z => absurd z (by decide)) (fun _ => ?_) | refine And.intro (fun _ => ?_) (fun z => absurd z (by decide))
  exact h _ _ _ rfl

set_option maxHeartbeats 1000000 in
theorem g_open {d : Nat} (hd : 4 ≤ d) (a b c : Int32) {I : mv_I} {J : mv_J} {Q : mv_Q} (fm : mv_fm I) (h : ∀ (r : Int32) (I' : mv_I) (J' : mv_J), r = -1 → Q (some (.inl r)) I' J') : mv_wpM mv_tab mv_sh d 96 [.inr (.inr 12), .inl a, .inl b, .inl c] I J Q := by
  obtain ⟨d, rfl⟩ : ∃ e, d = e + 1 := ⟨d - 1, by omega⟩
  refine (show ∃ fu9, mv_wp (mv_wpM mv_tab mv_sh d) mv_sh none tbX8_open flX8 csX8 1 (fun _ _ _ _ _ => False) Q fu9 0 [some (.inr (.inr 12)), some (.inl a), some (.inl b), some (.inl c)] [] I J from ?_)
  refine ⟨60, ?_⟩
  obtain ⟨f1, f2, f3, f4, f5, f6, f7, f8, f9, f10, f11⟩ := fm
  refine c8_isAsOf (by omega) a b c (fun q => absurd q (fun q => (by simp only [f1, mi_01, mi_sh] at q; (simp only [mi_le, mi_lt, mi_eq] at *; have := mi_l; omega)))) (fun _ => ?_)
  first | refine And.intro (fun z => absurd z (by decide)) (fun _ => ?_) | refine And.intro (fun _ => ?_) (fun z => absurd z (by decide))
  exact h _ _ _ rfl

set_option maxHeartbeats 1000000 in
theorem g_quota {d : Nat} (hd : 4 ≤ d) (a b c : Int32) {I : mv_I} {J : mv_J} {Q : mv_Q} (fm : mv_fm I) (h : ∀ (r : Int32) (I' : mv_I) (J' : mv_J), r = -10000001 → Q (some (.inl r)) I' J') : mv_wpM mv_tab mv_sh d 97 [.inr (.inr 12), .inl a, .inl b, .inl c] I J Q := by
  obtain ⟨d, rfl⟩ : ∃ e, d = e + 1 := ⟨d - 1, by omega⟩
  refine (show ∃ fu9, mv_wp (mv_wpM mv_tab mv_sh d) mv_sh none tbX8_quota flX8 csX8 1 (fun _ _ _ _ _ => False) Q fu9 0 [some (.inr (.inr 12)), some (.inl a), some (.inl b), some (.inl c)] [] I J from ?_)
  refine ⟨60, ?_⟩
  obtain ⟨f1, f2, f3, f4, f5, f6, f7, f8, f9, f10, f11⟩ := fm
  refine c8_isAsOf (by omega) a b c (fun q => absurd q (fun q => (by simp only [f1, mi_01, mi_sh] at q; (simp only [mi_le, mi_lt, mi_eq] at *; have := mi_l; omega)))) (fun _ => ?_)
  first | refine And.intro (fun z => absurd z (by decide)) (fun _ => ?_) | refine And.intro (fun _ => ?_) (fun z => absurd z (by decide))
  exact h _ _ _ rfl

set_option maxHeartbeats 1000000 in
theorem g_lay {d : Nat} (hd : 4 ≤ d) (a : Int32) {I : mv_I} {J : mv_J} {Q : mv_Q} (fm : mv_fm I) (h : ∀ (r : Int32) (I' : mv_I) (J' : mv_J), r = -1 → Q (some (.inl r)) I' J') : mv_wpM mv_tab mv_sh d 120 [.inr (.inr 12), .inl a] I J Q := by
  obtain ⟨d, rfl⟩ : ∃ e, d = e + 1 := ⟨d - 1, by omega⟩
  refine (show ∃ fu9, mv_wp (mv_wpM mv_tab mv_sh d) mv_sh none tbX8_lay flX8 csX8 1 (fun _ _ _ _ _ => False) Q fu9 0 [some (.inr (.inr 12)), some (.inl a), none, none, none, none] [] I J from ?_)
  refine ⟨60, ?_⟩
  obtain ⟨f1, f2, f3, f4, f5, f6, f7, f8, f9, f10, f11⟩ := fm
  refine c_in (by omega) a 1 _ (fun q => absurd q (fun q => (by simp only [f7, mi_01, mi_sh] at q; (simp only [mi_le, mi_lt, mi_eq] at *; have := mi_l; omega)))) (fun _ => ?_)
  first | refine And.intro (fun z => absurd z (by decide)) (fun _ => ?_) | refine And.intro (fun _ => ?_) (fun z => absurd z (by decide))
  exact h _ _ _ rfl

set_option maxHeartbeats 1000000 in
theorem g_laid {d : Nat} (hd : 4 ≤ d) (a b : Int32) {I : mv_I} {J : mv_J} {Q : mv_Q} (fm : mv_fm I) (h : ∀ (r : Int32) (I' : mv_I) (J' : mv_J), r = -1 → Q (some (.inl r)) I' J') : mv_wpM mv_tab mv_sh d 121 [.inr (.inr 12), .inl a, .inl b] I J Q := by
  obtain ⟨d, rfl⟩ : ∃ e, d = e + 1 := ⟨d - 1, by omega⟩
  refine (show ∃ fu9, mv_wp (mv_wpM mv_tab mv_sh d) mv_sh none tbX8_laid flX8 csX8 1 (fun _ _ _ _ _ => False) Q fu9 0 [some (.inr (.inr 12)), some (.inl a), some (.inl b)] [] I J from ?_)
  refine ⟨60, ?_⟩
  obtain ⟨f1, f2, f3, f4, f5, f6, f7, f8, f9, f10, f11⟩ := fm
  refine And.intro (fun q => ?_) (fun q => absurd f9 q)
  exact h _ _ _ rfl

def v_works (a : Int32) : Int32 := if 1 ≤ a ∧ a ≤ 1000 then 0 else -1
def v_weeks (a : Int32) : Int32 := if 0 ≤ a ∧ a ≤ 51 then a else -1
def v_total (a : Int32) : Int32 := if 0 ≤ a ∧ a ≤ 1000000 then 0 else -1
def v_bar (a : Int32) : Int32 := if 0 ≤ a ∧ a ≤ 9 then 5 else -1
theorem mi_in {i : Int32} {n : Nat} (h : 0 ≤ i.toInt) (h2 : i.toInt < n) : vp_in i n := vp_in_iff.mpr ⟨h, h2⟩
theorem mi_in0 {i : Int32} {n : Nat} (h : i = 0) (h2 : 0 < n) : vp_in i n := by subst h; exact vp_in_iff.mpr ⟨by decide, by show (0 : Int) < n; omega⟩
end
section
set_option maxHeartbeats 1000000 in
theorem f_addWorks {d : Nat} (hd : 1 ≤ d) (a : Int32) {I : mv_I} {J : mv_J} {Q : mv_Q} (f : I 1 2 = 0) (h : ∀ (r : Int32) (I' : mv_I), mv_md I I' → r = 0 → Q (some (.inl r)) I' J) : mv_wpM mv_tab mv_sh d 22 [.inr (.inr 1), .inl a] I J Q := by
  obtain ⟨d, rfl⟩ : ∃ e, d = e + 1 := ⟨d - 1, by omega⟩
  refine (show ∃ fu9, mv_wp (mv_wpM mv_tab mv_sh d) mv_sh none tbX3_addWorks flX3 csX3 1 (fun _ _ _ _ _ => False) Q fu9 0 [some (.inr (.inr 1)), some (.inl a)] [] I J from ?_)
  refine ⟨60, ?_⟩
  first | refine And.intro (fun q => ?_) (fun q => absurd q (fun q => by (simp only [mi_le, mi_lt, mi_eq] at *; have := mi_l; omega))) | refine And.intro (fun q => absurd q (fun q => by (simp only [mi_le, mi_lt, mi_eq] at *; have := mi_l; omega))) (fun q => ?_)
  refine And.intro (mi_in0 (n := 8) f (by decide)) ?_
  exact h _ _ (by repeat (first | exact mv_md.rf | refine mv_md.up ?_ (by decide))) (by simp [va_up, upd, f])

set_option maxHeartbeats 1000000 in
theorem f_works {d : Nat} (hd : 4 ≤ d) (a : Int32) {I : mv_I} {J : mv_J} {Q : mv_Q} (fr : mv_fr I) (h : ∀ (r : Int32) (I' : mv_I), mv_md I I' → r = v_works a → Q (some (.inl r)) I' J) : mv_wpM mv_tab mv_sh d 47 [.inr (.inr 0), .inl a] I J Q := by
  obtain ⟨d, rfl⟩ : ∃ e, d = e + 1 := ⟨d - 1, by omega⟩
  refine (show ∃ fu9, mv_wp (mv_wpM mv_tab mv_sh d) mv_sh none tbX7_works flX7 csX7 1 (fun _ _ _ _ _ => False) Q fu9 0 [some (.inr (.inr 0)), some (.inl a)] [] I J from ?_)
  refine ⟨60, ?_⟩
  obtain ⟨f1, f2, f3, f4, f5, f6, f7, f8, f9, f10, f11, f12, f13, f14⟩ := fr
  refine c_isWithin (by omega) a 1 1000 (fun p => ?_) (fun p => ?_)
  · first | refine And.intro (fun z => absurd z (by decide)) (fun _ => ?_) | refine And.intro (fun _ => ?_) (fun z => absurd z (by decide))
    exact f_addWorks (by omega) a f2 (fun r I' m e => h r I' m (e.trans (if_pos p).symm))
  · first | refine And.intro (fun z => absurd z (by decide)) (fun _ => ?_) | refine And.intro (fun _ => ?_) (fun z => absurd z (by decide))
    exact h _ _ mv_md.rf (if_neg p).symm

set_option maxHeartbeats 1000000 in
theorem g_works {d : Nat} (hd : 4 ≤ d) (a : Int32) {I : mv_I} {J : mv_J} {Q : mv_Q} (fm : mv_fm I) (h : ∀ (r : Int32) (I' : mv_I) (J' : mv_J), r = v_works a → Q (some (.inl r)) I' J') : mv_wpM mv_tab mv_sh d 82 [.inr (.inr 12), .inl a] I J Q := by
  obtain ⟨d, rfl⟩ : ∃ e, d = e + 1 := ⟨d - 1, by omega⟩
  refine (show ∃ fu9, mv_wp (mv_wpM mv_tab mv_sh d) mv_sh none tbX8_works flX8 csX8 1 (fun _ _ _ _ _ => False) Q fu9 0 [some (.inr (.inr 12)), some (.inl a)] [] I J from ?_)
  refine ⟨60, ?_⟩
  obtain ⟨f1, f2, f3, f4, f5, f6, f7, f8, f9, f10, f11⟩ := fm
  refine c_in (by omega) a 1 1000 (fun p => ?_) (fun p => ?_)
  · first | refine And.intro (fun z => absurd z (by decide)) (fun _ => ?_) | refine And.intro (fun _ => ?_) (fun z => absurd z (by decide))
    first | refine And.intro (fun q => ?_) (fun q => absurd q (fun q => by (simp only [mi_le, mi_lt, mi_eq] at *; have := mi_l; omega))) | refine And.intro (fun q => absurd q (fun q => by (simp only [mi_le, mi_lt, mi_eq] at *; have := mi_l; omega))) (fun q => ?_)
    refine And.intro (mi_in0 (n := 8) f1 (by decide)) ?_
    exact h _ _ _ (Eq.trans (b := 0) (by simp [va_up, upd, f1]) (if_pos p).symm)
  · first | refine And.intro (fun z => absurd z (by decide)) (fun _ => ?_) | refine And.intro (fun _ => ?_) (fun z => absurd z (by decide))
    exact h _ _ _ (if_neg p).symm

set_option maxHeartbeats 1000000 in
theorem f_weeks {d : Nat} (hd : 4 ≤ d) (a : Int32) {I : mv_I} {J : mv_J} {Q : mv_Q} (fr : mv_fr I) (h : ∀ (r : Int32) (I' : mv_I), mv_md I I' → r = v_weeks a → Q (some (.inl r)) I' J) : mv_wpM mv_tab mv_sh d 48 [.inr (.inr 0), .inl a] I J Q := by
  obtain ⟨d, rfl⟩ : ∃ e, d = e + 1 := ⟨d - 1, by omega⟩
  refine (show ∃ fu9, mv_wp (mv_wpM mv_tab mv_sh d) mv_sh none tbX7_weeks flX7 csX7 1 (fun _ _ _ _ _ => False) Q fu9 0 [some (.inr (.inr 0)), some (.inl a)] [] I J from ?_)
  refine ⟨60, ?_⟩
  obtain ⟨f1, f2, f3, f4, f5, f6, f7, f8, f9, f10, f11, f12, f13, f14⟩ := fr
  refine c_isWithin (by omega) a 0 _ (fun p => ?_) (fun p => ?_)
  · first | refine And.intro (fun z => absurd z (by decide)) (fun _ => ?_) | refine And.intro (fun _ => ?_) (fun z => absurd z (by decide))
    simp only [f1, show (51 - 0 : Int32) = 51 by decide] at p
    exact h _ _ (by repeat (first | exact mv_md.rf | refine mv_md.up ?_ (by decide))) (Eq.trans (b := a) (by simp [va_up, upd, f1]) (if_pos p).symm)
  · first | refine And.intro (fun z => absurd z (by decide)) (fun _ => ?_) | refine And.intro (fun _ => ?_) (fun z => absurd z (by decide))
    simp only [f1, show (51 - 0 : Int32) = 51 by decide] at p
    exact h _ _ mv_md.rf (if_neg p).symm

set_option maxHeartbeats 1000000 in
theorem g_weeks {d : Nat} (hd : 4 ≤ d) (a : Int32) {I : mv_I} {J : mv_J} {Q : mv_Q} (fm : mv_fm I) (h : ∀ (r : Int32) (I' : mv_I) (J' : mv_J), r = v_weeks a → Q (some (.inl r)) I' J') : mv_wpM mv_tab mv_sh d 83 [.inr (.inr 12), .inl a] I J Q := by
  obtain ⟨d, rfl⟩ : ∃ e, d = e + 1 := ⟨d - 1, by omega⟩
  refine (show ∃ fu9, mv_wp (mv_wpM mv_tab mv_sh d) mv_sh none tbX8_weeks flX8 csX8 1 (fun _ _ _ _ _ => False) Q fu9 0 [some (.inr (.inr 12)), some (.inl a)] [] I J from ?_)
  refine ⟨60, ?_⟩
  obtain ⟨f1, f2, f3, f4, f5, f6, f7, f8, f9, f10, f11⟩ := fm
  refine c_in (by omega) a 0 51 (fun p => ?_) (fun p => ?_)
  · first | refine And.intro (fun z => absurd z (by decide)) (fun _ => ?_) | refine And.intro (fun _ => ?_) (fun z => absurd z (by decide))
    first | refine And.intro (fun q => ?_) (fun q => absurd q (fun q => by simp only [f2, Int32.zero_add] at q; (simp only [mi_le, mi_lt, mi_eq] at *; have := mi_l; omega))) | refine And.intro (fun q => absurd q (fun q => by simp only [f2, Int32.zero_add] at q; (simp only [mi_le, mi_lt, mi_eq] at *; have := mi_l; omega))) (fun q => ?_)
    exact h _ _ _ (Eq.trans (b := a) (by simp [va_up, upd, f2]) (if_pos p).symm)
  · first | refine And.intro (fun z => absurd z (by decide)) (fun _ => ?_) | refine And.intro (fun _ => ?_) (fun z => absurd z (by decide))
    exact h _ _ _ (if_neg p).symm

set_option maxHeartbeats 1000000 in
theorem f_total {d : Nat} (hd : 4 ≤ d) (a : Int32) {I : mv_I} {J : mv_J} {Q : mv_Q} (fr : mv_fr I) (h : ∀ (r : Int32) (I' : mv_I), mv_md I I' → r = v_total a → Q (some (.inl r)) I' J) : mv_wpM mv_tab mv_sh d 52 [.inr (.inr 0), .inl a] I J Q := by
  obtain ⟨d, rfl⟩ : ∃ e, d = e + 1 := ⟨d - 1, by omega⟩
  refine (show ∃ fu9, mv_wp (mv_wpM mv_tab mv_sh d) mv_sh none tbX7_total flX7 csX7 1 (fun _ _ _ _ _ => False) Q fu9 0 [some (.inr (.inr 0)), some (.inl a), none] [] I J from ?_)
  refine ⟨60, ?_⟩
  obtain ⟨f1, f2, f3, f4, f5, f6, f7, f8, f9, f10, f11, f12, f13, f14⟩ := fr
  refine c_isWithin (by omega) a 0 1000000 (fun p => ?_) (fun p => ?_)
  · first | refine And.intro (fun z => absurd z (by decide)) (fun _ => ?_) | refine And.intro (fun _ => ?_) (fun z => absurd z (by decide))
    exact h _ _ (by repeat (first | exact mv_md.rf | refine mv_md.up ?_ (by decide))) (f3.trans (if_pos p).symm)
  · first | refine And.intro (fun z => absurd z (by decide)) (fun _ => ?_) | refine And.intro (fun _ => ?_) (fun z => absurd z (by decide))
    exact h _ _ mv_md.rf (if_neg p).symm

set_option maxHeartbeats 1000000 in
theorem f_bar {d : Nat} (hd : 4 ≤ d) (a : Int32) {I : mv_I} {J : mv_J} {Q : mv_Q} (fr : mv_fr I) (h : ∀ (r : Int32) (I' : mv_I), mv_md I I' → r = v_bar a → Q (some (.inl r)) I' J) : mv_wpM mv_tab mv_sh d 71 [.inr (.inr 0), .inl a] I J Q := by
  obtain ⟨d, rfl⟩ : ∃ e, d = e + 1 := ⟨d - 1, by omega⟩
  refine (show ∃ fu9, mv_wp (mv_wpM mv_tab mv_sh d) mv_sh none tbX7_bar flX7 csX7 1 (fun _ _ _ _ _ => False) Q fu9 0 [some (.inr (.inr 0)), some (.inl a), none] [] I J from ?_)
  refine ⟨60, ?_⟩
  obtain ⟨f1, f2, f3, f4, f5, f6, f7, f8, f9, f10, f11, f12, f13, f14⟩ := fr
  refine c_isWithin (by omega) a 0 9 (fun p => ?_) (fun p => ?_)
  · first | refine And.intro (fun z => absurd z (by decide)) (fun _ => ?_) | refine And.intro (fun _ => ?_) (fun z => absurd z (by decide))
    exact h _ _ (by repeat (first | exact mv_md.rf | refine mv_md.up ?_ (by decide))) (f8.trans (if_pos p).symm)
  · first | refine And.intro (fun z => absurd z (by decide)) (fun _ => ?_) | refine And.intro (fun _ => ?_) (fun z => absurd z (by decide))
    exact h _ _ mv_md.rf (if_neg p).symm

set_option maxHeartbeats 1000000 in
theorem g_total {d : Nat} (hd : 4 ≤ d) (a : Int32) {I : mv_I} {J : mv_J} {Q : mv_Q} (fm : mv_fm I) (h : ∀ (r : Int32) (I' : mv_I) (J' : mv_J), r = v_total a → Q (some (.inl r)) I' J') : mv_wpM mv_tab mv_sh d 88 [.inr (.inr 12), .inl a] I J Q := by
  obtain ⟨d, rfl⟩ : ∃ e, d = e + 1 := ⟨d - 1, by omega⟩
  refine (show ∃ fu9, mv_wp (mv_wpM mv_tab mv_sh d) mv_sh none tbX8_total flX8 csX8 1 (fun _ _ _ _ _ => False) Q fu9 0 [some (.inr (.inr 12)), some (.inl a), none] [] I J from ?_)
  refine ⟨60, ?_⟩
  obtain ⟨f1, f2, f3, f4, f5, f6, f7, f8, f9, f10, f11⟩ := fm
  refine c_in (by omega) a 0 1000000 (fun p => ?_) (fun p => ?_)
  · first | refine And.intro (fun z => absurd z (by decide)) (fun _ => ?_) | refine And.intro (fun _ => ?_) (fun z => absurd z (by decide))
    exact h _ _ _ (f4.trans (if_pos p).symm)
  · first | refine And.intro (fun z => absurd z (by decide)) (fun _ => ?_) | refine And.intro (fun _ => ?_) (fun z => absurd z (by decide))
    exact h _ _ _ (if_neg p).symm

set_option maxHeartbeats 1000000 in
theorem g_bar {d : Nat} (hd : 4 ≤ d) (a : Int32) {I : mv_I} {J : mv_J} {Q : mv_Q} (fm : mv_fm I) (h : ∀ (r : Int32) (I' : mv_I) (J' : mv_J), r = v_bar a → Q (some (.inl r)) I' J') : mv_wpM mv_tab mv_sh d 113 [.inr (.inr 12), .inl a] I J Q := by
  obtain ⟨d, rfl⟩ : ∃ e, d = e + 1 := ⟨d - 1, by omega⟩
  refine (show ∃ fu9, mv_wp (mv_wpM mv_tab mv_sh d) mv_sh none tbX8_bar flX8 csX8 1 (fun _ _ _ _ _ => False) Q fu9 0 [some (.inr (.inr 12)), some (.inl a), none] [] I J from ?_)
  refine ⟨60, ?_⟩
  obtain ⟨f1, f2, f3, f4, f5, f6, f7, f8, f9, f10, f11⟩ := fm
  refine c_in (by omega) a 0 9 (fun p => ?_) (fun p => ?_)
  · first | refine And.intro (fun z => absurd z (by decide)) (fun _ => ?_) | refine And.intro (fun _ => ?_) (fun z => absurd z (by decide))
    exact h _ _ _ (f8.trans (if_pos p).symm)
  · first | refine And.intro (fun z => absurd z (by decide)) (fun _ => ?_) | refine And.intro (fun _ => ?_) (fun z => absurd z (by decide))
    exact h _ _ _ (if_neg p).symm

def v_drop (a : Int32) : Int32 := if 0 ≤ a ∧ a ≤ 3 then -11 else -1
def v_item (a b : Int32) : Int32 := if 0 ≤ a ∧ a ≤ 3 then (if 0 ≤ b ∧ b ≤ 2 then -11 else -1) else -1
def v_copy (a b : Int32) : Int32 := if 0 ≤ a ∧ a ≤ 3 then (if 0 ≤ b ∧ b ≤ 3 then -11 else -1) else -1
def v_surf (a b c e : Int32) : Int32 := if 0 ≤ a ∧ a ≤ 59 then (if 0 ≤ b ∧ b ≤ 3 then (if 0 ≤ c ∧ c ≤ 2 then (if 0 ≤ e ∧ e ≤ 60 - a then -11 else -1) else -1) else -1) else -1
def v_sheet (a b c : Int32) : Int32 := if 0 ≤ a ∧ a ≤ 3 then (if 0 ≤ b ∧ b ≤ 2 then (if c ≤ 60 then (if c < 0 then -14 else c) else -1) else -1) else -1
def v_ship (a b c e g : Int32) : Int32 := if 0 ≤ a ∧ a ≤ 59 then (if 1 ≤ b ∧ b ≤ 20000 then (if 1 ≤ c ∧ c ≤ 2000 then (if 0 ≤ e ∧ e ≤ 30 then (if 0 ≤ g ∧ g ≤ 100 then 0 else -1) else -1) else -1) else -1) else -1
def v_count (a : Int32) : Int32 := if 0 ≤ a.toInt ∧ a.toInt ≤ 7 then 0 else -1
def v_sea (a : Int32) : Int32 := if 0 ≤ a ∧ a ≤ 59 then 0 else -1
theorem mi_s4 {a : Int32} (h : 0 ≤ a ∧ a ≤ 3) : vp_in a 4 := by
  simp only [mi_le] at h
  have := mi_l
  exact mi_in (by omega) (by omega)
theorem mi_l4 {I : mv_I} (f : ∀ j, j < 4 → I 82 j = -1) {a : Int32} (h : 0 ≤ a ∧ a ≤ 3) : I 82 a.toNatClampNeg = -1 := f _ (by
  obtain ⟨j, hj, rfl⟩ := vp_in_of (mi_s4 h) (by decide)
  rw [nI_clamp (by omega)]
  exact hj)
set_option maxHeartbeats 1000000 in
theorem f_isNothing0 {d : Nat} (hd : 1 ≤ d) {I : mv_I} {J : mv_J} {Q : mv_Q} (f : I 8 1 = -1) (h : Q (some (.inl 1)) I J) : mv_wpM mv_tab mv_sh d 32 [.inr (.inr 8)] I J Q := by
  obtain ⟨d, rfl⟩ : ∃ e, d = e + 1 := ⟨d - 1, by omega⟩
  refine (show ∃ fu9, mv_wp (mv_wpM mv_tab mv_sh d) mv_sh none tbX5_isNothing flX5 csX5 2 (fun _ _ _ _ _ => False) Q fu9 0 [some (.inr (.inr 8))] [] I J from ?_)
  refine ⟨60, ?_⟩
  first | refine And.intro (fun q => ?_) (fun q => absurd f q) | refine And.intro (fun q => absurd f q) (fun q => ?_)
  exact And.intro (by decide) h

set_option maxHeartbeats 1000000 in
theorem f_faultAs0 {d : Nat} (hd : 2 ≤ d) (a b c : Int32) {I : mv_I} {J : mv_J} {Q : mv_Q} (f : I 8 1 = -1) (h : Q (some (.inl (-11))) I J) : mv_wpM mv_tab mv_sh d 35 [.inr (.inr 8), .inl a, .inl b, .inl c] I J Q := by
  obtain ⟨d, rfl⟩ : ∃ e, d = e + 1 := ⟨d - 1, by omega⟩
  refine (show ∃ fu9, mv_wp (mv_wpM mv_tab mv_sh d) mv_sh none tbX5_faultAs flX5 csX5 1 (fun _ _ _ _ _ => False) Q fu9 0 [some (.inr (.inr 8)), some (.inl a), some (.inl b), some (.inl c)] [] I J from ?_)
  refine ⟨60, ?_⟩
  refine f_isNothing0 (by omega) f ?_
  first | refine And.intro (fun z => absurd z (by decide)) (fun _ => ?_) | refine And.intro (fun _ => ?_) (fun z => absurd z (by decide))
  exact h

set_option maxHeartbeats 1000000 in
theorem f_isNothing1 {d : Nat} (hd : 1 ≤ d) {I : mv_I} {J : mv_J} {Q : mv_Q} (f : I 9 1 = -1) (h : Q (some (.inl 1)) I J) : mv_wpM mv_tab mv_sh d 32 [.inr (.inr 9)] I J Q := by
  obtain ⟨d, rfl⟩ : ∃ e, d = e + 1 := ⟨d - 1, by omega⟩
  refine (show ∃ fu9, mv_wp (mv_wpM mv_tab mv_sh d) mv_sh none tbX5_isNothing flX5 csX5 2 (fun _ _ _ _ _ => False) Q fu9 0 [some (.inr (.inr 9))] [] I J from ?_)
  refine ⟨60, ?_⟩
  first | refine And.intro (fun q => ?_) (fun q => absurd f q) | refine And.intro (fun q => absurd f q) (fun q => ?_)
  exact And.intro (by decide) h

set_option maxHeartbeats 1000000 in
theorem f_faultAs1 {d : Nat} (hd : 2 ≤ d) (a b c : Int32) {I : mv_I} {J : mv_J} {Q : mv_Q} (f : I 9 1 = -1) (h : Q (some (.inl (-11))) I J) : mv_wpM mv_tab mv_sh d 35 [.inr (.inr 9), .inl a, .inl b, .inl c] I J Q := by
  obtain ⟨d, rfl⟩ : ∃ e, d = e + 1 := ⟨d - 1, by omega⟩
  refine (show ∃ fu9, mv_wp (mv_wpM mv_tab mv_sh d) mv_sh none tbX5_faultAs flX5 csX5 1 (fun _ _ _ _ _ => False) Q fu9 0 [some (.inr (.inr 9)), some (.inl a), some (.inl b), some (.inl c)] [] I J from ?_)
  refine ⟨60, ?_⟩
  refine f_isNothing1 (by omega) f ?_
  first | refine And.intro (fun z => absurd z (by decide)) (fun _ => ?_) | refine And.intro (fun _ => ?_) (fun z => absurd z (by decide))
  exact h

set_option maxHeartbeats 1000000 in
theorem f_isNothing2 {d : Nat} (hd : 1 ≤ d) {I : mv_I} {J : mv_J} {Q : mv_Q} (f : I 10 1 = -1) (h : Q (some (.inl 1)) I J) : mv_wpM mv_tab mv_sh d 32 [.inr (.inr 10)] I J Q := by
  obtain ⟨d, rfl⟩ : ∃ e, d = e + 1 := ⟨d - 1, by omega⟩
  refine (show ∃ fu9, mv_wp (mv_wpM mv_tab mv_sh d) mv_sh none tbX5_isNothing flX5 csX5 2 (fun _ _ _ _ _ => False) Q fu9 0 [some (.inr (.inr 10))] [] I J from ?_)
  refine ⟨60, ?_⟩
  first | refine And.intro (fun q => ?_) (fun q => absurd f q) | refine And.intro (fun q => absurd f q) (fun q => ?_)
  exact And.intro (by decide) h

set_option maxHeartbeats 1000000 in
theorem f_faultAs2 {d : Nat} (hd : 2 ≤ d) (a b c : Int32) {I : mv_I} {J : mv_J} {Q : mv_Q} (f : I 10 1 = -1) (h : Q (some (.inl (-11))) I J) : mv_wpM mv_tab mv_sh d 35 [.inr (.inr 10), .inl a, .inl b, .inl c] I J Q := by
  obtain ⟨d, rfl⟩ : ∃ e, d = e + 1 := ⟨d - 1, by omega⟩
  refine (show ∃ fu9, mv_wp (mv_wpM mv_tab mv_sh d) mv_sh none tbX5_faultAs flX5 csX5 1 (fun _ _ _ _ _ => False) Q fu9 0 [some (.inr (.inr 10)), some (.inl a), some (.inl b), some (.inl c)] [] I J from ?_)
  refine ⟨60, ?_⟩
  refine f_isNothing2 (by omega) f ?_
  first | refine And.intro (fun z => absurd z (by decide)) (fun _ => ?_) | refine And.intro (fun _ => ?_) (fun z => absurd z (by decide))
  exact h

set_option maxHeartbeats 1000000 in
theorem f_isNothing3 {d : Nat} (hd : 1 ≤ d) {I : mv_I} {J : mv_J} {Q : mv_Q} (f : I 11 1 = -1) (h : Q (some (.inl 1)) I J) : mv_wpM mv_tab mv_sh d 32 [.inr (.inr 11)] I J Q := by
  obtain ⟨d, rfl⟩ : ∃ e, d = e + 1 := ⟨d - 1, by omega⟩
  refine (show ∃ fu9, mv_wp (mv_wpM mv_tab mv_sh d) mv_sh none tbX5_isNothing flX5 csX5 2 (fun _ _ _ _ _ => False) Q fu9 0 [some (.inr (.inr 11))] [] I J from ?_)
  refine ⟨60, ?_⟩
  first | refine And.intro (fun q => ?_) (fun q => absurd f q) | refine And.intro (fun q => absurd f q) (fun q => ?_)
  exact And.intro (by decide) h

set_option maxHeartbeats 1000000 in
theorem f_faultAs3 {d : Nat} (hd : 2 ≤ d) (a b c : Int32) {I : mv_I} {J : mv_J} {Q : mv_Q} (f : I 11 1 = -1) (h : Q (some (.inl (-11))) I J) : mv_wpM mv_tab mv_sh d 35 [.inr (.inr 11), .inl a, .inl b, .inl c] I J Q := by
  obtain ⟨d, rfl⟩ : ∃ e, d = e + 1 := ⟨d - 1, by omega⟩
  refine (show ∃ fu9, mv_wp (mv_wpM mv_tab mv_sh d) mv_sh none tbX5_faultAs flX5 csX5 1 (fun _ _ _ _ _ => False) Q fu9 0 [some (.inr (.inr 11)), some (.inl a), some (.inl b), some (.inl c)] [] I J from ?_)
  refine ⟨60, ?_⟩
  refine f_isNothing3 (by omega) f ?_
  first | refine And.intro (fun z => absurd z (by decide)) (fun _ => ?_) | refine And.intro (fun _ => ?_) (fun z => absurd z (by decide))
  exact h

set_option maxHeartbeats 1000000 in
theorem f_drop {d : Nat} (hd : 4 ≤ d) (a : Int32) {I : mv_I} {J : mv_J} {Q : mv_Q} (fr : mv_fr I) (h : ∀ (r : Int32) (I' : mv_I), mv_md I I' → r = v_drop a → Q (some (.inl r)) I' J) : mv_wpM mv_tab mv_sh d 76 [.inr (.inr 0), .inl a] I J Q := by
  obtain ⟨d, rfl⟩ : ∃ e, d = e + 1 := ⟨d - 1, by omega⟩
  refine (show ∃ fu9, mv_wp (mv_wpM mv_tab mv_sh d) mv_sh none tbX7_drop flX7 csX7 1 (fun _ _ _ _ _ => False) Q fu9 0 [some (.inr (.inr 0)), some (.inl a), none] [] I J from ?_)
  refine ⟨60, ?_⟩
  obtain ⟨f1, f2, f3, f4, f5, f6, f7, f8, f9, f10, f11, f12, f13, f14⟩ := fr
  refine c_isSheet (by omega) a (fun p => ?_) (fun p => ?_)
  · first | refine And.intro (fun z => absurd z (by decide)) (fun _ => ?_) | refine And.intro (fun _ => ?_) (fun z => absurd z (by decide))
    refine And.intro (mi_s4 p) (And.intro (fun _ => ?_) (And.intro (fun _ => ?_) (And.intro (fun _ => ?_) (fun _ => ?_))))
    · refine f_isNothing0 (by omega) f11 ?_
      first | refine And.intro (fun z => absurd z (by decide)) (fun _ => ?_) | refine And.intro (fun _ => ?_) (fun z => absurd z (by decide))
      exact h _ _ mv_md.rf (if_pos p).symm
    · refine f_isNothing1 (by omega) f12 ?_
      first | refine And.intro (fun z => absurd z (by decide)) (fun _ => ?_) | refine And.intro (fun _ => ?_) (fun z => absurd z (by decide))
      exact h _ _ mv_md.rf (if_pos p).symm
    · refine f_isNothing2 (by omega) f13 ?_
      first | refine And.intro (fun z => absurd z (by decide)) (fun _ => ?_) | refine And.intro (fun _ => ?_) (fun z => absurd z (by decide))
      exact h _ _ mv_md.rf (if_pos p).symm
    · refine f_isNothing3 (by omega) f14 ?_
      first | refine And.intro (fun z => absurd z (by decide)) (fun _ => ?_) | refine And.intro (fun _ => ?_) (fun z => absurd z (by decide))
      exact h _ _ mv_md.rf (if_pos p).symm
  · first | refine And.intro (fun z => absurd z (by decide)) (fun _ => ?_) | refine And.intro (fun _ => ?_) (fun z => absurd z (by decide))
    exact h _ _ mv_md.rf (if_neg p).symm

set_option maxHeartbeats 1000000 in
theorem g_drop {d : Nat} (hd : 4 ≤ d) (a : Int32) {I : mv_I} {J : mv_J} {Q : mv_Q} (fm : mv_fm I) (h : ∀ (r : Int32) (I' : mv_I) (J' : mv_J), r = v_drop a → Q (some (.inl r)) I' J') : mv_wpM mv_tab mv_sh d 125 [.inr (.inr 12), .inl a] I J Q := by
  obtain ⟨d, rfl⟩ : ∃ e, d = e + 1 := ⟨d - 1, by omega⟩
  refine (show ∃ fu9, mv_wp (mv_wpM mv_tab mv_sh d) mv_sh none tbX8_drop flX8 csX8 1 (fun _ _ _ _ _ => False) Q fu9 0 [some (.inr (.inr 12)), some (.inl a)] [] I J from ?_)
  refine ⟨60, ?_⟩
  obtain ⟨f1, f2, f3, f4, f5, f6, f7, f8, f9, f10, f11⟩ := fm
  refine c8_isSheet (by omega) a (fun p => ?_) (fun p => ?_)
  · first | refine And.intro (fun z => absurd z (by decide)) (fun _ => ?_) | refine And.intro (fun _ => ?_) (fun z => absurd z (by decide))
    refine And.intro (mi_s4 p) ?_
    have e := mi_l4 f11 p
    first | refine And.intro (fun q => ?_) (fun q => absurd q (fun q => by (simp only [mi_le, mi_lt, mi_eq] at *; have := mi_l; omega))) | refine And.intro (fun q => absurd q (fun q => by (simp only [mi_le, mi_lt, mi_eq] at *; have := mi_l; omega))) (fun q => ?_)
    exact h _ _ _ (if_pos p).symm
  · first | refine And.intro (fun z => absurd z (by decide)) (fun _ => ?_) | refine And.intro (fun _ => ?_) (fun z => absurd z (by decide))
    exact h _ _ _ (if_neg p).symm

set_option maxHeartbeats 1000000 in
theorem f_item {d : Nat} (hd : 4 ≤ d) (a b c g : Int32) {I : mv_I} {J : mv_J} {Q : mv_Q} (fr : mv_fr I) (h : ∀ (r : Int32) (I' : mv_I), mv_md I I' → r = v_item a b → Q (some (.inl r)) I' J) : mv_wpM mv_tab mv_sh d 77 [.inr (.inr 0), .inl a, .inl b, .inl c, .inl g] I J Q := by
  obtain ⟨d, rfl⟩ : ∃ e, d = e + 1 := ⟨d - 1, by omega⟩
  refine (show ∃ fu9, mv_wp (mv_wpM mv_tab mv_sh d) mv_sh none tbX7_item flX7 csX7 1 (fun _ _ _ _ _ => False) Q fu9 0 [some (.inr (.inr 0)), some (.inl a), some (.inl b), some (.inl c), some (.inl g), none] [] I J from ?_)
  refine ⟨60, ?_⟩
  obtain ⟨f1, f2, f3, f4, f5, f6, f7, f8, f9, f10, f11, f12, f13, f14⟩ := fr
  refine c_isSheet (by omega) a (fun p => ?_) (fun p => ?_)
  · first | refine And.intro (fun z => absurd z (by decide)) (fun _ => ?_) | refine And.intro (fun _ => ?_) (fun z => absurd z (by decide))
    refine c_isLane (by omega) b (fun p2 => ?_) (fun p2 => ?_)
    · first | refine And.intro (fun z => absurd z (by decide)) (fun _ => ?_) | refine And.intro (fun _ => ?_) (fun z => absurd z (by decide))
      refine And.intro (mi_s4 p) (And.intro (fun _ => ?_) (And.intro (fun _ => ?_) (And.intro (fun _ => ?_) (fun _ => ?_))))
      · refine f_faultAs0 (by omega) b c 1 f11 ?_
        first | refine And.intro (fun z => absurd z (by decide)) (fun _ => ?_) | refine And.intro (fun _ => ?_) (fun z => absurd z (by decide))
        exact h _ _ mv_md.rf ((if_pos p).trans (if_pos p2)).symm
      · refine f_faultAs1 (by omega) b c 1 f12 ?_
        first | refine And.intro (fun z => absurd z (by decide)) (fun _ => ?_) | refine And.intro (fun _ => ?_) (fun z => absurd z (by decide))
        exact h _ _ mv_md.rf ((if_pos p).trans (if_pos p2)).symm
      · refine f_faultAs2 (by omega) b c 1 f13 ?_
        first | refine And.intro (fun z => absurd z (by decide)) (fun _ => ?_) | refine And.intro (fun _ => ?_) (fun z => absurd z (by decide))
        exact h _ _ mv_md.rf ((if_pos p).trans (if_pos p2)).symm
      · refine f_faultAs3 (by omega) b c 1 f14 ?_
        first | refine And.intro (fun z => absurd z (by decide)) (fun _ => ?_) | refine And.intro (fun _ => ?_) (fun z => absurd z (by decide))
        exact h _ _ mv_md.rf ((if_pos p).trans (if_pos p2)).symm
    · first | refine And.intro (fun z => absurd z (by decide)) (fun _ => ?_) | refine And.intro (fun _ => ?_) (fun z => absurd z (by decide))
      exact h _ _ mv_md.rf ((if_pos p).trans (if_neg p2)).symm
  · first | refine And.intro (fun z => absurd z (by decide)) (fun _ => ?_) | refine And.intro (fun _ => ?_) (fun z => absurd z (by decide))
    exact h _ _ mv_md.rf (if_neg p).symm

set_option maxHeartbeats 1000000 in
theorem g_item {d : Nat} (hd : 4 ≤ d) (a b c g : Int32) {I : mv_I} {J : mv_J} {Q : mv_Q} (fm : mv_fm I) (h : ∀ (r : Int32) (I' : mv_I) (J' : mv_J), r = v_item a b → Q (some (.inl r)) I' J') : mv_wpM mv_tab mv_sh d 126 [.inr (.inr 12), .inl a, .inl b, .inl c, .inl g] I J Q := by
  obtain ⟨d, rfl⟩ : ∃ e, d = e + 1 := ⟨d - 1, by omega⟩
  refine (show ∃ fu9, mv_wp (mv_wpM mv_tab mv_sh d) mv_sh none tbX8_item flX8 csX8 1 (fun _ _ _ _ _ => False) Q fu9 0 [some (.inr (.inr 12)), some (.inl a), some (.inl b), some (.inl c), some (.inl g)] [] I J from ?_)
  refine ⟨60, ?_⟩
  obtain ⟨f1, f2, f3, f4, f5, f6, f7, f8, f9, f10, f11⟩ := fm
  refine c8_isSheet (by omega) a (fun p => ?_) (fun p => ?_)
  · first | refine And.intro (fun z => absurd z (by decide)) (fun _ => ?_) | refine And.intro (fun _ => ?_) (fun z => absurd z (by decide))
    refine c_in (by omega) b 0 2 (fun p2 => ?_) (fun p2 => ?_)
    · first | refine And.intro (fun z => absurd z (by decide)) (fun _ => ?_) | refine And.intro (fun _ => ?_) (fun z => absurd z (by decide))
      refine And.intro (mi_s4 p) ?_
      have e := mi_l4 f11 p
      first | refine And.intro (fun q => ?_) (fun q => absurd q (fun q => by (simp only [mi_le, mi_lt, mi_eq] at *; have := mi_l; omega))) | refine And.intro (fun q => absurd q (fun q => by (simp only [mi_le, mi_lt, mi_eq] at *; have := mi_l; omega))) (fun q => ?_)
      exact h _ _ _ ((if_pos p).trans (if_pos p2)).symm
    · first | refine And.intro (fun z => absurd z (by decide)) (fun _ => ?_) | refine And.intro (fun _ => ?_) (fun z => absurd z (by decide))
      exact h _ _ _ ((if_pos p).trans (if_neg p2)).symm
  · first | refine And.intro (fun z => absurd z (by decide)) (fun _ => ?_) | refine And.intro (fun _ => ?_) (fun z => absurd z (by decide))
    exact h _ _ _ (if_neg p).symm

set_option maxHeartbeats 1000000 in
theorem g_copy {d : Nat} (hd : 4 ≤ d) (a b c g k : Int32) {I : mv_I} {J : mv_J} {Q : mv_Q} (fm : mv_fm I) (h : ∀ (r : Int32) (I' : mv_I) (J' : mv_J), r = v_copy a c → Q (some (.inl r)) I' J') : mv_wpM mv_tab mv_sh d 128 [.inr (.inr 12), .inl a, .inl b, .inl c, .inl g, .inl k] I J Q := by
  obtain ⟨d, rfl⟩ : ∃ e, d = e + 1 := ⟨d - 1, by omega⟩
  refine (show ∃ fu9, mv_wp (mv_wpM mv_tab mv_sh d) mv_sh none tbX8_copy flX8 csX8 1 (fun _ _ _ _ _ => False) Q fu9 0 [some (.inr (.inr 12)), some (.inl a), some (.inl b), some (.inl c), some (.inl g), some (.inl k), none] [] I J from ?_)
  refine ⟨60, ?_⟩
  obtain ⟨f1, f2, f3, f4, f5, f6, f7, f8, f9, f10, f11⟩ := fm
  refine c8_isSheet (by omega) a (fun p => ?_) (fun p => ?_)
  · first | refine And.intro (fun z => absurd z (by decide)) (fun _ => ?_) | refine And.intro (fun _ => ?_) (fun z => absurd z (by decide))
    refine c8_isSheet (by omega) c (fun p2 => ?_) (fun p2 => ?_)
    · first | refine And.intro (fun z => absurd z (by decide)) (fun _ => ?_) | refine And.intro (fun _ => ?_) (fun z => absurd z (by decide))
      refine And.intro (mi_s4 p) ?_
      have e := mi_l4 f11 p
      first | refine And.intro (fun q => ?_) (fun q => absurd q (fun q => by (simp only [mi_le, mi_lt, mi_eq] at *; have := mi_l; omega))) | refine And.intro (fun q => absurd q (fun q => by (simp only [mi_le, mi_lt, mi_eq] at *; have := mi_l; omega))) (fun q => ?_)
      exact h _ _ _ ((if_pos p).trans (if_pos p2)).symm
    · first | refine And.intro (fun z => absurd z (by decide)) (fun _ => ?_) | refine And.intro (fun _ => ?_) (fun z => absurd z (by decide))
      exact h _ _ _ ((if_pos p).trans (if_neg p2)).symm
  · first | refine And.intro (fun z => absurd z (by decide)) (fun _ => ?_) | refine And.intro (fun _ => ?_) (fun z => absurd z (by decide))
    exact h _ _ _ (if_neg p).symm

set_option maxHeartbeats 1000000 in
theorem f_copy {d : Nat} (hd : 4 ≤ d) (a b c g k : Int32) {I : mv_I} {J : mv_J} {Q : mv_Q} (fr : mv_fr I) (h : ∀ (r : Int32) (I' : mv_I), mv_md I I' → r = v_copy a c → Q (some (.inl r)) I' J) : mv_wpM mv_tab mv_sh d 78 [.inr (.inr 0), .inl a, .inl b, .inl c, .inl g, .inl k] I J Q := by
  obtain ⟨d, rfl⟩ : ∃ e, d = e + 1 := ⟨d - 1, by omega⟩
  refine (show ∃ fu9, mv_wp (mv_wpM mv_tab mv_sh d) mv_sh none tbX7_copy flX7 csX7 1 (fun _ _ _ _ _ => False) Q fu9 0 [some (.inr (.inr 0)), some (.inl a), some (.inl b), some (.inl c), some (.inl g), some (.inl k), none, none] [] I J from ?_)
  refine ⟨80, ?_⟩
  obtain ⟨f1, f2, f3, f4, f5, f6, f7, f8, f9, f10, f11, f12, f13, f14⟩ := fr
  refine c_isSheet (by omega) a (fun p => ?_) (fun p => ?_)
  · first | refine And.intro (fun z => absurd z (by decide)) (fun _ => ?_) | refine And.intro (fun _ => ?_) (fun z => absurd z (by decide))
    refine c_isSheet (by omega) c (fun p2 => ?_) (fun p2 => ?_)
    · first | refine And.intro (fun z => absurd z (by decide)) (fun _ => ?_) | refine And.intro (fun _ => ?_) (fun z => absurd z (by decide))
      refine And.intro (mi_s4 p) (And.intro (fun _ => ?_) (And.intro (fun _ => ?_) (And.intro (fun _ => ?_) (fun _ => ?_))))
      · refine And.intro (mi_s4 p2) (And.intro (fun _ => ?_) (And.intro (fun _ => ?_) (And.intro (fun _ => ?_) (fun _ => ?_))))
        · refine f_isNothing0 (by omega) f11 ?_
          first | refine And.intro (fun z => absurd z (by decide)) (fun _ => ?_) | refine And.intro (fun _ => ?_) (fun z => absurd z (by decide))
          exact h _ _ mv_md.rf ((if_pos p).trans (if_pos p2)).symm
        · refine f_isNothing0 (by omega) f11 ?_
          first | refine And.intro (fun z => absurd z (by decide)) (fun _ => ?_) | refine And.intro (fun _ => ?_) (fun z => absurd z (by decide))
          exact h _ _ mv_md.rf ((if_pos p).trans (if_pos p2)).symm
        · refine f_isNothing0 (by omega) f11 ?_
          first | refine And.intro (fun z => absurd z (by decide)) (fun _ => ?_) | refine And.intro (fun _ => ?_) (fun z => absurd z (by decide))
          exact h _ _ mv_md.rf ((if_pos p).trans (if_pos p2)).symm
        · refine f_isNothing0 (by omega) f11 ?_
          first | refine And.intro (fun z => absurd z (by decide)) (fun _ => ?_) | refine And.intro (fun _ => ?_) (fun z => absurd z (by decide))
          exact h _ _ mv_md.rf ((if_pos p).trans (if_pos p2)).symm
      · refine And.intro (mi_s4 p2) (And.intro (fun _ => ?_) (And.intro (fun _ => ?_) (And.intro (fun _ => ?_) (fun _ => ?_))))
        · refine f_isNothing1 (by omega) f12 ?_
          first | refine And.intro (fun z => absurd z (by decide)) (fun _ => ?_) | refine And.intro (fun _ => ?_) (fun z => absurd z (by decide))
          exact h _ _ mv_md.rf ((if_pos p).trans (if_pos p2)).symm
        · refine f_isNothing1 (by omega) f12 ?_
          first | refine And.intro (fun z => absurd z (by decide)) (fun _ => ?_) | refine And.intro (fun _ => ?_) (fun z => absurd z (by decide))
          exact h _ _ mv_md.rf ((if_pos p).trans (if_pos p2)).symm
        · refine f_isNothing1 (by omega) f12 ?_
          first | refine And.intro (fun z => absurd z (by decide)) (fun _ => ?_) | refine And.intro (fun _ => ?_) (fun z => absurd z (by decide))
          exact h _ _ mv_md.rf ((if_pos p).trans (if_pos p2)).symm
        · refine f_isNothing1 (by omega) f12 ?_
          first | refine And.intro (fun z => absurd z (by decide)) (fun _ => ?_) | refine And.intro (fun _ => ?_) (fun z => absurd z (by decide))
          exact h _ _ mv_md.rf ((if_pos p).trans (if_pos p2)).symm
      · refine And.intro (mi_s4 p2) (And.intro (fun _ => ?_) (And.intro (fun _ => ?_) (And.intro (fun _ => ?_) (fun _ => ?_))))
        · refine f_isNothing2 (by omega) f13 ?_
          first | refine And.intro (fun z => absurd z (by decide)) (fun _ => ?_) | refine And.intro (fun _ => ?_) (fun z => absurd z (by decide))
          exact h _ _ mv_md.rf ((if_pos p).trans (if_pos p2)).symm
        · refine f_isNothing2 (by omega) f13 ?_
          first | refine And.intro (fun z => absurd z (by decide)) (fun _ => ?_) | refine And.intro (fun _ => ?_) (fun z => absurd z (by decide))
          exact h _ _ mv_md.rf ((if_pos p).trans (if_pos p2)).symm
        · refine f_isNothing2 (by omega) f13 ?_
          first | refine And.intro (fun z => absurd z (by decide)) (fun _ => ?_) | refine And.intro (fun _ => ?_) (fun z => absurd z (by decide))
          exact h _ _ mv_md.rf ((if_pos p).trans (if_pos p2)).symm
        · refine f_isNothing2 (by omega) f13 ?_
          first | refine And.intro (fun z => absurd z (by decide)) (fun _ => ?_) | refine And.intro (fun _ => ?_) (fun z => absurd z (by decide))
          exact h _ _ mv_md.rf ((if_pos p).trans (if_pos p2)).symm
      · refine And.intro (mi_s4 p2) (And.intro (fun _ => ?_) (And.intro (fun _ => ?_) (And.intro (fun _ => ?_) (fun _ => ?_))))
        · refine f_isNothing3 (by omega) f14 ?_
          first | refine And.intro (fun z => absurd z (by decide)) (fun _ => ?_) | refine And.intro (fun _ => ?_) (fun z => absurd z (by decide))
          exact h _ _ mv_md.rf ((if_pos p).trans (if_pos p2)).symm
        · refine f_isNothing3 (by omega) f14 ?_
          first | refine And.intro (fun z => absurd z (by decide)) (fun _ => ?_) | refine And.intro (fun _ => ?_) (fun z => absurd z (by decide))
          exact h _ _ mv_md.rf ((if_pos p).trans (if_pos p2)).symm
        · refine f_isNothing3 (by omega) f14 ?_
          first | refine And.intro (fun z => absurd z (by decide)) (fun _ => ?_) | refine And.intro (fun _ => ?_) (fun z => absurd z (by decide))
          exact h _ _ mv_md.rf ((if_pos p).trans (if_pos p2)).symm
        · refine f_isNothing3 (by omega) f14 ?_
          first | refine And.intro (fun z => absurd z (by decide)) (fun _ => ?_) | refine And.intro (fun _ => ?_) (fun z => absurd z (by decide))
          exact h _ _ mv_md.rf ((if_pos p).trans (if_pos p2)).symm
    · first | refine And.intro (fun z => absurd z (by decide)) (fun _ => ?_) | refine And.intro (fun _ => ?_) (fun z => absurd z (by decide))
      exact h _ _ mv_md.rf ((if_pos p).trans (if_neg p2)).symm
  · first | refine And.intro (fun z => absurd z (by decide)) (fun _ => ?_) | refine And.intro (fun _ => ?_) (fun z => absurd z (by decide))
    exact h _ _ mv_md.rf (if_neg p).symm
end
section
set_option maxHeartbeats 1000000 in
theorem f_surf {d : Nat} (hd : 4 ≤ d) (a b c e g : Int32) {I : mv_I} {J : mv_J} {Q : mv_Q} (fr : mv_fr I) (h : ∀ (r : Int32) (I' : mv_I), mv_md I I' → r = v_surf a b c g → Q (some (.inl r)) I' J) : mv_wpM mv_tab mv_sh d 69 [.inr (.inr 0), .inl a, .inl b, .inl c, .inl e, .inl g] I J Q := by
  obtain ⟨d, rfl⟩ : ∃ e, d = e + 1 := ⟨d - 1, by omega⟩
  refine (show ∃ fu9, mv_wp (mv_wpM mv_tab mv_sh d) mv_sh none tbX7_surf flX7 csX7 1 (fun _ _ _ _ _ => False) Q fu9 0 [some (.inr (.inr 0)), some (.inl a), some (.inl b), some (.inl c), some (.inl e), some (.inl g), none, none] [] I J from ?_)
  refine ⟨80, ?_⟩
  obtain ⟨f1, f2, f3, f4, f5, f6, f7, f8, f9, f10, f11, f12, f13, f14⟩ := fr
  refine c_isDay (by omega) a (fun p0 => ?_) (fun p0 => ?_)
  · first | refine And.intro (fun z => absurd z (by decide)) (fun _ => ?_) | refine And.intro (fun _ => ?_) (fun z => absurd z (by decide))
    refine c_isSheet (by omega) b (fun p1 => ?_) (fun p1 => ?_)
    · first | refine And.intro (fun z => absurd z (by decide)) (fun _ => ?_) | refine And.intro (fun _ => ?_) (fun z => absurd z (by decide))
      refine c_isLane (by omega) c (fun p2 => ?_) (fun p2 => ?_)
      · first | refine And.intro (fun z => absurd z (by decide)) (fun _ => ?_) | refine And.intro (fun _ => ?_) (fun z => absurd z (by decide))
        refine c_isWithin (by omega) g 0 _ (fun p3 => ?_) (fun p3 => ?_)
        · first | refine And.intro (fun z => absurd z (by decide)) (fun _ => ?_) | refine And.intro (fun _ => ?_) (fun z => absurd z (by decide))
          refine And.intro (mi_s4 p1) (And.intro (fun _ => ?_) (And.intro (fun _ => ?_) (And.intro (fun _ => ?_) (fun _ => ?_))))
          · refine f_faultAs0 (by omega) c e g f11 ?_
            first | refine And.intro (fun z => absurd z (by decide)) (fun _ => ?_) | refine And.intro (fun _ => ?_) (fun z => absurd z (by decide))
            exact h _ _ mv_md.rf (((if_pos p0).trans ((if_pos p1).trans ((if_pos p2).trans (if_pos p3))))).symm
          · refine f_faultAs1 (by omega) c e g f12 ?_
            first | refine And.intro (fun z => absurd z (by decide)) (fun _ => ?_) | refine And.intro (fun _ => ?_) (fun z => absurd z (by decide))
            exact h _ _ mv_md.rf (((if_pos p0).trans ((if_pos p1).trans ((if_pos p2).trans (if_pos p3))))).symm
          · refine f_faultAs2 (by omega) c e g f13 ?_
            first | refine And.intro (fun z => absurd z (by decide)) (fun _ => ?_) | refine And.intro (fun _ => ?_) (fun z => absurd z (by decide))
            exact h _ _ mv_md.rf (((if_pos p0).trans ((if_pos p1).trans ((if_pos p2).trans (if_pos p3))))).symm
          · refine f_faultAs3 (by omega) c e g f14 ?_
            first | refine And.intro (fun z => absurd z (by decide)) (fun _ => ?_) | refine And.intro (fun _ => ?_) (fun z => absurd z (by decide))
            exact h _ _ mv_md.rf (((if_pos p0).trans ((if_pos p1).trans ((if_pos p2).trans (if_pos p3))))).symm
        · first | refine And.intro (fun z => absurd z (by decide)) (fun _ => ?_) | refine And.intro (fun _ => ?_) (fun z => absurd z (by decide))
          exact h _ _ mv_md.rf (((if_pos p0).trans ((if_pos p1).trans ((if_pos p2).trans (if_neg p3))))).symm
      · first | refine And.intro (fun z => absurd z (by decide)) (fun _ => ?_) | refine And.intro (fun _ => ?_) (fun z => absurd z (by decide))
        exact h _ _ mv_md.rf (((if_pos p0).trans ((if_pos p1).trans (if_neg p2)))).symm
    · first | refine And.intro (fun z => absurd z (by decide)) (fun _ => ?_) | refine And.intro (fun _ => ?_) (fun z => absurd z (by decide))
      exact h _ _ mv_md.rf (((if_pos p0).trans (if_neg p1))).symm
  · first | refine And.intro (fun z => absurd z (by decide)) (fun _ => ?_) | refine And.intro (fun _ => ?_) (fun z => absurd z (by decide))
    exact h _ _ mv_md.rf ((if_neg p0)).symm

set_option maxHeartbeats 1000000 in
theorem g_surf {d : Nat} (hd : 4 ≤ d) (a b c e g : Int32) {I : mv_I} {J : mv_J} {Q : mv_Q} (fm : mv_fm I) (h : ∀ (r : Int32) (I' : mv_I) (J' : mv_J), r = v_surf a b c g → Q (some (.inl r)) I' J') : mv_wpM mv_tab mv_sh d 129 [.inr (.inr 12), .inl a, .inl b, .inl c, .inl e, .inl g] I J Q := by
  obtain ⟨d, rfl⟩ : ∃ e, d = e + 1 := ⟨d - 1, by omega⟩
  refine (show ∃ fu9, mv_wp (mv_wpM mv_tab mv_sh d) mv_sh none tbX8_surf flX8 csX8 1 (fun _ _ _ _ _ => False) Q fu9 0 [some (.inr (.inr 12)), some (.inl a), some (.inl b), some (.inl c), some (.inl e), some (.inl g), none, none] [] I J from ?_)
  refine ⟨80, ?_⟩
  obtain ⟨f1, f2, f3, f4, f5, f6, f7, f8, f9, f10, f11⟩ := fm
  refine c_in (by omega) a 0 59 (fun p0 => ?_) (fun p0 => ?_)
  · first | refine And.intro (fun z => absurd z (by decide)) (fun _ => ?_) | refine And.intro (fun _ => ?_) (fun z => absurd z (by decide))
    refine c8_isSheet (by omega) b (fun p1 => ?_) (fun p1 => ?_)
    · first | refine And.intro (fun z => absurd z (by decide)) (fun _ => ?_) | refine And.intro (fun _ => ?_) (fun z => absurd z (by decide))
      refine c_in (by omega) c 0 2 (fun p2 => ?_) (fun p2 => ?_)
      · first | refine And.intro (fun z => absurd z (by decide)) (fun _ => ?_) | refine And.intro (fun _ => ?_) (fun z => absurd z (by decide))
        by_cases p3 : 0 ≤ g ∧ g ≤ 60 - a
        · first | refine And.intro (fun q => ?_) (fun q => absurd q (fun q => by (simp only [mi_le, mi_lt, mi_eq] at *; have := mi_l; omega))) | refine And.intro (fun q => absurd q (fun q => by (simp only [mi_le, mi_lt, mi_eq] at *; have := mi_l; omega))) (fun q => ?_)
          first | refine And.intro (fun q => ?_) (fun q => absurd q (fun q => by (simp only [mi_le, mi_lt, mi_eq] at *; have := mi_l; omega))) | refine And.intro (fun q => absurd q (fun q => by (simp only [mi_le, mi_lt, mi_eq] at *; have := mi_l; omega))) (fun q => ?_)
          refine And.intro (mi_s4 p1) ?_
          have e9 := mi_l4 f11 p1
          first | refine And.intro (fun q => ?_) (fun q => absurd q (fun q => by (simp only [mi_le, mi_lt, mi_eq] at *; have := mi_l; omega))) | refine And.intro (fun q => absurd q (fun q => by (simp only [mi_le, mi_lt, mi_eq] at *; have := mi_l; omega))) (fun q => ?_)
          exact h _ _ _ (((if_pos p0).trans ((if_pos p1).trans ((if_pos p2).trans (if_pos p3))))).symm
        · have v : ∀ I' J', Q (some (.inl (-1))) I' J' := fun I' J' => h _ _ _ ((if_pos p0).trans ((if_pos p1).trans ((if_pos p2).trans (if_neg p3)))).symm
          first | refine And.intro (fun q => ?_) (fun q => ?_) | skip
          all_goals first | exact v _ _ | refine And.intro (fun q2 => ?_) (fun q2 => ?_)
          all_goals first | exact v _ _ | exact absurd p3 (fun z => z (by (simp only [mi_le, mi_lt, mi_eq] at *; have := mi_l; omega)))
      · first | refine And.intro (fun z => absurd z (by decide)) (fun _ => ?_) | refine And.intro (fun _ => ?_) (fun z => absurd z (by decide))
        exact h _ _ _ (((if_pos p0).trans ((if_pos p1).trans (if_neg p2)))).symm
    · first | refine And.intro (fun z => absurd z (by decide)) (fun _ => ?_) | refine And.intro (fun _ => ?_) (fun z => absurd z (by decide))
      exact h _ _ _ (((if_pos p0).trans (if_neg p1))).symm
  · first | refine And.intro (fun z => absurd z (by decide)) (fun _ => ?_) | refine And.intro (fun _ => ?_) (fun z => absurd z (by decide))
    exact h _ _ _ ((if_neg p0)).symm

set_option maxHeartbeats 1000000 in
theorem f_addShip {d : Nat} (hd : 1 ≤ d) (a b c e g : Int32) {I : mv_I} {J : mv_J} {Q : mv_Q} (f : I 4 7 = 0) (h : ∀ (r : Int32) (I' : mv_I), mv_md I I' → r = 0 → Q (some (.inl r)) I' J) : mv_wpM mv_tab mv_sh d 1 [.inr (.inr 4), .inl a, .inl b, .inl c, .inl e, .inl g] I J Q := by
  obtain ⟨d, rfl⟩ : ∃ e, d = e + 1 := ⟨d - 1, by omega⟩
  refine (show ∃ fu9, mv_wp (mv_wpM mv_tab mv_sh d) mv_sh none tbX0_add flX0 csX0 1 (fun _ _ _ _ _ => False) Q fu9 0 [some (.inr (.inr 4)), some (.inl a), some (.inl b), some (.inl c), some (.inl e), some (.inl g)] [] I J from ?_)
  refine ⟨80, ?_⟩
  first | refine And.intro (fun q => ?_) (fun q => absurd q (fun q => by (simp only [mi_le, mi_lt, mi_eq] at *; have := mi_l; omega))) | refine And.intro (fun q => absurd q (fun q => by (simp only [mi_le, mi_lt, mi_eq] at *; have := mi_l; omega))) (fun q => ?_)
  refine And.intro (mi_in0 (n := 6) f (by decide)) ?_
  refine And.intro (mi_in0 (n := 6) (by simp [va_up, upd, f]) (by decide)) ?_
  refine And.intro (mi_in0 (n := 6) (by simp [va_up, upd, f]) (by decide)) ?_
  refine And.intro (mi_in0 (n := 6) (by simp [va_up, upd, f]) (by decide)) ?_
  refine And.intro (mi_in0 (n := 6) (by simp [va_up, upd, f]) (by decide)) ?_
  exact h _ _ (by repeat (first | exact mv_md.rf | refine mv_md.up ?_ (by decide))) (by simp [va_up, upd, f])

set_option maxHeartbeats 1000000 in
theorem f_ship {d : Nat} (hd : 4 ≤ d) (a b c e g : Int32) {I : mv_I} {J : mv_J} {Q : mv_Q} (fr : mv_fr I) (h : ∀ (r : Int32) (I' : mv_I), mv_md I I' → r = v_ship a b c e g → Q (some (.inl r)) I' J) : mv_wpM mv_tab mv_sh d 63 [.inr (.inr 0), .inl a, .inl b, .inl c, .inl e, .inl g] I J Q := by
  obtain ⟨d, rfl⟩ : ∃ e, d = e + 1 := ⟨d - 1, by omega⟩
  refine (show ∃ fu9, mv_wp (mv_wpM mv_tab mv_sh d) mv_sh none tbX7_ship flX7 csX7 1 (fun _ _ _ _ _ => False) Q fu9 0 [some (.inr (.inr 0)), some (.inl a), some (.inl b), some (.inl c), some (.inl e), some (.inl g)] [] I J from ?_)
  refine ⟨80, ?_⟩
  obtain ⟨f1, f2, f3, f4, f5, f6, f7, f8, f9, f10, f11, f12, f13, f14⟩ := fr
  refine c_isDay (by omega) a (fun p0 => ?_) (fun p0 => ?_)
  · first | refine And.intro (fun z => absurd z (by decide)) (fun _ => ?_) | refine And.intro (fun _ => ?_) (fun z => absurd z (by decide))
    refine c_isWithin (by omega) b 1 20000 (fun p1 => ?_) (fun p1 => ?_)
    · first | refine And.intro (fun z => absurd z (by decide)) (fun _ => ?_) | refine And.intro (fun _ => ?_) (fun z => absurd z (by decide))
      refine c_isWithin (by omega) c 1 2000 (fun p2 => ?_) (fun p2 => ?_)
      · first | refine And.intro (fun z => absurd z (by decide)) (fun _ => ?_) | refine And.intro (fun _ => ?_) (fun z => absurd z (by decide))
        refine c_isWithin (by omega) e 0 30 (fun p3 => ?_) (fun p3 => ?_)
        · first | refine And.intro (fun z => absurd z (by decide)) (fun _ => ?_) | refine And.intro (fun _ => ?_) (fun z => absurd z (by decide))
          refine c_isWithin (by omega) g 0 100 (fun p4 => ?_) (fun p4 => ?_)
          · first | refine And.intro (fun z => absurd z (by decide)) (fun _ => ?_) | refine And.intro (fun _ => ?_) (fun z => absurd z (by decide))
            exact f_addShip (by omega) a b c e g f7 (fun r I' m z => h r I' m (z.trans (((if_pos p0).trans ((if_pos p1).trans ((if_pos p2).trans ((if_pos p3).trans (if_pos p4)))))).symm))
          · first | refine And.intro (fun z => absurd z (by decide)) (fun _ => ?_) | refine And.intro (fun _ => ?_) (fun z => absurd z (by decide))
            exact h _ _ mv_md.rf (((if_pos p0).trans ((if_pos p1).trans ((if_pos p2).trans ((if_pos p3).trans (if_neg p4)))))).symm
        · first | refine And.intro (fun z => absurd z (by decide)) (fun _ => ?_) | refine And.intro (fun _ => ?_) (fun z => absurd z (by decide))
          exact h _ _ mv_md.rf (((if_pos p0).trans ((if_pos p1).trans ((if_pos p2).trans (if_neg p3))))).symm
      · first | refine And.intro (fun z => absurd z (by decide)) (fun _ => ?_) | refine And.intro (fun _ => ?_) (fun z => absurd z (by decide))
        exact h _ _ mv_md.rf (((if_pos p0).trans ((if_pos p1).trans (if_neg p2)))).symm
    · first | refine And.intro (fun z => absurd z (by decide)) (fun _ => ?_) | refine And.intro (fun _ => ?_) (fun z => absurd z (by decide))
      exact h _ _ mv_md.rf (((if_pos p0).trans (if_neg p1))).symm
  · first | refine And.intro (fun z => absurd z (by decide)) (fun _ => ?_) | refine And.intro (fun _ => ?_) (fun z => absurd z (by decide))
    exact h _ _ mv_md.rf ((if_neg p0)).symm

set_option maxHeartbeats 1000000 in
theorem g_ship {d : Nat} (hd : 4 ≤ d) (a b c e g : Int32) {I : mv_I} {J : mv_J} {Q : mv_Q} (fm : mv_fm I) (h : ∀ (r : Int32) (I' : mv_I) (J' : mv_J), r = v_ship a b c e g → Q (some (.inl r)) I' J') : mv_wpM mv_tab mv_sh d 106 [.inr (.inr 12), .inl a, .inl b, .inl c, .inl e, .inl g] I J Q := by
  obtain ⟨d, rfl⟩ : ∃ e, d = e + 1 := ⟨d - 1, by omega⟩
  refine (show ∃ fu9, mv_wp (mv_wpM mv_tab mv_sh d) mv_sh none tbX8_ship flX8 csX8 1 (fun _ _ _ _ _ => False) Q fu9 0 [some (.inr (.inr 12)), some (.inl a), some (.inl b), some (.inl c), some (.inl e), some (.inl g)] [] I J from ?_)
  refine ⟨120, ?_⟩
  obtain ⟨f1, f2, f3, f4, f5, f6, f7, f8, f9, f10, f11⟩ := fm
  refine c_in (by omega) a 0 59 (fun p0 => ?_) (fun p0 => ?_)
  · first | refine And.intro (fun z => absurd z (by decide)) (fun _ => ?_) | refine And.intro (fun _ => ?_) (fun z => absurd z (by decide))
    refine c_in (by omega) b 1 20000 (fun p1 => ?_) (fun p1 => ?_)
    · first | refine And.intro (fun z => absurd z (by decide)) (fun _ => ?_) | refine And.intro (fun _ => ?_) (fun z => absurd z (by decide))
      refine c_in (by omega) c 1 2000 (fun p2 => ?_) (fun p2 => ?_)
      · first | refine And.intro (fun z => absurd z (by decide)) (fun _ => ?_) | refine And.intro (fun _ => ?_) (fun z => absurd z (by decide))
        refine c_in (by omega) e 0 30 (fun p3 => ?_) (fun p3 => ?_)
        · first | refine And.intro (fun z => absurd z (by decide)) (fun _ => ?_) | refine And.intro (fun _ => ?_) (fun z => absurd z (by decide))
          refine c_in (by omega) g 0 100 (fun p4 => ?_) (fun p4 => ?_)
          · first | refine And.intro (fun z => absurd z (by decide)) (fun _ => ?_) | refine And.intro (fun _ => ?_) (fun z => absurd z (by decide))
            first | refine And.intro (fun q => ?_) (fun q => absurd q (fun q => by (simp only [mi_le, mi_lt, mi_eq] at *; have := mi_l; omega))) | refine And.intro (fun q => absurd q (fun q => by (simp only [mi_le, mi_lt, mi_eq] at *; have := mi_l; omega))) (fun q => ?_)
            refine And.intro (mi_in0 (n := 6) f7 (by decide)) ?_
            refine And.intro (mi_in0 (n := 6) (by simp [va_up, upd, f7]) (by decide)) ?_
            refine And.intro (mi_in0 (n := 6) (by simp [va_up, upd, f7]) (by decide)) ?_
            refine And.intro (mi_in0 (n := 6) (by simp [va_up, upd, f7]) (by decide)) ?_
            refine And.intro (mi_in0 (n := 6) (by simp [va_up, upd, f7]) (by decide)) ?_
            exact h _ _ _ (Eq.trans (b := 0) (by simp [va_up, upd, f7]) (((if_pos p0).trans ((if_pos p1).trans ((if_pos p2).trans ((if_pos p3).trans (if_pos p4)))))).symm)
          · first | refine And.intro (fun z => absurd z (by decide)) (fun _ => ?_) | refine And.intro (fun _ => ?_) (fun z => absurd z (by decide))
            exact h _ _ _ (((if_pos p0).trans ((if_pos p1).trans ((if_pos p2).trans ((if_pos p3).trans (if_neg p4)))))).symm
        · first | refine And.intro (fun z => absurd z (by decide)) (fun _ => ?_) | refine And.intro (fun _ => ?_) (fun z => absurd z (by decide))
          exact h _ _ _ (((if_pos p0).trans ((if_pos p1).trans ((if_pos p2).trans (if_neg p3))))).symm
      · first | refine And.intro (fun z => absurd z (by decide)) (fun _ => ?_) | refine And.intro (fun _ => ?_) (fun z => absurd z (by decide))
        exact h _ _ _ (((if_pos p0).trans ((if_pos p1).trans (if_neg p2)))).symm
    · first | refine And.intro (fun z => absurd z (by decide)) (fun _ => ?_) | refine And.intro (fun _ => ?_) (fun z => absurd z (by decide))
      exact h _ _ _ (((if_pos p0).trans (if_neg p1))).symm
  · first | refine And.intro (fun z => absurd z (by decide)) (fun _ => ?_) | refine And.intro (fun _ => ?_) (fun z => absurd z (by decide))
    exact h _ _ _ ((if_neg p0)).symm

set_option maxHeartbeats 1000000 in
theorem f_sumOf28 {d : Nat} (hd : 1 ≤ d) {I : mv_I} {J : mv_J} {Q : mv_Q} (f : I 3 6 = 0) (h : Q (some (.inl 0)) I J) : mv_wpM mv_tab mv_sh d 12 [.inr (.inr 3), .inr (.inr 28)] I J Q := by
  obtain ⟨d, rfl⟩ : ∃ e, d = e + 1 := ⟨d - 1, by omega⟩
  refine (show ∃ fu9, mv_wp (mv_wpM mv_tab mv_sh d) mv_sh none tbX1_sumOf flX1 csX1 1 (fun _ _ _ _ _ => False) Q fu9 0 [some (.inr (.inr 3)), some (.inr (.inr 28)), none, none] [] I J from ?_)
  refine ⟨60, ?_⟩
  refine And.intro ?_ trivial
  first | refine And.intro (fun q => ?_) (fun q => absurd q (fun q => by (simp only [mi_le, mi_lt, mi_eq] at *; have := mi_l; omega))) | refine And.intro (fun q => absurd q (fun q => by (simp only [mi_le, mi_lt, mi_eq] at *; have := mi_l; omega))) (fun q => ?_)
  exact h

set_option maxHeartbeats 1000000 in
theorem f_sumOf29 {d : Nat} (hd : 1 ≤ d) {I : mv_I} {J : mv_J} {Q : mv_Q} (f : I 3 6 = 0) (h : Q (some (.inl 0)) I J) : mv_wpM mv_tab mv_sh d 12 [.inr (.inr 3), .inr (.inr 29)] I J Q := by
  obtain ⟨d, rfl⟩ : ∃ e, d = e + 1 := ⟨d - 1, by omega⟩
  refine (show ∃ fu9, mv_wp (mv_wpM mv_tab mv_sh d) mv_sh none tbX1_sumOf flX1 csX1 1 (fun _ _ _ _ _ => False) Q fu9 0 [some (.inr (.inr 3)), some (.inr (.inr 29)), none, none] [] I J from ?_)
  refine ⟨60, ?_⟩
  refine And.intro ?_ trivial
  first | refine And.intro (fun q => ?_) (fun q => absurd q (fun q => by (simp only [mi_le, mi_lt, mi_eq] at *; have := mi_l; omega))) | refine And.intro (fun q => absurd q (fun q => by (simp only [mi_le, mi_lt, mi_eq] at *; have := mi_l; omega))) (fun q => ?_)
  exact h

set_option maxHeartbeats 1000000 in
theorem f_sumOf30 {d : Nat} (hd : 1 ≤ d) {I : mv_I} {J : mv_J} {Q : mv_Q} (f : I 3 6 = 0) (h : Q (some (.inl 0)) I J) : mv_wpM mv_tab mv_sh d 12 [.inr (.inr 3), .inr (.inr 30)] I J Q := by
  obtain ⟨d, rfl⟩ : ∃ e, d = e + 1 := ⟨d - 1, by omega⟩
  refine (show ∃ fu9, mv_wp (mv_wpM mv_tab mv_sh d) mv_sh none tbX1_sumOf flX1 csX1 1 (fun _ _ _ _ _ => False) Q fu9 0 [some (.inr (.inr 3)), some (.inr (.inr 30)), none, none] [] I J from ?_)
  refine ⟨60, ?_⟩
  refine And.intro ?_ trivial
  first | refine And.intro (fun q => ?_) (fun q => absurd q (fun q => by (simp only [mi_le, mi_lt, mi_eq] at *; have := mi_l; omega))) | refine And.intro (fun q => absurd q (fun q => by (simp only [mi_le, mi_lt, mi_eq] at *; have := mi_l; omega))) (fun q => ?_)
  exact h

set_option maxHeartbeats 1000000 in
theorem f_count {d : Nat} (hd : 4 ≤ d) (a : Int32) {I : mv_I} {J : mv_J} {Q : mv_Q} (fr : mv_fr I) (h : ∀ (r : Int32) (I' : mv_I), mv_md I I' → r = v_count a → Q (some (.inl r)) I' J) : mv_wpM mv_tab mv_sh d 74 [.inr (.inr 0), .inl a] I J Q := by
  obtain ⟨d, rfl⟩ : ∃ e, d = e + 1 := ⟨d - 1, by omega⟩
  refine (show ∃ fu9, mv_wp (mv_wpM mv_tab mv_sh d) mv_sh none tbX7_count flX7 csX7 1 (fun _ _ _ _ _ => False) Q fu9 0 [some (.inr (.inr 0)), some (.inl a)] [] I J from ?_)
  refine ⟨60, ?_⟩
  obtain ⟨f1, f2, f3, f4, f5, f6, f7, f8, f9, f10, f11, f12, f13, f14⟩ := fr
  refine And.intro (fun q => h _ _ mv_md.rf (if_neg (by omega)).symm) ?_
  refine And.intro (fun q => h _ _ mv_md.rf (f2.trans (if_pos (by omega)).symm)) ?_
  refine And.intro (fun q => h _ _ mv_md.rf (f6.trans (if_pos (by omega)).symm)) ?_
  refine And.intro (fun q => h _ _ mv_md.rf (f4.trans (if_pos (by omega)).symm)) ?_
  refine And.intro (fun q => h _ _ mv_md.rf (f7.trans (if_pos (by omega)).symm)) ?_
  refine And.intro (fun q => h _ _ mv_md.rf (f1.trans (if_pos (by omega)).symm)) ?_
  refine And.intro (fun q => f_sumOf28 (by omega) f6 (h _ _ mv_md.rf (if_pos (by omega)).symm)) ?_
  refine And.intro (fun q => f_sumOf29 (by omega) f6 (h _ _ mv_md.rf (if_pos (by omega)).symm)) ?_
  refine And.intro (fun q => f_sumOf30 (by omega) f6 (h _ _ mv_md.rf (if_pos (by omega)).symm)) trivial

set_option maxHeartbeats 1000000 in
theorem g_count {d : Nat} (hd : 4 ≤ d) (a : Int32) {I : mv_I} {J : mv_J} {Q : mv_Q} (fm : mv_fm I) (h : ∀ (r : Int32) (I' : mv_I) (J' : mv_J), r = v_count a → Q (some (.inl r)) I' J') : mv_wpM mv_tab mv_sh d 122 [.inr (.inr 12), .inl a] I J Q := by
  obtain ⟨d, rfl⟩ : ∃ e, d = e + 1 := ⟨d - 1, by omega⟩
  refine (show ∃ fu9, mv_wp (mv_wpM mv_tab mv_sh d) mv_sh none tbX8_count flX8 csX8 1 (fun _ _ _ _ _ => False) Q fu9 0 [some (.inr (.inr 12)), some (.inl a), none, none] [] I J from ?_)
  refine ⟨60, ?_⟩
  obtain ⟨f1, f2, f3, f4, f5, f6, f7, f8, f9, f10, f11⟩ := fm
  refine And.intro ?_ trivial
  first | refine And.intro (fun q => ?_) (fun q => absurd q (fun q => by (simp only [mi_le, mi_lt, mi_eq] at *; have := mi_l; omega))) | refine And.intro (fun q => absurd q (fun q => by (simp only [mi_le, mi_lt, mi_eq] at *; have := mi_l; omega))) (fun q => ?_)
  refine And.intro (fun q => h _ _ _ (if_neg (by omega)).symm) ?_
  refine And.intro (fun q => h _ _ _ (f1.trans (if_pos (by omega)).symm)) ?_
  refine And.intro (fun q => h _ _ _ (f3.trans (if_pos (by omega)).symm)) ?_
  refine And.intro (fun q => h _ _ _ (f5.trans (if_pos (by omega)).symm)) ?_
  refine And.intro (fun q => h _ _ _ (f7.trans (if_pos (by omega)).symm)) ?_
  refine And.intro (fun q => h _ _ _ (f2.trans (if_pos (by omega)).symm)) ?_
  refine And.intro (fun q => h _ _ _ (if_pos (by omega)).symm) ?_
  refine And.intro (fun q => h _ _ _ (if_pos (by omega)).symm) ?_
  refine And.intro (fun q => h _ _ _ (if_pos (by omega)).symm) trivial
end
section
theorem l_fill23 {d : Nat} {v : Int32} {J : mv_J} {Q : mv_Q} : ∀ (k i fu : Nat) (x : Int32) (I : mv_I), x = nI i → i + k = 8 → 20 * k + 20 ≤ fu → Q none (va_up I 23 (fun j => if i ≤ j ∧ j < 8 then v else I 23 j)) J → mv_wp (mv_wpM mv_tab mv_sh d) mv_sh none tbJ7_fill_53178 flJ7 csJ7 0 (fun _ _ _ _ _ => False) Q (fu) 5 [some (.inr (.inr 23)), some (.inl v), some (.inl x), some (.inl (nI 8))] [] I J := by
  intro k
  induction k with
  | zero =>
    intro i fu x I ex hi hf h
    subst ex
    obtain ⟨fu, rfl⟩ : ∃ z, fu = z + 20 := ⟨fu - 20, by omega⟩
    have e : i = 8 := by omega
    subst e
    refine And.intro (fun q => ?_) (fun q => absurd (Int32.le_refl _) q)
    have e : va_up I 23 (fun j => if 8 ≤ j ∧ j < 8 then v else I 23 j) = I := by
      funext c
      by_cases hc : c = 23
      · subst hc
        rw [va_up_self]
        funext j
        rw [if_neg (by omega)]
      · rw [va_up_ne _ _ hc]
    rw [e] at h
    exact h
  | succ k ih =>
    intro i fu x I ex hi hf h
    subst ex
    obtain ⟨fu, rfl⟩ : ∃ z, fu = z + 20 := ⟨fu - 20, by omega⟩
    refine And.intro (fun q => absurd q (nI_ge (by omega) (by decide))) (fun q => ?_)
    refine And.intro (vp_in_nI (by omega) (by decide)) ?_
    refine And.intro ?_ trivial
    refine ih (i + 1) _ _ _ (nI_1 i) (by omega) (by omega) ?_
    rw [nI_clamp (show i < 2 ^ 31 by omega)]
    have e : va_up (va_up I 23 (upd (I 23) i v)) 23 (fun j => if i + 1 ≤ j ∧ j < 8 then v else va_up I 23 (upd (I 23) i v) 23 j) = va_up I 23 (fun j => if i ≤ j ∧ j < 8 then v else I 23 j) := by
      rw [bx_uu]
      congr 1
      funext j
      rw [va_up_self]
      unfold upd
      by_cases h1 : j = i
      · subst h1
        rw [if_neg (by omega), if_pos rfl, if_pos (by omega)]
      · by_cases h2 : i + 1 ≤ j ∧ j < 8
        · rw [if_pos h2, if_pos (by omega)]
        · rw [if_neg h2, if_neg h1, if_neg (by omega)]
    rw [e]
    exact h
set_option maxHeartbeats 1000000 in
theorem c_fill23 {d : Nat} (hd : 1 ≤ d) (v : Int32) {I : mv_I} {J : mv_J} {Q : mv_Q} (h : Q none (va_up I 23 (fun j => if 0 ≤ j ∧ j < 8 then v else I 23 j)) J) : mv_wpM mv_tab mv_sh d 18 [.inr (.inr 23), .inl v] I J Q := by
  obtain ⟨d, rfl⟩ : ∃ e, d = e + 1 := ⟨d - 1, by omega⟩
  refine (show ∃ fu9, mv_wp (mv_wpM mv_tab mv_sh d) mv_sh none tbJ7_fill_53178 flJ7 csJ7 0 (fun _ _ _ _ _ => False) Q fu9 0 [some (.inr (.inr 23)), some (.inl v), none, none] [] I J from ?_)
  refine ⟨225, ?_⟩
  refine And.intro ?_ trivial
  exact l_fill23 8 0 _ _ _ nI_0.symm (by omega) (Nat.le_of_ble_eq_true rfl) h

theorem l_fill47 {d : Nat} {v : Int32} {J : mv_J} {Q : mv_Q} : ∀ (k i fu : Nat) (x : Int32) (I : mv_I), x = nI i → i + k = 60 → 20 * k + 20 ≤ fu → Q none (va_up I 47 (fun j => if i ≤ j ∧ j < 60 then v else I 47 j)) J → mv_wp (mv_wpM mv_tab mv_sh d) mv_sh none tbJ7_fill_53178 flJ7 csJ7 0 (fun _ _ _ _ _ => False) Q (fu) 5 [some (.inr (.inr 47)), some (.inl v), some (.inl x), some (.inl (nI 60))] [] I J := by
  intro k
  induction k with
  | zero =>
    intro i fu x I ex hi hf h
    subst ex
    obtain ⟨fu, rfl⟩ : ∃ z, fu = z + 20 := ⟨fu - 20, by omega⟩
    have e : i = 60 := by omega
    subst e
    refine And.intro (fun q => ?_) (fun q => absurd (Int32.le_refl _) q)
    have e : va_up I 47 (fun j => if 60 ≤ j ∧ j < 60 then v else I 47 j) = I := by
      funext c
      by_cases hc : c = 47
      · subst hc
        rw [va_up_self]
        funext j
        rw [if_neg (by omega)]
      · rw [va_up_ne _ _ hc]
    rw [e] at h
    exact h
  | succ k ih =>
    intro i fu x I ex hi hf h
    subst ex
    obtain ⟨fu, rfl⟩ : ∃ z, fu = z + 20 := ⟨fu - 20, by omega⟩
    refine And.intro (fun q => absurd q (nI_ge (by omega) (by decide))) (fun q => ?_)
    refine And.intro (vp_in_nI (by omega) (by decide)) ?_
    refine And.intro ?_ trivial
    refine ih (i + 1) _ _ _ (nI_1 i) (by omega) (by omega) ?_
    rw [nI_clamp (show i < 2 ^ 31 by omega)]
    have e : va_up (va_up I 47 (upd (I 47) i v)) 47 (fun j => if i + 1 ≤ j ∧ j < 60 then v else va_up I 47 (upd (I 47) i v) 47 j) = va_up I 47 (fun j => if i ≤ j ∧ j < 60 then v else I 47 j) := by
      rw [bx_uu]
      congr 1
      funext j
      rw [va_up_self]
      unfold upd
      by_cases h1 : j = i
      · subst h1
        rw [if_neg (by omega), if_pos rfl, if_pos (by omega)]
      · by_cases h2 : i + 1 ≤ j ∧ j < 60
        · rw [if_pos h2, if_pos (by omega)]
        · rw [if_neg h2, if_neg h1, if_neg (by omega)]
    rw [e]
    exact h
set_option maxHeartbeats 1000000 in
theorem c_fill47 {d : Nat} (hd : 1 ≤ d) (v : Int32) {I : mv_I} {J : mv_J} {Q : mv_Q} (h : Q none (va_up I 47 (fun j => if 0 ≤ j ∧ j < 60 then v else I 47 j)) J) : mv_wpM mv_tab mv_sh d 18 [.inr (.inr 47), .inl v] I J Q := by
  obtain ⟨d, rfl⟩ : ∃ e, d = e + 1 := ⟨d - 1, by omega⟩
  refine (show ∃ fu9, mv_wp (mv_wpM mv_tab mv_sh d) mv_sh none tbJ7_fill_53178 flJ7 csJ7 0 (fun _ _ _ _ _ => False) Q fu9 0 [some (.inr (.inr 47)), some (.inl v), none, none] [] I J from ?_)
  refine ⟨1265, ?_⟩
  refine And.intro ?_ trivial
  exact l_fill47 60 0 _ _ _ nI_0.symm (by omega) (Nat.le_of_ble_eq_true rfl) h

theorem l_fill48 {d : Nat} {v : Int32} {J : mv_J} {Q : mv_Q} : ∀ (k i fu : Nat) (x : Int32) (I : mv_I), x = nI i → i + k = 60 → 20 * k + 20 ≤ fu → Q none (va_up I 48 (fun j => if i ≤ j ∧ j < 60 then v else I 48 j)) J → mv_wp (mv_wpM mv_tab mv_sh d) mv_sh none tbJ7_fill_53178 flJ7 csJ7 0 (fun _ _ _ _ _ => False) Q (fu) 5 [some (.inr (.inr 48)), some (.inl v), some (.inl x), some (.inl (nI 60))] [] I J := by
  intro k
  induction k with
  | zero =>
    intro i fu x I ex hi hf h
    subst ex
    obtain ⟨fu, rfl⟩ : ∃ z, fu = z + 20 := ⟨fu - 20, by omega⟩
    have e : i = 60 := by omega
    subst e
    refine And.intro (fun q => ?_) (fun q => absurd (Int32.le_refl _) q)
    have e : va_up I 48 (fun j => if 60 ≤ j ∧ j < 60 then v else I 48 j) = I := by
      funext c
      by_cases hc : c = 48
      · subst hc
        rw [va_up_self]
        funext j
        rw [if_neg (by omega)]
      · rw [va_up_ne _ _ hc]
    rw [e] at h
    exact h
  | succ k ih =>
    intro i fu x I ex hi hf h
    subst ex
    obtain ⟨fu, rfl⟩ : ∃ z, fu = z + 20 := ⟨fu - 20, by omega⟩
    refine And.intro (fun q => absurd q (nI_ge (by omega) (by decide))) (fun q => ?_)
    refine And.intro (vp_in_nI (by omega) (by decide)) ?_
    refine And.intro ?_ trivial
    refine ih (i + 1) _ _ _ (nI_1 i) (by omega) (by omega) ?_
    rw [nI_clamp (show i < 2 ^ 31 by omega)]
    have e : va_up (va_up I 48 (upd (I 48) i v)) 48 (fun j => if i + 1 ≤ j ∧ j < 60 then v else va_up I 48 (upd (I 48) i v) 48 j) = va_up I 48 (fun j => if i ≤ j ∧ j < 60 then v else I 48 j) := by
      rw [bx_uu]
      congr 1
      funext j
      rw [va_up_self]
      unfold upd
      by_cases h1 : j = i
      · subst h1
        rw [if_neg (by omega), if_pos rfl, if_pos (by omega)]
      · by_cases h2 : i + 1 ≤ j ∧ j < 60
        · rw [if_pos h2, if_pos (by omega)]
        · rw [if_neg h2, if_neg h1, if_neg (by omega)]
    rw [e]
    exact h
set_option maxHeartbeats 1000000 in
theorem c_fill48 {d : Nat} (hd : 1 ≤ d) (v : Int32) {I : mv_I} {J : mv_J} {Q : mv_Q} (h : Q none (va_up I 48 (fun j => if 0 ≤ j ∧ j < 60 then v else I 48 j)) J) : mv_wpM mv_tab mv_sh d 18 [.inr (.inr 48), .inl v] I J Q := by
  obtain ⟨d, rfl⟩ : ∃ e, d = e + 1 := ⟨d - 1, by omega⟩
  refine (show ∃ fu9, mv_wp (mv_wpM mv_tab mv_sh d) mv_sh none tbJ7_fill_53178 flJ7 csJ7 0 (fun _ _ _ _ _ => False) Q fu9 0 [some (.inr (.inr 48)), some (.inl v), none, none] [] I J from ?_)
  refine ⟨1265, ?_⟩
  refine And.intro ?_ trivial
  exact l_fill48 60 0 _ _ _ nI_0.symm (by omega) (Nat.le_of_ble_eq_true rfl) h

theorem l_fill49 {d : Nat} {v : Int32} {J : mv_J} {Q : mv_Q} : ∀ (k i fu : Nat) (x : Int32) (I : mv_I), x = nI i → i + k = 60 → 20 * k + 20 ≤ fu → Q none (va_up I 49 (fun j => if i ≤ j ∧ j < 60 then v else I 49 j)) J → mv_wp (mv_wpM mv_tab mv_sh d) mv_sh none tbJ7_fill_53178 flJ7 csJ7 0 (fun _ _ _ _ _ => False) Q (fu) 5 [some (.inr (.inr 49)), some (.inl v), some (.inl x), some (.inl (nI 60))] [] I J := by
  intro k
  induction k with
  | zero =>
    intro i fu x I ex hi hf h
    subst ex
    obtain ⟨fu, rfl⟩ : ∃ z, fu = z + 20 := ⟨fu - 20, by omega⟩
    have e : i = 60 := by omega
    subst e
    refine And.intro (fun q => ?_) (fun q => absurd (Int32.le_refl _) q)
    have e : va_up I 49 (fun j => if 60 ≤ j ∧ j < 60 then v else I 49 j) = I := by
      funext c
      by_cases hc : c = 49
      · subst hc
        rw [va_up_self]
        funext j
        rw [if_neg (by omega)]
      · rw [va_up_ne _ _ hc]
    rw [e] at h
    exact h
  | succ k ih =>
    intro i fu x I ex hi hf h
    subst ex
    obtain ⟨fu, rfl⟩ : ∃ z, fu = z + 20 := ⟨fu - 20, by omega⟩
    refine And.intro (fun q => absurd q (nI_ge (by omega) (by decide))) (fun q => ?_)
    refine And.intro (vp_in_nI (by omega) (by decide)) ?_
    refine And.intro ?_ trivial
    refine ih (i + 1) _ _ _ (nI_1 i) (by omega) (by omega) ?_
    rw [nI_clamp (show i < 2 ^ 31 by omega)]
    have e : va_up (va_up I 49 (upd (I 49) i v)) 49 (fun j => if i + 1 ≤ j ∧ j < 60 then v else va_up I 49 (upd (I 49) i v) 49 j) = va_up I 49 (fun j => if i ≤ j ∧ j < 60 then v else I 49 j) := by
      rw [bx_uu]
      congr 1
      funext j
      rw [va_up_self]
      unfold upd
      by_cases h1 : j = i
      · subst h1
        rw [if_neg (by omega), if_pos rfl, if_pos (by omega)]
      · by_cases h2 : i + 1 ≤ j ∧ j < 60
        · rw [if_pos h2, if_pos (by omega)]
        · rw [if_neg h2, if_neg h1, if_neg (by omega)]
    rw [e]
    exact h
set_option maxHeartbeats 1000000 in
theorem c_fill49 {d : Nat} (hd : 1 ≤ d) (v : Int32) {I : mv_I} {J : mv_J} {Q : mv_Q} (h : Q none (va_up I 49 (fun j => if 0 ≤ j ∧ j < 60 then v else I 49 j)) J) : mv_wpM mv_tab mv_sh d 18 [.inr (.inr 49), .inl v] I J Q := by
  obtain ⟨d, rfl⟩ : ∃ e, d = e + 1 := ⟨d - 1, by omega⟩
  refine (show ∃ fu9, mv_wp (mv_wpM mv_tab mv_sh d) mv_sh none tbJ7_fill_53178 flJ7 csJ7 0 (fun _ _ _ _ _ => False) Q fu9 0 [some (.inr (.inr 49)), some (.inl v), none, none] [] I J from ?_)
  refine ⟨1265, ?_⟩
  refine And.intro ?_ trivial
  exact l_fill49 60 0 _ _ _ nI_0.symm (by omega) (Nat.le_of_ble_eq_true rfl) h

theorem l_fill50 {d : Nat} {v : Int32} {J : mv_J} {Q : mv_Q} : ∀ (k i fu : Nat) (x : Int32) (I : mv_I), x = nI i → i + k = 60 → 20 * k + 20 ≤ fu → Q none (va_up I 50 (fun j => if i ≤ j ∧ j < 60 then v else I 50 j)) J → mv_wp (mv_wpM mv_tab mv_sh d) mv_sh none tbJ7_fill_53178 flJ7 csJ7 0 (fun _ _ _ _ _ => False) Q (fu) 5 [some (.inr (.inr 50)), some (.inl v), some (.inl x), some (.inl (nI 60))] [] I J := by
  intro k
  induction k with
  | zero =>
    intro i fu x I ex hi hf h
    subst ex
    obtain ⟨fu, rfl⟩ : ∃ z, fu = z + 20 := ⟨fu - 20, by omega⟩
    have e : i = 60 := by omega
    subst e
    refine And.intro (fun q => ?_) (fun q => absurd (Int32.le_refl _) q)
    have e : va_up I 50 (fun j => if 60 ≤ j ∧ j < 60 then v else I 50 j) = I := by
      funext c
      by_cases hc : c = 50
      · subst hc
        rw [va_up_self]
        funext j
        rw [if_neg (by omega)]
      · rw [va_up_ne _ _ hc]
    rw [e] at h
    exact h
  | succ k ih =>
    intro i fu x I ex hi hf h
    subst ex
    obtain ⟨fu, rfl⟩ : ∃ z, fu = z + 20 := ⟨fu - 20, by omega⟩
    refine And.intro (fun q => absurd q (nI_ge (by omega) (by decide))) (fun q => ?_)
    refine And.intro (vp_in_nI (by omega) (by decide)) ?_
    refine And.intro ?_ trivial
    refine ih (i + 1) _ _ _ (nI_1 i) (by omega) (by omega) ?_
    rw [nI_clamp (show i < 2 ^ 31 by omega)]
    have e : va_up (va_up I 50 (upd (I 50) i v)) 50 (fun j => if i + 1 ≤ j ∧ j < 60 then v else va_up I 50 (upd (I 50) i v) 50 j) = va_up I 50 (fun j => if i ≤ j ∧ j < 60 then v else I 50 j) := by
      rw [bx_uu]
      congr 1
      funext j
      rw [va_up_self]
      unfold upd
      by_cases h1 : j = i
      · subst h1
        rw [if_neg (by omega), if_pos rfl, if_pos (by omega)]
      · by_cases h2 : i + 1 ≤ j ∧ j < 60
        · rw [if_pos h2, if_pos (by omega)]
        · rw [if_neg h2, if_neg h1, if_neg (by omega)]
    rw [e]
    exact h
set_option maxHeartbeats 1000000 in
theorem c_fill50 {d : Nat} (hd : 1 ≤ d) (v : Int32) {I : mv_I} {J : mv_J} {Q : mv_Q} (h : Q none (va_up I 50 (fun j => if 0 ≤ j ∧ j < 60 then v else I 50 j)) J) : mv_wpM mv_tab mv_sh d 18 [.inr (.inr 50), .inl v] I J Q := by
  obtain ⟨d, rfl⟩ : ∃ e, d = e + 1 := ⟨d - 1, by omega⟩
  refine (show ∃ fu9, mv_wp (mv_wpM mv_tab mv_sh d) mv_sh none tbJ7_fill_53178 flJ7 csJ7 0 (fun _ _ _ _ _ => False) Q fu9 0 [some (.inr (.inr 50)), some (.inl v), none, none] [] I J from ?_)
  refine ⟨1265, ?_⟩
  refine And.intro ?_ trivial
  exact l_fill50 60 0 _ _ _ nI_0.symm (by omega) (Nat.le_of_ble_eq_true rfl) h

set_option maxHeartbeats 1000000 in
theorem f_begin0 {d : Nat} (hd : 2 ≤ d) (a b : Int32) {I : mv_I} {J : mv_J} {Q : mv_Q} (h : ∀ I' : mv_I, mv_md I I' → Q none I' J) : mv_wpM mv_tab mv_sh d 33 [.inr (.inr 8), .inl a, .inl b] I J Q := by
  obtain ⟨d, rfl⟩ : ∃ e, d = e + 1 := ⟨d - 1, by omega⟩
  refine (show ∃ fu9, mv_wp (mv_wpM mv_tab mv_sh d) mv_sh none tbX5_begin flX5 csX5 0 (fun _ _ _ _ _ => False) Q fu9 0 [some (.inr (.inr 8)), some (.inl a), some (.inl b)] [] I J from ?_)
  refine ⟨60, ?_⟩
  refine c_fill47 (by omega) 0 ?_
  exact h _ (by repeat (first | exact mv_md.rf | refine mv_md.up ?_ (by decide)))

set_option maxHeartbeats 1000000 in
theorem f_begin1 {d : Nat} (hd : 2 ≤ d) (a b : Int32) {I : mv_I} {J : mv_J} {Q : mv_Q} (h : ∀ I' : mv_I, mv_md I I' → Q none I' J) : mv_wpM mv_tab mv_sh d 33 [.inr (.inr 9), .inl a, .inl b] I J Q := by
  obtain ⟨d, rfl⟩ : ∃ e, d = e + 1 := ⟨d - 1, by omega⟩
  refine (show ∃ fu9, mv_wp (mv_wpM mv_tab mv_sh d) mv_sh none tbX5_begin flX5 csX5 0 (fun _ _ _ _ _ => False) Q fu9 0 [some (.inr (.inr 9)), some (.inl a), some (.inl b)] [] I J from ?_)
  refine ⟨60, ?_⟩
  refine c_fill48 (by omega) 0 ?_
  exact h _ (by repeat (first | exact mv_md.rf | refine mv_md.up ?_ (by decide)))

set_option maxHeartbeats 1000000 in
theorem f_begin2 {d : Nat} (hd : 2 ≤ d) (a b : Int32) {I : mv_I} {J : mv_J} {Q : mv_Q} (h : ∀ I' : mv_I, mv_md I I' → Q none I' J) : mv_wpM mv_tab mv_sh d 33 [.inr (.inr 10), .inl a, .inl b] I J Q := by
  obtain ⟨d, rfl⟩ : ∃ e, d = e + 1 := ⟨d - 1, by omega⟩
  refine (show ∃ fu9, mv_wp (mv_wpM mv_tab mv_sh d) mv_sh none tbX5_begin flX5 csX5 0 (fun _ _ _ _ _ => False) Q fu9 0 [some (.inr (.inr 10)), some (.inl a), some (.inl b)] [] I J from ?_)
  refine ⟨60, ?_⟩
  refine c_fill49 (by omega) 0 ?_
  exact h _ (by repeat (first | exact mv_md.rf | refine mv_md.up ?_ (by decide)))

set_option maxHeartbeats 1000000 in
theorem f_begin3 {d : Nat} (hd : 2 ≤ d) (a b : Int32) {I : mv_I} {J : mv_J} {Q : mv_Q} (h : ∀ I' : mv_I, mv_md I I' → Q none I' J) : mv_wpM mv_tab mv_sh d 33 [.inr (.inr 11), .inl a, .inl b] I J Q := by
  obtain ⟨d, rfl⟩ : ∃ e, d = e + 1 := ⟨d - 1, by omega⟩
  refine (show ∃ fu9, mv_wp (mv_wpM mv_tab mv_sh d) mv_sh none tbX5_begin flX5 csX5 0 (fun _ _ _ _ _ => False) Q fu9 0 [some (.inr (.inr 11)), some (.inl a), some (.inl b)] [] I J from ?_)
  refine ⟨60, ?_⟩
  refine c_fill50 (by omega) 0 ?_
  exact h _ (by repeat (first | exact mv_md.rf | refine mv_md.up ?_ (by decide)))

set_option maxHeartbeats 1000000 in
theorem f_sheet {d : Nat} (hd : 5 ≤ d) (a b c : Int32) {I : mv_I} {J : mv_J} {Q : mv_Q} (fr : mv_fr I) (h : ∀ (r : Int32) (I' : mv_I), mv_md I I' → r = v_sheet a b c → Q (some (.inl r)) I' J) : mv_wpM mv_tab mv_sh d 75 [.inr (.inr 0), .inl a, .inl b, .inl c] I J Q := by
  obtain ⟨d, rfl⟩ : ∃ e, d = e + 1 := ⟨d - 1, by omega⟩
  refine (show ∃ fu9, mv_wp (mv_wpM mv_tab mv_sh d) mv_sh none tbX7_sheet flX7 csX7 1 (fun _ _ _ _ _ => False) Q fu9 0 [some (.inr (.inr 0)), some (.inl a), some (.inl b), some (.inl c)] [] I J from ?_)
  refine ⟨80, ?_⟩
  refine c_isSheet (by omega) a (fun p => ?_) (fun p => ?_)
  · first | refine And.intro (fun z => absurd z (by decide)) (fun _ => ?_) | refine And.intro (fun _ => ?_) (fun z => absurd z (by decide))
    refine c_isLane (by omega) b (fun p1 => ?_) (fun p1 => ?_)
    · first | refine And.intro (fun z => absurd z (by decide)) (fun _ => ?_) | refine And.intro (fun _ => ?_) (fun z => absurd z (by decide))
      by_cases p2 : c ≤ 60
      · first | refine And.intro (fun q => ?_) (fun q => absurd q (fun q => by (simp only [mi_le, mi_lt, mi_eq] at *; have := mi_l; omega))) | refine And.intro (fun q => absurd q (fun q => by (simp only [mi_le, mi_lt, mi_eq] at *; have := mi_l; omega))) (fun q => ?_)
        by_cases p3 : c < 0
        · first | refine And.intro (fun q => ?_) (fun q => absurd q (fun q => by (simp only [mi_le, mi_lt, mi_eq] at *; have := mi_l; omega))) | refine And.intro (fun q => absurd q (fun q => by (simp only [mi_le, mi_lt, mi_eq] at *; have := mi_l; omega))) (fun q => ?_)
          exact h _ _ mv_md.rf ((if_pos p).trans ((if_pos p1).trans ((if_pos p2).trans (if_pos p3)))).symm
        · first | refine And.intro (fun q => ?_) (fun q => absurd q (fun q => by (simp only [mi_le, mi_lt, mi_eq] at *; have := mi_l; omega))) | refine And.intro (fun q => absurd q (fun q => by (simp only [mi_le, mi_lt, mi_eq] at *; have := mi_l; omega))) (fun q => ?_)
          refine And.intro (mi_s4 p) (And.intro (fun _ => ?_) (And.intro (fun _ => ?_) (And.intro (fun _ => ?_) (fun _ => ?_))))
          · exact f_begin0 (by omega) b c (fun I' m => h _ _ m ((if_pos p).trans ((if_pos p1).trans ((if_pos p2).trans (if_neg p3)))).symm)
          · exact f_begin1 (by omega) b c (fun I' m => h _ _ m ((if_pos p).trans ((if_pos p1).trans ((if_pos p2).trans (if_neg p3)))).symm)
          · exact f_begin2 (by omega) b c (fun I' m => h _ _ m ((if_pos p).trans ((if_pos p1).trans ((if_pos p2).trans (if_neg p3)))).symm)
          · exact f_begin3 (by omega) b c (fun I' m => h _ _ m ((if_pos p).trans ((if_pos p1).trans ((if_pos p2).trans (if_neg p3)))).symm)
      · first | refine And.intro (fun q => ?_) (fun q => absurd q (fun q => by (simp only [mi_le, mi_lt, mi_eq] at *; have := mi_l; omega))) | refine And.intro (fun q => absurd q (fun q => by (simp only [mi_le, mi_lt, mi_eq] at *; have := mi_l; omega))) (fun q => ?_)
        exact h _ _ mv_md.rf ((if_pos p).trans ((if_pos p1).trans (if_neg p2))).symm
    · first | refine And.intro (fun z => absurd z (by decide)) (fun _ => ?_) | refine And.intro (fun _ => ?_) (fun z => absurd z (by decide))
      exact h _ _ mv_md.rf ((if_pos p).trans (if_neg p1)).symm
  · first | refine And.intro (fun z => absurd z (by decide)) (fun _ => ?_) | refine And.intro (fun _ => ?_) (fun z => absurd z (by decide))
    exact h _ _ mv_md.rf (if_neg p).symm

theorem l_sheet {d : Nat} {b c : Int32} {J : mv_J} {Q : mv_Q} {z : Nat} (hz : z < 4) (h : ∀ I' : mv_I, Q (some (.inl c)) I' J) : ∀ (k i fu : Nat) (x : Int32) (I : mv_I), x = nI i → i + k = 60 → 20 * k + 20 ≤ fu → mv_wp (mv_wpM mv_tab mv_sh d) mv_sh none tbX8_sheet flX8 csX8 1 (fun _ _ _ _ _ => False) Q (fu) 48 [some (.inr (.inr 12)), some (.inl (nI z)), some (.inl b), some (.inl c), some (.inl x)] [] I J := by
  intro k
  induction k with
  | zero =>
    intro i fu x I ex hi hf
    subst ex
    obtain ⟨fu, rfl⟩ : ∃ z, fu = z + 20 := ⟨fu - 20, by omega⟩
    have e : i = 60 := by omega
    subst e
    refine And.intro (fun q => ?_) (fun q => absurd (show (60 : Int32) ≤ nI 60 by decide) q)
    exact h _
  | succ k ih =>
    intro i fu x I ex hi hf
    subst ex
    obtain ⟨fu, rfl⟩ : ∃ z, fu = z + 20 := ⟨fu - 20, by omega⟩
    refine And.intro (fun q => absurd (show nI 60 ≤ nI i from q) (nI_ge (by omega) (by decide))) (fun q => ?_)
    have e : (60 : Int32) * nI z + nI i = nI (60 * z + i) := by rw [show (60 : Int32) = nI 60 by decide, pk_mul, nI_add]
    refine And.intro (by rw [e]; exact vp_in_nI (by omega) (by decide)) ?_
    refine And.intro ?_ trivial
    exact ih (i + 1) _ _ _ (nI_1 i) (by omega) (by omega)
set_option maxHeartbeats 1000000 in
theorem g_sheet {d : Nat} (hd : 5 ≤ d) (a b c : Int32) {I : mv_I} {J : mv_J} {Q : mv_Q} (fm : mv_fm I) (h : ∀ (r : Int32) (I' : mv_I) (J' : mv_J), r = v_sheet a b c → Q (some (.inl r)) I' J') : mv_wpM mv_tab mv_sh d 124 [.inr (.inr 12), .inl a, .inl b, .inl c] I J Q := by
  obtain ⟨d, rfl⟩ : ∃ e, d = e + 1 := ⟨d - 1, by omega⟩
  refine (show ∃ fu9, mv_wp (mv_wpM mv_tab mv_sh d) mv_sh none tbX8_sheet flX8 csX8 1 (fun _ _ _ _ _ => False) Q fu9 0 [some (.inr (.inr 12)), some (.inl a), some (.inl b), some (.inl c), none] [] I J from ?_)
  refine ⟨1400, ?_⟩
  refine c8_isSheet (by omega) a (fun p => ?_) (fun p => ?_)
  · first | refine And.intro (fun z => absurd z (by decide)) (fun _ => ?_) | refine And.intro (fun _ => ?_) (fun z => absurd z (by decide))
    refine c_in (by omega) b 0 2 (fun p1 => ?_) (fun p1 => ?_)
    · first | refine And.intro (fun z => absurd z (by decide)) (fun _ => ?_) | refine And.intro (fun _ => ?_) (fun z => absurd z (by decide))
      by_cases p2 : c ≤ 60
      · first | refine And.intro (fun q => ?_) (fun q => absurd q (fun q => by (simp only [mi_le, mi_lt, mi_eq] at *; have := mi_l; omega))) | refine And.intro (fun q => absurd q (fun q => by (simp only [mi_le, mi_lt, mi_eq] at *; have := mi_l; omega))) (fun q => ?_)
        by_cases p3 : c < 0
        · first | refine And.intro (fun q => ?_) (fun q => absurd q (fun q => by (simp only [mi_le, mi_lt, mi_eq] at *; have := mi_l; omega))) | refine And.intro (fun q => absurd q (fun q => by (simp only [mi_le, mi_lt, mi_eq] at *; have := mi_l; omega))) (fun q => ?_)
          exact h _ _ _ ((if_pos p).trans ((if_pos p1).trans ((if_pos p2).trans (if_pos p3)))).symm
        · first | refine And.intro (fun q => ?_) (fun q => absurd q (fun q => by (simp only [mi_le, mi_lt, mi_eq] at *; have := mi_l; omega))) | refine And.intro (fun q => absurd q (fun q => by (simp only [mi_le, mi_lt, mi_eq] at *; have := mi_l; omega))) (fun q => ?_)
          refine And.intro (mi_s4 p) ?_
          refine And.intro (mi_s4 p) ?_
          refine And.intro ?_ trivial
          obtain ⟨z, hz, ez⟩ := vp_in_of (mi_s4 p) (by decide)
          have hv : v_sheet a b c = c := (if_pos p).trans ((if_pos p1).trans ((if_pos p2).trans (if_neg p3)))
          subst ez
          exact l_sheet hz (fun I' => h _ _ _ hv.symm) 60 0 _ _ _ nI_0.symm (by omega) (Nat.le_of_ble_eq_true rfl)
      · first | refine And.intro (fun q => ?_) (fun q => absurd q (fun q => by (simp only [mi_le, mi_lt, mi_eq] at *; have := mi_l; omega))) | refine And.intro (fun q => absurd q (fun q => by (simp only [mi_le, mi_lt, mi_eq] at *; have := mi_l; omega))) (fun q => ?_)
        exact h _ _ _ ((if_pos p).trans ((if_pos p1).trans (if_neg p2))).symm
    · first | refine And.intro (fun z => absurd z (by decide)) (fun _ => ?_) | refine And.intro (fun _ => ?_) (fun z => absurd z (by decide))
      exact h _ _ _ ((if_pos p).trans (if_neg p1)).symm
  · first | refine And.intro (fun z => absurd z (by decide)) (fun _ => ?_) | refine And.intro (fun _ => ?_) (fun z => absurd z (by decide))
    exact h _ _ _ (if_neg p).symm

theorem l_takenOnb {d : Nat} {a x0 : Int32} {I : mv_I} {J : mv_J} {Q : mv_Q} (f : ∀ j, j < 60 → I 38 j = -1) (hx : x0.toInt < 0) (h : Q (some (.inl 0)) I J) : ∀ (k i fu : Nat) (x : Int32), x = nI i → i + k = 60 → 20 * k + 40 ≤ fu → mv_wp (mv_wpM mv_tab mv_sh d) mv_sh none tbX4_takenOn flX4 csX4 1 (fun _ _ _ _ _ => False) Q (fu) 23 [some (.inr (.inr 5)), some (.inl a), some (.inl x0), some (.inl x)] [] I J := by
  intro k
  induction k with
  | zero =>
    intro i fu x ex hi hf
    subst ex
    obtain ⟨fu, rfl⟩ : ∃ z, fu = z + 40 := ⟨fu - 40, by omega⟩
    have e : i = 60 := by omega
    subst e
    have e60 : (nI 60).toInt = 60 := by decide
    first | refine And.intro (fun q => ?_) (fun q => absurd q (fun q => by (simp only [mi_le, mi_lt, mi_eq] at *; have := mi_l; omega))) | refine And.intro (fun q => absurd q (fun q => by (simp only [mi_le, mi_lt, mi_eq] at *; have := mi_l; omega))) (fun q => ?_)
    first | refine And.intro (fun q => ?_) (fun q => absurd q (fun q => by (simp only [mi_le, mi_lt, mi_eq] at *; have := mi_l; omega))) | refine And.intro (fun q => absurd q (fun q => by (simp only [mi_le, mi_lt, mi_eq] at *; have := mi_l; omega))) (fun q => ?_)
    first | refine And.intro (fun q => ?_) (fun q => absurd q (fun q => by (simp only [mi_le, mi_lt, mi_eq] at *; have := mi_l; omega))) | refine And.intro (fun q => absurd q (fun q => by (simp only [mi_le, mi_lt, mi_eq] at *; have := mi_l; omega))) (fun q => ?_)
    exact h
  | succ k ih =>
    intro i fu x ex hi hf
    subst ex
    obtain ⟨fu, rfl⟩ : ∃ z, fu = z + 40 := ⟨fu - 40, by omega⟩
    refine And.intro (fun q => absurd (show nI 60 ≤ nI i from q) (nI_ge (by omega) (by decide))) (fun q => ?_)
    refine And.intro (vp_in_nI (by omega) (by decide)) ?_
    have e : I 38 (nI i).toNatClampNeg = -1 := by rw [nI_clamp (by omega)]; exact f i (by omega)
    first | refine And.intro (fun q => ?_) (fun q => absurd q (fun q => by (simp only [mi_le, mi_lt, mi_eq] at *; have := mi_l; omega))) | refine And.intro (fun q => absurd q (fun q => by (simp only [mi_le, mi_lt, mi_eq] at *; have := mi_l; omega))) (fun q => ?_)
    refine And.intro ?_ trivial
    exact ih (i + 1) _ _ (nI_1 i) (by omega) (by omega)
theorem l_takenOna {d : Nat} {a : Int32} {I : mv_I} {J : mv_J} {Q : mv_Q} (f : ∀ j, j < 60 → I 38 j = -1) (ha : vp_in a 60) (h : Q (some (.inl 0)) I J) : ∀ (k fu : Nat) (x : Int32), x.toInt = (k : Int) - 1 → k ≤ 60 → 20 * k + 1400 ≤ fu → mv_wp (mv_wpM mv_tab mv_sh d) mv_sh none tbX4_takenOn flX4 csX4 1 (fun _ _ _ _ _ => False) Q (fu) 2 [some (.inr (.inr 5)), some (.inl a), some (.inl x), none] [] I J := by
  intro k
  induction k with
  | zero =>
    intro fu x ex hi hf
    obtain ⟨fu, rfl⟩ : ∃ z, fu = z + 20 := ⟨fu - 20, by omega⟩
    first | refine And.intro (fun q => ?_) (fun q => absurd q (fun q => by (simp only [mi_le, mi_lt, mi_eq] at *; have := mi_l; omega))) | refine And.intro (fun q => absurd q (fun q => by (simp only [mi_le, mi_lt, mi_eq] at *; have := mi_l; omega))) (fun q => ?_)
    refine And.intro ?_ trivial
    obtain ⟨z, hz, ez⟩ := vp_in_of ha (by decide)
    exact l_takenOnb f (by omega) h (60 - z) z _ _ ez (by omega) (by omega)
  | succ k ih =>
    intro fu x ex hi hf
    obtain ⟨fu, rfl⟩ : ∃ z, fu = z + 20 := ⟨fu - 20, by omega⟩
    first | refine And.intro (fun q => ?_) (fun q => absurd q (fun q => by (simp only [mi_le, mi_lt, mi_eq] at *; have := mi_l; omega))) | refine And.intro (fun q => absurd q (fun q => by (simp only [mi_le, mi_lt, mi_eq] at *; have := mi_l; omega))) (fun q => ?_)
    have hv : vp_in x 60 := mi_in (by omega) (by omega)
    refine And.intro hv ?_
    have e : I 38 x.toNatClampNeg = -1 := by
      obtain ⟨z, hz, ez⟩ := vp_in_of hv (by decide)
      rw [ez, nI_clamp (by omega)]
      exact f z hz
    first | refine And.intro (fun q => ?_) (fun q => absurd q (fun q => by (simp only [mi_le, mi_lt, mi_eq] at *; have := mi_l; omega))) | refine And.intro (fun q => absurd q (fun q => by (simp only [mi_le, mi_lt, mi_eq] at *; have := mi_l; omega))) (fun q => ?_)
    refine And.intro ?_ trivial
    refine ih _ _ ?_ (by omega) (by omega)
    obtain ⟨z, hz, ez⟩ := vp_in_of hv (by decide)
    rw [ez] at ex ⊢
    have e1 : (nI z).toInt = z := nI_toInt (by omega)
    have hk : z = k := by omega
    subst hk
    cases z with
    | zero => decide
    | succ z =>
      rw [pk_m1, nI_toInt (by omega)]
      omega
set_option maxHeartbeats 1000000 in
theorem c_takenOn {d : Nat} (hd : 1 ≤ d) (a : Int32) {I : mv_I} {J : mv_J} {Q : mv_Q} (f : ∀ j, j < 60 → I 38 j = -1) (ha : vp_in a 60) (h : Q (some (.inl 0)) I J) : mv_wpM mv_tab mv_sh d 13 [.inr (.inr 5), .inl a] I J Q := by
  obtain ⟨d, rfl⟩ : ∃ e, d = e + 1 := ⟨d - 1, by omega⟩
  refine (show ∃ fu9, mv_wp (mv_wpM mv_tab mv_sh d) mv_sh none tbX4_takenOn flX4 csX4 1 (fun _ _ _ _ _ => False) Q fu9 0 [some (.inr (.inr 5)), some (.inl a), none, none] [] I J from ?_)
  refine ⟨4000, ?_⟩
  refine And.intro ?_ trivial
  obtain ⟨z, hz, ez⟩ := vp_in_of ha (by decide)
  exact l_takenOna f ha h (z + 1) _ _ (by rw [ez, nI_toInt (by omega)]; omega) (by omega) (Nat.le_trans (show 20 * (z + 1) + 1400 ≤ 3900 by omega) (Nat.le_of_ble_eq_true rfl))

theorem l_takenb {d : Nat} {a x0 : Int32} {I : mv_I} {J : mv_J} {Q : mv_Q} (f : ∀ j, j < 60 → I 73 j = -1) (hx : x0.toInt < 0) (h : Q (some (.inl 0)) I J) : ∀ (k i fu : Nat) (x : Int32), x = nI i → i + k = 60 → 20 * k + 40 ≤ fu → mv_wp (mv_wpM mv_tab mv_sh d) mv_sh none tbX8_taken flX8 csX8 1 (fun _ _ _ _ _ => False) Q (fu) 23 [some (.inr (.inr 12)), some (.inl a), some (.inl x0), some (.inl x)] [] I J := by
  intro k
  induction k with
  | zero =>
    intro i fu x ex hi hf
    subst ex
    obtain ⟨fu, rfl⟩ : ∃ z, fu = z + 40 := ⟨fu - 40, by omega⟩
    have e : i = 60 := by omega
    subst e
    have e60 : (nI 60).toInt = 60 := by decide
    first | refine And.intro (fun q => ?_) (fun q => absurd q (fun q => by (simp only [mi_le, mi_lt, mi_eq] at *; have := mi_l; omega))) | refine And.intro (fun q => absurd q (fun q => by (simp only [mi_le, mi_lt, mi_eq] at *; have := mi_l; omega))) (fun q => ?_)
    first | refine And.intro (fun q => ?_) (fun q => absurd q (fun q => by (simp only [mi_le, mi_lt, mi_eq] at *; have := mi_l; omega))) | refine And.intro (fun q => absurd q (fun q => by (simp only [mi_le, mi_lt, mi_eq] at *; have := mi_l; omega))) (fun q => ?_)
    first | refine And.intro (fun q => ?_) (fun q => absurd q (fun q => by (simp only [mi_le, mi_lt, mi_eq] at *; have := mi_l; omega))) | refine And.intro (fun q => absurd q (fun q => by (simp only [mi_le, mi_lt, mi_eq] at *; have := mi_l; omega))) (fun q => ?_)
    first | refine And.intro (fun q => ?_) (fun q => absurd q (fun q => by (simp only [mi_le, mi_lt, mi_eq] at *; have := mi_l; omega))) | refine And.intro (fun q => absurd q (fun q => by (simp only [mi_le, mi_lt, mi_eq] at *; have := mi_l; omega))) (fun q => ?_)
    exact h
  | succ k ih =>
    intro i fu x ex hi hf
    subst ex
    obtain ⟨fu, rfl⟩ : ∃ z, fu = z + 40 := ⟨fu - 40, by omega⟩
    refine And.intro (fun q => absurd (show nI 60 ≤ nI i from q) (nI_ge (by omega) (by decide))) (fun q => ?_)
    refine And.intro (vp_in_nI (by omega) (by decide)) ?_
    have e : I 73 (nI i).toNatClampNeg = -1 := by rw [nI_clamp (by omega)]; exact f i (by omega)
    first | refine And.intro (fun q => ?_) (fun q => absurd q (fun q => by (simp only [mi_le, mi_lt, mi_eq] at *; have := mi_l; omega))) | refine And.intro (fun q => absurd q (fun q => by (simp only [mi_le, mi_lt, mi_eq] at *; have := mi_l; omega))) (fun q => ?_)
    refine And.intro ?_ trivial
    exact ih (i + 1) _ _ (nI_1 i) (by omega) (by omega)
theorem l_takena {d : Nat} {a : Int32} {I : mv_I} {J : mv_J} {Q : mv_Q} (f : ∀ j, j < 60 → I 73 j = -1) (ha : vp_in a 60) (h : Q (some (.inl 0)) I J) : ∀ (k fu : Nat) (x : Int32), x.toInt = (k : Int) - 1 → k ≤ 60 → 20 * k + 1400 ≤ fu → mv_wp (mv_wpM mv_tab mv_sh d) mv_sh none tbX8_taken flX8 csX8 1 (fun _ _ _ _ _ => False) Q (fu) 2 [some (.inr (.inr 12)), some (.inl a), some (.inl x), none] [] I J := by
  intro k
  induction k with
  | zero =>
    intro fu x ex hi hf
    obtain ⟨fu, rfl⟩ : ∃ z, fu = z + 20 := ⟨fu - 20, by omega⟩
    first | refine And.intro (fun q => ?_) (fun q => absurd q (fun q => by (simp only [mi_le, mi_lt, mi_eq] at *; have := mi_l; omega))) | refine And.intro (fun q => absurd q (fun q => by (simp only [mi_le, mi_lt, mi_eq] at *; have := mi_l; omega))) (fun q => ?_)
    refine And.intro ?_ trivial
    obtain ⟨z, hz, ez⟩ := vp_in_of ha (by decide)
    exact l_takenb f (by omega) h (60 - z) z _ _ ez (by omega) (by omega)
  | succ k ih =>
    intro fu x ex hi hf
    obtain ⟨fu, rfl⟩ : ∃ z, fu = z + 20 := ⟨fu - 20, by omega⟩
    first | refine And.intro (fun q => ?_) (fun q => absurd q (fun q => by (simp only [mi_le, mi_lt, mi_eq] at *; have := mi_l; omega))) | refine And.intro (fun q => absurd q (fun q => by (simp only [mi_le, mi_lt, mi_eq] at *; have := mi_l; omega))) (fun q => ?_)
    have hv : vp_in x 60 := mi_in (by omega) (by omega)
    refine And.intro hv ?_
    have e : I 73 x.toNatClampNeg = -1 := by
      obtain ⟨z, hz, ez⟩ := vp_in_of hv (by decide)
      rw [ez, nI_clamp (by omega)]
      exact f z hz
    first | refine And.intro (fun q => ?_) (fun q => absurd q (fun q => by (simp only [mi_le, mi_lt, mi_eq] at *; have := mi_l; omega))) | refine And.intro (fun q => absurd q (fun q => by (simp only [mi_le, mi_lt, mi_eq] at *; have := mi_l; omega))) (fun q => ?_)
    refine And.intro ?_ trivial
    refine ih _ _ ?_ (by omega) (by omega)
    obtain ⟨z, hz, ez⟩ := vp_in_of hv (by decide)
    rw [ez] at ex ⊢
    have e1 : (nI z).toInt = z := nI_toInt (by omega)
    have hk : z = k := by omega
    subst hk
    cases z with
    | zero => decide
    | succ z =>
      rw [pk_m1, nI_toInt (by omega)]
      omega
set_option maxHeartbeats 1000000 in
theorem c_taken {d : Nat} (hd : 1 ≤ d) (a : Int32) {I : mv_I} {J : mv_J} {Q : mv_Q} (f : ∀ j, j < 60 → I 73 j = -1) (ha : vp_in a 60) (h : Q (some (.inl 0)) I J) : mv_wpM mv_tab mv_sh d 111 [.inr (.inr 12), .inl a] I J Q := by
  obtain ⟨d, rfl⟩ : ∃ e, d = e + 1 := ⟨d - 1, by omega⟩
  refine (show ∃ fu9, mv_wp (mv_wpM mv_tab mv_sh d) mv_sh none tbX8_taken flX8 csX8 1 (fun _ _ _ _ _ => False) Q fu9 0 [some (.inr (.inr 12)), some (.inl a), none, none] [] I J from ?_)
  refine ⟨4000, ?_⟩
  refine And.intro ?_ trivial
  obtain ⟨z, hz, ez⟩ := vp_in_of ha (by decide)
  exact l_takena f ha h (z + 1) _ _ (by rw [ez, nI_toInt (by omega)]; omega) (by omega) (Nat.le_trans (show 20 * (z + 1) + 1400 ≤ 3900 by omega) (Nat.le_of_ble_eq_true rfl))

theorem mi_60 {a : Int32} (h : 0 ≤ a ∧ a ≤ 59) : vp_in a 60 := by
  simp only [mi_le] at h
  have := mi_l
  exact mi_in (by omega) (by omega)
set_option maxHeartbeats 1000000 in
theorem f_sea {d : Nat} (hd : 4 ≤ d) (a : Int32) {I : mv_I} {J : mv_J} {Q : mv_Q} (fr : mv_fr I) (h : ∀ (r : Int32) (I' : mv_I), mv_md I I' → r = v_sea a → Q (some (.inl r)) I' J) : mv_wpM mv_tab mv_sh d 70 [.inr (.inr 0), .inl a] I J Q := by
  obtain ⟨d, rfl⟩ : ∃ e, d = e + 1 := ⟨d - 1, by omega⟩
  refine (show ∃ fu9, mv_wp (mv_wpM mv_tab mv_sh d) mv_sh none tbX7_sea flX7 csX7 1 (fun _ _ _ _ _ => False) Q fu9 0 [some (.inr (.inr 0)), some (.inl a)] [] I J from ?_)
  refine ⟨60, ?_⟩
  obtain ⟨f1, f2, f3, f4, f5, f6, f7, f8, f9, f10, f11, f12, f13, f14⟩ := fr
  refine c_isDay (by omega) a (fun p => ?_) (fun p => ?_)
  · first | refine And.intro (fun z => absurd z (by decide)) (fun _ => ?_) | refine And.intro (fun _ => ?_) (fun z => absurd z (by decide))
    exact c_takenOn (by omega) a f10 (mi_60 p) (h _ _ mv_md.rf (if_pos p).symm)
  · first | refine And.intro (fun z => absurd z (by decide)) (fun _ => ?_) | refine And.intro (fun _ => ?_) (fun z => absurd z (by decide))
    exact h _ _ mv_md.rf (if_neg p).symm

set_option maxHeartbeats 1000000 in
theorem g_sea {d : Nat} (hd : 4 ≤ d) (a : Int32) {I : mv_I} {J : mv_J} {Q : mv_Q} (fm : mv_fm I) (h : ∀ (r : Int32) (I' : mv_I) (J' : mv_J), r = v_sea a → Q (some (.inl r)) I' J') : mv_wpM mv_tab mv_sh d 112 [.inr (.inr 12), .inl a] I J Q := by
  obtain ⟨d, rfl⟩ : ∃ e, d = e + 1 := ⟨d - 1, by omega⟩
  refine (show ∃ fu9, mv_wp (mv_wpM mv_tab mv_sh d) mv_sh none tbX8_sea flX8 csX8 1 (fun _ _ _ _ _ => False) Q fu9 0 [some (.inr (.inr 12)), some (.inl a)] [] I J from ?_)
  refine ⟨60, ?_⟩
  obtain ⟨f1, f2, f3, f4, f5, f6, f7, f8, f9, f10, f11⟩ := fm
  refine c_in (by omega) a 0 59 (fun p => ?_) (fun p => ?_)
  · first | refine And.intro (fun z => absurd z (by decide)) (fun _ => ?_) | refine And.intro (fun _ => ?_) (fun z => absurd z (by decide))
    exact c_taken (by omega) a f10 (mi_60 p) (h _ _ _ (if_pos p).symm)
  · first | refine And.intro (fun z => absurd z (by decide)) (fun _ => ?_) | refine And.intro (fun _ => ?_) (fun z => absurd z (by decide))
    exact h _ _ _ (if_neg p).symm
end
section
set_option maxHeartbeats 1000000 in
theorem f_skip {d : Nat} (hd : 1 ≤ d) {I : mv_I} {J : mv_J} {Q : mv_Q} (f : I 2 2 ≤ I 2 3) (h : Q none I J) : mv_wpM mv_tab mv_sh d 42 [.inr (.inr 2)] I J Q := by
  obtain ⟨d, rfl⟩ : ∃ e, d = e + 1 := ⟨d - 1, by omega⟩
  refine (show ∃ fu9, mv_wp (mv_wpM mv_tab mv_sh d) mv_sh none tbX6_skipBlanks flX6 csX6 0 (fun _ _ _ _ _ => False) Q fu9 0 [some (.inr (.inr 2))] [] I J from ?_)
  refine ⟨60, ?_⟩
  first | refine And.intro (fun q => ?_) (fun q => absurd f q) | refine And.intro (fun q => absurd f q) (fun q => ?_)
  exact h

set_option maxHeartbeats 1000000 in
theorem f_readNumber {d : Nat} (hd : 2 ≤ d) (a b : Int32) {I : mv_I} {J : mv_J} {Q : mv_Q} (f : I 2 2 = 0) (f2 : I 2 3 = 0) (h : ∀ I' : mv_I, mv_md I I' → I' 2 3 = 0 → Q (some (.inl (-1))) I' J) : mv_wpM mv_tab mv_sh d 43 [.inr (.inr 2), .inl a, .inl b] I J Q := by
  obtain ⟨d, rfl⟩ : ∃ e, d = e + 1 := ⟨d - 1, by omega⟩
  refine (show ∃ fu9, mv_wp (mv_wpM mv_tab mv_sh d) mv_sh none tbX6_readNumber flX6 csX6 1 (fun _ _ _ _ _ => False) Q fu9 0 [some (.inr (.inr 2)), some (.inl a), some (.inl b), none, none] [] I J from ?_)
  refine ⟨60, ?_⟩
  refine f_skip (by omega) (by rw [f, f2]; decide) ?_
  refine And.intro ?_ trivial
  first | refine And.intro (fun q => ?_) (fun q => absurd (show I 2 2 ≤ I 2 3 by rw [f, f2]; decide) q) | refine And.intro (fun q => absurd (show I 2 2 ≤ I 2 3 by rw [f, f2]; decide) q) (fun q => ?_)
  first | refine And.intro (fun q => ?_) (fun q => absurd rfl q) | refine And.intro (fun q => absurd rfl q) (fun q => ?_)
  exact h _ (by repeat (first | exact mv_md.rf | refine mv_md.up ?_ (by decide))) (by simp [va_up, upd, f2])

set_option maxHeartbeats 1000000 in
theorem f_readPair {d : Nat} (hd : 3 ≤ d) (a : Int32) {I : mv_I} {J : mv_J} {Q : mv_Q} (f : I 2 2 = 0) (f2 : I 2 3 = 0) (h : ∀ I' : mv_I, mv_md I I' → I' 2 3 = 0 → Q (some (.inl 0)) I' J) : mv_wpM mv_tab mv_sh d 45 [.inr (.inr 2), .inl a] I J Q := by
  obtain ⟨d, rfl⟩ : ∃ e, d = e + 1 := ⟨d - 1, by omega⟩
  refine (show ∃ fu9, mv_wp (mv_wpM mv_tab mv_sh d) mv_sh none tbX6_readPair flX6 csX6 2 (fun _ _ _ _ _ => False) Q fu9 0 [some (.inr (.inr 2)), some (.inl a), none, none] [] I J from ?_)
  refine ⟨60, ?_⟩
  refine f_readNumber (by omega) 0 (a - 1) f f2 (fun I' m e => ?_)
  first | refine And.intro (fun z => absurd z (by decide)) (fun _ => ?_) | refine And.intro (fun _ => ?_) (fun z => absurd z (by decide))
  exact And.intro (by decide) (h I' m e)

set_option maxHeartbeats 1000000 in
theorem f_readPairs {d : Nat} (hd : 4 ≤ d) (a : Int32) {I : mv_I} {J : mv_J} {Q : mv_Q} (f : I 2 2 = 0) (h : ∀ (r : Int32) (I' : mv_I), mv_md I I' → r = -20 → Q (some (.inl r)) I' J) : mv_wpM mv_tab mv_sh d 46 [.inr (.inr 2), .inl a] I J Q := by
  obtain ⟨d, rfl⟩ : ∃ e, d = e + 1 := ⟨d - 1, by omega⟩
  refine (show ∃ fu9, mv_wp (mv_wpM mv_tab mv_sh d) mv_sh none tbX6_readPairs flX6 csX6 1 (fun _ _ _ _ _ => False) Q fu9 0 [some (.inr (.inr 2)), some (.inl a), none] [] I J from ?_)
  refine ⟨60, ?_⟩
  refine c_fill23 (by omega) 0 ?_
  refine And.intro ?_ trivial
  first | refine And.intro (fun z => absurd z (by decide)) (fun _ => ?_) | refine And.intro (fun _ => ?_) (fun z => absurd z (by decide))
  refine f_readPair (by omega) a (by simp [va_up, upd, f]) (by simp [va_up, upd]) (fun I' m e => ?_)
  first | refine And.intro (fun z => absurd z (by decide)) (fun _ => ?_) | refine And.intro (fun _ => ?_) (fun z => absurd z (by decide))
  exact h _ _ (fun k hk => (m k hk).trans (by rw [va_up_ne _ _ (by omega), va_up_ne _ _ (by omega)])) (by rw [e]; decide)

set_option maxHeartbeats 1000000 in
theorem f_parts {d : Nat} (hd : 5 ≤ d) {I : mv_I} {J : mv_J} {Q : mv_Q} (fr : mv_fr I) (h : ∀ (r : Int32) (I' : mv_I), mv_md I I' → r = (-20) → Q (some (.inl r)) I' J) : mv_wpM mv_tab mv_sh d 61 [.inr (.inr 0)] I J Q := by
  obtain ⟨d, rfl⟩ : ∃ e, d = e + 1 := ⟨d - 1, by omega⟩
  refine (show ∃ fu9, mv_wp (mv_wpM mv_tab mv_sh d) mv_sh none tbX7_parts flX7 csX7 1 (fun _ _ _ _ _ => False) Q fu9 0 [some (.inr (.inr 0)), none] [] I J from ?_)
  refine ⟨60, ?_⟩
  obtain ⟨f1, f2, f3, f4, f5, f6, f7, f8, f9, f10, f11, f12, f13, f14⟩ := fr
  refine f_readPairs (by omega) (I 1 2) f5 (fun r I' m e => ?_)
  subst e
  first | refine And.intro (fun z => absurd z (by decide)) (fun _ => ?_) | refine And.intro (fun _ => ?_) (fun z => absurd z (by decide))
  exact h _ _ (m.up (by decide)) rfl

set_option maxHeartbeats 1000000 in
theorem g_next {d : Nat} (hd : 1 ≤ d) {I : mv_I} {J : mv_J} {Q : mv_Q} (f : I 12 20 = 0) (f2 : I 12 21 = 0) (h : Q (some (.inl 0)) I J) : mv_wpM mv_tab mv_sh d 101 [.inr (.inr 12)] I J Q := by
  obtain ⟨d, rfl⟩ : ∃ e, d = e + 1 := ⟨d - 1, by omega⟩
  refine (show ∃ fu9, mv_wp (mv_wpM mv_tab mv_sh d) mv_sh none tbX8_next flX8 csX8 1 (fun _ _ _ _ _ => False) Q fu9 0 [some (.inr (.inr 12))] [] I J from ?_)
  refine ⟨60, ?_⟩
  first | refine And.intro (fun q => ?_) (fun q => absurd (show I 12 20 ≤ I 12 21 by rw [f, f2]; decide) q) | refine And.intro (fun q => absurd (show I 12 20 ≤ I 12 21 by rw [f, f2]; decide) q) (fun q => ?_)
  first | refine And.intro (fun q => ?_) (fun q => absurd (show I 12 20 ≤ I 12 21 by rw [f, f2]; decide) q) | refine And.intro (fun q => absurd (show I 12 20 ≤ I 12 21 by rw [f, f2]; decide) q) (fun q => ?_)
  exact h

set_option maxHeartbeats 1000000 in
theorem g_number {d : Nat} (hd : 2 ≤ d) (a b : Int32) {I : mv_I} {J : mv_J} {Q : mv_Q} (f : I 12 20 = 0) (f2 : I 12 21 = 0) (h : ∀ I' : mv_I, I' 12 22 = 0 → Q (some (.inl (-1))) I' J) : mv_wpM mv_tab mv_sh d 102 [.inr (.inr 12), .inl a, .inl b] I J Q := by
  obtain ⟨d, rfl⟩ : ∃ e, d = e + 1 := ⟨d - 1, by omega⟩
  refine (show ∃ fu9, mv_wp (mv_wpM mv_tab mv_sh d) mv_sh none tbX8_number flX8 csX8 1 (fun _ _ _ _ _ => False) Q fu9 0 [some (.inr (.inr 12)), some (.inl a), some (.inl b), none, none] [] I J from ?_)
  refine ⟨60, ?_⟩
  refine g_next (by omega) f f2 ?_
  refine c_in (by omega) 0 48 57 (fun q => absurd q (by decide)) (fun _ => ?_)
  first | refine And.intro (fun z => absurd z (by decide)) (fun _ => ?_) | refine And.intro (fun _ => ?_) (fun z => absurd z (by decide))
  exact h _ (by simp [va_up, upd, f2])

set_option maxHeartbeats 1000000 in
theorem g_reads {d : Nat} (hd : 3 ≤ d) {I : mv_I} {J : mv_J} {Q : mv_Q} (f0 : I 12 0 = 0) (f : I 12 20 = 0) (h : ∀ I' : mv_I, I' 12 22 = 0 → Q (some (.inl (-1))) I' J) : mv_wpM mv_tab mv_sh d 103 [.inr (.inr 12)] I J Q := by
  obtain ⟨d, rfl⟩ : ∃ e, d = e + 1 := ⟨d - 1, by omega⟩
  refine (show ∃ fu9, mv_wp (mv_wpM mv_tab mv_sh d) mv_sh none tbX8_reads flX8 csX8 1 (fun _ _ _ _ _ => False) Q fu9 0 [some (.inr (.inr 12)), none, none, none, none] [] I J from ?_)
  refine ⟨60, ?_⟩
  refine And.intro ?_ trivial
  first | refine And.intro (fun q => ?_) (fun q => absurd q (fun q => by simp [va_up, upd, f0] at q)) | refine And.intro (fun q => absurd q (fun q => by simp [va_up, upd, f0] at q)) (fun q => ?_)
  refine And.intro ?_ trivial
  first | refine And.intro (fun z => absurd z (by decide)) (fun _ => ?_) | refine And.intro (fun _ => ?_) (fun z => absurd z (by decide))
  refine g_number (by omega) _ _ (by simp [va_up, upd, f]) (by simp [va_up, upd]) (fun I' e => ?_)
  first | refine And.intro (fun z => absurd z (by decide)) (fun _ => ?_) | refine And.intro (fun _ => ?_) (fun z => absurd z (by decide))
  exact h I' e

set_option maxHeartbeats 1000000 in
theorem g_parts {d : Nat} (hd : 5 ≤ d) {I : mv_I} {J : mv_J} {Q : mv_Q} (fm : mv_fm I) (h : ∀ (r : Int32) (I' : mv_I) (J' : mv_J), r = (-20) → Q (some (.inl r)) I' J') : mv_wpM mv_tab mv_sh d 104 [.inr (.inr 12)] I J Q := by
  obtain ⟨d, rfl⟩ : ∃ e, d = e + 1 := ⟨d - 1, by omega⟩
  refine (show ∃ fu9, mv_wp (mv_wpM mv_tab mv_sh d) mv_sh none tbX8_parts flX8 csX8 1 (fun _ _ _ _ _ => False) Q fu9 0 [some (.inr (.inr 12)), none, none] [] I J from ?_)
  refine ⟨60, ?_⟩
  obtain ⟨f1, f2, f3, f4, f5, f6, f7, f8, f9, f10, f11⟩ := fm
  refine g_reads (by omega) f1 f6 (fun I' e => ?_)
  first | refine And.intro (fun z => absurd z (by decide)) (fun _ => ?_) | refine And.intro (fun _ => ?_) (fun z => absurd z (by decide))
  exact h _ _ _ (by simp [va_up, upd, e])
end
section
def bt_of (w : Int64) (x : Int32) : Int32 := (w >>> ((8 * x).toInt64 &&& 63)).toInt32 &&& 255
def bt_ok (w : Int64) (k : Nat) : Prop := 32 ≤ bt_of w (nI k) ∧ bt_of w (nI k) ≤ 126
def vt_ok (w : Int64) (n : Int32) : Prop := (1 ≤ n ∧ n ≤ 8) ∧ ∀ k, k < n.toNatClampNeg → bt_ok w k
theorem bt_and (x : Int64) : (x &&& 255).toInt32 = x.toInt32 &&& 255 := by
  apply Int32.toBitVec_inj.mp
  simp only [Int64.toBitVec_toInt32, Int64.toBitVec_and, Int32.toBitVec_and]
  have e1 : (255 : Int64).toBitVec = 255#64 := rfl
  have e2 : (255 : Int32).toBitVec = 255#32 := rfl
  rw [e1, e2]
  ext i hi
  simp only [BitVec.getElem_signExtend, BitVec.getElem_and, BitVec.getLsbD_and, BitVec.getElem_setWidth]
  have : (255#64).getLsbD i = (255#32)[i] := by
    rw [← BitVec.getLsbD_eq_getElem]
    simp only [BitVec.getLsbD_ofNat]
    simp [show i < 64 by omega, hi]
  simp [show i < 64 by omega]
  rw [show (255#64)[i] = (255#32)[i] from by rw [← BitVec.getLsbD_eq_getElem]; exact this]
theorem mi_dec {x : Int32} (h : 0 ≤ x.toInt) : (x + -1).toInt = x.toInt - 1 := by
  obtain ⟨j, hj, rfl⟩ := nI_of (x := x) (by simp only [mi_lt]; have := mi_l; omega)
  rw [nI_toInt hj]
  cases j with
  | zero => decide
  | succ j => rw [pk_m1, nI_toInt (by omega)]; omega
set_option maxHeartbeats 1000000 in
theorem c_byteOf {d : Nat} (hd : 1 ≤ d) (a : Int32) (w : Int64) {I : mv_I} {J : mv_J} {Q : mv_Q} (h : Q (some (.inl (bt_of w a))) I J) : mv_wpM mv_tab mv_sh d 38 [.inr (.inl w), .inl a] I J Q := by
  obtain ⟨d, rfl⟩ : ∃ e, d = e + 1 := ⟨d - 1, by omega⟩
  refine (show ∃ fu9, mv_wp (mv_wpM mv_tab mv_sh d) mv_sh none tbX6_byteOf flX6 csX6 1 (fun _ _ _ _ _ => False) Q fu9 0 [some (.inr (.inl w)), none, some (.inl a)] [] I J from ?_)
  refine ⟨60, ?_⟩
  exact h

theorem l_canHold {d : Nat} (hd : 1 ≤ d) {w : Int64} {n : Int32} {I : mv_I} {J : mv_J} {Q : mv_Q} {N : Nat} (hN : n = nI N) (hN8 : N ≤ 8) (h1 : (∀ k, k < N → bt_ok w k) → Q (some (.inl 1)) I J) (h0 : ¬ (∀ k, k < N → bt_ok w k) → Q (some (.inl 0)) I J) : ∀ (k i fu : Nat) (x : Int32), x = nI i → i + k = N → (∀ j, j < i → bt_ok w j) → 30 * k + 30 ≤ fu → mv_wp (mv_wpM mv_tab mv_sh d) mv_sh none tbX6_canHold flX6 csX6 2 (fun _ _ _ _ _ => False) Q (fu) 2 [some (.inr (.inl w)), none, some (.inl n), some (.inl x)] [] I J := by
  subst hN
  intro k
  induction k with
  | zero =>
    intro i fu x ex hi hb hf
    subst ex
    obtain ⟨fu, rfl⟩ : ∃ z, fu = z + 30 := ⟨fu - 30, by omega⟩
    have e : i = N := by omega
    subst e
    refine And.intro (fun q => ?_) (fun q => absurd (Int32.le_refl _) q)
    exact And.intro (by decide) (h1 hb)
  | succ k ih =>
    intro i fu x ex hi hb hf
    subst ex
    obtain ⟨fu, rfl⟩ : ∃ z, fu = z + 30 := ⟨fu - 30, by omega⟩
    refine And.intro (fun q => absurd q (nI_ge (by omega) (by omega))) (fun q => ?_)
    refine c_byteOf (by omega) (nI i) w ?_
    refine c_isWithin (by omega) (bt_of w (nI i)) 32 126 (fun p => ?_) (fun p => ?_)
    · first | refine And.intro (fun z => absurd z (by decide)) (fun _ => ?_) | refine And.intro (fun _ => ?_) (fun z => absurd z (by decide))
      refine And.intro ?_ trivial
      exact ih (i + 1) _ _ (nI_1 i) (by omega) (fun j hj => by
        by_cases hj2 : j = i
        · subst hj2; exact p
        · exact hb j (by omega)) (by omega)
    · first | refine And.intro (fun z => absurd z (by decide)) (fun _ => ?_) | refine And.intro (fun _ => ?_) (fun z => absurd z (by decide))
      exact And.intro (by decide) (h0 (fun z => p (z i (by omega))))
set_option maxHeartbeats 1000000 in
theorem c_canHold {d : Nat} (hd : 2 ≤ d) (n : Int32) (w : Int64) {I : mv_I} {J : mv_J} {Q : mv_Q} {N : Nat} (hN : n = nI N) (hN8 : N ≤ 8) (h1 : (∀ k, k < N → bt_ok w k) → Q (some (.inl 1)) I J) (h0 : ¬ (∀ k, k < N → bt_ok w k) → Q (some (.inl 0)) I J) : mv_wpM mv_tab mv_sh d 40 [.inr (.inl w), .inl n] I J Q := by
  obtain ⟨d, rfl⟩ : ∃ e, d = e + 1 := ⟨d - 1, by omega⟩
  refine (show ∃ fu9, mv_wp (mv_wpM mv_tab mv_sh d) mv_sh none tbX6_canHold flX6 csX6 2 (fun _ _ _ _ _ => False) Q fu9 0 [some (.inr (.inl w)), none, some (.inl n), none] [] I J from ?_)
  refine ⟨400, ?_⟩
  refine And.intro ?_ trivial
  exact l_canHold (by omega) hN hN8 h1 h0 N 0 _ _ nI_0.symm (by omega) (fun j hj => absurd hj (by omega)) (Nat.le_trans (show 30 * N + 30 ≤ 300 by omega) (Nat.le_of_ble_eq_true rfl))

theorem l_append {d : Nat} (hd : 1 ≤ d) {w : Int64} {n : Int32} {I0 : mv_I} {J : mv_J} {Q : mv_Q} {N : Nat} (hN8 : N ≤ 8) (h : ∀ I' : mv_I, mv_md I0 I' → Q (some (.inl (nI N))) I' J) : ∀ (k t fu : Nat) (x : Int32) (I : mv_I), x.toInt = (k : Int) - 1 → I 2 2 = nI t → t + k = N → mv_md I0 I → 30 * k + 30 ≤ fu → mv_wp (mv_wpM mv_tab mv_sh d) mv_sh none tbX6_append flX6 csX6 1 (fun _ _ _ _ _ => False) Q (fu) 19 [some (.inr (.inr 2)), some (.inr (.inl w)), none, some (.inl n), some (.inl x)] [] I J := by
  intro k
  induction k with
  | zero =>
    intro t fu x I ex et hi hm hf
    obtain ⟨fu, rfl⟩ : ∃ z, fu = z + 30 := ⟨fu - 30, by omega⟩
    have e : t = N := by omega
    subst e
    have ex2 : x < 0 := by simp only [mi_lt]; have := mi_l; omega
    refine And.intro (fun q => ?_) (fun q => absurd ex2 q)
    have hh := h I hm
    rw [← et] at hh
    exact hh
  | succ k ih =>
    intro t fu x I ex et hi hm hf
    obtain ⟨fu, rfl⟩ : ∃ z, fu = z + 30 := ⟨fu - 30, by omega⟩
    have ex2 : ¬ x < 0 := by simp only [mi_lt]; have := mi_l; omega
    refine And.intro (fun q => absurd q ex2) (fun q => ?_)
    refine c_byteOf (by omega) x w ?_
    refine And.intro (by rw [et]; exact vp_in_nI (by omega) (by decide)) ?_
    refine And.intro ?_ trivial
    refine ih (t + 1) _ _ _ ?_ ?_ (by omega) ((hm.up (by decide)).up (by decide)) (by omega)
    · rw [mi_dec (by omega)]; omega
    · simp only [va_up_self, pk_us]
      rw [va_up_ne _ _ (by decide), et, nI_1]
set_option maxHeartbeats 1000000 in
theorem c_append {d : Nat} (hd : 2 ≤ d) (n : Int32) (w : Int64) {I : mv_I} {J : mv_J} {Q : mv_Q} {N : Nat} (hN : n = nI N) (hN8 : N ≤ 8) (f : I 2 2 = 0) (h : ∀ I' : mv_I, mv_md I I' → Q (some (.inl (nI N))) I' J) : mv_wpM mv_tab mv_sh d 41 [.inr (.inr 2), .inr (.inl w), .inl n] I J Q := by
  obtain ⟨d, rfl⟩ : ∃ e, d = e + 1 := ⟨d - 1, by omega⟩
  refine (show ∃ fu9, mv_wp (mv_wpM mv_tab mv_sh d) mv_sh none tbX6_append flX6 csX6 1 (fun _ _ _ _ _ => False) Q fu9 0 [some (.inr (.inr 2)), some (.inr (.inl w)), none, some (.inl n), none] [] I J from ?_)
  refine ⟨400, ?_⟩
  subst hN
  refine And.intro (fun q => ?_) (fun q => absurd (show nI N ≤ 70 - I 2 2 by rw [f, show (70 - 0 : Int32) = nI 70 by decide]; exact nI_le (by omega) (by decide)) q)
  refine And.intro ?_ trivial
  refine l_append (by omega) hN8 h N 0 _ _ _ ?_ (f.trans nI_0.symm) (by omega) mv_md.rf (Nat.le_trans (show 30 * N + 30 ≤ 300 by omega) (Nat.le_of_ble_eq_true rfl))
  cases N with
  | zero => decide
  | succ N => rw [nI_pred, nI_toInt (by omega)]; omega

theorem mi_18 {n : Int32} (h : 1 ≤ n ∧ n ≤ 8) : ∃ N : Nat, N ≤ 8 ∧ n = nI N ∧ n.toNatClampNeg = N := by
  simp only [mi_le] at h
  have := mi_l
  obtain ⟨j, hj, e⟩ := nI_of (x := n) (by simp only [mi_lt]; omega)
  have e2 := nI_toInt hj
  rw [← e] at e2
  exact ⟨j, by omega, e, by rw [e]; exact nI_clamp hj⟩
set_option maxHeartbeats 1000000 in
theorem f_type {d : Nat} (hd : 4 ≤ d) (n : Int32) (w : Int64) {I : mv_I} {J : mv_J} {Q : mv_Q} (fr : mv_fr I) (h : ∀ (r : Int32) (I' : mv_I), mv_md I I' → (vt_ok w n ∧ r = n ∨ ¬ vt_ok w n ∧ r = -1) → Q (some (.inl r)) I' J) : mv_wpM mv_tab mv_sh d 60 [.inr (.inr 0), .inr (.inl w), .inl n] I J Q := by
  obtain ⟨d, rfl⟩ : ∃ e, d = e + 1 := ⟨d - 1, by omega⟩
  refine (show ∃ fu9, mv_wp (mv_wpM mv_tab mv_sh d) mv_sh none tbX7_type flX7 csX7 1 (fun _ _ _ _ _ => False) Q fu9 0 [some (.inr (.inr 0)), some (.inr (.inl w)), none, some (.inl n)] [] I J from ?_)
  refine ⟨60, ?_⟩
  obtain ⟨f1, f2, f3, f4, f5, f6, f7, f8, f9, f10, f11, f12, f13, f14⟩ := fr
  refine c_isWithin (by omega) n 1 8 (fun p => ?_) (fun p => ?_)
  · first | refine And.intro (fun z => absurd z (by decide)) (fun _ => ?_) | refine And.intro (fun _ => ?_) (fun z => absurd z (by decide))
    obtain ⟨N, hN8, hN, hc⟩ := mi_18 p
    refine c_canHold (by omega) n w hN hN8 (fun q => ?_) (fun q => ?_)
    · first | refine And.intro (fun z => absurd z (by decide)) (fun _ => ?_) | refine And.intro (fun _ => ?_) (fun z => absurd z (by decide))
      exact c_append (by omega) n w hN hN8 f5 (fun I' m => h _ _ m (Or.inl ⟨⟨p, by rw [hc]; exact q⟩, hN.symm⟩))
    · first | refine And.intro (fun z => absurd z (by decide)) (fun _ => ?_) | refine And.intro (fun _ => ?_) (fun z => absurd z (by decide))
      exact h _ _ mv_md.rf (Or.inr ⟨fun z => q (by have := z.2; rwa [hc] at this), rfl⟩)
  · first | refine And.intro (fun z => absurd z (by decide)) (fun _ => ?_) | refine And.intro (fun _ => ?_) (fun z => absurd z (by decide))
    exact h _ _ mv_md.rf (Or.inr ⟨fun z => p z.1, rfl⟩)

theorem l_typeB {d : Nat} (hd : 1 ≤ d) {w : Int64} {J : mv_J} {Q : mv_Q} {N : Nat} (hN8 : N ≤ 8) (h : ∀ I' : mv_I, Q (some (.inl (nI N))) I' J) : ∀ (k t fu : Nat) (x : Int32) (I : mv_I), x.toInt = (k : Int) - 1 → I 12 20 = nI t → t + k = N → 40 * k + 30 ≤ fu → mv_wp (mv_wpM mv_tab mv_sh d) mv_sh none tbX8_type flX8 csX8 1 (fun _ _ _ _ _ => False) Q (fu) 70 [some (.inr (.inr 12)), some (.inr (.inl w)), none, some (.inl (nI N)), some (.inl x)] [] I J := by
  intro k
  induction k with
  | zero =>
    intro t fu x I ex et hi hf
    obtain ⟨fu, rfl⟩ : ∃ z, fu = z + 30 := ⟨fu - 30, by omega⟩
    have e : t = N := by omega
    subst e
    have ex2 : x < 0 := by simp only [mi_lt]; have := mi_l; omega
    refine And.intro (fun q => ?_) (fun q => absurd ex2 q)
    have hh := h I
    rw [← et] at hh
    exact hh
  | succ k ih =>
    intro t fu x I ex et hi hf
    obtain ⟨fu, rfl⟩ : ∃ z, fu = z + 40 := ⟨fu - 40, by omega⟩
    have ex2 : ¬ x < 0 := by simp only [mi_lt]; have := mi_l; omega
    refine And.intro (fun q => absurd q ex2) (fun q => ?_)
    refine And.intro (by rw [et]; exact vp_in_nI (by omega) (by decide)) ?_
    refine And.intro ?_ trivial
    refine ih (t + 1) _ _ _ ?_ ?_ (by omega) (by omega)
    · rw [mi_dec (by omega)]; omega
    · simp only [va_up_self, pk_us]
      rw [va_up_ne _ _ (by decide), et, nI_1]
theorem l_typeA {d : Nat} (hd : 1 ≤ d) {w : Int64} {I : mv_I} {J : mv_J} {Q : mv_Q} {N : Nat} (hN8 : N ≤ 8) (f : I 12 20 = 0) (h1 : (∀ k, k < N → bt_ok w k) → ∀ I' : mv_I, Q (some (.inl (nI N))) I' J) (h0 : ¬ (∀ k, k < N → bt_ok w k) → Q (some (.inl (-1))) I J) : ∀ (k i fu : Nat) (x : Int32), x = nI i → i + k = N → (∀ j, j < i → bt_ok w j) → 30 * k + 600 ≤ fu → mv_wp (mv_wpM mv_tab mv_sh d) mv_sh none tbX8_type flX8 csX8 1 (fun _ _ _ _ _ => False) Q (fu) 15 [some (.inr (.inr 12)), some (.inr (.inl w)), none, some (.inl (nI N)), some (.inl x)] [] I J := by
  intro k
  induction k with
  | zero =>
    intro i fu x ex hi hb hf
    subst ex
    obtain ⟨fu, rfl⟩ : ∃ z, fu = z + 30 := ⟨fu - 30, by omega⟩
    have e : i = N := by omega
    subst e
    refine And.intro (fun q => ?_) (fun q => absurd (Int32.le_refl _) q)
    have e1 : I 12 20 + nI i ≤ 70 := by rw [f, Int32.zero_add, show (70 : Int32) = nI 70 by decide]; exact nI_le (by omega) (by decide)
    first | refine And.intro (fun q => ?_) (fun q => absurd e1 q) | refine And.intro (fun q => absurd e1 q) (fun q => ?_)
    refine And.intro ?_ trivial
    refine l_typeB hd hN8 (h1 hb) i 0 _ _ _ ?_ (f.trans nI_0.symm) (by omega) (by omega)
    cases i with
    | zero => decide
    | succ i => rw [nI_pred, nI_toInt (by omega)]; omega
  | succ k ih =>
    intro i fu x ex hi hb hf
    subst ex
    obtain ⟨fu, rfl⟩ : ∃ z, fu = z + 30 := ⟨fu - 30, by omega⟩
    refine And.intro (fun q => absurd q (nI_ge (by omega) (by omega))) (fun q => ?_)
    refine c_in (by omega) _ 32 126 (fun p => ?_) (fun p => ?_)
    · first | refine And.intro (fun z => absurd z (by decide)) (fun _ => ?_) | refine And.intro (fun _ => ?_) (fun z => absurd z (by decide))
      rw [bt_and] at p
      refine And.intro ?_ trivial
      exact ih (i + 1) _ _ (nI_1 i) (by omega) (fun j hj => by
        by_cases hj2 : j = i
        · subst hj2; exact p
        · exact hb j (by omega)) (by omega)
    · first | refine And.intro (fun z => absurd z (by decide)) (fun _ => ?_) | refine And.intro (fun _ => ?_) (fun z => absurd z (by decide))
      rw [bt_and] at p
      exact h0 (fun z => p (z i (by omega)))
set_option maxHeartbeats 1000000 in
theorem g_type {d : Nat} (hd : 4 ≤ d) (n : Int32) (w : Int64) {I : mv_I} {J : mv_J} {Q : mv_Q} (fm : mv_fm I) (h : ∀ (r : Int32) (I' : mv_I) (J' : mv_J), (vt_ok w n ∧ r = n ∨ ¬ vt_ok w n ∧ r = -1) → Q (some (.inl r)) I' J') : mv_wpM mv_tab mv_sh d 100 [.inr (.inr 12), .inr (.inl w), .inl n] I J Q := by
  obtain ⟨d, rfl⟩ : ∃ e, d = e + 1 := ⟨d - 1, by omega⟩
  refine (show ∃ fu9, mv_wp (mv_wpM mv_tab mv_sh d) mv_sh none tbX8_type flX8 csX8 1 (fun _ _ _ _ _ => False) Q fu9 0 [some (.inr (.inr 12)), some (.inr (.inl w)), none, some (.inl n), none] [] I J from ?_)
  refine ⟨1000, ?_⟩
  obtain ⟨f1, f2, f3, f4, f5, f6, f7, f8, f9, f10, f11⟩ := fm
  refine c_in (by omega) n 1 8 (fun p => ?_) (fun p => ?_)
  · first | refine And.intro (fun z => absurd z (by decide)) (fun _ => ?_) | refine And.intro (fun _ => ?_) (fun z => absurd z (by decide))
    obtain ⟨N, hN8, hN, hc⟩ := mi_18 p
    subst hN
    refine And.intro ?_ trivial
    exact l_typeA (by omega) hN8 f6 (fun q I' => h _ _ _ (Or.inl ⟨⟨p, by rw [hc]; exact q⟩, rfl⟩)) (fun q => h _ _ _ (Or.inr ⟨fun z => q (by have := z.2; rwa [hc] at this), rfl⟩)) N 0 _ _ nI_0.symm (by omega) (fun j hj => absurd hj (by omega)) (Nat.le_trans (show 30 * N + 600 ≤ 900 by omega) (Nat.le_of_ble_eq_true rfl))
  · first | refine And.intro (fun z => absurd z (by decide)) (fun _ => ?_) | refine And.intro (fun _ => ?_) (fun z => absurd z (by decide))
    exact h _ _ _ (Or.inr ⟨fun z => p z.1, rfl⟩)
end
section
def mv_or (f g : Nat → Option mv_R) : Nat → Option mv_R := fun pc => match f pc with
  | some r => some r
  | none => g pc
theorem mv_tbB_or {cc : ByteArray} {own : String} {Ts : List Jvm.Cond} {f g : Nat → Option mv_R} (hf : mv_tbB cc own Ts f) (hg : mv_tbB cc own Ts g) : mv_tbB cc own Ts (mv_or f g) := by
  intro pc
  have h1 := hf pc
  have h2 := hg pc
  unfold mv_or
  cases h : f pc with
  | none => simp only [h]; exact h2
  | some r => simp only [h]; rw [h] at h1; exact h1
def tbC_0 : Nat → Option mv_R := mv_or tbL_0 (mv_or tbL_e tbL_h)
def tbC_1 : Nat → Option mv_R := mv_or tbL_1 (mv_or tbL_e tbL_h)
def tbC_2 : Nat → Option mv_R := mv_or tbL_2 (mv_or tbL_e tbL_h)
def tbC_3 : Nat → Option mv_R := mv_or tbL_3 (mv_or tbL_e tbL_h)
def tbC_4 : Nat → Option mv_R := mv_or tbL_4 (mv_or tbL_e tbL_h)
def tbC_5 : Nat → Option mv_R := mv_or tbL_5 (mv_or tbL_e tbL_h)
def tbC_6 : Nat → Option mv_R := mv_or tbL_6 (mv_or tbL_e tbL_h)
def tbC_7 : Nat → Option mv_R := mv_or tbL_7 (mv_or tbL_e tbL_h)
def tbC_8 : Nat → Option mv_R := mv_or tbL_8 (mv_or tbL_e tbL_h)
def tbC_9 : Nat → Option mv_R := mv_or tbL_9 (mv_or tbL_e tbL_h)
def tbC_10 : Nat → Option mv_R := mv_or tbL_10 (mv_or tbL_e tbL_h)
def tbC_11 : Nat → Option mv_R := mv_or tbL_11 (mv_or tbL_e tbL_h)
def tbC_12 : Nat → Option mv_R := mv_or tbL_12 (mv_or tbL_e tbL_h)
def tbC_13 : Nat → Option mv_R := mv_or tbL_13 (mv_or tbL_e tbL_h)
def tbC_14 : Nat → Option mv_R := mv_or tbL_14 (mv_or tbL_e tbL_h)
def tbC_15 : Nat → Option mv_R := mv_or tbL_15 (mv_or tbL_e tbL_h)
def tbC_16 : Nat → Option mv_R := mv_or tbL_16 (mv_or tbL_e tbL_h)
def tbC_17 : Nat → Option mv_R := mv_or tbL_17 (mv_or tbL_e tbL_h)
def tbC_18 : Nat → Option mv_R := mv_or tbL_18 (mv_or tbL_e tbL_h)
def tbC_19 : Nat → Option mv_R := mv_or tbL_19 (mv_or tbL_e tbL_h)
def tbC_20 : Nat → Option mv_R := mv_or tbL_20 (mv_or tbL_e tbL_h)
def tbC_21 : Nat → Option mv_R := mv_or tbL_21 (mv_or tbL_e tbL_h)
def tbC_22 : Nat → Option mv_R := mv_or tbL_22 (mv_or tbL_e tbL_h)
def tbC_23 : Nat → Option mv_R := mv_or tbL_23 (mv_or tbL_e tbL_h)
def tbC_24 : Nat → Option mv_R := mv_or tbL_24 (mv_or tbL_e tbL_h)
def tbC_25 : Nat → Option mv_R := mv_or tbL_25 (mv_or tbL_e tbL_h)
def tbC_26 : Nat → Option mv_R := mv_or tbL_26 (mv_or tbL_e tbL_h)
def tbC_d : Nat → Option mv_R := mv_or tbL_h tbL_e
theorem mi_sc : vp_in 0 6 ∧ vp_in (0 + 1) 6 ∧ vp_in (0 + 2) 6 ∧ vp_in (0 + 3) 6 ∧ vp_in (0 + 4) 6 ∧ vp_in (0 + 5) 6 := by
  unfold vp_in
  decide
set_option maxHeartbeats 1000000 in
theorem lc_0 {d : Nat} (hd : 9 ≤ d) {xs : Nat → Int32} {I : mv_I} {J : mv_J} (fr : mv_fr I) (fm : mv_fm I) : mv_wp (mv_wpM mv_tab mv_sh d) mv_sh (some (6, xs)) tbC_0 flL csL 1 (fun _ _ _ _ _ => False) (fun r _ _ => r = some (.inl 1)) 200 156 [some (.inr (.inr 999)), some (.inr (.inr 0)), some (.inr (.inr 12)), some (.inl 0)] [] I J := by
  obtain ⟨s0, s1, s2, s3, s4, s5⟩ := mi_sc
  refine And.intro s1 ?_
  refine f_works (by omega) _ fr (fun r1 I1 m1 e1 => ?_)
  refine And.intro s1 ?_
  refine g_works (by omega) _ (m1.fm fm) (fun r2 I2 J2 e2 => ?_)
  refine And.intro (fun _ => ?_) (fun q => absurd (e1.trans e2.symm) q)
  refine And.intro (fun q => ?_) (fun q => absurd (show (nI 6 - 6 : Int32) < 0 + 6 by decide) q)
  exact rfl
set_option maxHeartbeats 1000000 in
theorem lc_1 {d : Nat} (hd : 9 ≤ d) {xs : Nat → Int32} {I : mv_I} {J : mv_J} (fr : mv_fr I) (fm : mv_fm I) : mv_wp (mv_wpM mv_tab mv_sh d) mv_sh (some (6, xs)) tbC_1 flL csL 1 (fun _ _ _ _ _ => False) (fun r _ _ => r = some (.inl 1)) 200 179 [some (.inr (.inr 999)), some (.inr (.inr 0)), some (.inr (.inr 12)), some (.inl 0)] [] I J := by
  obtain ⟨s0, s1, s2, s3, s4, s5⟩ := mi_sc
  refine And.intro s1 ?_
  refine f_weeks (by omega) _ fr (fun r1 I1 m1 e1 => ?_)
  refine And.intro s1 ?_
  refine g_weeks (by omega) _ (m1.fm fm) (fun r2 I2 J2 e2 => ?_)
  refine And.intro (fun _ => ?_) (fun q => absurd (e1.trans e2.symm) q)
  refine And.intro (fun q => ?_) (fun q => absurd (show (nI 6 - 6 : Int32) < 0 + 6 by decide) q)
  exact rfl
set_option maxHeartbeats 1000000 in
theorem lc_2 {d : Nat} (hd : 9 ≤ d) {xs : Nat → Int32} {I : mv_I} {J : mv_J} (fr : mv_fr I) (fm : mv_fm I) : mv_wp (mv_wpM mv_tab mv_sh d) mv_sh (some (6, xs)) tbC_2 flL csL 1 (fun _ _ _ _ _ => False) (fun r _ _ => r = some (.inl 1)) 200 202 [some (.inr (.inr 999)), some (.inr (.inr 0)), some (.inr (.inr 12)), some (.inl 0)] [] I J := by
  obtain ⟨s0, s1, s2, s3, s4, s5⟩ := mi_sc
  refine And.intro s1 ?_
  refine And.intro s2 ?_
  refine And.intro s3 ?_
  refine f_lot (by omega) _ _ _ fr (fun r1 I1 m1 e1 => ?_)
  refine And.intro s1 ?_
  refine And.intro s2 ?_
  refine And.intro s3 ?_
  refine g_lot (by omega) _ _ _ (m1.fm fm) (fun r2 I2 J2 e2 => ?_)
  refine And.intro (fun _ => ?_) (fun q => absurd (e1.trans e2.symm) q)
  refine And.intro (fun q => ?_) (fun q => absurd (show (nI 6 - 6 : Int32) < 0 + 6 by decide) q)
  exact rfl
set_option maxHeartbeats 1000000 in
theorem lc_3 {d : Nat} (hd : 9 ≤ d) {xs : Nat → Int32} {I : mv_I} {J : mv_J} (fr : mv_fr I) (fm : mv_fm I) : mv_wp (mv_wpM mv_tab mv_sh d) mv_sh (some (6, xs)) tbC_3 flL csL 1 (fun _ _ _ _ _ => False) (fun r _ _ => r = some (.inl 1)) 200 245 [some (.inr (.inr 999)), some (.inr (.inr 0)), some (.inr (.inr 12)), some (.inl 0)] [] I J := by
  obtain ⟨s0, s1, s2, s3, s4, s5⟩ := mi_sc
  refine And.intro s1 ?_
  refine And.intro s2 ?_
  refine f_rail (by omega) _ _ fr (fun r1 I1 m1 e1 => ?_)
  refine And.intro s1 ?_
  refine And.intro s2 ?_
  refine g_rail (by omega) _ _ (m1.fm fm) (fun r2 I2 J2 e2 => ?_)
  refine And.intro (fun _ => ?_) (fun q => absurd (e1.trans e2.symm) q)
  refine And.intro (fun q => ?_) (fun q => absurd (show (nI 6 - 6 : Int32) < 0 + 6 by decide) q)
  exact rfl
set_option maxHeartbeats 1000000 in
theorem lc_4 {d : Nat} (hd : 9 ≤ d) {xs : Nat → Int32} {I : mv_I} {J : mv_J} (fr : mv_fr I) (fm : mv_fm I) : mv_wp (mv_wpM mv_tab mv_sh d) mv_sh (some (6, xs)) tbC_4 flL csL 1 (fun _ _ _ _ _ => False) (fun r _ _ => r = some (.inl 1)) 200 278 [some (.inr (.inr 999)), some (.inr (.inr 0)), some (.inr (.inr 12)), some (.inl 0)] [] I J := by
  obtain ⟨s0, s1, s2, s3, s4, s5⟩ := mi_sc
  refine And.intro s1 ?_
  refine And.intro s2 ?_
  refine f_told (by omega) _ _ fr (fun r1 I1 m1 e1 => ?_)
  refine And.intro s1 ?_
  refine And.intro s2 ?_
  refine g_told (by omega) _ _ (m1.fm fm) (fun r2 I2 J2 e2 => ?_)
  refine And.intro (fun _ => ?_) (fun q => absurd (e1.trans e2.symm) q)
  refine And.intro (fun q => ?_) (fun q => absurd (show (nI 6 - 6 : Int32) < 0 + 6 by decide) q)
  exact rfl
set_option maxHeartbeats 1000000 in
theorem lc_5 {d : Nat} (hd : 9 ≤ d) {xs : Nat → Int32} {I : mv_I} {J : mv_J} (fr : mv_fr I) (fm : mv_fm I) : mv_wp (mv_wpM mv_tab mv_sh d) mv_sh (some (6, xs)) tbC_5 flL csL 1 (fun _ _ _ _ _ => False) (fun r _ _ => r = some (.inl 1)) 200 311 [some (.inr (.inr 999)), some (.inr (.inr 0)), some (.inr (.inr 12)), some (.inl 0)] [] I J := by
  obtain ⟨s0, s1, s2, s3, s4, s5⟩ := mi_sc
  refine And.intro s1 ?_
  refine f_total (by omega) _ fr (fun r1 I1 m1 e1 => ?_)
  refine And.intro s1 ?_
  refine g_total (by omega) _ (m1.fm fm) (fun r2 I2 J2 e2 => ?_)
  refine And.intro (fun _ => ?_) (fun q => absurd (e1.trans e2.symm) q)
  refine And.intro (fun q => ?_) (fun q => absurd (show (nI 6 - 6 : Int32) < 0 + 6 by decide) q)
  exact rfl
set_option maxHeartbeats 1000000 in
theorem lc_6 {d : Nat} (hd : 9 ≤ d) {xs : Nat → Int32} {I : mv_I} {J : mv_J} (fr : mv_fr I) (fm : mv_fm I) : mv_wp (mv_wpM mv_tab mv_sh d) mv_sh (some (6, xs)) tbC_6 flL csL 1 (fun _ _ _ _ _ => False) (fun r _ _ => r = some (.inl 1)) 200 334 [some (.inr (.inr 999)), some (.inr (.inr 0)), some (.inr (.inr 12)), some (.inl 0)] [] I J := by
  obtain ⟨s0, s1, s2, s3, s4, s5⟩ := mi_sc
  refine And.intro s1 ?_
  refine And.intro s2 ?_
  refine And.intro s3 ?_
  refine f_lend (by omega) _ _ _ fr (fun r1 I1 m1 e1 => ?_)
  refine And.intro s1 ?_
  refine And.intro s2 ?_
  refine And.intro s3 ?_
  refine g_lend (by omega) _ _ _ (m1.fm fm) (fun r2 I2 J2 e2 => ?_)
  refine And.intro (fun _ => ?_) (fun q => absurd (e1.trans e2.symm) q)
  refine And.intro (fun q => ?_) (fun q => absurd (show (nI 6 - 6 : Int32) < 0 + 6 by decide) q)
  exact rfl
set_option maxHeartbeats 1000000 in
theorem lc_7 {d : Nat} (hd : 9 ≤ d) {xs : Nat → Int32} {I : mv_I} {J : mv_J} (fr : mv_fr I) (fm : mv_fm I) : mv_wp (mv_wpM mv_tab mv_sh d) mv_sh (some (6, xs)) tbC_7 flL csL 1 (fun _ _ _ _ _ => False) (fun r _ _ => r = some (.inl 1)) 200 377 [some (.inr (.inr 999)), some (.inr (.inr 0)), some (.inr (.inr 12)), some (.inl 0)] [] I J := by
  obtain ⟨s0, s1, s2, s3, s4, s5⟩ := mi_sc
  refine And.intro s1 ?_
  refine And.intro s2 ?_
  refine And.intro (fun q => ?_) (fun q => ?_)
  · refine And.intro s3 ?_
    refine f_shut (by omega) _ _ _ fr (fun r1 I1 m1 e1 => ?_)
    refine And.intro s1 ?_
    refine And.intro s2 ?_
    refine And.intro (fun q => ?_) (fun q => ?_)
    · refine And.intro s3 ?_
      refine g_shut (by omega) _ _ _ (m1.fm fm) (fun r2 I2 J2 e2 => ?_)
      refine And.intro (fun _ => ?_) (fun q => absurd (e1.trans e2.symm) q)
      refine And.intro (fun q => ?_) (fun q => absurd (show (nI 6 - 6 : Int32) < 0 + 6 by decide) q)
      exact rfl
    · refine And.intro s3 ?_
      refine g_shut (by omega) _ _ _ (m1.fm fm) (fun r2 I2 J2 e2 => ?_)
      refine And.intro (fun _ => ?_) (fun q => absurd (e1.trans e2.symm) q)
      refine And.intro (fun q => ?_) (fun q => absurd (show (nI 6 - 6 : Int32) < 0 + 6 by decide) q)
      exact rfl
  · refine And.intro s3 ?_
    refine f_shut (by omega) _ _ _ fr (fun r1 I1 m1 e1 => ?_)
    refine And.intro s1 ?_
    refine And.intro s2 ?_
    refine And.intro (fun q => ?_) (fun q => ?_)
    · refine And.intro s3 ?_
      refine g_shut (by omega) _ _ _ (m1.fm fm) (fun r2 I2 J2 e2 => ?_)
      refine And.intro (fun _ => ?_) (fun q => absurd (e1.trans e2.symm) q)
      refine And.intro (fun q => ?_) (fun q => absurd (show (nI 6 - 6 : Int32) < 0 + 6 by decide) q)
      exact rfl
    · refine And.intro s3 ?_
      refine g_shut (by omega) _ _ _ (m1.fm fm) (fun r2 I2 J2 e2 => ?_)
      refine And.intro (fun _ => ?_) (fun q => absurd (e1.trans e2.symm) q)
      refine And.intro (fun q => ?_) (fun q => absurd (show (nI 6 - 6 : Int32) < 0 + 6 by decide) q)
      exact rfl
set_option maxHeartbeats 1000000 in
theorem lc_8 {d : Nat} (hd : 9 ≤ d) {xs : Nat → Int32} {I : mv_I} {J : mv_J} (fr : mv_fr I) (fm : mv_fm I) : mv_wp (mv_wpM mv_tab mv_sh d) mv_sh (some (6, xs)) tbC_8 flL csL 1 (fun _ _ _ _ _ => False) (fun r _ _ => r = some (.inl 1)) 200 436 [some (.inr (.inr 999)), some (.inr (.inr 0)), some (.inr (.inr 12)), some (.inl 0)] [] I J := by
  obtain ⟨s0, s1, s2, s3, s4, s5⟩ := mi_sc
  refine And.intro s1 ?_
  refine And.intro s2 ?_
  refine And.intro s3 ?_
  refine f_open (by omega) _ _ _ fr (fun r1 I1 m1 e1 => ?_)
  refine And.intro s1 ?_
  refine And.intro s2 ?_
  refine And.intro s3 ?_
  refine g_open (by omega) _ _ _ (m1.fm fm) (fun r2 I2 J2 e2 => ?_)
  refine And.intro (fun _ => ?_) (fun q => absurd (e1.trans e2.symm) q)
  refine And.intro (fun q => ?_) (fun q => absurd (show (nI 6 - 6 : Int32) < 0 + 6 by decide) q)
  exact rfl
set_option maxHeartbeats 1000000 in
theorem lc_9 {d : Nat} (hd : 9 ≤ d) {xs : Nat → Int32} {I : mv_I} {J : mv_J} (fr : mv_fr I) (fm : mv_fm I) : mv_wp (mv_wpM mv_tab mv_sh d) mv_sh (some (6, xs)) tbC_9 flL csL 1 (fun _ _ _ _ _ => False) (fun r _ _ => r = some (.inl 1)) 200 479 [some (.inr (.inr 999)), some (.inr (.inr 0)), some (.inr (.inr 12)), some (.inl 0)] [] I J := by
  obtain ⟨s0, s1, s2, s3, s4, s5⟩ := mi_sc
  refine And.intro s1 ?_
  refine And.intro s2 ?_
  refine And.intro s3 ?_
  refine f_quota (by omega) _ _ _ fr (fun r1 I1 m1 e1 => ?_)
  refine And.intro s1 ?_
  refine And.intro s2 ?_
  refine And.intro s3 ?_
  refine g_quota (by omega) _ _ _ (m1.fm fm) (fun r2 I2 J2 e2 => ?_)
  refine And.intro (fun _ => ?_) (fun q => absurd (e1.trans e2.symm) q)
  refine And.intro (fun q => ?_) (fun q => absurd (show (nI 6 - 6 : Int32) < 0 + 6 by decide) q)
  exact rfl
set_option maxHeartbeats 1000000 in
theorem lc_10 {d : Nat} (hd : 9 ≤ d) {xs : Nat → Int32} {I : mv_I} {J : mv_J} (fr : mv_fr I) (fm : mv_fm I) : mv_wp (mv_wpM mv_tab mv_sh d) mv_sh (some (6, xs)) tbC_10 flL csL 1 (fun _ _ _ _ _ => False) (fun r _ _ => r = some (.inl 1)) 200 522 [some (.inr (.inr 999)), some (.inr (.inr 0)), some (.inr (.inr 12)), some (.inl 0)] [] I J := by
  obtain ⟨s0, s1, s2, s3, s4, s5⟩ := mi_sc
  refine And.intro s1 ?_
  refine f_left (by omega) _ fr (fun r1 I1 m1 e1 => ?_)
  refine And.intro s1 ?_
  refine g_left (by omega) _ (m1.fm fm) (fun r2 I2 J2 e2 => ?_)
  refine And.intro (fun _ => ?_) (fun q => absurd (e1.trans e2.symm) q)
  refine And.intro (fun q => ?_) (fun q => absurd (show (nI 6 - 6 : Int32) < 0 + 6 by decide) q)
  exact rfl
set_option maxHeartbeats 1000000 in
theorem lc_11 {d : Nat} (hd : 9 ≤ d) {xs : Nat → Int32} {I : mv_I} {J : mv_J} (fr : mv_fr I) (fm : mv_fm I) : mv_wp (mv_wpM mv_tab mv_sh d) mv_sh (some (6, xs)) tbC_11 flL csL 1 (fun _ _ _ _ _ => False) (fun r _ _ => r = some (.inl 1)) 200 545 [some (.inr (.inr 999)), some (.inr (.inr 0)), some (.inr (.inr 12)), some (.inl 0)] [] I J := by
  obtain ⟨s0, s1, s2, s3, s4, s5⟩ := mi_sc
  refine And.intro s1 ?_
  refine And.intro s2 ?_
  refine And.intro s3 ?_
  refine f_type (by omega) _ _ fr (fun r1 I1 m1 e1 => ?_)
  refine And.intro s1 ?_
  refine And.intro s2 ?_
  refine And.intro s3 ?_
  refine g_type (by omega) _ _ (m1.fm fm) (fun r2 I2 J2 e2 => ?_)
  have e3 : r1 = r2 := by rcases e1 with ⟨z1, z2⟩ | ⟨z1, z2⟩ <;> rcases e2 with ⟨y1, y2⟩ | ⟨y1, y2⟩ <;> first | exact z2.trans y2.symm | exact absurd y1 z1 | exact absurd z1 y1
  refine And.intro (fun _ => ?_) (fun q => absurd e3 q)
  refine And.intro (fun q => ?_) (fun q => absurd (show (nI 6 - 6 : Int32) < 0 + 6 by decide) q)
  exact rfl
set_option maxHeartbeats 1000000 in
theorem lc_12 {d : Nat} (hd : 9 ≤ d) {xs : Nat → Int32} {I : mv_I} {J : mv_J} (fr : mv_fr I) (fm : mv_fm I) : mv_wp (mv_wpM mv_tab mv_sh d) mv_sh (some (6, xs)) tbC_12 flL csL 1 (fun _ _ _ _ _ => False) (fun r _ _ => r = some (.inl 1)) 200 608 [some (.inr (.inr 999)), some (.inr (.inr 0)), some (.inr (.inr 12)), some (.inl 0)] [] I J := by
  obtain ⟨s0, s1, s2, s3, s4, s5⟩ := mi_sc
  refine f_parts (by omega) fr (fun r1 I1 m1 e1 => ?_)
  refine g_parts (by omega) (m1.fm fm) (fun r2 I2 J2 e2 => ?_)
  refine And.intro (fun _ => ?_) (fun q => absurd (e1.trans e2.symm) q)
  refine And.intro (fun q => ?_) (fun q => absurd (show (nI 6 - 6 : Int32) < 0 + 6 by decide) q)
  exact rfl
set_option maxHeartbeats 1000000 in
theorem lc_13 {d : Nat} (hd : 9 ≤ d) {xs : Nat → Int32} {I : mv_I} {J : mv_J} (fr : mv_fr I) (fm : mv_fm I) : mv_wp (mv_wpM mv_tab mv_sh d) mv_sh (some (6, xs)) tbC_13 flL csL 1 (fun _ _ _ _ _ => False) (fun r _ _ => r = some (.inl 1)) 200 621 [some (.inr (.inr 999)), some (.inr (.inr 0)), some (.inr (.inr 12)), some (.inl 0)] [] I J := by
  obtain ⟨s0, s1, s2, s3, s4, s5⟩ := mi_sc
  refine And.intro s1 ?_
  refine And.intro s2 ?_
  refine And.intro s3 ?_
  refine And.intro s4 ?_
  refine And.intro s5 ?_
  refine f_ship (by omega) _ _ _ _ _ fr (fun r1 I1 m1 e1 => ?_)
  refine And.intro s1 ?_
  refine And.intro s2 ?_
  refine And.intro s3 ?_
  refine And.intro s4 ?_
  refine And.intro s5 ?_
  refine g_ship (by omega) _ _ _ _ _ (m1.fm fm) (fun r2 I2 J2 e2 => ?_)
  refine And.intro (fun _ => ?_) (fun q => absurd (e1.trans e2.symm) q)
  refine And.intro (fun q => ?_) (fun q => absurd (show (nI 6 - 6 : Int32) < 0 + 6 by decide) q)
  exact rfl
set_option maxHeartbeats 1000000 in
theorem lc_14 {d : Nat} (hd : 9 ≤ d) {xs : Nat → Int32} {I : mv_I} {J : mv_J} (fr : mv_fr I) (fm : mv_fm I) : mv_wp (mv_wpM mv_tab mv_sh d) mv_sh (some (6, xs)) tbC_14 flL csL 1 (fun _ _ _ _ _ => False) (fun r _ _ => r = some (.inl 1)) 200 684 [some (.inr (.inr 999)), some (.inr (.inr 0)), some (.inr (.inr 12)), some (.inl 0)] [] I J := by
  obtain ⟨s0, s1, s2, s3, s4, s5⟩ := mi_sc
  refine And.intro s1 ?_
  refine And.intro s2 ?_
  refine And.intro s3 ?_
  refine f_load (by omega) _ _ _ fr (fun r1 I1 m1 e1 => ?_)
  refine And.intro s1 ?_
  refine And.intro s2 ?_
  refine And.intro s3 ?_
  refine g_load (by omega) _ _ _ (m1.fm fm) (fun r2 I2 J2 e2 => ?_)
  refine And.intro (fun _ => ?_) (fun q => absurd (e1.trans e2.symm) q)
  refine And.intro (fun q => ?_) (fun q => absurd (show (nI 6 - 6 : Int32) < 0 + 6 by decide) q)
  exact rfl
set_option maxHeartbeats 1000000 in
theorem lc_15 {d : Nat} (hd : 9 ≤ d) {xs : Nat → Int32} {I : mv_I} {J : mv_J} (fr : mv_fr I) (fm : mv_fm I) : mv_wp (mv_wpM mv_tab mv_sh d) mv_sh (some (6, xs)) tbC_15 flL csL 1 (fun _ _ _ _ _ => False) (fun r _ _ => r = some (.inl 1)) 200 727 [some (.inr (.inr 999)), some (.inr (.inr 0)), some (.inr (.inr 12)), some (.inl 0)] [] I J := by
  obtain ⟨s0, s1, s2, s3, s4, s5⟩ := mi_sc
  refine And.intro s1 ?_
  refine And.intro s2 ?_
  refine f_held (by omega) _ _ fr (fun r1 I1 m1 e1 => ?_)
  refine And.intro s1 ?_
  refine And.intro s2 ?_
  refine g_held (by omega) _ _ (m1.fm fm) (fun r2 I2 J2 e2 => ?_)
  refine And.intro (fun _ => ?_) (fun q => absurd (e1.trans e2.symm) q)
  refine And.intro (fun q => ?_) (fun q => absurd (show (nI 6 - 6 : Int32) < 0 + 6 by decide) q)
  exact rfl
set_option maxHeartbeats 1000000 in
theorem lc_16 {d : Nat} (hd : 9 ≤ d) {xs : Nat → Int32} {I : mv_I} {J : mv_J} (fr : mv_fr I) (fm : mv_fm I) : mv_wp (mv_wpM mv_tab mv_sh d) mv_sh (some (6, xs)) tbC_16 flL csL 1 (fun _ _ _ _ _ => False) (fun r _ _ => r = some (.inl 1)) 200 760 [some (.inr (.inr 999)), some (.inr (.inr 0)), some (.inr (.inr 12)), some (.inl 0)] [] I J := by
  obtain ⟨s0, s1, s2, s3, s4, s5⟩ := mi_sc
  refine And.intro s1 ?_
  refine f_grade (by omega) _ fr (fun r1 I1 m1 e1 => ?_)
  refine And.intro s1 ?_
  refine g_grade (by omega) _ (m1.fm fm) (fun r2 I2 J2 e2 => ?_)
  refine And.intro (fun _ => ?_) (fun q => absurd (e1.trans e2.symm) q)
  refine And.intro (fun q => ?_) (fun q => absurd (show (nI 6 - 6 : Int32) < 0 + 6 by decide) q)
  exact rfl
set_option maxHeartbeats 1000000 in
theorem lc_17 {d : Nat} (hd : 9 ≤ d) {xs : Nat → Int32} {I : mv_I} {J : mv_J} (fr : mv_fr I) (fm : mv_fm I) : mv_wp (mv_wpM mv_tab mv_sh d) mv_sh (some (6, xs)) tbC_17 flL csL 1 (fun _ _ _ _ _ => False) (fun r _ _ => r = some (.inl 1)) 200 783 [some (.inr (.inr 999)), some (.inr (.inr 0)), some (.inr (.inr 12)), some (.inl 0)] [] I J := by
  obtain ⟨s0, s1, s2, s3, s4, s5⟩ := mi_sc
  refine And.intro s1 ?_
  refine And.intro s2 ?_
  refine And.intro s3 ?_
  refine And.intro s4 ?_
  refine And.intro s5 ?_
  refine f_surf (by omega) _ _ _ _ _ fr (fun r1 I1 m1 e1 => ?_)
  refine And.intro s1 ?_
  refine And.intro s2 ?_
  refine And.intro s3 ?_
  refine And.intro s4 ?_
  refine And.intro s5 ?_
  refine g_surf (by omega) _ _ _ _ _ (m1.fm fm) (fun r2 I2 J2 e2 => ?_)
  refine And.intro (fun _ => ?_) (fun q => absurd (e1.trans e2.symm) q)
  refine And.intro (fun q => ?_) (fun q => absurd (show (nI 6 - 6 : Int32) < 0 + 6 by decide) q)
  exact rfl
set_option maxHeartbeats 1000000 in
theorem lc_18 {d : Nat} (hd : 9 ≤ d) {xs : Nat → Int32} {I : mv_I} {J : mv_J} (fr : mv_fr I) (fm : mv_fm I) : mv_wp (mv_wpM mv_tab mv_sh d) mv_sh (some (6, xs)) tbC_18 flL csL 1 (fun _ _ _ _ _ => False) (fun r _ _ => r = some (.inl 1)) 200 846 [some (.inr (.inr 999)), some (.inr (.inr 0)), some (.inr (.inr 12)), some (.inl 0)] [] I J := by
  obtain ⟨s0, s1, s2, s3, s4, s5⟩ := mi_sc
  refine And.intro s1 ?_
  refine f_sea (by omega) _ fr (fun r1 I1 m1 e1 => ?_)
  refine And.intro s1 ?_
  refine g_sea (by omega) _ (m1.fm fm) (fun r2 I2 J2 e2 => ?_)
  refine And.intro (fun _ => ?_) (fun q => absurd (e1.trans e2.symm) q)
  refine And.intro (fun q => ?_) (fun q => absurd (show (nI 6 - 6 : Int32) < 0 + 6 by decide) q)
  exact rfl
set_option maxHeartbeats 1000000 in
theorem lc_19 {d : Nat} (hd : 9 ≤ d) {xs : Nat → Int32} {I : mv_I} {J : mv_J} (fr : mv_fr I) (fm : mv_fm I) : mv_wp (mv_wpM mv_tab mv_sh d) mv_sh (some (6, xs)) tbC_19 flL csL 1 (fun _ _ _ _ _ => False) (fun r _ _ => r = some (.inl 1)) 200 869 [some (.inr (.inr 999)), some (.inr (.inr 0)), some (.inr (.inr 12)), some (.inl 0)] [] I J := by
  obtain ⟨s0, s1, s2, s3, s4, s5⟩ := mi_sc
  refine And.intro s1 ?_
  refine f_bar (by omega) _ fr (fun r1 I1 m1 e1 => ?_)
  refine And.intro s1 ?_
  refine g_bar (by omega) _ (m1.fm fm) (fun r2 I2 J2 e2 => ?_)
  refine And.intro (fun _ => ?_) (fun q => absurd (e1.trans e2.symm) q)
  refine And.intro (fun q => ?_) (fun q => absurd (show (nI 6 - 6 : Int32) < 0 + 6 by decide) q)
  exact rfl
set_option maxHeartbeats 1000000 in
theorem lc_20 {d : Nat} (hd : 9 ≤ d) {xs : Nat → Int32} {I : mv_I} {J : mv_J} (fr : mv_fr I) (fm : mv_fm I) : mv_wp (mv_wpM mv_tab mv_sh d) mv_sh (some (6, xs)) tbC_20 flL csL 1 (fun _ _ _ _ _ => False) (fun r _ _ => r = some (.inl 1)) 200 892 [some (.inr (.inr 999)), some (.inr (.inr 0)), some (.inr (.inr 12)), some (.inl 0)] [] I J := by
  obtain ⟨s0, s1, s2, s3, s4, s5⟩ := mi_sc
  refine And.intro s1 ?_
  refine f_lay (by omega) _ fr (fun r1 I1 m1 e1 => ?_)
  refine And.intro s1 ?_
  refine g_lay (by omega) _ (m1.fm fm) (fun r2 I2 J2 e2 => ?_)
  refine And.intro (fun _ => ?_) (fun q => absurd (e1.trans e2.symm) q)
  refine And.intro (fun q => ?_) (fun q => absurd (show (nI 6 - 6 : Int32) < 0 + 6 by decide) q)
  exact rfl
set_option maxHeartbeats 1000000 in
theorem lc_21 {d : Nat} (hd : 9 ≤ d) {xs : Nat → Int32} {I : mv_I} {J : mv_J} (fr : mv_fr I) (fm : mv_fm I) : mv_wp (mv_wpM mv_tab mv_sh d) mv_sh (some (6, xs)) tbC_21 flL csL 1 (fun _ _ _ _ _ => False) (fun r _ _ => r = some (.inl 1)) 200 915 [some (.inr (.inr 999)), some (.inr (.inr 0)), some (.inr (.inr 12)), some (.inl 0)] [] I J := by
  obtain ⟨s0, s1, s2, s3, s4, s5⟩ := mi_sc
  refine And.intro s1 ?_
  refine And.intro s2 ?_
  refine f_laid (by omega) _ _ fr (fun r1 I1 m1 e1 => ?_)
  refine And.intro s1 ?_
  refine And.intro s2 ?_
  refine g_laid (by omega) _ _ (m1.fm fm) (fun r2 I2 J2 e2 => ?_)
  refine And.intro (fun _ => ?_) (fun q => absurd (e1.trans e2.symm) q)
  refine And.intro (fun q => ?_) (fun q => absurd (show (nI 6 - 6 : Int32) < 0 + 6 by decide) q)
  exact rfl
set_option maxHeartbeats 1000000 in
theorem lc_22 {d : Nat} (hd : 9 ≤ d) {xs : Nat → Int32} {I : mv_I} {J : mv_J} (fr : mv_fr I) (fm : mv_fm I) : mv_wp (mv_wpM mv_tab mv_sh d) mv_sh (some (6, xs)) tbC_22 flL csL 1 (fun _ _ _ _ _ => False) (fun r _ _ => r = some (.inl 1)) 200 948 [some (.inr (.inr 999)), some (.inr (.inr 0)), some (.inr (.inr 12)), some (.inl 0)] [] I J := by
  obtain ⟨s0, s1, s2, s3, s4, s5⟩ := mi_sc
  refine And.intro s1 ?_
  refine f_count (by omega) _ fr (fun r1 I1 m1 e1 => ?_)
  refine And.intro s1 ?_
  refine g_count (by omega) _ (m1.fm fm) (fun r2 I2 J2 e2 => ?_)
  refine And.intro (fun _ => ?_) (fun q => absurd (e1.trans e2.symm) q)
  refine And.intro (fun q => ?_) (fun q => absurd (show (nI 6 - 6 : Int32) < 0 + 6 by decide) q)
  exact rfl
set_option maxHeartbeats 1000000 in
theorem lc_23 {d : Nat} (hd : 9 ≤ d) {xs : Nat → Int32} {I : mv_I} {J : mv_J} (fr : mv_fr I) (fm : mv_fm I) : mv_wp (mv_wpM mv_tab mv_sh d) mv_sh (some (6, xs)) tbC_23 flL csL 1 (fun _ _ _ _ _ => False) (fun r _ _ => r = some (.inl 1)) 200 971 [some (.inr (.inr 999)), some (.inr (.inr 0)), some (.inr (.inr 12)), some (.inl 0)] [] I J := by
  obtain ⟨s0, s1, s2, s3, s4, s5⟩ := mi_sc
  refine And.intro s1 ?_
  refine And.intro s2 ?_
  refine And.intro s3 ?_
  refine f_sheet (by omega) _ _ _ fr (fun r1 I1 m1 e1 => ?_)
  refine And.intro s1 ?_
  refine And.intro s2 ?_
  refine And.intro s3 ?_
  refine g_sheet (by omega) _ _ _ (m1.fm fm) (fun r2 I2 J2 e2 => ?_)
  refine And.intro (fun _ => ?_) (fun q => absurd (e1.trans e2.symm) q)
  refine And.intro (fun q => ?_) (fun q => absurd (show (nI 6 - 6 : Int32) < 0 + 6 by decide) q)
  exact rfl
set_option maxHeartbeats 1000000 in
theorem lc_24 {d : Nat} (hd : 9 ≤ d) {xs : Nat → Int32} {I : mv_I} {J : mv_J} (fr : mv_fr I) (fm : mv_fm I) : mv_wp (mv_wpM mv_tab mv_sh d) mv_sh (some (6, xs)) tbC_24 flL csL 1 (fun _ _ _ _ _ => False) (fun r _ _ => r = some (.inl 1)) 200 1014 [some (.inr (.inr 999)), some (.inr (.inr 0)), some (.inr (.inr 12)), some (.inl 0)] [] I J := by
  obtain ⟨s0, s1, s2, s3, s4, s5⟩ := mi_sc
  refine And.intro s1 ?_
  refine f_drop (by omega) _ fr (fun r1 I1 m1 e1 => ?_)
  refine And.intro s1 ?_
  refine g_drop (by omega) _ (m1.fm fm) (fun r2 I2 J2 e2 => ?_)
  refine And.intro (fun _ => ?_) (fun q => absurd (e1.trans e2.symm) q)
  refine And.intro (fun q => ?_) (fun q => absurd (show (nI 6 - 6 : Int32) < 0 + 6 by decide) q)
  exact rfl
set_option maxHeartbeats 1000000 in
theorem lc_25 {d : Nat} (hd : 9 ≤ d) {xs : Nat → Int32} {I : mv_I} {J : mv_J} (fr : mv_fr I) (fm : mv_fm I) : mv_wp (mv_wpM mv_tab mv_sh d) mv_sh (some (6, xs)) tbC_25 flL csL 1 (fun _ _ _ _ _ => False) (fun r _ _ => r = some (.inl 1)) 200 1037 [some (.inr (.inr 999)), some (.inr (.inr 0)), some (.inr (.inr 12)), some (.inl 0)] [] I J := by
  obtain ⟨s0, s1, s2, s3, s4, s5⟩ := mi_sc
  refine And.intro s1 ?_
  refine And.intro s2 ?_
  refine And.intro s3 ?_
  refine And.intro s4 ?_
  refine f_item (by omega) _ _ _ _ fr (fun r1 I1 m1 e1 => ?_)
  refine And.intro s1 ?_
  refine And.intro s2 ?_
  refine And.intro s3 ?_
  refine And.intro s4 ?_
  refine g_item (by omega) _ _ _ _ (m1.fm fm) (fun r2 I2 J2 e2 => ?_)
  refine And.intro (fun _ => ?_) (fun q => absurd (e1.trans e2.symm) q)
  refine And.intro (fun q => ?_) (fun q => absurd (show (nI 6 - 6 : Int32) < 0 + 6 by decide) q)
  exact rfl
set_option maxHeartbeats 1000000 in
theorem lc_26 {d : Nat} (hd : 9 ≤ d) {xs : Nat → Int32} {I : mv_I} {J : mv_J} (fr : mv_fr I) (fm : mv_fm I) : mv_wp (mv_wpM mv_tab mv_sh d) mv_sh (some (6, xs)) tbC_26 flL csL 1 (fun _ _ _ _ _ => False) (fun r _ _ => r = some (.inl 1)) 200 1090 [some (.inr (.inr 999)), some (.inr (.inr 0)), some (.inr (.inr 12)), some (.inl 0)] [] I J := by
  obtain ⟨s0, s1, s2, s3, s4, s5⟩ := mi_sc
  refine And.intro s1 ?_
  refine And.intro s2 ?_
  refine And.intro s3 ?_
  refine And.intro s4 ?_
  refine And.intro s5 ?_
  refine f_copy (by omega) _ _ _ _ _ fr (fun r1 I1 m1 e1 => ?_)
  refine And.intro s1 ?_
  refine And.intro s2 ?_
  refine And.intro s3 ?_
  refine And.intro s4 ?_
  refine And.intro s5 ?_
  refine g_copy (by omega) _ _ _ _ _ (m1.fm fm) (fun r2 I2 J2 e2 => ?_)
  refine And.intro (fun _ => ?_) (fun q => absurd (e1.trans e2.symm) q)
  refine And.intro (fun q => ?_) (fun q => absurd (show (nI 6 - 6 : Int32) < 0 + 6 by decide) q)
  exact rfl
end
