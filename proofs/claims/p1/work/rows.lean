section
-- ===== PART A: goes FIRST, ahead of the names: the tables' words, and 'selects' of the private methods out of them =====
/-- a private method of a class that the tables say can be made, by its rows of tables_1 -/
def lw_okq (q : MethodName × Nat) : Prop := (q.1.cls ≠ "java/lang/invoke/MethodHandle" ∧ q.1.cls ≠ "java/lang/invoke/VarHandle") ∧ Cond.instantiable q.1.cls q.2 ∈ tables_1 ∧ Cond.privateMethod q.1 ∈ tables_1 ∧ Cond.instanceMethod q.1 ∈ tables_1
theorem lw_p0 : lw_okq (⟨"SaltPool$Pool", "partAmong", "(I)V"⟩, 13) := ⟨⟨by decide +kernel, by decide +kernel⟩, List.mem_of_getElem? (i := 23) (by decide +kernel), List.mem_of_getElem? (i := 339) (by decide +kernel), List.mem_of_getElem? (i := 340) (by decide +kernel)⟩
theorem lw_p1 : lw_okq (⟨"SaltPool$Pool", "partsAmong", "()I"⟩, 13) := ⟨⟨by decide +kernel, by decide +kernel⟩, List.mem_of_getElem? (i := 23) (by decide +kernel), List.mem_of_getElem? (i := 343) (by decide +kernel), List.mem_of_getElem? (i := 344) (by decide +kernel)⟩
theorem lw_p2 : lw_okq (⟨"SaltPool$Pool", "raiseGreatestRests", "(I)V"⟩, 13) := ⟨⟨by decide +kernel, by decide +kernel⟩, List.mem_of_getElem? (i := 23) (by decide +kernel), List.mem_of_getElem? (i := 347) (by decide +kernel), List.mem_of_getElem? (i := 348) (by decide +kernel)⟩
theorem lw_p3 : lw_okq (⟨"SaltPool$Pool", "lentTo", "(III)I"⟩, 13) := ⟨⟨by decide +kernel, by decide +kernel⟩, List.mem_of_getElem? (i := 23) (by decide +kernel), List.mem_of_getElem? (i := 355) (by decide +kernel), List.mem_of_getElem? (i := 356) (by decide +kernel)⟩
theorem lw_p4 : lw_okq (⟨"SaltPool", "isAsked", "(III)Z"⟩, 8) := ⟨⟨by decide +kernel, by decide +kernel⟩, List.mem_of_getElem? (i := 15) (by decide +kernel), List.mem_of_getElem? (i := 374) (by decide +kernel), List.mem_of_getElem? (i := 375) (by decide +kernel)⟩
theorem lw_p5 : lw_okq (⟨"SaltPool$Tape", "readPair", "(I)Z"⟩, 4) := ⟨⟨by decide +kernel, by decide +kernel⟩, List.mem_of_getElem? (i := 75) (by decide +kernel), List.mem_of_getElem? (i := 416) (by decide +kernel), List.mem_of_getElem? (i := 417) (by decide +kernel)⟩
theorem lw_p6 : lw_okq (⟨"SaltPool$Tape", "readNumber", "(II)I"⟩, 4) := ⟨⟨by decide +kernel, by decide +kernel⟩, List.mem_of_getElem? (i := 75) (by decide +kernel), List.mem_of_getElem? (i := 420) (by decide +kernel), List.mem_of_getElem? (i := 421) (by decide +kernel)⟩
theorem lw_p7 : lw_okq (⟨"SaltPool$Tape", "skipBlanks", "()V"⟩, 4) := ⟨⟨by decide +kernel, by decide +kernel⟩, List.mem_of_getElem? (i := 75) (by decide +kernel), List.mem_of_getElem? (i := 424) (by decide +kernel), List.mem_of_getElem? (i := 425) (by decide +kernel)⟩
theorem lw_p8 : lw_okq (⟨"SaltPool$Tape", "readSign", "(C)Z"⟩, 4) := ⟨⟨by decide +kernel, by decide +kernel⟩, List.mem_of_getElem? (i := 75) (by decide +kernel), List.mem_of_getElem? (i := 432) (by decide +kernel), List.mem_of_getElem? (i := 433) (by decide +kernel)⟩
theorem lw_p9 : lw_okq (⟨"SaltPool$Mole", "seek", "(LSaltPool$Fleet;LSaltPool$Sea;IIII)V"⟩, 8) := ⟨⟨by decide +kernel, by decide +kernel⟩, List.mem_of_getElem? (i := 196) (by decide +kernel), List.mem_of_getElem? (i := 539) (by decide +kernel), List.mem_of_getElem? (i := 540) (by decide +kernel)⟩
theorem lw_p10 : lw_okq (⟨"SaltPool$Mole", "keepCheapest", "(LSaltPool$Fleet;LSaltPool$Sea;I)V"⟩, 8) := ⟨⟨by decide +kernel, by decide +kernel⟩, List.mem_of_getElem? (i := 196) (by decide +kernel), List.mem_of_getElem? (i := 567) (by decide +kernel), List.mem_of_getElem? (i := 568) (by decide +kernel)⟩
theorem lw_p11 : lw_okq (⟨"SaltPoolModel", "isWorks", "(I)Z"⟩, 46) := ⟨⟨by decide +kernel, by decide +kernel⟩, List.mem_of_getElem? (i := 611) (by decide +kernel), List.mem_of_getElem? (i := 772) (by decide +kernel), List.mem_of_getElem? (i := 773) (by decide +kernel)⟩
theorem lw_p12 : lw_okq (⟨"SaltPoolModel", "isLot", "(I)Z"⟩, 46) := ⟨⟨by decide +kernel, by decide +kernel⟩, List.mem_of_getElem? (i := 611) (by decide +kernel), List.mem_of_getElem? (i := 780) (by decide +kernel), List.mem_of_getElem? (i := 781) (by decide +kernel)⟩
theorem lw_p13 : lw_okq (⟨"SaltPoolModel", "inHolds", "(I)I"⟩, 46) := ⟨⟨by decide +kernel, by decide +kernel⟩, List.mem_of_getElem? (i := 611) (by decide +kernel), List.mem_of_getElem? (i := 788) (by decide +kernel), List.mem_of_getElem? (i := 789) (by decide +kernel)⟩
theorem lw_p14 : lw_okq (⟨"SaltPoolModel", "quotas", "(II)V"⟩, 46) := ⟨⟨by decide +kernel, by decide +kernel⟩, List.mem_of_getElem? (i := 611) (by decide +kernel), List.mem_of_getElem? (i := 802) (by decide +kernel), List.mem_of_getElem? (i := 803) (by decide +kernel)⟩
theorem lw_p15 : lw_okq (⟨"SaltPoolModel", "isOpen", "(III)Z"⟩, 46) := ⟨⟨by decide +kernel, by decide +kernel⟩, List.mem_of_getElem? (i := 611) (by decide +kernel), List.mem_of_getElem? (i := 806) (by decide +kernel), List.mem_of_getElem? (i := 807) (by decide +kernel)⟩
def lw_privs_1 : List (MethodName × Nat) := [(⟨"SaltPool$Pool", "partAmong", "(I)V"⟩, 13), (⟨"SaltPool$Pool", "partsAmong", "()I"⟩, 13), (⟨"SaltPool$Pool", "raiseGreatestRests", "(I)V"⟩, 13), (⟨"SaltPool$Pool", "lentTo", "(III)I"⟩, 13), (⟨"SaltPool", "isAsked", "(III)Z"⟩, 8), (⟨"SaltPool$Tape", "readPair", "(I)Z"⟩, 4), (⟨"SaltPool$Tape", "readNumber", "(II)I"⟩, 4), (⟨"SaltPool$Tape", "skipBlanks", "()V"⟩, 4), (⟨"SaltPool$Tape", "readSign", "(C)Z"⟩, 4), (⟨"SaltPool$Mole", "seek", "(LSaltPool$Fleet;LSaltPool$Sea;IIII)V"⟩, 8), (⟨"SaltPool$Mole", "keepCheapest", "(LSaltPool$Fleet;LSaltPool$Sea;I)V"⟩, 8), (⟨"SaltPoolModel", "isWorks", "(I)Z"⟩, 46), (⟨"SaltPoolModel", "isLot", "(I)Z"⟩, 46), (⟨"SaltPoolModel", "inHolds", "(I)I"⟩, 46), (⟨"SaltPoolModel", "quotas", "(II)V"⟩, 46), (⟨"SaltPoolModel", "isOpen", "(III)Z"⟩, 46)]
theorem lw_r1 : ∀ q ∈ lw_privs_1, lw_okq q := List.forall_mem_cons.mpr ⟨lw_p0, List.forall_mem_cons.mpr ⟨lw_p1, List.forall_mem_cons.mpr ⟨lw_p2, List.forall_mem_cons.mpr ⟨lw_p3, List.forall_mem_cons.mpr ⟨lw_p4, List.forall_mem_cons.mpr ⟨lw_p5, List.forall_mem_cons.mpr ⟨lw_p6, List.forall_mem_cons.mpr ⟨lw_p7, List.forall_mem_cons.mpr ⟨lw_p8, List.forall_mem_cons.mpr ⟨lw_p9, List.forall_mem_cons.mpr ⟨lw_p10, List.forall_mem_cons.mpr ⟨lw_p11, List.forall_mem_cons.mpr ⟨lw_p12, List.forall_mem_cons.mpr ⟨lw_p13, List.forall_mem_cons.mpr ⟨lw_p14, List.forall_mem_cons.mpr ⟨lw_p15, fun _ h => absurd h List.not_mem_nil⟩⟩⟩⟩⟩⟩⟩⟩⟩⟩⟩⟩⟩⟩⟩⟩
theorem lw_p16 : lw_okq (⟨"SaltPoolModel", "part", "(JI)V"⟩, 46) := ⟨⟨by decide +kernel, by decide +kernel⟩, List.mem_of_getElem? (i := 611) (by decide +kernel), List.mem_of_getElem? (i := 810) (by decide +kernel), List.mem_of_getElem? (i := 811) (by decide +kernel)⟩
theorem lw_p17 : lw_okq (⟨"SaltPoolModel", "entry", "(IIIII)I"⟩, 46) := ⟨⟨by decide +kernel, by decide +kernel⟩, List.mem_of_getElem? (i := 611) (by decide +kernel), List.mem_of_getElem? (i := 814) (by decide +kernel), List.mem_of_getElem? (i := 815) (by decide +kernel)⟩
theorem lw_p18 : lw_okq (⟨"SaltPoolModel", "isAsOf", "(III)Z"⟩, 46) := ⟨⟨by decide +kernel, by decide +kernel⟩, List.mem_of_getElem? (i := 611) (by decide +kernel), List.mem_of_getElem? (i := 826) (by decide +kernel), List.mem_of_getElem? (i := 827) (by decide +kernel)⟩
theorem lw_p19 : lw_okq (⟨"SaltPoolModel", "leftOf", "(I)I"⟩, 46) := ⟨⟨by decide +kernel, by decide +kernel⟩, List.mem_of_getElem? (i := 611) (by decide +kernel), List.mem_of_getElem? (i := 839) (by decide +kernel), List.mem_of_getElem? (i := 840) (by decide +kernel)⟩
theorem lw_p20 : lw_okq (⟨"SaltPoolModel", "reads", "()I"⟩, 46) := ⟨⟨by decide +kernel, by decide +kernel⟩, List.mem_of_getElem? (i := 611) (by decide +kernel), List.mem_of_getElem? (i := 852) (by decide +kernel), List.mem_of_getElem? (i := 853) (by decide +kernel)⟩
theorem lw_p21 : lw_okq (⟨"SaltPoolModel", "number", "(II)I"⟩, 46) := ⟨⟨by decide +kernel, by decide +kernel⟩, List.mem_of_getElem? (i := 611) (by decide +kernel), List.mem_of_getElem? (i := 856) (by decide +kernel), List.mem_of_getElem? (i := 857) (by decide +kernel)⟩
theorem lw_p22 : lw_okq (⟨"SaltPoolModel", "next", "()I"⟩, 46) := ⟨⟨by decide +kernel, by decide +kernel⟩, List.mem_of_getElem? (i := 611) (by decide +kernel), List.mem_of_getElem? (i := 860) (by decide +kernel), List.mem_of_getElem? (i := 861) (by decide +kernel)⟩
theorem lw_p23 : lw_okq (⟨"SaltPoolModel", "isShip", "(I)Z"⟩, 46) := ⟨⟨by decide +kernel, by decide +kernel⟩, List.mem_of_getElem? (i := 611) (by decide +kernel), List.mem_of_getElem? (i := 872) (by decide +kernel), List.mem_of_getElem? (i := 873) (by decide +kernel)⟩
theorem lw_p24 : lw_okq (⟨"SaltPoolModel", "inHold", "(I)I"⟩, 46) := ⟨⟨by decide +kernel, by decide +kernel⟩, List.mem_of_getElem? (i := 611) (by decide +kernel), List.mem_of_getElem? (i := 876) (by decide +kernel), List.mem_of_getElem? (i := 877) (by decide +kernel)⟩
theorem lw_p25 : lw_okq (⟨"SaltPoolModel", "taken", "(I)I"⟩, 46) := ⟨⟨by decide +kernel, by decide +kernel⟩, List.mem_of_getElem? (i := 611) (by decide +kernel), List.mem_of_getElem? (i := 892) (by decide +kernel), List.mem_of_getElem? (i := 893) (by decide +kernel)⟩
theorem lw_p26 : lw_okq (⟨"SaltPoolModel", "costOf", "(I)I"⟩, 46) := ⟨⟨by decide +kernel, by decide +kernel⟩, List.mem_of_getElem? (i := 611) (by decide +kernel), List.mem_of_getElem? (i := 904) (by decide +kernel), List.mem_of_getElem? (i := 905) (by decide +kernel)⟩
theorem lw_p27 : lw_okq (⟨"SaltPoolModel", "endOf", "(II)I"⟩, 46) := ⟨⟨by decide +kernel, by decide +kernel⟩, List.mem_of_getElem? (i := 611) (by decide +kernel), List.mem_of_getElem? (i := 908) (by decide +kernel), List.mem_of_getElem? (i := 909) (by decide +kernel)⟩
theorem lw_p28 : lw_okq (⟨"SaltPoolModel", "lets", "(I)Z"⟩, 46) := ⟨⟨by decide +kernel, by decide +kernel⟩, List.mem_of_getElem? (i := 611) (by decide +kernel), List.mem_of_getElem? (i := 912) (by decide +kernel), List.mem_of_getElem? (i := 913) (by decide +kernel)⟩
theorem lw_p29 : lw_okq (⟨"SaltPoolModel", "keep", "(I)V"⟩, 46) := ⟨⟨by decide +kernel, by decide +kernel⟩, List.mem_of_getElem? (i := 611) (by decide +kernel), List.mem_of_getElem? (i := 916) (by decide +kernel), List.mem_of_getElem? (i := 917) (by decide +kernel)⟩
theorem lw_p30 : lw_okq (⟨"SaltPoolModel", "countsUp", "(I)Z"⟩, 46) := ⟨⟨by decide +kernel, by decide +kernel⟩, List.mem_of_getElem? (i := 611) (by decide +kernel), List.mem_of_getElem? (i := 920) (by decide +kernel), List.mem_of_getElem? (i := 921) (by decide +kernel)⟩
theorem lw_p31 : lw_okq (⟨"SaltPoolModel", "swap", "(II)V"⟩, 46) := ⟨⟨by decide +kernel, by decide +kernel⟩, List.mem_of_getElem? (i := 611) (by decide +kernel), List.mem_of_getElem? (i := 924) (by decide +kernel), List.mem_of_getElem? (i := 925) (by decide +kernel)⟩
def lw_privs_2 : List (MethodName × Nat) := [(⟨"SaltPoolModel", "part", "(JI)V"⟩, 46), (⟨"SaltPoolModel", "entry", "(IIIII)I"⟩, 46), (⟨"SaltPoolModel", "isAsOf", "(III)Z"⟩, 46), (⟨"SaltPoolModel", "leftOf", "(I)I"⟩, 46), (⟨"SaltPoolModel", "reads", "()I"⟩, 46), (⟨"SaltPoolModel", "number", "(II)I"⟩, 46), (⟨"SaltPoolModel", "next", "()I"⟩, 46), (⟨"SaltPoolModel", "isShip", "(I)Z"⟩, 46), (⟨"SaltPoolModel", "inHold", "(I)I"⟩, 46), (⟨"SaltPoolModel", "taken", "(I)I"⟩, 46), (⟨"SaltPoolModel", "costOf", "(I)I"⟩, 46), (⟨"SaltPoolModel", "endOf", "(II)I"⟩, 46), (⟨"SaltPoolModel", "lets", "(I)Z"⟩, 46), (⟨"SaltPoolModel", "keep", "(I)V"⟩, 46), (⟨"SaltPoolModel", "countsUp", "(I)Z"⟩, 46), (⟨"SaltPoolModel", "swap", "(II)V"⟩, 46)]
theorem lw_r2 : ∀ q ∈ lw_privs_2, lw_okq q := List.forall_mem_cons.mpr ⟨lw_p16, List.forall_mem_cons.mpr ⟨lw_p17, List.forall_mem_cons.mpr ⟨lw_p18, List.forall_mem_cons.mpr ⟨lw_p19, List.forall_mem_cons.mpr ⟨lw_p20, List.forall_mem_cons.mpr ⟨lw_p21, List.forall_mem_cons.mpr ⟨lw_p22, List.forall_mem_cons.mpr ⟨lw_p23, List.forall_mem_cons.mpr ⟨lw_p24, List.forall_mem_cons.mpr ⟨lw_p25, List.forall_mem_cons.mpr ⟨lw_p26, List.forall_mem_cons.mpr ⟨lw_p27, List.forall_mem_cons.mpr ⟨lw_p28, List.forall_mem_cons.mpr ⟨lw_p29, List.forall_mem_cons.mpr ⟨lw_p30, List.forall_mem_cons.mpr ⟨lw_p31, fun _ h => absurd h List.not_mem_nil⟩⟩⟩⟩⟩⟩⟩⟩⟩⟩⟩⟩⟩⟩⟩⟩
theorem lw_p32 : lw_okq (⟨"SaltPoolModel", "isWithin", "(III)Z"⟩, 46) := ⟨⟨by decide +kernel, by decide +kernel⟩, List.mem_of_getElem? (i := 611) (by decide +kernel), List.mem_of_getElem? (i := 955) (by decide +kernel), List.mem_of_getElem? (i := 956) (by decide +kernel)⟩
def lw_privs_3 : List (MethodName × Nat) := [(⟨"SaltPoolModel", "isWithin", "(III)Z"⟩, 46)]
theorem lw_r3 : ∀ q ∈ lw_privs_3, lw_okq q := List.forall_mem_cons.mpr ⟨lw_p32, fun _ h => absurd h List.not_mem_nil⟩
def lw_privs : List (MethodName × Nat) := lw_privs_1 ++ (lw_privs_2 ++ (lw_privs_3))
def lw_tbl : List Cond := k2_sels lw_privs ++ tables_1
theorem lw_privs_ok : ∀ q ∈ lw_privs, lw_okq q := by
  show ∀ q ∈ lw_privs_1 ++ (lw_privs_2 ++ (lw_privs_3)), lw_okq q
  exact List.forall_mem_append.mpr ⟨lw_r1, List.forall_mem_append.mpr ⟨lw_r2, lw_r3⟩⟩
end
section
/-! ===== BEGIN words of one list among another's, by their places ===== -/
theorem goodIn_r {big : List Cond} (ws : List Cond) (ps : List Nat) (hp : ws = ps.filterMap (fun i => big[i]?)) (h : ws.all goodWord = true) : GoodIn big ws := by
  intro w hw
  have h1 := List.all_eq_true.mp h w hw
  rw [hp] at hw
  obtain ⟨i, -, hi⟩ := List.mem_filterMap.mp hw
  have hm : w ∈ big := by first | exact List.mem_of_getElem? hi | exact List.getElem?_mem hi
  exact ⟨hm, good_of_word h1⟩
theorem goodIn_app {big a b : List Cond} (ha : GoodIn big a) (hb : GoodIn big b) : GoodIn big (a ++ b) := fun w h => (List.mem_append.mp h).elim (ha w) (hb w)
theorem goodIn_ca {big a b : List Cond} {c : Cond} (ha : GoodIn big (c :: a)) (hb : GoodIn big b) : GoodIn big (c :: (a ++ b)) := fun w h => (List.mem_cons.mp h).elim (fun e => ha w (List.mem_cons.mpr (Or.inl e))) (fun h => (List.mem_append.mp h).elim (fun h => ha w (List.mem_cons.mpr (Or.inr h))) (hb w))
theorem goodIn_sub {big ws : List Cond} (hm : ∀ w ∈ ws, w ∈ big) (h : ws.all goodWord = true) : GoodIn big ws := fun w hw => ⟨hm w hw, good_of_word (List.all_eq_true.mp h w hw)⟩
/-! ===== END ===== -/

/-! ===== BEGIN printed: names, fields, word lists, decode rows ===== -/
def RX0 : String := "SaltPool$Fleet"
def TX0 : u_T := fun k => match k with
  | 0 => ("SaltPool$Fleet", "arrival", "[I", true)
  | 1 => ("SaltPool$Fleet", "room", "[I", true)
  | 2 => ("SaltPool$Fleet", "rate", "[I", true)
  | 3 => ("SaltPool$Fleet", "layDays", "[I", true)
  | 4 => ("SaltPool$Fleet", "due", "[I", true)
  | 5 => ("SaltPool$Fleet", "stowed", "[I", true)
  | 6 => ("SaltPool$Fleet", "stowedLots", "[I", true)
  | _ => ("SaltPool$Fleet", "count", "I", false)
def tyX0 : Nat → FieldType := fun k => match k with
  | 0 => .array .int
  | 1 => .array .int
  | 2 => .array .int
  | 3 => .array .int
  | 4 => .array .int
  | 5 => .array .int
  | 6 => .array .int
  | _ => .int
abbrev wsX00 : List Cond := u_ws RX0 TX0 8
theorem nmX0 : ∀ a, a < 8 → ∀ b, b < 8 → a ≠ b → (TX0 a).2.1 ≠ (TX0 b).2.1 := by decide +kernel
theorem tyX0_ok : ∀ k, k < 8 → parseFieldDescriptor (TX0 k).2.2.1 = some (tyX0 k) := by decide +kernel
abbrev cX0_init : ByteArray := prog_2_method_1_code
def yX0_init : MethodName := ⟨RX0, "<init>", "()V"⟩
abbrev cX0_has : ByteArray := prog_2_method_2_code
def yX0_has : MethodName := ⟨RX0, "has", "(I)Z"⟩
abbrev cX0_add : ByteArray := prog_2_method_3_code
def yX0_add : MethodName := ⟨RX0, "add", "(IIIII)I"⟩
abbrev cX0_freeRoom : ByteArray := prog_2_method_4_code
def yX0_freeRoom : MethodName := ⟨RX0, "freeRoom", "(I)I"⟩
abbrev cX0_stow : ByteArray := prog_2_method_5_code
def yX0_stow : MethodName := ⟨RX0, "stow", "(III)I"⟩
abbrev cX0_stowedOf : ByteArray := prog_2_method_6_code
def yX0_stowedOf : MethodName := ⟨RX0, "stowedOf", "(II)I"⟩
abbrev cX0_turnBehind : ByteArray := prog_2_method_7_code
def yX0_turnBehind : MethodName := ⟨RX0, "turnBehind", "(II)I"⟩
abbrev cX0_loadingDays : ByteArray := prog_2_method_8_code
def yX0_loadingDays : MethodName := ⟨RX0, "loadingDays", "(I)I"⟩
abbrev cX0_costOf : ByteArray := prog_2_method_9_code
def yX0_costOf : MethodName := ⟨RX0, "costOf", "(II)I"⟩
def RX1 : String := "SaltPool$Lots"
def TX1 : u_T := fun k => match k with
  | 0 => ("SaltPool$Lots", "works", "[I", true)
  | 1 => ("SaltPool$Lots", "grade", "[I", true)
  | 2 => ("SaltPool$Lots", "week", "[I", true)
  | 3 => ("SaltPool$Lots", "inPit", "[I", true)
  | 4 => ("SaltPool$Lots", "atPort", "[I", true)
  | 5 => ("SaltPool$Lots", "inHolds", "[I", true)
  | _ => ("SaltPool$Lots", "count", "I", false)
def tyX1 : Nat → FieldType := fun k => match k with
  | 0 => .array .int
  | 1 => .array .int
  | 2 => .array .int
  | 3 => .array .int
  | 4 => .array .int
  | 5 => .array .int
  | _ => .int
abbrev wsX10 : List Cond := u_ws RX1 TX1 7
theorem nmX1 : ∀ a, a < 7 → ∀ b, b < 7 → a ≠ b → (TX1 a).2.1 ≠ (TX1 b).2.1 := by decide +kernel
theorem tyX1_ok : ∀ k, k < 7 → parseFieldDescriptor (TX1 k).2.2.1 = some (tyX1 k) := by decide +kernel
abbrev cX1_init : ByteArray := prog_3_method_1_code
def yX1_init : MethodName := ⟨RX1, "<init>", "()V"⟩
abbrev cX1_has : ByteArray := prog_3_method_2_code
def yX1_has : MethodName := ⟨RX1, "has", "(I)Z"⟩
abbrev cX1_add : ByteArray := prog_3_method_3_code
def yX1_add : MethodName := ⟨RX1, "add", "(IIII)I"⟩
abbrev cX1_moveToPort : ByteArray := prog_3_method_4_code
def yX1_moveToPort : MethodName := ⟨RX1, "moveToPort", "(II)V"⟩
abbrev cX1_moveToHolds : ByteArray := prog_3_method_5_code
def yX1_moveToHolds : MethodName := ⟨RX1, "moveToHolds", "(II)V"⟩
abbrev cX1_sumOf : ByteArray := prog_3_method_6_code
def yX1_sumOf : MethodName := ⟨RX1, "sumOf", "([I)I"⟩
def RX2 : String := "SaltPool$Mole"
def TX2 : u_T := fun k => match k with
  | 0 => ("SaltPool$Mole", "place", "[I", true)
  | 1 => ("SaltPool$Mole", "turn", "[I", true)
  | 2 => ("SaltPool$Mole", "end", "[I", true)
  | 3 => ("SaltPool$Mole", "cost", "[I", true)
  | 4 => ("SaltPool$Mole", "hasOrder", "Z", false)
  | 5 => ("SaltPool$Mole", "order", "[I", true)
  | 6 => ("SaltPool$Mole", "cheapest", "[I", true)
  | _ => ("SaltPool$Mole", "least", "I", false)
def tyX2 : Nat → FieldType := fun k => match k with
  | 0 => .array .int
  | 1 => .array .int
  | 2 => .array .int
  | 3 => .array .int
  | 4 => .boolean
  | 5 => .array .int
  | 6 => .array .int
  | _ => .int
abbrev wsX20 : List Cond := u_ws RX2 TX2 8
theorem nmX2 : ∀ a, a < 8 → ∀ b, b < 8 → a ≠ b → (TX2 a).2.1 ≠ (TX2 b).2.1 := by decide +kernel
theorem tyX2_ok : ∀ k, k < 8 → parseFieldDescriptor (TX2 k).2.2.1 = some (tyX2 k) := by decide +kernel
abbrev cX2_init : ByteArray := prog_4_method_1_code
def yX2_init : MethodName := ⟨RX2, "<init>", "()V"⟩
abbrev cX2_layCheapest : ByteArray := prog_4_method_2_code
def yX2_layCheapest : MethodName := ⟨RX2, "layCheapest", "(LSaltPool$Fleet;LSaltPool$Sea;I)I"⟩
abbrev cX2_seek : ByteArray := prog_4_method_3_code
def yX2_seek : MethodName := ⟨RX2, "seek", "(LSaltPool$Fleet;LSaltPool$Sea;IIII)V"⟩
abbrev cX2_keepCheapest : ByteArray := prog_4_method_4_code
def yX2_keepCheapest : MethodName := ⟨RX2, "keepCheapest", "(LSaltPool$Fleet;LSaltPool$Sea;I)V"⟩
def RX3 : String := "SaltPool$Pool"
def TX3 : u_T := fun k => match k with
  | 0 => ("SaltPool$Pool", "part", "[I", true)
  | 1 => ("SaltPool$Pool", "shipped", "[I", true)
  | 2 => ("SaltPool$Pool", "works", "I", false)
  | 3 => ("SaltPool$Pool", "total", "I", false)
  | 4 => ("SaltPool$Pool", "kind", "[I", true)
  | 5 => ("SaltPool$Pool", "of", "[I", true)
  | 6 => ("SaltPool$Pool", "to", "[I", true)
  | 7 => ("SaltPool$Pool", "sacks", "[I", true)
  | 8 => ("SaltPool$Pool", "week", "[I", true)
  | 9 => ("SaltPool$Pool", "entries", "I", false)
  | 10 => ("SaltPool$Pool", "share", "[I", true)
  | 11 => ("SaltPool$Pool", "rest", "[I", true)
  | _ => ("SaltPool$Pool", "among", "[Z", true)
def tyX3 : Nat → FieldType := fun k => match k with
  | 0 => .array .int
  | 1 => .array .int
  | 2 => .int
  | 3 => .int
  | 4 => .array .int
  | 5 => .array .int
  | 6 => .array .int
  | 7 => .array .int
  | 8 => .array .int
  | 9 => .int
  | 10 => .array .int
  | 11 => .array .int
  | _ => .array .boolean
abbrev wsX30 : List Cond := u_ws RX3 TX3 13
theorem nmX3 : ∀ a, a < 13 → ∀ b, b < 13 → a ≠ b → (TX3 a).2.1 ≠ (TX3 b).2.1 := by decide +kernel
theorem tyX3_ok : ∀ k, k < 13 → parseFieldDescriptor (TX3 k).2.2.1 = some (tyX3 k) := by decide +kernel
abbrev cX3_init : ByteArray := prog_5_method_1_code
def yX3_init : MethodName := ⟨RX3, "<init>", "()V"⟩
abbrev cX3_hasWorks : ByteArray := prog_5_method_2_code
def yX3_hasWorks : MethodName := ⟨RX3, "hasWorks", "(I)Z"⟩
abbrev cX3_addWorks : ByteArray := prog_5_method_3_code
def yX3_addWorks : MethodName := ⟨RX3, "addWorks", "(I)I"⟩
abbrev cX3_addEntry : ByteArray := prog_5_method_4_code
def yX3_addEntry : MethodName := ⟨RX3, "addEntry", "(IIIII)I"⟩
abbrev cX3_takeParts : ByteArray := prog_5_method_5_code
def yX3_takeParts : MethodName := ⟨RX3, "takeParts", "([I)V"⟩
abbrev cX3_unshipped : ByteArray := prog_5_method_6_code
def yX3_unshipped : MethodName := ⟨RX3, "unshipped", "(II)I"⟩
abbrev cX3_isOpen : ByteArray := prog_5_method_7_code
def yX3_isOpen : MethodName := ⟨RX3, "isOpen", "(III)Z"⟩
abbrev cX3_quotaOf : ByteArray := prog_5_method_8_code
def yX3_quotaOf : MethodName := ⟨RX3, "quotaOf", "(III)I"⟩
abbrev cX3_lentTo : ByteArray := prog_5_method_9_code
def yX3_lentTo : MethodName := ⟨RX3, "lentTo", "(III)I"⟩
abbrev cX3_partAmong : ByteArray := prog_5_method_10_code
def yX3_partAmong : MethodName := ⟨RX3, "partAmong", "(I)V"⟩
abbrev cX3_partsAmong : ByteArray := prog_5_method_11_code
def yX3_partsAmong : MethodName := ⟨RX3, "partsAmong", "()I"⟩
abbrev cX3_raiseGreatestRests : ByteArray := prog_5_method_12_code
def yX3_raiseGreatestRests : MethodName := ⟨RX3, "raiseGreatestRests", "(I)V"⟩
def RX4 : String := "SaltPool$Sea"
def TX4 : u_T := fun k => match k with
  | 0 => ("SaltPool$Sea", "surf", "[I", true)
  | 1 => ("SaltPool$Sea", "bar", "I", false)
  | 2 => ("SaltPool$Sea", "loadable", "[I", true)
  | 3 => ("SaltPool$Sea", "loadableBefore", "[I", true)
  | 4 => ("SaltPool$Sea", "loadables", "I", false)
  | _ => ("SaltPool$Sea", "loadsForEver", "Z", false)
def tyX4 : Nat → FieldType := fun k => match k with
  | 0 => .array .int
  | 1 => .int
  | 2 => .array .int
  | 3 => .array .int
  | 4 => .int
  | _ => .boolean
abbrev wsX40 : List Cond := u_ws RX4 TX4 6
theorem nmX4 : ∀ a, a < 6 → ∀ b, b < 6 → a ≠ b → (TX4 a).2.1 ≠ (TX4 b).2.1 := by decide +kernel
theorem tyX4_ok : ∀ k, k < 6 → parseFieldDescriptor (TX4 k).2.2.1 = some (tyX4 k) := by decide +kernel
abbrev cX4_init : ByteArray := prog_6_method_1_code
def yX4_init : MethodName := ⟨RX4, "<init>", "()V"⟩
abbrev cX4_takenOn : ByteArray := prog_6_method_2_code
def yX4_takenOn : MethodName := ⟨RX4, "takenOn", "(I)I"⟩
abbrev cX4_countLoadableDays : ByteArray := prog_6_method_3_code
def yX4_countLoadableDays : MethodName := ⟨RX4, "countLoadableDays", "()V"⟩
abbrev cX4_endFrom : ByteArray := prog_6_method_4_code
def yX4_endFrom : MethodName := ⟨RX4, "endFrom", "(II)I"⟩
def RX5 : String := "SaltPool$Sheet"
def TX5 : u_T := fun k => match k with
  | 0 => ("SaltPool$Sheet", "items", "[I", true)
  | 1 => ("SaltPool$Sheet", "lane", "I", false)
  | _ => ("SaltPool$Sheet", "length", "I", false)
def tyX5 : Nat → FieldType := fun k => match k with
  | 0 => .array .int
  | 1 => .int
  | _ => .int
abbrev wsX50 : List Cond := u_ws RX5 TX5 3
theorem nmX5 : ∀ a, a < 3 → ∀ b, b < 3 → a ≠ b → (TX5 a).2.1 ≠ (TX5 b).2.1 := by decide +kernel
theorem tyX5_ok : ∀ k, k < 3 → parseFieldDescriptor (TX5 k).2.2.1 = some (tyX5 k) := by decide +kernel
abbrev cX5_init : ByteArray := prog_7_method_1_code
def yX5_init : MethodName := ⟨RX5, "<init>", "()V"⟩
abbrev cX5_isNothing : ByteArray := prog_7_method_2_code
def yX5_isNothing : MethodName := ⟨RX5, "isNothing", "()Z"⟩
abbrev cX5_begin : ByteArray := prog_7_method_3_code
def yX5_begin : MethodName := ⟨RX5, "begin", "(II)V"⟩
abbrev cX5_hasItems : ByteArray := prog_7_method_4_code
def yX5_hasItems : MethodName := ⟨RX5, "hasItems", "(II)Z"⟩
abbrev cX5_faultAs : ByteArray := prog_7_method_5_code
def yX5_faultAs : MethodName := ⟨RX5, "faultAs", "(III)I"⟩
abbrev cX5_hasAbove : ByteArray := prog_7_method_6_code
def yX5_hasAbove : MethodName := ⟨RX5, "hasAbove", "(III)Z"⟩
abbrev cX5_put : ByteArray := prog_7_method_7_code
def yX5_put : MethodName := ⟨RX5, "put", "(II)V"⟩
def RX6 : String := "SaltPool$Tape"
def TX6 : u_T := fun k => match k with
  | 0 => ("SaltPool$Tape", "told", "[I", true)
  | 1 => ("SaltPool$Tape", "bytes", "[B", true)
  | 2 => ("SaltPool$Tape", "length", "I", false)
  | _ => ("SaltPool$Tape", "at", "I", false)
def tyX6 : Nat → FieldType := fun k => match k with
  | 0 => .array .int
  | 1 => .array .byte
  | 2 => .int
  | _ => .int
abbrev wsX60 : List Cond := u_ws RX6 TX6 4
theorem nmX6 : ∀ a, a < 4 → ∀ b, b < 4 → a ≠ b → (TX6 a).2.1 ≠ (TX6 b).2.1 := by decide +kernel
theorem tyX6_ok : ∀ k, k < 4 → parseFieldDescriptor (TX6 k).2.2.1 = some (tyX6 k) := by decide +kernel
abbrev cX6_init : ByteArray := prog_8_method_1_code
def yX6_init : MethodName := ⟨RX6, "<init>", "()V"⟩
abbrev cX6_canHold : ByteArray := prog_8_method_2_code
def yX6_canHold : MethodName := ⟨RX6, "canHold", "(JI)Z"⟩
abbrev cX6_byteOf : ByteArray := prog_8_method_3_code
def yX6_byteOf : MethodName := ⟨RX6, "byteOf", "(JI)I"⟩
abbrev cX6_append : ByteArray := prog_8_method_4_code
def yX6_append : MethodName := ⟨RX6, "append", "(JI)I"⟩
abbrev cX6_readPairs : ByteArray := prog_8_method_5_code
def yX6_readPairs : MethodName := ⟨RX6, "readPairs", "(I)I"⟩
abbrev cX6_readPair : ByteArray := prog_8_method_6_code
def yX6_readPair : MethodName := ⟨RX6, "readPair", "(I)Z"⟩
abbrev cX6_readSign : ByteArray := prog_8_method_7_code
def yX6_readSign : MethodName := ⟨RX6, "readSign", "(C)Z"⟩
abbrev cX6_readNumber : ByteArray := prog_8_method_8_code
def yX6_readNumber : MethodName := ⟨RX6, "readNumber", "(II)I"⟩
abbrev cX6_skipBlanks : ByteArray := prog_8_method_9_code
def yX6_skipBlanks : MethodName := ⟨RX6, "skipBlanks", "()V"⟩
def RX7 : String := "SaltPool"
def TX7 : u_T := fun k => match k with
  | 0 => ("SaltPool", "pool", "LSaltPool$Pool;", true)
  | 1 => ("SaltPool", "tape", "LSaltPool$Tape;", true)
  | 2 => ("SaltPool", "lots", "LSaltPool$Lots;", true)
  | 3 => ("SaltPool", "fleet", "LSaltPool$Fleet;", true)
  | 4 => ("SaltPool", "sea", "LSaltPool$Sea;", true)
  | 5 => ("SaltPool", "mole", "LSaltPool$Mole;", true)
  | 6 => ("SaltPool", "sheets", "[LSaltPool$Sheet;", true)
  | _ => ("SaltPool", "now", "I", false)
def tyX7 : Nat → FieldType := fun k => match k with
  | 0 => .object "SaltPool$Pool"
  | 1 => .object "SaltPool$Tape"
  | 2 => .object "SaltPool$Lots"
  | 3 => .object "SaltPool$Fleet"
  | 4 => .object "SaltPool$Sea"
  | 5 => .object "SaltPool$Mole"
  | 6 => .array (.object "SaltPool$Sheet")
  | _ => .int
abbrev wsX70 : List Cond := u_ws RX7 TX7 8
theorem nmX7 : ∀ a, a < 8 → ∀ b, b < 8 → a ≠ b → (TX7 a).2.1 ≠ (TX7 b).2.1 := by decide +kernel
theorem tyX7_ok : ∀ k, k < 8 → parseFieldDescriptor (TX7 k).2.2.1 = some (tyX7 k) := by decide +kernel
abbrev cX7_init : ByteArray := prog_1_method_1_code
def yX7_init : MethodName := ⟨RX7, "<init>", "()V"⟩
abbrev cX7_works : ByteArray := prog_1_method_2_code
def yX7_works : MethodName := ⟨RX7, "works", "(I)I"⟩
abbrev cX7_weeks : ByteArray := prog_1_method_3_code
def yX7_weeks : MethodName := ⟨RX7, "weeks", "(I)I"⟩
abbrev cX7_lot : ByteArray := prog_1_method_4_code
def yX7_lot : MethodName := ⟨RX7, "lot", "(III)I"⟩
abbrev cX7_rail : ByteArray := prog_1_method_5_code
def yX7_rail : MethodName := ⟨RX7, "rail", "(II)I"⟩
abbrev cX7_told : ByteArray := prog_1_method_6_code
def yX7_told : MethodName := ⟨RX7, "told", "(II)I"⟩
abbrev cX7_total : ByteArray := prog_1_method_7_code
def yX7_total : MethodName := ⟨RX7, "total", "(I)I"⟩
abbrev cX7_lend : ByteArray := prog_1_method_8_code
def yX7_lend : MethodName := ⟨RX7, "lend", "(III)I"⟩
abbrev cX7_shut : ByteArray := prog_1_method_9_code
def yX7_shut : MethodName := ⟨RX7, "shut", "(IZI)I"⟩
abbrev cX7_open : ByteArray := prog_1_method_10_code
def yX7_open : MethodName := ⟨RX7, "open", "(III)I"⟩
abbrev cX7_quota : ByteArray := prog_1_method_11_code
def yX7_quota : MethodName := ⟨RX7, "quota", "(III)I"⟩
abbrev cX7_left : ByteArray := prog_1_method_12_code
def yX7_left : MethodName := ⟨RX7, "left", "(I)I"⟩
abbrev cX7_type : ByteArray := prog_1_method_13_code
def yX7_type : MethodName := ⟨RX7, "type", "(JI)I"⟩
abbrev cX7_parts : ByteArray := prog_1_method_14_code
def yX7_parts : MethodName := ⟨RX7, "parts", "()I"⟩
abbrev cX7_ship : ByteArray := prog_1_method_15_code
def yX7_ship : MethodName := ⟨RX7, "ship", "(IIIII)I"⟩
abbrev cX7_load : ByteArray := prog_1_method_16_code
def yX7_load : MethodName := ⟨RX7, "load", "(III)I"⟩
abbrev cX7_held : ByteArray := prog_1_method_17_code
def yX7_held : MethodName := ⟨RX7, "held", "(II)I"⟩
abbrev cX7_grade : ByteArray := prog_1_method_18_code
def yX7_grade : MethodName := ⟨RX7, "grade", "(I)I"⟩
abbrev cX7_surf : ByteArray := prog_1_method_19_code
def yX7_surf : MethodName := ⟨RX7, "surf", "(IIIII)I"⟩
abbrev cX7_sea : ByteArray := prog_1_method_20_code
def yX7_sea : MethodName := ⟨RX7, "sea", "(I)I"⟩
abbrev cX7_bar : ByteArray := prog_1_method_21_code
def yX7_bar : MethodName := ⟨RX7, "bar", "(I)I"⟩
abbrev cX7_lay : ByteArray := prog_1_method_22_code
def yX7_lay : MethodName := ⟨RX7, "lay", "(I)I"⟩
abbrev cX7_laid : ByteArray := prog_1_method_23_code
def yX7_laid : MethodName := ⟨RX7, "laid", "(II)I"⟩
abbrev cX7_count : ByteArray := prog_1_method_24_code
def yX7_count : MethodName := ⟨RX7, "count", "(I)I"⟩
abbrev cX7_sheet : ByteArray := prog_1_method_25_code
def yX7_sheet : MethodName := ⟨RX7, "sheet", "(III)I"⟩
abbrev cX7_drop : ByteArray := prog_1_method_26_code
def yX7_drop : MethodName := ⟨RX7, "drop", "(I)I"⟩
abbrev cX7_item : ByteArray := prog_1_method_27_code
def yX7_item : MethodName := ⟨RX7, "item", "(IIII)I"⟩
abbrev cX7_copy : ByteArray := prog_1_method_28_code
def yX7_copy : MethodName := ⟨RX7, "copy", "(IIIII)I"⟩
abbrev cX7_isWithin : ByteArray := prog_1_method_29_code
def yX7_isWithin : MethodName := ⟨RX7, "isWithin", "(III)Z"⟩
abbrev cX7_isWeek : ByteArray := prog_1_method_30_code
def yX7_isWeek : MethodName := ⟨RX7, "isWeek", "(I)Z"⟩
abbrev cX7_isDay : ByteArray := prog_1_method_31_code
def yX7_isDay : MethodName := ⟨RX7, "isDay", "(I)Z"⟩
abbrev cX7_isSheet : ByteArray := prog_1_method_32_code
def yX7_isSheet : MethodName := ⟨RX7, "isSheet", "(I)Z"⟩
abbrev cX7_isLane : ByteArray := prog_1_method_33_code
def yX7_isLane : MethodName := ⟨RX7, "isLane", "(I)Z"⟩
abbrev cX7_isAsked : ByteArray := prog_1_method_34_code
def yX7_isAsked : MethodName := ⟨RX7, "isAsked", "(III)Z"⟩
def RX8 : String := "SaltPoolModel"
def TX8 : u_T := fun k => match k with
  | 0 => ("SaltPoolModel", "works", "I", false)
  | 1 => ("SaltPoolModel", "parts", "[I", true)
  | 2 => ("SaltPoolModel", "shipped", "[I", true)
  | 3 => ("SaltPoolModel", "now", "I", false)
  | 4 => ("SaltPoolModel", "lots", "I", false)
  | 5 => ("SaltPoolModel", "lotWorks", "[I", true)
  | 6 => ("SaltPoolModel", "grades", "[I", true)
  | 7 => ("SaltPoolModel", "inPit", "[I", true)
  | 8 => ("SaltPoolModel", "atPort", "[I", true)
  | 9 => ("SaltPoolModel", "weeksOf", "[I", true)
  | 10 => ("SaltPoolModel", "total", "I", false)
  | 11 => ("SaltPoolModel", "entries", "I", false)
  | 12 => ("SaltPoolModel", "entryKind", "[I", true)
  | 13 => ("SaltPoolModel", "entryA", "[I", true)
  | 14 => ("SaltPoolModel", "entryB", "[I", true)
  | 15 => ("SaltPoolModel", "entryMany", "[I", true)
  | 16 => ("SaltPoolModel", "entryWeek", "[I", true)
  | 17 => ("SaltPoolModel", "shares", "[J", true)
  | 18 => ("SaltPoolModel", "given", "[Z", true)
  | 19 => ("SaltPoolModel", "tape", "[I", true)
  | 20 => ("SaltPoolModel", "taped", "I", false)
  | 21 => ("SaltPoolModel", "at", "I", false)
  | 22 => ("SaltPoolModel", "wrong", "I", false)
  | 23 => ("SaltPoolModel", "readParts", "[I", true)
  | 24 => ("SaltPoolModel", "ships", "I", false)
  | 25 => ("SaltPoolModel", "days", "[I", true)
  | 26 => ("SaltPoolModel", "rooms", "[I", true)
  | 27 => ("SaltPoolModel", "rates", "[I", true)
  | 28 => ("SaltPoolModel", "lays", "[I", true)
  | 29 => ("SaltPoolModel", "dues", "[I", true)
  | 30 => ("SaltPoolModel", "holds", "[I", true)
  | 31 => ("SaltPoolModel", "surfs", "[I", true)
  | 32 => ("SaltPoolModel", "bar", "I", false)
  | 33 => ("SaltPoolModel", "row", "[I", true)
  | 34 => ("SaltPoolModel", "rowTurn", "[I", true)
  | 35 => ("SaltPoolModel", "rowEnd", "[I", true)
  | 36 => ("SaltPoolModel", "rowCost", "[I", true)
  | 37 => ("SaltPoolModel", "hasLaid", "Z", false)
  | 38 => ("SaltPoolModel", "laidAt", "[I", true)
  | 39 => ("SaltPoolModel", "laidTurn", "[I", true)
  | 40 => ("SaltPoolModel", "laidEnd", "[I", true)
  | 41 => ("SaltPoolModel", "laidCost", "[I", true)
  | 42 => ("SaltPoolModel", "lanes", "[I", true)
  | 43 => ("SaltPoolModel", "sizes", "[I", true)
  | 44 => ("SaltPoolModel", "items", "[I", true)
  | _ => ("SaltPoolModel", "moved", "[I", true)
def tyX8 : Nat → FieldType := fun k => match k with
  | 0 => .int
  | 1 => .array .int
  | 2 => .array .int
  | 3 => .int
  | 4 => .int
  | 5 => .array .int
  | 6 => .array .int
  | 7 => .array .int
  | 8 => .array .int
  | 9 => .array .int
  | 10 => .int
  | 11 => .int
  | 12 => .array .int
  | 13 => .array .int
  | 14 => .array .int
  | 15 => .array .int
  | 16 => .array .int
  | 17 => .array .long
  | 18 => .array .boolean
  | 19 => .array .int
  | 20 => .int
  | 21 => .int
  | 22 => .int
  | 23 => .array .int
  | 24 => .int
  | 25 => .array .int
  | 26 => .array .int
  | 27 => .array .int
  | 28 => .array .int
  | 29 => .array .int
  | 30 => .array .int
  | 31 => .array .int
  | 32 => .int
  | 33 => .array .int
  | 34 => .array .int
  | 35 => .array .int
  | 36 => .array .int
  | 37 => .boolean
  | 38 => .array .int
  | 39 => .array .int
  | 40 => .array .int
  | 41 => .array .int
  | 42 => .array .int
  | 43 => .array .int
  | 44 => .array .int
  | _ => .array .int
abbrev wsX80 : List Cond := u_ws RX8 TX8 46
theorem nmX8 : ∀ a, a < 46 → ∀ b, b < 46 → a ≠ b → (TX8 a).2.1 ≠ (TX8 b).2.1 := by decide +kernel
theorem tyX8_ok : ∀ k, k < 46 → parseFieldDescriptor (TX8 k).2.2.1 = some (tyX8 k) := by decide +kernel
abbrev cX8_in : ByteArray := prog_10_method_2_code
def yX8_in : MethodName := ⟨RX8, "in", "(III)Z"⟩
abbrev cX8_init : ByteArray := prog_10_method_3_code
def yX8_init : MethodName := ⟨RX8, "<init>", "()V"⟩
abbrev cX8_isWorks : ByteArray := prog_10_method_4_code
def yX8_isWorks : MethodName := ⟨RX8, "isWorks", "(I)Z"⟩
abbrev cX8_isLot : ByteArray := prog_10_method_5_code
def yX8_isLot : MethodName := ⟨RX8, "isLot", "(I)Z"⟩
abbrev cX8_works : ByteArray := prog_10_method_6_code
def yX8_works : MethodName := ⟨RX8, "works", "(I)I"⟩
abbrev cX8_weeks : ByteArray := prog_10_method_7_code
def yX8_weeks : MethodName := ⟨RX8, "weeks", "(I)I"⟩
abbrev cX8_lot : ByteArray := prog_10_method_8_code
def yX8_lot : MethodName := ⟨RX8, "lot", "(III)I"⟩
abbrev cX8_rail : ByteArray := prog_10_method_9_code
def yX8_rail : MethodName := ⟨RX8, "rail", "(II)I"⟩
abbrev cX8_inHolds : ByteArray := prog_10_method_10_code
def yX8_inHolds : MethodName := ⟨RX8, "inHolds", "(I)I"⟩
abbrev cX8_told : ByteArray := prog_10_method_11_code
def yX8_told : MethodName := ⟨RX8, "told", "(II)I"⟩
abbrev cX8_total : ByteArray := prog_10_method_12_code
def yX8_total : MethodName := ⟨RX8, "total", "(I)I"⟩
abbrev cX8_entry : ByteArray := prog_10_method_13_code
def yX8_entry : MethodName := ⟨RX8, "entry", "(IIIII)I"⟩
abbrev cX8_isOpen : ByteArray := prog_10_method_14_code
def yX8_isOpen : MethodName := ⟨RX8, "isOpen", "(III)Z"⟩
abbrev cX8_part : ByteArray := prog_10_method_15_code
def yX8_part : MethodName := ⟨RX8, "part", "(JI)V"⟩
abbrev cX8_quotas : ByteArray := prog_10_method_16_code
def yX8_quotas : MethodName := ⟨RX8, "quotas", "(II)V"⟩
abbrev cX8_lend : ByteArray := prog_10_method_17_code
def yX8_lend : MethodName := ⟨RX8, "lend", "(III)I"⟩
abbrev cX8_shut : ByteArray := prog_10_method_18_code
def yX8_shut : MethodName := ⟨RX8, "shut", "(IZI)I"⟩
abbrev cX8_isAsOf : ByteArray := prog_10_method_19_code
def yX8_isAsOf : MethodName := ⟨RX8, "isAsOf", "(III)Z"⟩
abbrev cX8_open : ByteArray := prog_10_method_20_code
def yX8_open : MethodName := ⟨RX8, "open", "(III)I"⟩
abbrev cX8_quota : ByteArray := prog_10_method_21_code
def yX8_quota : MethodName := ⟨RX8, "quota", "(III)I"⟩
abbrev cX8_leftOf : ByteArray := prog_10_method_22_code
def yX8_leftOf : MethodName := ⟨RX8, "leftOf", "(I)I"⟩
abbrev cX8_left : ByteArray := prog_10_method_23_code
def yX8_left : MethodName := ⟨RX8, "left", "(I)I"⟩
abbrev cX8_type : ByteArray := prog_10_method_24_code
def yX8_type : MethodName := ⟨RX8, "type", "(JI)I"⟩
abbrev cX8_next : ByteArray := prog_10_method_25_code
def yX8_next : MethodName := ⟨RX8, "next", "()I"⟩
abbrev cX8_number : ByteArray := prog_10_method_26_code
def yX8_number : MethodName := ⟨RX8, "number", "(II)I"⟩
abbrev cX8_reads : ByteArray := prog_10_method_27_code
def yX8_reads : MethodName := ⟨RX8, "reads", "()I"⟩
abbrev cX8_parts : ByteArray := prog_10_method_28_code
def yX8_parts : MethodName := ⟨RX8, "parts", "()I"⟩
abbrev cX8_isShip : ByteArray := prog_10_method_29_code
def yX8_isShip : MethodName := ⟨RX8, "isShip", "(I)Z"⟩
abbrev cX8_ship : ByteArray := prog_10_method_30_code
def yX8_ship : MethodName := ⟨RX8, "ship", "(IIIII)I"⟩
abbrev cX8_inHold : ByteArray := prog_10_method_31_code
def yX8_inHold : MethodName := ⟨RX8, "inHold", "(I)I"⟩
abbrev cX8_load : ByteArray := prog_10_method_32_code
def yX8_load : MethodName := ⟨RX8, "load", "(III)I"⟩
abbrev cX8_held : ByteArray := prog_10_method_33_code
def yX8_held : MethodName := ⟨RX8, "held", "(II)I"⟩
abbrev cX8_grade : ByteArray := prog_10_method_34_code
def yX8_grade : MethodName := ⟨RX8, "grade", "(I)I"⟩
abbrev cX8_taken : ByteArray := prog_10_method_35_code
def yX8_taken : MethodName := ⟨RX8, "taken", "(I)I"⟩
abbrev cX8_sea : ByteArray := prog_10_method_36_code
def yX8_sea : MethodName := ⟨RX8, "sea", "(I)I"⟩
abbrev cX8_bar : ByteArray := prog_10_method_37_code
def yX8_bar : MethodName := ⟨RX8, "bar", "(I)I"⟩
abbrev cX8_lets : ByteArray := prog_10_method_38_code
def yX8_lets : MethodName := ⟨RX8, "lets", "(I)Z"⟩
abbrev cX8_endOf : ByteArray := prog_10_method_39_code
def yX8_endOf : MethodName := ⟨RX8, "endOf", "(II)I"⟩
abbrev cX8_costOf : ByteArray := prog_10_method_40_code
def yX8_costOf : MethodName := ⟨RX8, "costOf", "(I)I"⟩
abbrev cX8_keep : ByteArray := prog_10_method_41_code
def yX8_keep : MethodName := ⟨RX8, "keep", "(I)V"⟩
abbrev cX8_countsUp : ByteArray := prog_10_method_42_code
def yX8_countsUp : MethodName := ⟨RX8, "countsUp", "(I)Z"⟩
abbrev cX8_swap : ByteArray := prog_10_method_43_code
def yX8_swap : MethodName := ⟨RX8, "swap", "(II)V"⟩
abbrev cX8_lay : ByteArray := prog_10_method_44_code
def yX8_lay : MethodName := ⟨RX8, "lay", "(I)I"⟩
abbrev cX8_laid : ByteArray := prog_10_method_45_code
def yX8_laid : MethodName := ⟨RX8, "laid", "(II)I"⟩
abbrev cX8_count : ByteArray := prog_10_method_46_code
def yX8_count : MethodName := ⟨RX8, "count", "(I)I"⟩
abbrev cX8_isSheet : ByteArray := prog_10_method_47_code
def yX8_isSheet : MethodName := ⟨RX8, "isSheet", "(I)Z"⟩
abbrev cX8_sheet : ByteArray := prog_10_method_48_code
def yX8_sheet : MethodName := ⟨RX8, "sheet", "(III)I"⟩
abbrev cX8_drop : ByteArray := prog_10_method_49_code
def yX8_drop : MethodName := ⟨RX8, "drop", "(I)I"⟩
abbrev cX8_item : ByteArray := prog_10_method_50_code
def yX8_item : MethodName := ⟨RX8, "item", "(IIII)I"⟩
abbrev cX8_isWithin : ByteArray := prog_10_method_51_code
def yX8_isWithin : MethodName := ⟨RX8, "isWithin", "(III)Z"⟩
abbrev cX8_copy : ByteArray := prog_10_method_52_code
def yX8_copy : MethodName := ⟨RX8, "copy", "(IIIII)I"⟩
abbrev cX8_surf : ByteArray := prog_10_method_53_code
def yX8_surf : MethodName := ⟨RX8, "surf", "(IIIII)I"⟩
def RJ6 : String := "java/lang/Integer"
def TJ6 : u_T := fun k => match k with
  | _ => ("", "", "", false)
def tyJ6 : Nat → FieldType := fun k => match k with
  | _ => .int
abbrev wsJ60 : List Cond := u_ws RJ6 TJ6 0
theorem nmJ6 : ∀ a, a < 0 → ∀ b, b < 0 → a ≠ b → (TJ6 a).2.1 ≠ (TJ6 b).2.1 := by decide +kernel
theorem tyJ6_ok : ∀ k, k < 0 → parseFieldDescriptor (TJ6 k).2.2.1 = some (tyJ6 k) := by decide +kernel
abbrev cJ6_bitCount_0f7a4 : ByteArray := prog_11_method_49_code
def yJ6_bitCount_0f7a4 : MethodName := ⟨RJ6, "bitCount", "(I)I"⟩
def RJ9 : String := "java/lang/Math"
def TJ9 : u_T := fun k => match k with
  | _ => ("", "", "", false)
def tyJ9 : Nat → FieldType := fun k => match k with
  | _ => .int
abbrev wsJ90 : List Cond := u_ws RJ9 TJ9 0
theorem nmJ9 : ∀ a, a < 0 → ∀ b, b < 0 → a ≠ b → (TJ9 a).2.1 ≠ (TJ9 b).2.1 := by decide +kernel
theorem tyJ9_ok : ∀ k, k < 0 → parseFieldDescriptor (TJ9 k).2.2.1 = some (tyJ9 k) := by decide +kernel
abbrev cJ9_max_7cf53 : ByteArray := prog_12_method_65_code
def yJ9_max_7cf53 : MethodName := ⟨RJ9, "max", "(II)I"⟩
abbrev cJ9_min_7cf53 : ByteArray := prog_12_method_69_code
def yJ9_min_7cf53 : MethodName := ⟨RJ9, "min", "(II)I"⟩
def RJ10 : String := "java/lang/System"
def TJ10 : u_T := fun k => match k with
  | _ => ("", "", "", false)
def tyJ10 : Nat → FieldType := fun k => match k with
  | _ => .int
abbrev wsJ100 : List Cond := u_ws RJ10 TJ10 0
theorem nmJ10 : ∀ a, a < 0 → ∀ b, b < 0 → a ≠ b → (TJ10 a).2.1 ≠ (TJ10 b).2.1 := by decide +kernel
theorem tyJ10_ok : ∀ k, k < 0 → parseFieldDescriptor (TJ10 k).2.2.1 = some (tyJ10 k) := by decide +kernel
def RJ7 : String := "java/util/Arrays"
def TJ7 : u_T := fun k => match k with
  | _ => ("", "", "", false)
def tyJ7 : Nat → FieldType := fun k => match k with
  | _ => .int
abbrev wsJ70 : List Cond := u_ws RJ7 TJ7 0
theorem nmJ7 : ∀ a, a < 0 → ∀ b, b < 0 → a ≠ b → (TJ7 a).2.1 ≠ (TJ7 b).2.1 := by decide +kernel
theorem tyJ7_ok : ∀ k, k < 0 → parseFieldDescriptor (TJ7 k).2.2.1 = some (tyJ7 k) := by decide +kernel
abbrev cJ7_fill_53178 : ByteArray := prog_14_method_103_code
def yJ7_fill_53178 : MethodName := ⟨RJ7, "fill", "([II)V"⟩
def RL : String := "SaltPoolLaw"
abbrev cL_law : ByteArray := code
def yL_law : MethodName := ⟨RL, "law", "([I)Z"⟩
abbrev vwCl : List vw_C := [(RX0, TX0, 8), (RX1, TX1, 7), (RX2, TX2, 8), (RX3, TX3, 13), (RX4, TX4, 6), (RX5, TX5, 3), (RX6, TX6, 4), (RX7, TX7, 8), (RX8, TX8, 46)]
end
section
/-! A small machine over a shape of cells that stays: values, places, a step as a condition; its steps are steps of the machine -/
abbrev mv_V : Type := Int32 ⊕ (Int64 ⊕ Nat)
abbrev mv_L : Type := List (Option mv_V)
abbrev mv_I : Type := Nat → Nat → Int32
abbrev mv_J : Type := Nat → Nat → Int64
abbrev mv_Q : Type := Option mv_V → mv_I → mv_J → Prop
abbrev mv_K : Type := Nat → mv_L → List mv_V → mv_I → mv_J → Prop
/-- a cell's shape: an object (its number, its fields: a cell, or an int), or a row (0 ints, 1 longs, 2 bytes, 3 booleans, 4 cells; its length) -/
abbrev mv_E : Type := (Nat × List (Option Nat)) ⊕ (Nat × Nat)
/-- an instruction, the place behind it, where it jumps to, its number -/
abbrev mv_R : Type := Instr × Nat × Nat × Int32 × Int64
def mv_val (ad : Nat → Nat) : mv_V → Value
  | .inl x => .int x
  | .inr (.inl x) => .long x
  | .inr (.inr k) => .ref (ad k)
def mv_cat : mv_V → Nat
  | .inl _ => 1
  | .inr (.inl _) => 2
  | .inr (.inr _) => 1
theorem mv_cat_val (ad : Nat → Nat) (v : mv_V) : (mv_val ad v).category = mv_cat v := by rcases v with x | x | x <;> rfl
def mv_nth {α : Type} : Nat → List α → Option α
  | _, [] => none
  | 0, a :: _ => some a
  | n + 1, _ :: t => mv_nth n t
theorem mv_nth_eq {α : Type} : ∀ (n : Nat) (l : List α), mv_nth n l = l[n]?
  | _, [] => by simp [mv_nth]
  | 0, a :: t => by simp [mv_nth]
  | n + 1, a :: t => by simp [mv_nth, mv_nth_eq n t]
/-! the world -/
def mv_fs (ad : Nat → Nat) (f : Nat → Int32) : Nat → List (Option Nat) → List Value
  | _, [] => []
  | j, some r :: t => .ref (ad r) :: mv_fs ad f (j + 1) t
  | j, none :: t => .int (f j) :: mv_fs ad f (j + 1) t
def mv_sc (j : Nat) : Nat := 8 + j
def mv_row (ad : Nat → Nat) (f : Nat → Int32) (g : Nat → Int64) : Nat → ((Nat → Int32) ⊕ (Nat → Int64) ⊕ (Nat → UInt32) ⊕ (Nat → UInt64) ⊕ (Nat → Option Nat))
  | 1 => .inr (.inl g)
  | 4 => .inr (.inr (.inr (.inr (fun j => some (ad (mv_sc j))))))
  | _ => .inl f
def mv_cell (cy : Nat → ClassId) (ad : Nat → Nat) (I : mv_I) (J : mv_J) (k : Nat) (e : mv_E) : va_E := match e with
  | .inl o => .inr (o.1, mv_fs ad (I k) 0 o.2)
  | .inr a => .inl (cy a.1, a.2, mv_row ad (I k) (J k) a.1)
def mv_wsg (cy : Nat → ClassId) (ad : Nat → Nat) (I : mv_I) (J : mv_J) : Nat → List mv_E → va_W
  | _, [] => []
  | k, e :: t => (ad k, mv_cell cy ad I J k e) :: mv_wsg cy ad I J (k + 1) t
abbrev mv_ws (cy : Nat → ClassId) (ad : Nat → Nat) (sh : List mv_E) (I : mv_I) (J : mv_J) : va_W := mv_wsg cy ad I J 0 sh
theorem mv_wsg_get (cy : Nat → ClassId) (ad : Nat → Nat) (I : mv_I) (J : mv_J) : ∀ (sh : List mv_E) (k j : Nat), (mv_wsg cy ad I J k sh)[j]? = (mv_nth j sh).map (fun e => (ad (k + j), mv_cell cy ad I J (k + j) e))
  | [], k, j => by simp [mv_wsg, mv_nth]
  | e :: t, k, 0 => by simp [mv_wsg, mv_nth]
  | e :: t, k, j + 1 => by
    have h := mv_wsg_get cy ad I J t (k + 1) j
    simp only [mv_wsg, mv_nth, List.getElem?_cons_succ]
    rw [h, show k + 1 + j = k + (j + 1) by omega]
theorem mv_ws_get {cy : Nat → ClassId} {ad : Nat → Nat} {I : mv_I} {J : mv_J} {sh : List mv_E} {a : Nat} {e : mv_E} (h : mv_nth a sh = some e) : (mv_ws cy ad sh I J)[a]? = some (ad a, mv_cell cy ad I J a e) := by
  rw [mv_wsg_get, h]
  simp
theorem mv_ws_set {cy : Nat → ClassId} {ad : Nat → Nat} {I I' : mv_I} {J J' : mv_J} {sh : List mv_E} {a : Nat} {e : mv_E} (h : mv_nth a sh = some e) (hI : ∀ j, j ≠ a → I' j = I j) (hJ : ∀ j, j ≠ a → J' j = J j) :
    (mv_ws cy ad sh I J).set a (ad a, mv_cell cy ad I' J' a e) = mv_ws cy ad sh I' J' := by
  apply List.ext_getElem?
  intro j
  rw [List.getElem?_set, mv_wsg_get, mv_wsg_get]
  by_cases hj : a = j
  · subst hj
    have hl : a < (mv_ws cy ad sh I J).length := (List.getElem?_eq_some_iff.mp (mv_ws_get (cy := cy) (ad := ad) (I := I) (J := J) h)).1
    rw [if_pos rfl, h]
    simp [hl]
  · rw [if_neg hj]
    cases mv_nth j sh with
    | none => rfl
    | some e =>
      have h1 := hI j (fun q => hj q.symm)
      have h2 := hJ j (fun q => hj q.symm)
      rcases e with o | o <;> simp [mv_cell, h1, h2]
theorem mv_ws_at {cy : Nat → ClassId} {ad : Nat → Nat} {I : mv_I} {J : mv_J} {sh : List mv_E} {j : Nat} {q : Nat × va_E} (h : (mv_ws cy ad sh I J)[j]? = some q) : q.1 = ad j ∧ ∃ e, mv_nth j sh = some e := by
  rw [mv_wsg_get] at h
  cases he : mv_nth j sh with
  | none => rw [he] at h; cases h
  | some e =>
    rw [he] at h
    have := (Option.some.inj h).symm
    subst this
    exact ⟨by simp, e, rfl⟩
theorem mv_D_any {cy : Nat → ClassId} {ad : Nat → Nat} {sh : List mv_E} {A : Nat → Prop} {I I' : mv_I} {J J' : mv_J} (h : va_D A (mv_ws cy ad sh I J)) : va_D A (mv_ws cy ad sh I' J') := by
  have key : ∀ (k : Nat) (q : Nat × va_E), (mv_ws cy ad sh I' J')[k]? = some q → ∃ q0, (mv_ws cy ad sh I J)[k]? = some q0 ∧ q0.1 = q.1 := by
    intro k q hq
    obtain ⟨h1, e, he⟩ := mv_ws_at hq
    exact ⟨_, mv_ws_get he, h1.symm⟩
  refine ⟨fun i j p q hp hq hpq => ?_, fun k q hq => ?_⟩
  · obtain ⟨p0, e1, e2⟩ := key i p hp
    obtain ⟨q0, e3, e4⟩ := key j q hq
    exact h.1 i j p0 q0 e1 e3 (by rw [e2, e4]; exact hpq)
  · obtain ⟨q0, e3, e4⟩ := key k q hq
    rw [← e4]
    exact h.2 k q0 e3
def mv_tys (cy : Nat → ClassId) : List (ClassId × FieldType) := [(cy 0, .int), (cy 1, .long), (cy 2, .byte), (cy 3, .boolean), (cy 4, .object "SaltPool$Sheet")]
/-! places and stacks, with what goes on behind them -/
def mv_asI (v : mv_V) (f : Int32 → Prop) : Prop := match v with
  | .inl x => f x
  | .inr _ => False
def mv_asL (v : mv_V) (f : Int64 → Prop) : Prop := match v with
  | .inr (.inl x) => f x
  | _ => False
def mv_asA (v : mv_V) (f : Nat → Prop) : Prop := match v with
  | .inr (.inr x) => f x
  | _ => False
theorem mv_asI_inv {v : mv_V} {f : Int32 → Prop} (h : mv_asI v f) : ∃ x, v = .inl x ∧ f x := by
  rcases v with x | x | x
  · exact ⟨x, rfl, h⟩
  · exact h.elim
  · exact h.elim
theorem mv_asL_inv {v : mv_V} {f : Int64 → Prop} (h : mv_asL v f) : ∃ x, v = .inr (.inl x) ∧ f x := by
  rcases v with x | x | x
  · exact h.elim
  · exact ⟨x, rfl, h⟩
  · exact h.elim
theorem mv_asA_inv {v : mv_V} {f : Nat → Prop} (h : mv_asA v f) : ∃ x, v = .inr (.inr x) ∧ f x := by
  rcases v with x | x | x
  · exact h.elim
  · exact h.elim
  · exact ⟨x, rfl, h⟩
def mv_pI (st : List mv_V) (f : Int32 → List mv_V → Prop) : Prop := match st with
  | v :: r => mv_asI v (fun x => f x r)
  | [] => False
def mv_pL (st : List mv_V) (f : Int64 → List mv_V → Prop) : Prop := match st with
  | v :: r => mv_asL v (fun x => f x r)
  | [] => False
def mv_pA (st : List mv_V) (f : Nat → List mv_V → Prop) : Prop := match st with
  | v :: r => mv_asA v (fun x => f x r)
  | [] => False
theorem mv_pI_inv {st : List mv_V} {f : Int32 → List mv_V → Prop} (h : mv_pI st f) : ∃ x r, st = .inl x :: r ∧ f x r := by
  cases st with
  | nil => exact h.elim
  | cons v r => obtain ⟨x, rfl, h⟩ := mv_asI_inv h; exact ⟨x, r, rfl, h⟩
theorem mv_pL_inv {st : List mv_V} {f : Int64 → List mv_V → Prop} (h : mv_pL st f) : ∃ x r, st = .inr (.inl x) :: r ∧ f x r := by
  cases st with
  | nil => exact h.elim
  | cons v r => obtain ⟨x, rfl, h⟩ := mv_asL_inv h; exact ⟨x, r, rfl, h⟩
theorem mv_pA_inv {st : List mv_V} {f : Nat → List mv_V → Prop} (h : mv_pA st f) : ∃ x r, st = .inr (.inr x) :: r ∧ f x r := by
  cases st with
  | nil => exact h.elim
  | cons v r => obtain ⟨x, rfl, h⟩ := mv_asA_inv h; exact ⟨x, r, rfl, h⟩
def mv_get : Nat → mv_L → (mv_V → Prop) → Prop
  | 0, some v :: _, f => f v
  | n + 1, _ :: t, f => mv_get n t f
  | _, _, _ => False
theorem mv_get_inv : ∀ {i : Nat} {ls : mv_L} {f : mv_V → Prop}, mv_get i ls f → ∃ v, mv_nth i ls = some (some v) ∧ f v
  | 0, [], _, h => h.elim
  | 0, none :: _, _, h => h.elim
  | 0, some v :: _, _, h => ⟨v, rfl, h⟩
  | _ + 1, [], _, h => h.elim
  | n + 1, _ :: t, _, h => mv_get_inv (i := n) (ls := t) h
def mv_set0 (v : mv_V) (t : mv_L) (f : mv_L → Prop) : Prop := match v with
  | .inl x => f (some (.inl x) :: t)
  | .inr (.inr x) => f (some (.inr (.inr x)) :: t)
  | .inr (.inl x) => (match t with
    | _ :: t' => f (some (.inr (.inl x)) :: none :: t')
    | [] => False)
def mv_dr (h : Option mv_V) (f : Option mv_V → Prop) : Prop := match h with
  | some (.inr (.inl _)) => f none
  | some (.inl x) => f (some (.inl x))
  | some (.inr (.inr x)) => f (some (.inr (.inr x)))
  | none => f none
def mv_set : Nat → mv_V → mv_L → (mv_L → Prop) → Prop
  | 0, v, _ :: t, f => mv_set0 v t f
  | 1, v, h :: t, f => mv_set 0 v t (fun t' => mv_dr h (fun h' => f (h' :: t')))
  | n + 2, v, h :: t, f => mv_set (n + 1) v t (fun t' => f (h :: t'))
  | _, _, [], _ => False
theorem mv_dr_inv {h : Option mv_V} {f : Option mv_V → Prop} (k : mv_dr h f) : ∃ h', f h' ∧ ∀ w, h' = some w → h = some w ∧ mv_cat w ≠ 2 := by
  rcases h with _ | x | x | x
  · exact ⟨none, k, fun w e => by cases e⟩
  · exact ⟨_, k, fun w e => by cases e; exact ⟨rfl, fun q => by cases q⟩⟩
  · exact ⟨none, k, fun w e => by cases e⟩
  · exact ⟨_, k, fun w e => by cases e; exact ⟨rfl, fun q => by cases q⟩⟩
def mv_setR (i : Nat) (v : mv_V) (ls ls' : mv_L) : Prop := ls'.length = ls.length ∧ i < ls.length ∧ (mv_cat v = 2 → i + 1 < ls.length) ∧ ∀ j w, mv_nth j ls' = some (some w) → (j = i ∧ w = v) ∨ (mv_nth j ls = some (some w) ∧ j ≠ i ∧ ¬ (j + 1 = i ∧ mv_cat w = 2) ∧ ¬ (mv_cat v = 2 ∧ j = i + 1))
theorem mv_set0_inv {v : mv_V} {h : Option mv_V} {t : mv_L} {f : mv_L → Prop} (k : mv_set0 v t f) : ∃ ls', f ls' ∧ mv_setR 0 v (h :: t) ls' := by
  rcases v with x | x | x
  · refine ⟨_, k, rfl, by simp, fun e => (by cases e), fun j w hj => ?_⟩
    cases j with
    | zero => exact Or.inl ⟨rfl, (Option.some.inj (Option.some.inj hj)).symm⟩
    | succ j => exact Or.inr ⟨hj, by omega, by omega, fun e => by cases e.1⟩
  · cases t with
    | nil => exact k.elim
    | cons h2 t =>
      refine ⟨_, k, rfl, by simp, fun _ => by simp, fun j w hj => ?_⟩
      match j, hj with
      | 0, hj => exact Or.inl ⟨rfl, (Option.some.inj (Option.some.inj hj)).symm⟩
      | 1, hj => cases hj
      | j + 2, hj => exact Or.inr ⟨hj, by omega, by omega, by omega⟩
  · refine ⟨_, k, rfl, by simp, fun e => (by cases e), fun j w hj => ?_⟩
    cases j with
    | zero => exact Or.inl ⟨rfl, (Option.some.inj (Option.some.inj hj)).symm⟩
    | succ j => exact Or.inr ⟨hj, by omega, by omega, fun e => by cases e.1⟩
theorem mv_set_inv : ∀ {i : Nat} {v : mv_V} {ls : mv_L} {f : mv_L → Prop}, mv_set i v ls f → ∃ ls', f ls' ∧ mv_setR i v ls ls'
  | 0, v, [], f, k => k.elim
  | 0, v, h :: t, f, k => mv_set0_inv k
  | 1, v, [], f, k => k.elim
  | 1, v, h :: t, f, k => by
    obtain ⟨t', k, e1, e2, e3, e4⟩ := mv_set_inv (i := 0) (v := v) (ls := t) k
    obtain ⟨h', k, eh⟩ := mv_dr_inv k
    refine ⟨_, k, by simp [e1], by simp; omega, fun c => by have := e3 c; simp; omega, fun j w hj => ?_⟩
    cases j with
    | zero =>
      have q := eh w (Option.some.inj hj)
      exact Or.inr ⟨by rw [q.1]; rfl, by omega, fun z => q.2 z.2, by omega⟩
    | succ j =>
      rcases e4 j w hj with ⟨z1, z2⟩ | ⟨z1, z2, z3, z4⟩
      · exact Or.inl ⟨by omega, z2⟩
      · exact Or.inr ⟨z1, by omega, fun z => by omega, fun z => z4 ⟨z.1, by omega⟩⟩
  | n + 2, v, [], f, k => k.elim
  | n + 2, v, h :: t, f, k => by
    obtain ⟨t', k, e1, e2, e3, e4⟩ := mv_set_inv (i := n + 1) (v := v) (ls := t) k
    refine ⟨_, k, by simp [e1], by simp; omega, fun c => by have := e3 c; simp; omega, fun j w hj => ?_⟩
    cases j with
    | zero => exact Or.inr ⟨hj, by omega, by omega, by omega⟩
    | succ j =>
      rcases e4 j w hj with ⟨z1, z2⟩ | ⟨z1, z2, z3, z4⟩
      · exact Or.inl ⟨by omega, z2⟩
      · exact Or.inr ⟨z1, by omega, fun z => z3 ⟨by omega, z.2⟩, fun z => z4 ⟨z.1, by omega⟩⟩
def mv_prs (ad : Nat → Nat) : Nat → mv_L → List (Nat × Value)
  | _, [] => []
  | j, none :: t => mv_prs ad (j + 1) t
  | j, some v :: t => (j, mv_val ad v) :: mv_prs ad (j + 1) t
theorem mv_prs_in (ad : Nat → Nat) : ∀ (ls : mv_L) (k j : Nat) (w : mv_V), mv_nth j ls = some (some w) → (k + j, mv_val ad w) ∈ mv_prs ad k ls
  | [], _, _, _, h => by simp [mv_nth] at h
  | none :: t, k, 0, w, h => by cases h
  | some v :: t, k, 0, w, h => by
    have : v = w := Option.some.inj (Option.some.inj h)
    subst this
    exact List.mem_cons_self
  | none :: t, k, j + 1, w, h => by
    have := mv_prs_in ad t (k + 1) j w h
    rw [show k + (j + 1) = k + 1 + j by omega]
    exact this
  | some v :: t, k, j + 1, w, h => by
    have := mv_prs_in ad t (k + 1) j w h
    rw [show k + (j + 1) = k + 1 + j by omega]
    exact List.mem_cons_of_mem _ this
theorem mv_prs_of (ad : Nat → Nat) : ∀ (ls : mv_L) (k : Nat) (q : Nat × Value), q ∈ mv_prs ad k ls → ∃ j w, mv_nth j ls = some (some w) ∧ q = (k + j, mv_val ad w)
  | [], _, _, h => by cases h
  | none :: t, k, q, h => by
    obtain ⟨j, w, h1, h2⟩ := mv_prs_of ad t (k + 1) q h
    exact ⟨j + 1, w, h1, by rw [h2, show k + 1 + j = k + (j + 1) by omega]⟩
  | some v :: t, k, q, h => by
    rcases List.mem_cons.mp h with h | h
    · exact ⟨0, v, rfl, h⟩
    · obtain ⟨j, w, h1, h2⟩ := mv_prs_of ad t (k + 1) q h
      exact ⟨j + 1, w, h1, by rw [h2, show k + 1 + j = k + (j + 1) by omega]⟩
def mv_LS (ad : Nat → Nat) (ls : mv_L) (arr : Array Slot) : Prop := arr.size = ls.length ∧ lv_wf arr ∧ ∀ j w, mv_nth j ls = some (some w) → arr[j]? = some (.val (mv_val ad w))
theorem mv_LS.has {ad : Nat → Nat} {ls : mv_L} {arr : Array Slot} (h : mv_LS ad ls arr) : lv_has arr ls.length (mv_prs ad 0 ls) := by
  refine ⟨h.1, h.2.1, fun q hq => ?_⟩
  obtain ⟨j, w, h1, rfl⟩ := mv_prs_of ad ls 0 q hq
  rw [show (0 + j, mv_val ad w).1 = j by simp]
  exact h.2.2 j w h1
theorem mv_LS.set1 {ad : Nat → Nat} {ls ls' : mv_L} {i : Nat} {v : mv_V} (hc : mv_cat v = 1) (hr : mv_setR i v ls ls') {arr' : Array Slot} (h : lv_has arr' ls.length ((i, mv_val ad v) :: (mv_prs ad 0 ls).filter (fun q => !(q.1 == i) && !(q.1 + 1 == i && q.2.category == 2)))) : mv_LS ad ls' arr' := by
  refine ⟨by rw [hr.1]; exact h.1, h.2.1, fun j w hj => ?_⟩
  rcases hr.2.2.2 j w hj with ⟨rfl, rfl⟩ | ⟨h1, h2, h3, -⟩
  · exact h.2.2 _ List.mem_cons_self
  · refine h.2.2 (j, mv_val ad w) (List.mem_cons_of_mem _ (List.mem_filter.mpr ⟨?_, ?_⟩))
    · have := mv_prs_in ad ls 0 j w h1
      rwa [Nat.zero_add] at this
    · simp only [mv_cat_val, Bool.and_eq_true, Bool.not_eq_true', beq_eq_false_iff_ne, Bool.and_eq_false_imp, beq_iff_eq]
      exact ⟨h2, fun e c => h3 ⟨e, c⟩⟩
theorem mv_LS.set2 {ad : Nat → Nat} {ls ls' : mv_L} {i : Nat} {v : mv_V} (hc : mv_cat v = 2) (hr : mv_setR i v ls ls') {arr' : Array Slot} (h : lv_has arr' ls.length ((i, mv_val ad v) :: (mv_prs ad 0 ls).filter (fun q => !(q.1 == i) && (!(q.1 == i + 1) && !(q.1 + 1 == i && q.2.category == 2))))) : mv_LS ad ls' arr' := by
  refine ⟨by rw [hr.1]; exact h.1, h.2.1, fun j w hj => ?_⟩
  rcases hr.2.2.2 j w hj with ⟨rfl, rfl⟩ | ⟨h1, h2, h3, h4⟩
  · exact h.2.2 _ List.mem_cons_self
  · refine h.2.2 (j, mv_val ad w) (List.mem_cons_of_mem _ (List.mem_filter.mpr ⟨?_, ?_⟩))
    · have := mv_prs_in ad ls 0 j w h1
      rwa [Nat.zero_add] at this
    · simp only [mv_cat_val, Bool.and_eq_true, Bool.not_eq_true', beq_eq_false_iff_ne, Bool.and_eq_false_imp, beq_iff_eq]
      exact ⟨h2, fun e => h4 ⟨hc, e⟩, fun e c => h3 ⟨e, c⟩⟩
/-! a step -/
def mv_if (c : Jvm.ClassFile.Cond) (x : Int32) (A B : Prop) : Prop := match c with
  | .eq => (x = 0 → A) ∧ (¬ x = 0 → B)
  | .ne => (¬ x = 0 → A) ∧ (x = 0 → B)
  | .lt => (x < 0 → A) ∧ (¬ x < 0 → B)
  | .ge => (0 ≤ x → A) ∧ (¬ 0 ≤ x → B)
  | .gt => (0 < x → A) ∧ (¬ 0 < x → B)
  | .le => (x ≤ 0 → A) ∧ (¬ x ≤ 0 → B)
def mv_ic (c : Jvm.ClassFile.Cond) (x y : Int32) (A B : Prop) : Prop := match c with
  | .eq => (x = y → A) ∧ (¬ x = y → B)
  | .ne => (¬ x = y → A) ∧ (x = y → B)
  | .lt => (x < y → A) ∧ (¬ x < y → B)
  | .ge => (y ≤ x → A) ∧ (¬ y ≤ x → B)
  | .gt => (y < x → A) ∧ (¬ y < x → B)
  | .le => (x ≤ y → A) ∧ (¬ x ≤ y → B)
def mv_sw (x : Int32) (f : Nat → Prop) (pc : Nat) : Int → List Int → Prop
  | _, [] => True
  | lo, o :: os => (x.toInt = lo → f (Int.toNat ((pc : Int) + o))) ∧ mv_sw x f pc (lo + 1) os
theorem mv_sw_at {x : Int32} {f : Nat → Prop} {pc : Nat} : ∀ {lo : Int} {os : List Int}, mv_sw x f pc lo os → ∀ (j : Nat) (o : Int), os[j]? = some o → x.toInt = lo + (j : Int) → f (Int.toNat ((pc : Int) + o))
  | _, [], _, j, o, h, _ => by simp at h
  | lo, o' :: os, k, 0, o, h, e => by
    have : o' = o := by simpa using h
    subst this
    exact k.1 (by simpa using e)
  | lo, o' :: os, k, j + 1, o, h, e => mv_sw_at k.2 j o (by simpa using h) (by rw [e]; omega)
def mv_obj (e : mv_E) (ci fi : Nat) (fR : Nat → Prop) (fI : Prop) : Prop := match e with
  | .inl o => bif Nat.beq ci o.1 then (match mv_nth fi o.2 with
    | some (some r) => fR r
    | some none => fI
    | none => False) else False
  | .inr _ => False
def mv_is (e : mv_E) (ci : Nat) (P : Prop) : Prop := match e with
  | .inl o => bif Nat.beq ci o.1 then P else False
  | .inr _ => False
def mv_arr (e : mv_E) (f : Nat → Nat → Prop) : Prop := match e with
  | .inr a => f a.1 a.2
  | .inl _ => False
def mv_at (sh : List mv_E) (a : Nat) (f : mv_E → Prop) : Prop := match mv_nth a sh with
  | some e => f e
  | none => False
def mv_pop : Nat → List mv_V → List mv_V → (List mv_V → List mv_V → Prop) → Prop
  | 0, st, acc, f => f acc st
  | n + 1, v :: st, acc, f => mv_pop n st (v :: acc) f
  | _ + 1, [], _, _ => False
def mv_cs : List mv_V → Nat
  | [] => 0
  | v :: t => mv_cat v + mv_cs t
def mv_hd (l : List mv_V) (f : Nat → Prop) : Prop := match l with
  | v :: _ => mv_asA v f
  | [] => False
/-- which int fields are booleans -/
def mv_isZ (ci fi : Nat) : Bool := (Nat.beq ci 2 && Nat.beq fi 4) || (Nat.beq ci 4 && Nat.beq fi 5) || (Nat.beq ci 8 && Nat.beq fi 37)
def mv_back (k : mv_K) (nx : Nat) (ls : mv_L) (st : List mv_V) : mv_Q := fun r I J => match r with
  | some v => k nx ls (v :: st) I J
  | none => k nx ls st I J
def mv_static (call : Nat → List mv_V → mv_I → mv_J → mv_Q → Prop) (sh : List mv_E) (mid na nx : Nat) (ls : mv_L) (st : List mv_V) (I : mv_I) (J : mv_J) (k : mv_K) : Prop := match mid with
  | 1000 => mv_pI st fun y r => mv_pI r fun x r => bif Nat.ble (mv_cs r) 8 then k nx ls (.inl (if x < y then y else x) :: r) I J else False
  | 1001 => mv_pI st fun y r => mv_pI r fun x r => bif Nat.ble (mv_cs r) 8 then k nx ls (.inl (if y < x then y else x) :: r) I J else False
  | 1002 => mv_pI st fun n r => mv_pI r fun dp r => mv_pA r fun a r => mv_pI r fun sp r => mv_pA r fun a0 r => bif Nat.ble (mv_cs r) 8 then mv_at sh a0 (fun e0 => mv_arr e0 fun t0 n0 => mv_at sh a (fun e => mv_arr e fun t1 n1 => bif Nat.beq t0 0 && Nat.beq t1 0 then (¬ sp < 0 ∧ ¬ dp < 0 ∧ ¬ n < 0 ∧ sp.toNatClampNeg + n.toNatClampNeg ≤ n0 ∧ dp.toNatClampNeg + n.toNatClampNeg ≤ n1 ∧ k nx ls r (va_up I a (va_cpy (I a0) (I a) sp.toNatClampNeg dp.toNatClampNeg n.toNatClampNeg)) J) else False)) else False
  | mid => mv_pop na st [] fun as r => bif Nat.ble (mv_cs r) 8 then call mid as I J (mv_back k nx ls r) else False
/-- what a method gives back: 0 nothing, 1 an int, 2 a boolean -/
def mv_rq (rb : Nat) (x : Int32) (P : Prop) : Prop := match rb with
  | 1 => P
  | 2 => (x = 0 ∨ x = 1) ∧ P
  | _ => False
def mv_rv (rb : Nat) (P : Prop) : Prop := match rb with
  | 0 => P
  | _ => False
def mv_step (call : Nat → List mv_V → mv_I → mv_J → mv_Q → Prop) (sh : List mv_E) (X : Option (Nat × (Nat → Int32))) (fl : Nat → Option (Nat × Nat)) (cs : Nat → Option (Nat × Nat × Nat)) (rb : Nat) (pc : Nat) (i : Instr) (nx tg : Nat) (cst : Int32) (cl : Int64) (ls : mv_L) (st : List mv_V) (I : mv_I) (J : mv_J) (k : mv_K) (Q : mv_Q) : Prop :=
  match i with
  | .iload_n n => mv_get n.val ls fun v => mv_asI v fun x => k nx ls (.inl x :: st) I J
  | .iload n => mv_get n ls fun v => mv_asI v fun x => k nx ls (.inl x :: st) I J
  | .lload_n n => mv_get n.val ls fun v => mv_asL v fun x => k nx ls (.inr (.inl x) :: st) I J
  | .lload n => mv_get n ls fun v => mv_asL v fun x => k nx ls (.inr (.inl x) :: st) I J
  | .aload_n n => mv_get n.val ls fun v => mv_asA v fun x => k nx ls (.inr (.inr x) :: st) I J
  | .aload n => mv_get n ls fun v => mv_asA v fun x => k nx ls (.inr (.inr x) :: st) I J
  | .istore_n n => mv_pI st fun x r => mv_set n.val (.inl x) ls fun ls => k nx ls r I J
  | .istore n => mv_pI st fun x r => mv_set n (.inl x) ls fun ls => k nx ls r I J
  | .lstore_n n => mv_pL st fun x r => mv_set n.val (.inr (.inl x)) ls fun ls => k nx ls r I J
  | .lstore n => mv_pL st fun x r => mv_set n (.inr (.inl x)) ls fun ls => k nx ls r I J
  | .astore_n n => mv_pA st fun x r => mv_set n.val (.inr (.inr x)) ls fun ls => k nx ls r I J
  | .astore n => mv_pA st fun x r => mv_set n (.inr (.inr x)) ls fun ls => k nx ls r I J
  | .iinc n _ => mv_get n ls fun v => mv_asI v fun x => mv_set n (.inl (x + cst)) ls fun ls => k nx ls st I J
  | .iconst _ => k nx ls (.inl cst :: st) I J
  | .bipush _ => k nx ls (.inl cst :: st) I J
  | .sipush _ => k nx ls (.inl cst :: st) I J
  | .ldc _ => k nx ls (.inl cst :: st) I J
  | .ldc_w _ => k nx ls (.inl cst :: st) I J
  | .lconst _ => k nx ls (.inr (.inl cl) :: st) I J
  | .ldc2_w _ => k nx ls (.inr (.inl cl) :: st) I J
  | .iadd => mv_pI st fun y r => mv_pI r fun x r => k nx ls (.inl (x + y) :: r) I J
  | .isub => mv_pI st fun y r => mv_pI r fun x r => k nx ls (.inl (x - y) :: r) I J
  | .imul => mv_pI st fun y r => mv_pI r fun x r => k nx ls (.inl (x * y) :: r) I J
  | .iand => mv_pI st fun y r => mv_pI r fun x r => k nx ls (.inl (x &&& y) :: r) I J
  | .ior => mv_pI st fun y r => mv_pI r fun x r => k nx ls (.inl (x ||| y) :: r) I J
  | .ixor => mv_pI st fun y r => mv_pI r fun x r => k nx ls (.inl (x ^^^ y) :: r) I J
  | .idiv => mv_pI st fun y r => mv_pI r fun x r => ¬ y = 0 ∧ k nx ls (.inl (x / y) :: r) I J
  | .irem => mv_pI st fun y r => mv_pI r fun x r => ¬ y = 0 ∧ k nx ls (.inl (x - x / y * y) :: r) I J
  | .ishl => mv_pI st fun y r => mv_pI r fun x r => k nx ls (.inl (x <<< (y &&& 31)) :: r) I J
  | .ishr => mv_pI st fun y r => mv_pI r fun x r => k nx ls (.inl (x >>> (y &&& 31)) :: r) I J
  | .iushr => mv_pI st fun y r => mv_pI r fun x r => k nx ls (.inl ((x.toUInt32 >>> (y.toUInt32 &&& Int32.toUInt32 31)).toInt32) :: r) I J
  | .ladd => mv_pL st fun y r => mv_pL r fun x r => k nx ls (.inr (.inl (x + y)) :: r) I J
  | .lsub => mv_pL st fun y r => mv_pL r fun x r => k nx ls (.inr (.inl (x - y)) :: r) I J
  | .lmul => mv_pL st fun y r => mv_pL r fun x r => k nx ls (.inr (.inl (x * y)) :: r) I J
  | .land => mv_pL st fun y r => mv_pL r fun x r => k nx ls (.inr (.inl (x &&& y)) :: r) I J
  | .lor => mv_pL st fun y r => mv_pL r fun x r => k nx ls (.inr (.inl (x ||| y)) :: r) I J
  | .ldiv => mv_pL st fun y r => mv_pL r fun x r => ¬ y = 0 ∧ k nx ls (.inr (.inl (x / y)) :: r) I J
  | .lrem => mv_pL st fun y r => mv_pL r fun x r => ¬ y = 0 ∧ k nx ls (.inr (.inl (x - x / y * y)) :: r) I J
  | .lcmp => mv_pL st fun y r => mv_pL r fun x r => k nx ls (.inl (lg_cmp x y) :: r) I J
  | .lshl => mv_pI st fun y r => mv_pL r fun x r => k nx ls (.inr (.inl (x <<< (y.toInt64 &&& 63))) :: r) I J
  | .lshr => mv_pI st fun y r => mv_pL r fun x r => k nx ls (.inr (.inl (x >>> (y.toInt64 &&& 63))) :: r) I J
  | .i2l => mv_pI st fun x r => k nx ls (.inr (.inl x.toInt64) :: r) I J
  | .l2i => mv_pL st fun x r => k nx ls (.inl x.toInt32 :: r) I J
  | .i2b => mv_pI st fun x r => k nx ls (.inl x.toInt8.toInt32 :: r) I J
  | .i2s => mv_pI st fun x r => k nx ls (.inl x.toInt16.toInt32 :: r) I J
  | .dup => (match st with
    | .inl x :: r => k nx ls (.inl x :: .inl x :: r) I J
    | .inr (.inr x) :: r => k nx ls (.inr (.inr x) :: .inr (.inr x) :: r) I J
    | _ => False)
  | .dup2 => mv_pI st fun y r => mv_pA r fun x r => k nx ls (.inl y :: .inr (.inr x) :: .inl y :: .inr (.inr x) :: r) I J
  | .pop => mv_pI st fun _ r => k nx ls r I J
  | .goto _ => k tg ls st I J
  | .ifCond c _ => mv_pI st fun x r => mv_if c x (k tg ls r I J) (k nx ls r I J)
  | .if_icmp c _ => mv_pI st fun y r => mv_pI r fun x r => mv_ic c x y (k tg ls r I J) (k nx ls r I J)
  | .tableswitch _ lo hi offs => mv_pI st fun x r => (x.toInt < lo ∨ hi < x.toInt → k tg ls r I J) ∧ mv_sw x (fun t => k t ls r I J) pc lo offs.toList
  | .getfield idx => mv_pA st fun a r => (match fl idx with
    | some (ci, fi) => mv_at sh a fun e => mv_obj e ci fi (fun q => k nx ls (.inr (.inr q) :: r) I J) (k nx ls (.inl (I a fi) :: r) I J)
    | none => False)
  | .putfield idx => mv_pI st fun v r => mv_pA r fun a r => (match fl idx with
    | some (ci, fi) => mv_at sh a fun e => mv_obj e ci fi (fun _ => False) (bif mv_isZ ci fi then (v = 0 ∨ v = 1) ∧ k nx ls r (va_up I a (upd (I a) fi v)) J else k nx ls r (va_up I a (upd (I a) fi v)) J)
    | none => False)
  | .iaload => mv_pI st fun j r => mv_pA r fun a r => (match mv_nth a sh with
    | some e => mv_arr e fun ty n => bif Nat.beq ty 0 then vp_in j n ∧ k nx ls (.inl (I a j.toNatClampNeg) :: r) I J else False
    | none => (match X with
      | some (L, xs) => bif Nat.beq a 999 then vp_in j L ∧ k nx ls (.inl (xs j.toNatClampNeg) :: r) I J else False
      | none => False))
  | .baload => mv_pI st fun j r => mv_pA r fun a r => mv_at sh a fun e => mv_arr e fun ty n => bif Nat.beq ty 2 || Nat.beq ty 3 then vp_in j n ∧ k nx ls (.inl (I a j.toNatClampNeg) :: r) I J else False
  | .laload => mv_pI st fun j r => mv_pA r fun a r => mv_at sh a fun e => mv_arr e fun ty n => bif Nat.beq ty 1 then vp_in j n ∧ k nx ls (.inr (.inl (J a j.toNatClampNeg)) :: r) I J else False
  | .aaload => mv_pI st fun j r => mv_pA r fun a r => mv_at sh a fun e => mv_arr e fun ty n => bif Nat.beq ty 4 && Nat.beq n 4 then vp_in j 4 ∧ (j = 0 → k nx ls (.inr (.inr 8) :: r) I J) ∧ (j = 1 → k nx ls (.inr (.inr 9) :: r) I J) ∧ (j = 2 → k nx ls (.inr (.inr 10) :: r) I J) ∧ (j = 3 → k nx ls (.inr (.inr 11) :: r) I J) else False
  | .arraylength => mv_pA st fun a r => (match mv_nth a sh with
    | some e => mv_arr e fun ty n => bif Nat.blt ty 5 then k nx ls (.inl (nI n) :: r) I J else False
    | none => (match X with
      | some (L, _) => bif Nat.beq a 999 then k nx ls (.inl (nI L) :: r) I J else False
      | none => False))
  | .iastore => mv_pI st fun v r => mv_pI r fun j r => mv_pA r fun a r => mv_at sh a fun e => mv_arr e fun ty n => bif Nat.beq ty 0 then vp_in j n ∧ k nx ls r (va_up I a (upd (I a) j.toNatClampNeg v)) J else False
  | .bastore => mv_pI st fun v r => mv_pI r fun j r => mv_pA r fun a r => mv_at sh a fun e => mv_arr e fun ty n => bif Nat.beq ty 2 then vp_in j n ∧ k nx ls r (va_up I a (upd (I a) j.toNatClampNeg (vp_nar .byte v))) J else bif Nat.beq ty 3 then vp_in j n ∧ k nx ls r (va_up I a (upd (I a) j.toNatClampNeg (vp_nar .boolean v))) J else False
  | .lastore => mv_pL st fun v r => mv_pI r fun j r => mv_pA r fun a r => mv_at sh a fun e => mv_arr e fun ty n => bif Nat.beq ty 1 then vp_in j n ∧ k nx ls r I (va_up J a (vp_updL (J a) j.toNatClampNeg v)) else False
  | .invokestatic idx => (match cs idx with
    | some (mid, na, ci) => bif Nat.beq ci 100 then mv_static call sh mid na nx ls st I J k else False
    | none => False)
  | .invokevirtual idx => (match cs idx with
    | some (mid, na, ci) => bif Nat.beq ci 100 then False else mv_pop na st [] fun as r => mv_hd as fun a => mv_at sh a fun e => mv_is e ci (bif Nat.ble (mv_cs r) 8 then call mid as I J (mv_back k nx ls r) else False)
    | none => False)
  | .ireturn => mv_pI st fun x r => (match r with
    | [] => mv_rq rb x (Q (some (.inl x)) I J)
    | _ :: _ => False)
  | .return_ => (match st with
    | [] => mv_rv rb (Q none I J)
    | _ :: _ => False)
  | _ => False
def mv_wp (call : Nat → List mv_V → mv_I → mv_J → mv_Q → Prop) (sh : List mv_E) (X : Option (Nat × (Nat → Int32))) (tb : Nat → Option mv_R) (fl : Nat → Option (Nat × Nat)) (cs : Nat → Option (Nat × Nat × Nat)) (rb : Nat) (stop : mv_K) (Q : mv_Q) : Nat → mv_K
  | 0 => fun _ _ _ _ _ => False
  | n + 1 => fun pc ls st I J => match tb pc with
    | some (i, nx, tg, cst, cl) => mv_step call sh X fl cs rb pc i nx tg cst cl ls st I J (mv_wp call sh X tb fl cs rb stop Q n) Q
    | none => stop pc ls st I J
def mv_nn : Nat → (mv_L → Prop) → Prop
  | 0, f => f []
  | n + 1, f => mv_nn n (fun t => f (none :: t))
def mv_ini : List mv_V → Nat → (mv_L → Prop) → Prop
  | [], n, f => mv_nn n f
  | .inl x :: t, n + 1, f => mv_ini t n (fun l => f (some (.inl x) :: l))
  | .inr (.inr x) :: t, n + 1, f => mv_ini t n (fun l => f (some (.inr (.inr x)) :: l))
  | .inr (.inl x) :: t, n + 2, f => mv_ini t n (fun l => f (some (.inr (.inl x)) :: none :: l))
  | _, _, _ => False
/-- a method: its name, code, places, answer, owner, instructions, fields, calls -/
abbrev mv_N : Type := MethodName × ByteArray × Nat × Option FieldType × String × (Nat → Option mv_R) × (Nat → Option (Nat × Nat)) × (Nat → Option (Nat × Nat × Nat))
def mv_rk (ret : Option FieldType) : Nat := match ret with
  | none => 0
  | some .int => 1
  | some .boolean => 2
  | some _ => 3
def mv_wpM (tab : List mv_N) (sh : List mv_E) : Nat → Nat → List mv_V → mv_I → mv_J → mv_Q → Prop
  | 0 => fun _ _ _ _ _ => False
  | d + 1 => fun mid as I J Q => match mv_nth mid tab with
    | some (_, _, maxL, ret, _, tb, fl, cs) => mv_ini as maxL (fun ls => ∃ n, mv_wp (mv_wpM tab sh d) sh none tb fl cs (mv_rk ret) (fun _ _ _ _ _ => False) Q n 0 ls [] I J)
    | none => False
end
section
/-! what the small machine does, the machine does -/
def mv_len : Instr → Nat
  | .aload _ => 2
  | .iload _ => 2
  | .lload _ => 2
  | .astore _ => 2
  | .istore _ => 2
  | .lstore _ => 2
  | .bipush _ => 2
  | .ldc _ => 2
  | .getfield _ => 3
  | .putfield _ => 3
  | .invokevirtual _ => 3
  | .invokestatic _ => 3
  | .ifCond _ _ => 3
  | .if_icmp _ _ => 3
  | .goto _ => 3
  | .iinc _ _ => 3
  | .sipush _ => 3
  | .ldc_w _ => 3
  | .ldc2_w _ => 3
  | .tableswitch _ _ _ _ => 0
  | _ => 1
def mv_arg (own : String) (Ts : List Jvm.Cond) (pc : Nat) (i : Instr) (tg : Nat) (cst : Int32) (cl : Int64) : Bool := match i with
  | .iconst n => decide (Int32.ofInt n = cst)
  | .bipush n => decide ((Int8.ofInt n).toInt32 = cst)
  | .sipush n => decide ((Int16.ofInt n).toInt32 = cst)
  | .lconst n => decide (Int64.ofNat n.val = cl)
  | .iinc _ n => decide (Int32.ofInt n = cst)
  | .ldc idx => decide (Jvm.Cond.constant own idx cst ∈ Ts)
  | .ldc_w idx => decide (Jvm.Cond.constant own idx cst ∈ Ts)
  | .ldc2_w idx => decide (Jvm.Cond.constantLong own idx cl ∈ Ts)
  | .goto off => decide ((pc : Int) + off = (tg : Int))
  | .ifCond _ off => decide ((pc : Int) + off = (tg : Int))
  | .if_icmp _ off => decide ((pc : Int) + off = (tg : Int))
  | .tableswitch d lo hi offs => decide ((pc : Int) + d = (tg : Int)) && offs.toList.all (fun o => decide (0 ≤ (pc : Int) + o)) && decide (lo + (offs.toList.length : Int) = hi + 1)
  | _ => true
def mv_chk (cc : ByteArray) (own : String) (Ts : List Jvm.Cond) (pc : Nat) (r : Option mv_R) : Bool := match r with
  | none => true
  | some (i, nx, tg, cst, cl) => decide (decode cc pc = .ok (i, nx - pc)) && (Nat.beq (mv_len i) 0 || Nat.beq nx (pc + mv_len i)) && mv_arg own Ts pc i tg cst cl
/-- a table of a method's instructions: it is the code's -/
def mv_tbB (cc : ByteArray) (own : String) (Ts : List Jvm.Cond) (tb : Nat → Option mv_R) : Prop := ∀ pc, mv_chk cc own Ts pc (tb pc) = true
theorem mv_tb_at {cc : ByteArray} {own : String} {Ts : List Jvm.Cond} {tb : Nat → Option mv_R} (h : mv_tbB cc own Ts tb) {pc : Nat} {i : Instr} {nx tg : Nat} {cst : Int32} {cl : Int64} (e : tb pc = some (i, nx, tg, cst, cl)) :
    decode cc pc = .ok (i, nx - pc) ∧ (mv_len i ≠ 0 → decode cc pc = .ok (i, mv_len i) ∧ nx = pc + mv_len i) ∧ mv_arg own Ts pc i tg cst cl = true := by
  have h1 := h pc
  rw [e] at h1
  simp only [mv_chk, Bool.and_eq_true, Bool.or_eq_true, decide_eq_true_eq] at h1
  obtain ⟨⟨h1, h2⟩, h3⟩ := h1
  have h2 := h2.imp Nat.eq_of_beq_eq_true Nat.eq_of_beq_eq_true
  refine ⟨h1, fun hn => ?_, h3⟩
  rcases h2 with h2 | h2
  · exact absurd h2 hn
  · exact ⟨by rw [h1, h2]; congr 2; omega, h2⟩
/-- a table of the fields that the instructions name -/
def mv_flB (cl0 : List vw_C) (own : String) (Ts : List Jvm.Cond) (fl : Nat → Option (Nat × Nat)) : Prop := ∀ idx ci fi, fl idx = some (ci, fi) → ∃ (C : String) (T : u_T) (N : Nat) (ty0 : Nat → FieldType), cl0[ci]? = some (C, T, N) ∧ fi < N ∧ (∀ w ∈ u_ws C T N, w ∈ Ts) ∧ Jvm.Cond.fieldLink own idx (T fi).1 (T fi).2.1 (T fi).2.2.1 ∈ Ts ∧ (∀ k, k < N → parseFieldDescriptor (T k).2.2.1 = some (ty0 k)) ∧ (∀ a, a < N → ∀ b, b < N → a ≠ b → (T a).2.1 ≠ (T b).2.1)
/-- int fields may be written -/
def mv_shB (cl0 : List vw_C) (sh : List mv_E) : Prop := ∀ (a : Nat) (o : Nat × List (Option Nat)) (fi : Nat), mv_nth a sh = some (.inl o) → mv_nth fi o.2 = some none → ∀ (q : vw_C), cl0[o.1]? = some q → (q.2.1 fi).2.2.2 = false ∧ parseFieldDescriptor (q.2.1 fi).2.2.1 = some (bif mv_isZ o.1 fi then .boolean else .int)
theorem mv_fs_ref (ad : Nat → Nat) (f : Nat → Int32) : ∀ (fs : List (Option Nat)) (j fi r : Nat), mv_nth fi fs = some (some r) → (mv_fs ad f j fs)[fi]? = some (.ref (ad r))
  | [], _, _, _, h => by simp [mv_nth] at h
  | some q :: t, j, 0, r, h => by
    have : q = r := Option.some.inj (Option.some.inj h)
    subst this
    rfl
  | none :: t, j, 0, r, h => by cases h
  | some q :: t, j, fi + 1, r, h => by simpa [mv_fs] using mv_fs_ref ad f t (j + 1) fi r h
  | none :: t, j, fi + 1, r, h => by simpa [mv_fs] using mv_fs_ref ad f t (j + 1) fi r h
theorem mv_fs_int (ad : Nat → Nat) (f : Nat → Int32) : ∀ (fs : List (Option Nat)) (j fi : Nat), mv_nth fi fs = some none → (mv_fs ad f j fs)[fi]? = some (.int (f (j + fi)))
  | [], _, _, h => by simp [mv_nth] at h
  | some q :: t, j, 0, h => by cases h
  | none :: t, j, 0, h => rfl
  | some q :: t, j, fi + 1, h => by
    have := mv_fs_int ad f t (j + 1) fi h
    rw [show j + (fi + 1) = j + 1 + fi by omega]
    simpa [mv_fs] using this
  | none :: t, j, fi + 1, h => by
    have := mv_fs_int ad f t (j + 1) fi h
    rw [show j + (fi + 1) = j + 1 + fi by omega]
    simpa [mv_fs] using this
theorem mv_fs_len (ad : Nat → Nat) (f : Nat → Int32) : ∀ (fs : List (Option Nat)) (j : Nat), (mv_fs ad f j fs).length = fs.length
  | [], _ => rfl
  | some _ :: t, j => by simp [mv_fs, mv_fs_len ad f t (j + 1)]
  | none :: t, j => by simp [mv_fs, mv_fs_len ad f t (j + 1)]
theorem mv_fs_keep (ad : Nat → Nat) {f g : Nat → Int32} : ∀ (fs : List (Option Nat)) (j : Nat), (∀ i, j ≤ i → g i = f i) → mv_fs ad g j fs = mv_fs ad f j fs
  | [], _, _ => rfl
  | some _ :: t, j, h => by simp [mv_fs, mv_fs_keep ad t (j + 1) (fun i hi => h i (by omega))]
  | none :: t, j, h => by simp [mv_fs, mv_fs_keep ad t (j + 1) (fun i hi => h i (by omega)), h j (Nat.le_refl j)]
theorem mv_fs_set (ad : Nat → Nat) (f : Nat → Int32) (v : Int32) : ∀ (fs : List (Option Nat)) (j fi : Nat), mv_nth fi fs = some none → (mv_fs ad f j fs).set fi (.int v) = mv_fs ad (upd f (j + fi) v) j fs
  | [], _, _, h => by simp [mv_nth] at h
  | some q :: t, j, 0, h => by cases h
  | none :: t, j, 0, h => by
    simp only [mv_fs, List.set_cons_zero, Nat.add_zero]
    rw [mv_fs_keep ad (f := f) (g := upd f j v) t (j + 1) (fun i hi => by simp only [upd]; rw [if_neg (by omega)])]
    simp [upd]
  | some q :: t, j, fi + 1, h => by
    simp only [mv_fs, List.set_cons_succ]
    rw [mv_fs_set ad f v t (j + 1) fi h, show j + 1 + fi = j + (fi + 1) by omega]
  | none :: t, j, fi + 1, h => by
    simp only [mv_fs, List.set_cons_succ]
    rw [mv_fs_set ad f v t (j + 1) fi h, show j + 1 + fi = j + (fi + 1) by omega]
    simp only [upd]
    rw [if_neg (show ¬ j = j + (fi + 1) by omega)]
theorem mv_at_inv {sh : List mv_E} {a : Nat} {f : mv_E → Prop} (h : mv_at sh a f) : ∃ e, mv_nth a sh = some e ∧ f e := by
  unfold mv_at at h
  cases he : mv_nth a sh with
  | none => rw [he] at h; exact h.elim
  | some e => rw [he] at h; exact ⟨e, rfl, h⟩
theorem mv_arr_inv {e : mv_E} {f : Nat → Nat → Prop} (h : mv_arr e f) : ∃ ty n, e = .inr (ty, n) ∧ f ty n := by
  rcases e with o | ⟨ty, n⟩
  · exact h.elim
  · exact ⟨ty, n, rfl, h⟩
theorem mv_bif {b : Bool} {P : Prop} (h : bif b then P else False) : b = true ∧ P := by
  cases b
  · exact h.elim
  · exact ⟨rfl, h⟩
theorem mv_obj_inv {e : mv_E} {ci fi : Nat} {fR : Nat → Prop} {fI : Prop} (h : mv_obj e ci fi fR fI) : ∃ fs, e = .inl (ci, fs) ∧ ((∃ r, mv_nth fi fs = some (some r) ∧ fR r) ∨ (mv_nth fi fs = some none ∧ fI)) := by
  rcases e with ⟨cj, fs⟩ | o
  · obtain ⟨h1, h2⟩ := mv_bif (h : bif Nat.beq ci cj then _ else False)
    have h1 : ci = cj := Nat.eq_of_beq_eq_true h1
    subst h1
    refine ⟨fs, rfl, ?_⟩
    match hq : mv_nth fi fs, h2 with
    | some (some r), h2 => exact Or.inl ⟨r, rfl, h2⟩
    | some none, h2 => exact Or.inr ⟨rfl, h2⟩
    | none, h2 => exact h2.elim
  · exact h.elim
theorem mv_is_inv {e : mv_E} {ci : Nat} {P : Prop} (h : mv_is e ci P) : ∃ fs, e = .inl (ci, fs) ∧ P := by
  rcases e with ⟨cj, fs⟩ | o
  · obtain ⟨h1, h2⟩ := mv_bif (h : bif Nat.beq ci cj then P else False)
    have h1 : ci = cj := Nat.eq_of_beq_eq_true h1
    subst h1
    exact ⟨fs, rfl, h2⟩
  · exact h.elim
theorem mv_pop_inv : ∀ {n : Nat} {st acc : List mv_V} {f : List mv_V → List mv_V → Prop}, mv_pop n st acc f → ∃ as r, st = as.reverse ++ r ∧ as.length = n ∧ f (as ++ acc) r
  | 0, st, acc, f, h => ⟨[], st, rfl, rfl, h⟩
  | n + 1, [], acc, f, h => h.elim
  | n + 1, v :: st, acc, f, h => by
    obtain ⟨as, r, h1, h2, h3⟩ := mv_pop_inv (n := n) (st := st) (acc := v :: acc) h
    exact ⟨as ++ [v], r, by simp [h1], by simp [h2], by simpa using h3⟩
theorem mv_cs_eq (ad : Nat → Nat) : ∀ st : List mv_V, ((st.map (mv_val ad)).map fun v => v.category).sum = mv_cs st
  | [] => rfl
  | v :: t => by simp [mv_cs, mv_cat_val, ← mv_cs_eq ad t]
/-- a callee's world -/
def mv_Pc (cl0 : List vw_C) (dC : Nat → ClassId) (dI : Nat → Nat → Nat) (cy : Nat → ClassId) (ad : Nat → Nat) (sh : List mv_E) (sz : Nat) (as : List mv_V) (I : mv_I) (J : mv_J) : Array Value → State → Prop :=
  va_Pc (as.map (mv_val ad)) (fun U => U.heap.size = sz ∧ va_P (dC, dI) cl0 (mv_ws cy ad sh I J) U.heap ∧ va_K (dC, dI) cl0 (mv_tys cy) U ∧ va_D (fun _ => True) (mv_ws cy ad sh I J))
def mv_Bt (cl0 : List vw_C) (dC : Nat → ClassId) (dI : Nat → Nat → Nat) (cy : Nat → ClassId) (ad : Nat → Nat) (sh : List mv_E) : mv_I × mv_J → State → Prop := fun u t => va_P (dC, dI) cl0 (mv_ws cy ad sh u.1 u.2) t.heap
/-- a callee's contract, out of what the small machine says of it -/
def mv_Mt (l : Launch) (cl0 : List vw_C) (dC : Nat → ClassId) (dI : Nat → Nat → Nat) (cy : Nat → ClassId) (ad : Nat → Nat) (sh : List mv_E) (y : MethodName) (ws : List Jvm.Cond) (rm : Room) (as : List mv_V) (I : mv_I) (J : mv_J) (Q : mv_Q) : Prop :=
  ∀ sz : Nat, Met l y ws rm (mv_Pc cl0 dC dI cy ad sh sz as I J) (va_Qi (fun (r : Int32) (u : mv_I × mv_J) => Q (some (.inl r)) u.1 u.2) (mv_Bt cl0 dC dI cy ad sh) (va_A (mv_ws cy ad sh I J) sz)) 0 0 (va_A (mv_ws cy ad sh I J) sz) ∨
    Met l y ws rm (mv_Pc cl0 dC dI cy ad sh sz as I J) (va_Qv (fun (u : mv_I × mv_J) => Q none u.1 u.2) (mv_Bt cl0 dC dI cy ad sh) (va_A (mv_ws cy ad sh I J) sz)) 0 0 (va_A (mv_ws cy ad sh I J) sz)
/-- what a call needs, but for the callee's contract -/
def mv_site (cl0 : List vw_C) (own : String) (Ts : List Jvm.Cond) (idx na ci : Nat) (y : MethodName) (bytes : ByteArray) (maxL : Nat) (ret : Option FieldType) (ws ws' : List Jvm.Cond) : Prop :=
  ws = Jvm.Cond.code y bytes maxL ret :: ws' ∧ (y.cls ≠ "java/lang/invoke/MethodHandle" ∧ y.cls ≠ "java/lang/invoke/VarHandle") ∧ maxL ≤ 21 ∧
    (bif Nat.beq ci 100 then GoodIn Ts (va_wsS own idx y ws) ∧ (parseMethodDescriptor y.desc).map (fun d => d.parameters.length) = some na
     else GoodIn Ts (wsV own idx y.cls y ws) ∧ (∃ n, na = n + 1 ∧ (parseMethodDescriptor y.desc).map (fun d => d.parameters.length) = some n) ∧ ∃ q : vw_C, cl0[ci]? = some q ∧ q.1 = y.cls)
def mv_csB (l : Launch) (R : Room) (cl0 : List vw_C) (dC : Nat → ClassId) (dI : Nat → Nat → Nat) (cy : Nat → ClassId) (ad : Nat → Nat) (sh : List mv_E) (own : String) (Ts : List Jvm.Cond) (cs : Nat → Option (Nat × Nat × Nat)) (call : Nat → List mv_V → mv_I → mv_J → mv_Q → Prop) : Prop :=
  ∀ idx mid na ci, cs idx = some (mid, na, ci) → ∀ as I J Q, as.length = na → call mid as I J Q → ∃ (y : MethodName) (bytes : ByteArray) (maxL : Nat) (ret : Option FieldType) (ws ws' : List Jvm.Cond) (rm : Room), mv_site cl0 own Ts idx na ci y bytes maxL ret ws ws' ∧ rm.cells = 0 ∧ rm.slots = 0 ∧ rm.frames + 1 ≤ R.frames ∧ 40 + rm.locals ≤ R.locals ∧ mv_Mt l cl0 dC dI cy ad sh y ws rm as I J Q
/-- the three of the JDK -/
def mv_jdB (own : String) (Ts : List Jvm.Cond) (cs : Nat → Option (Nat × Nat × Nat)) : Prop :=
  (∀ idx na ci, cs idx = some (1000, na, ci) → Jvm.Cond.methodLink own idx Lib.Math.max.name ∈ Ts ∧ Jvm.Cond.static Lib.Math.max.name ∈ Ts ∧ Jvm.Cond.initialized "java/lang/Math" ∈ Ts ∧ Jvm.Cond.code Lib.Math.max.name Lib.Math.max.code 2 (some .int) ∈ Ts) ∧
  (∀ idx na ci, cs idx = some (1001, na, ci) → Jvm.Cond.methodLink own idx Lib.Math.min.name ∈ Ts ∧ Jvm.Cond.static Lib.Math.min.name ∈ Ts ∧ Jvm.Cond.initialized "java/lang/Math" ∈ Ts ∧ Jvm.Cond.code Lib.Math.min.name Lib.Math.min.code 2 (some .int) ∈ Ts) ∧
  (∀ idx na ci, cs idx = some (1002, na, ci) → Jvm.Cond.methodLink own idx arraycopyName ∈ Ts ∧ Jvm.Cond.native arraycopyName ∈ Ts ∧ Jvm.Cond.static arraycopyName ∈ Ts ∧ Jvm.Cond.initialized "java/lang/System" ∈ Ts)
end
section
theorem mv_ws_put {cy : Nat → ClassId} {ad : Nat → Nat} {sh : List mv_E} {I : mv_I} {J : mv_J} {a ci fi : Nat} {fs : List (Option Nat)} {v : Int32} (he : mv_nth a sh = some (.inl (ci, fs))) (hq : mv_nth fi fs = some none) : (mv_ws cy ad sh I J).set a (ad a, .inr (ci, (mv_fs ad (I a) 0 fs).set fi (.int v))) = mv_ws cy ad sh (va_up I a (upd (I a) fi v)) J := by
  rw [mv_fs_set ad (I a) v fs 0 fi hq, Nat.zero_add]
  have h := mv_ws_set (cy := cy) (ad := ad) (I := I) (I' := va_up I a (upd (I a) fi v)) (J := J) (J' := J) he (fun j hj => va_up_ne _ _ hj) (fun _ _ => rfl)
  rw [← h]
  simp only [mv_cell, va_up_self]
theorem mv_ws_row {cy : Nat → ClassId} {ad : Nat → Nat} {sh : List mv_E} {I : mv_I} {J : mv_J} {a ty n : Nat} (f : Nat → Int32) (he : mv_nth a sh = some (.inr (ty, n))) (hr : ∀ f g, mv_row ad f g ty = .inl f) : (mv_ws cy ad sh I J).set a (ad a, .inl (cy ty, n, .inl f)) = mv_ws cy ad sh (va_up I a f) J := by
  have h := mv_ws_set (cy := cy) (ad := ad) (I := I) (I' := va_up I a f) (J := J) (J' := J) he (fun j hj => va_up_ne _ _ hj) (fun _ _ => rfl)
  rw [← h]
  simp only [mv_cell, va_up_self, hr]
theorem mv_ws_rowL {cy : Nat → ClassId} {ad : Nat → Nat} {sh : List mv_E} {I : mv_I} {J : mv_J} {a n : Nat} (g : Nat → Int64) (he : mv_nth a sh = some (.inr (1, n))) : (mv_ws cy ad sh I J).set a (ad a, .inl (cy 1, n, .inr (.inl g))) = mv_ws cy ad sh I (va_up J a g) := by
  have h := mv_ws_set (cy := cy) (ad := ad) (I := I) (I' := I) (J := J) (J' := va_up J a g) he (fun _ _ => rfl) (fun j hj => va_up_ne _ _ hj)
  rw [← h]
  simp only [mv_cell, va_up_self, mv_row]
section MVS
variable {p : Program} {l : Launch} {e : Env} {R : Room} {s : State} {m : MethodId} {args : Array Value} {below : List Frame} {meth : Method} {c : Code} {cells slots : Nat} {Qf : State → Prop}
variable {cc : ByteArray} {own : String} {Ts : List Jvm.Cond} {nL : Nat} {dC : Nat → ClassId} {dI : Nat → Nat → Nat} {cl0 : List vw_C} {cy : Nat → ClassId} {ad : Nat → Nat} {sh : List mv_E} {A : Nat → Prop} {H0 : Heap}
set_option maxHeartbeats 4000000 in
set_option maxRecDepth 100000 in
theorem mv_step_sound (hx : p.tables.exec = Jvm.exec) (hb : c.code = cc) (hml : c.maxLocals = nL) (hown : s.vm.findClass own = some m.cls) (hts : ∀ w ∈ Ts, w.before args s = true) (hK : va_K (dC, dI) cl0 (mv_tys cy) s) (hD : ∀ I J, va_D A (mv_ws cy ad sh I J)) (hA : ∀ q : Nat, H0.size ≤ q → A q) (hR : 1 ≤ R.frames ∧ 60 ≤ R.locals ∧ cells ≤ R.cells ∧ slots ≤ R.slots)
    {X : Option (Nat × (Nat → Int32))} (hX : ∀ L xs, X = some (L, xs) → va_X (ad 999) L xs s H0 ∧ ad 999 < H0.size ∧ ¬ A (ad 999)) {fl : Nat → Option (Nat × Nat)} {cs : Nat → Option (Nat × Nat × Nat)} {call : Nat → List mv_V → mv_I → mv_J → mv_Q → Prop} {rb : Nat} {k : mv_K} {Q : mv_Q}
    (hF : mv_flB cl0 own Ts fl) (hSh : mv_shB cl0 sh) (hC : mv_csB l R cl0 dC dI cy ad sh own Ts cs call) (hJ : mv_jdB own Ts cs)
    (hret : ∀ (pc : Nat) (x : Int32) (I : mv_I) (J : mv_J) (H : Heap) (locs : List Loc) (arr : Array Slot), decode cc pc = .ok (.ireturn, 1) → mv_rq rb x (Q (some (.inl x)) I J) → va_P (dC, dI) cl0 (mv_ws cy ad sh I J) H → va_S A H0 H locs → W p l e R s m args below meth c H locs cells slots Qf (F0 m pc arr [.int x]))
    (hvret : ∀ (pc : Nat) (I : mv_I) (J : mv_J) (H : Heap) (locs : List Loc) (arr : Array Slot), decode cc pc = .ok (.return_, 1) → mv_rv rb (Q none I J) → va_P (dC, dI) cl0 (mv_ws cy ad sh I J) H → va_S A H0 H locs → W p l e R s m args below meth c H locs cells slots Qf (F0 m pc arr []))
    (hk : ∀ (pc : Nat) (ls : mv_L) (st : List mv_V) (I : mv_I) (J : mv_J) (H : Heap) (locs : List Loc) (arr : Array Slot), k pc ls st I J → va_P (dC, dI) cl0 (mv_ws cy ad sh I J) H → va_S A H0 H locs → mv_LS ad ls arr → ls.length = nL → W p l e R s m args below meth c H locs cells slots Qf (F0 m pc arr (st.map (mv_val ad))))
    {pc : Nat} {i : Instr} {nx tg : Nat} {cst : Int32} {cl : Int64} (hraw : decode cc pc = .ok (i, nx - pc)) (hd : mv_len i ≠ 0 → decode cc pc = .ok (i, mv_len i) ∧ nx = pc + mv_len i) (hg : mv_arg own Ts pc i tg cst cl = true)
    {ls : mv_L} {st : List mv_V} {I : mv_I} {J : mv_J} {H : Heap} {locs : List Loc} {arr : Array Slot} (h : mv_step call sh X fl cs rb pc i nx tg cst cl ls st I J k Q) (hP : va_P (dC, dI) cl0 (mv_ws cy ad sh I J) H) (hS : va_S A H0 H locs) (hL : mv_LS ad ls arr) (hn : ls.length = nL) :
    W p l e R s m args below meth c H locs cells slots Qf (F0 m pc arr (st.map (mv_val ad))) := by
  have hFc : ∀ q, va_A (mv_ws cy ad sh I J) H.size q → A q := by
    intro q hq
    rcases hq with ⟨kq, eq, hq⟩ | hq
    · exact (hD I J).2 kq (q, eq) hq
    · exact hA q (Nat.le_trans hS.1 hq)
  cases i with
  | iload_n n =>
    obtain ⟨hdd, rfl⟩ := hd (Nat.succ_ne_zero _)
    replace h := mv_get_inv h
    obtain ⟨v, hv, h⟩ := h
    replace h := mv_asI_inv h
    obtain ⟨x, rfl, h⟩ := h
    exact lv_iload_n hx hb hdd rfl (hL.2.2 _ _ hv) (hk _ _ _ _ _ _ _ _ h hP hS hL hn)
  | iload n =>
    obtain ⟨hdd, rfl⟩ := hd (Nat.succ_ne_zero _)
    replace h := mv_get_inv h
    obtain ⟨v, hv, h⟩ := h
    replace h := mv_asI_inv h
    obtain ⟨x, rfl, h⟩ := h
    exact lv_iload hx hb hdd (hL.2.2 _ _ hv) (hk _ _ _ _ _ _ _ _ h hP hS hL hn)
  | istore_n n =>
    obtain ⟨hdd, rfl⟩ := hd (Nat.succ_ne_zero _)
    replace h := mv_pI_inv h
    obtain ⟨x, r, rfl, h⟩ := h
    obtain ⟨ls', h, hr⟩ := mv_set_inv h
    exact lv_istore_n hx hb hdd rfl hL.has hr.2.1 rfl (fun arr' ha => hk _ _ _ _ _ _ _ _ h hP hS (mv_LS.set1 rfl hr ha) (hr.1.trans hn))
  | istore n =>
    obtain ⟨hdd, rfl⟩ := hd (Nat.succ_ne_zero _)
    replace h := mv_pI_inv h
    obtain ⟨x, r, rfl, h⟩ := h
    obtain ⟨ls', h, hr⟩ := mv_set_inv h
    exact lv_istore hx hb hdd hL.has hr.2.1 rfl (fun arr' ha => hk _ _ _ _ _ _ _ _ h hP hS (mv_LS.set1 rfl hr ha) (hr.1.trans hn))
  | lload_n n =>
    obtain ⟨hdd, rfl⟩ := hd (Nat.succ_ne_zero _)
    replace h := mv_get_inv h
    obtain ⟨v, hv, h⟩ := h
    replace h := mv_asL_inv h
    obtain ⟨x, rfl, h⟩ := h
    exact lv_lload_n hx hb hdd rfl (hL.2.2 _ _ hv) (hk _ _ _ _ _ _ _ _ h hP hS hL hn)
  | lload n =>
    obtain ⟨hdd, rfl⟩ := hd (Nat.succ_ne_zero _)
    replace h := mv_get_inv h
    obtain ⟨v, hv, h⟩ := h
    replace h := mv_asL_inv h
    obtain ⟨x, rfl, h⟩ := h
    exact lv_lload hx hb hdd (hL.2.2 _ _ hv) (hk _ _ _ _ _ _ _ _ h hP hS hL hn)
  | lstore_n n =>
    obtain ⟨hdd, rfl⟩ := hd (Nat.succ_ne_zero _)
    replace h := mv_pL_inv h
    obtain ⟨x, r, rfl, h⟩ := h
    obtain ⟨ls', h, hr⟩ := mv_set_inv h
    exact lv_lstore_n hx hb hdd rfl hL.has (hr.2.2.1 rfl) rfl (fun arr' ha => hk _ _ _ _ _ _ _ _ h hP hS (mv_LS.set2 rfl hr ha) (hr.1.trans hn))
  | lstore n =>
    obtain ⟨hdd, rfl⟩ := hd (Nat.succ_ne_zero _)
    replace h := mv_pL_inv h
    obtain ⟨x, r, rfl, h⟩ := h
    obtain ⟨ls', h, hr⟩ := mv_set_inv h
    exact lv_lstore hx hb hdd hL.has (hr.2.2.1 rfl) rfl (fun arr' ha => hk _ _ _ _ _ _ _ _ h hP hS (mv_LS.set2 rfl hr ha) (hr.1.trans hn))
  | aload_n n =>
    obtain ⟨hdd, rfl⟩ := hd (Nat.succ_ne_zero _)
    replace h := mv_get_inv h
    obtain ⟨v, hv, h⟩ := h
    replace h := mv_asA_inv h
    obtain ⟨x, rfl, h⟩ := h
    exact lv_aload_n hx hb hdd rfl (hL.2.2 _ _ hv) (hk _ _ _ _ _ _ _ _ h hP hS hL hn)
  | aload n =>
    obtain ⟨hdd, rfl⟩ := hd (Nat.succ_ne_zero _)
    replace h := mv_get_inv h
    obtain ⟨v, hv, h⟩ := h
    replace h := mv_asA_inv h
    obtain ⟨x, rfl, h⟩ := h
    exact lv_aload hx hb hdd (hL.2.2 _ _ hv) (hk _ _ _ _ _ _ _ _ h hP hS hL hn)
  | astore_n n =>
    obtain ⟨hdd, rfl⟩ := hd (Nat.succ_ne_zero _)
    replace h := mv_pA_inv h
    obtain ⟨x, r, rfl, h⟩ := h
    obtain ⟨ls', h, hr⟩ := mv_set_inv h
    exact lv_astore_n hx hb hdd rfl hL.has hr.2.1 rfl (fun arr' ha => hk _ _ _ _ _ _ _ _ h hP hS (mv_LS.set1 rfl hr ha) (hr.1.trans hn))
  | astore n =>
    obtain ⟨hdd, rfl⟩ := hd (Nat.succ_ne_zero _)
    replace h := mv_pA_inv h
    obtain ⟨x, r, rfl, h⟩ := h
    obtain ⟨ls', h, hr⟩ := mv_set_inv h
    exact lv_astore hx hb hdd hL.has hr.2.1 rfl (fun arr' ha => hk _ _ _ _ _ _ _ _ h hP hS (mv_LS.set1 rfl hr ha) (hr.1.trans hn))
  | iinc n z =>
    obtain ⟨hdd, rfl⟩ := hd (Nat.succ_ne_zero _)
    replace h := mv_get_inv h
    obtain ⟨v, hv, h⟩ := h
    replace h := mv_asI_inv h
    obtain ⟨x, rfl, h⟩ := h
    obtain ⟨ls', h, hr⟩ := mv_set_inv h
    have hmem := mv_prs_in ad ls 0 n (.inl x) hv
    rw [Nat.zero_add] at hmem
    obtain ⟨kk, hkk⟩ := List.getElem?_of_mem hmem
    exact lv_iinc (k := kk) (v := x + cst) hx hb hdd hL.has hkk (by rw [of_decide_eq_true hg]) hr.2.1 rfl (fun arr' ha => hk _ _ _ _ _ _ _ _ h hP hS (mv_LS.set1 rfl hr ha) (hr.1.trans hn))
  | iconst n =>
    obtain ⟨hdd, rfl⟩ := hd (Nat.succ_ne_zero _)
    exact lv_iconst hx hb hdd (of_decide_eq_true hg) (hk _ _ _ _ _ _ _ _ h hP hS hL hn)
  | bipush n =>
    obtain ⟨hdd, rfl⟩ := hd (Nat.succ_ne_zero _)
    exact lv_bipush hx hb hdd (of_decide_eq_true hg) (hk _ _ _ _ _ _ _ _ h hP hS hL hn)
  | sipush n =>
    obtain ⟨hdd, rfl⟩ := hd (Nat.succ_ne_zero _)
    exact lv_sipush hx hb hdd (of_decide_eq_true hg) (hk _ _ _ _ _ _ _ _ h hP hS hL hn)
  | lconst n =>
    obtain ⟨hdd, rfl⟩ := hd (Nat.succ_ne_zero _)
    exact lv_lconst hx hb hdd (of_decide_eq_true hg) (hk _ _ _ _ _ _ _ _ h hP hS hL hn)
  | ldc idx =>
    obtain ⟨hdd, rfl⟩ := hd (Nat.succ_ne_zero _)
    exact lv_ldc hx hb hown (hts _ (of_decide_eq_true hg)) hdd (hk _ _ _ _ _ _ _ _ h hP hS hL hn)
  | ldc_w idx =>
    obtain ⟨hdd, rfl⟩ := hd (Nat.succ_ne_zero _)
    exact lv_ldcw hx hb hown (hts _ (of_decide_eq_true hg)) hdd (hk _ _ _ _ _ _ _ _ h hP hS hL hn)
  | ldc2_w idx =>
    obtain ⟨hdd, rfl⟩ := hd (Nat.succ_ne_zero _)
    exact lv_ldc2 hx hb hown (hts _ (of_decide_eq_true hg)) hdd (hk _ _ _ _ _ _ _ _ h hP hS hL hn)
  | iadd =>
    obtain ⟨hdd, rfl⟩ := hd (Nat.succ_ne_zero _)
    replace h := mv_pI_inv h
    obtain ⟨y, r, rfl, h⟩ := h
    replace h := mv_pI_inv h
    obtain ⟨x, r, rfl, h⟩ := h
    exact lv_iadd hx hb hdd (hk _ _ _ _ _ _ _ _ h hP hS hL hn)
  | isub =>
    obtain ⟨hdd, rfl⟩ := hd (Nat.succ_ne_zero _)
    replace h := mv_pI_inv h
    obtain ⟨y, r, rfl, h⟩ := h
    replace h := mv_pI_inv h
    obtain ⟨x, r, rfl, h⟩ := h
    exact lv_isub hx hb hdd (hk _ _ _ _ _ _ _ _ h hP hS hL hn)
  | imul =>
    obtain ⟨hdd, rfl⟩ := hd (Nat.succ_ne_zero _)
    replace h := mv_pI_inv h
    obtain ⟨y, r, rfl, h⟩ := h
    replace h := mv_pI_inv h
    obtain ⟨x, r, rfl, h⟩ := h
    exact lv_imul hx hb hdd (hk _ _ _ _ _ _ _ _ h hP hS hL hn)
  | iand =>
    obtain ⟨hdd, rfl⟩ := hd (Nat.succ_ne_zero _)
    replace h := mv_pI_inv h
    obtain ⟨y, r, rfl, h⟩ := h
    replace h := mv_pI_inv h
    obtain ⟨x, r, rfl, h⟩ := h
    exact lv_iand hx hb hdd (hk _ _ _ _ _ _ _ _ h hP hS hL hn)
  | ior =>
    obtain ⟨hdd, rfl⟩ := hd (Nat.succ_ne_zero _)
    replace h := mv_pI_inv h
    obtain ⟨y, r, rfl, h⟩ := h
    replace h := mv_pI_inv h
    obtain ⟨x, r, rfl, h⟩ := h
    exact lv_ior hx hb hdd (hk _ _ _ _ _ _ _ _ h hP hS hL hn)
  | ixor =>
    obtain ⟨hdd, rfl⟩ := hd (Nat.succ_ne_zero _)
    replace h := mv_pI_inv h
    obtain ⟨y, r, rfl, h⟩ := h
    replace h := mv_pI_inv h
    obtain ⟨x, r, rfl, h⟩ := h
    exact lv_ixor hx hb hdd (hk _ _ _ _ _ _ _ _ h hP hS hL hn)
  | ishl =>
    obtain ⟨hdd, rfl⟩ := hd (Nat.succ_ne_zero _)
    replace h := mv_pI_inv h
    obtain ⟨y, r, rfl, h⟩ := h
    replace h := mv_pI_inv h
    obtain ⟨x, r, rfl, h⟩ := h
    exact lv_ishl hx hb hdd (hk _ _ _ _ _ _ _ _ h hP hS hL hn)
  | ishr =>
    obtain ⟨hdd, rfl⟩ := hd (Nat.succ_ne_zero _)
    replace h := mv_pI_inv h
    obtain ⟨y, r, rfl, h⟩ := h
    replace h := mv_pI_inv h
    obtain ⟨x, r, rfl, h⟩ := h
    exact lv_ishr hx hb hdd (hk _ _ _ _ _ _ _ _ h hP hS hL hn)
  | idiv =>
    obtain ⟨hdd, rfl⟩ := hd (Nat.succ_ne_zero _)
    replace h := mv_pI_inv h
    obtain ⟨y, r, rfl, h⟩ := h
    replace h := mv_pI_inv h
    obtain ⟨x, r, rfl, h⟩ := h
    exact lv_idiv hx hb hdd h.1 (hk _ _ _ _ _ _ _ _ h.2 hP hS hL hn)
  | irem =>
    obtain ⟨hdd, rfl⟩ := hd (Nat.succ_ne_zero _)
    replace h := mv_pI_inv h
    obtain ⟨y, r, rfl, h⟩ := h
    replace h := mv_pI_inv h
    obtain ⟨x, r, rfl, h⟩ := h
    exact lv_irem hx hb hdd h.1 (hk _ _ _ _ _ _ _ _ h.2 hP hS hL hn)
  | iushr =>
    obtain ⟨hdd, rfl⟩ := hd (Nat.succ_ne_zero _)
    replace h := mv_pI_inv h
    obtain ⟨y, r, rfl, h⟩ := h
    replace h := mv_pI_inv h
    obtain ⟨x, r, rfl, h⟩ := h
    exact lv_iushr hx hb hdd rfl (hk _ _ _ _ _ _ _ _ h hP hS hL hn)
  | ladd =>
    obtain ⟨hdd, rfl⟩ := hd (Nat.succ_ne_zero _)
    replace h := mv_pL_inv h
    obtain ⟨y, r, rfl, h⟩ := h
    replace h := mv_pL_inv h
    obtain ⟨x, r, rfl, h⟩ := h
    exact lv_ladd hx hb hdd (hk _ _ _ _ _ _ _ _ h hP hS hL hn)
  | lsub =>
    obtain ⟨hdd, rfl⟩ := hd (Nat.succ_ne_zero _)
    replace h := mv_pL_inv h
    obtain ⟨y, r, rfl, h⟩ := h
    replace h := mv_pL_inv h
    obtain ⟨x, r, rfl, h⟩ := h
    exact lv_lsub hx hb hdd (hk _ _ _ _ _ _ _ _ h hP hS hL hn)
  | lmul =>
    obtain ⟨hdd, rfl⟩ := hd (Nat.succ_ne_zero _)
    replace h := mv_pL_inv h
    obtain ⟨y, r, rfl, h⟩ := h
    replace h := mv_pL_inv h
    obtain ⟨x, r, rfl, h⟩ := h
    exact lv_lmul hx hb hdd (hk _ _ _ _ _ _ _ _ h hP hS hL hn)
  | land =>
    obtain ⟨hdd, rfl⟩ := hd (Nat.succ_ne_zero _)
    replace h := mv_pL_inv h
    obtain ⟨y, r, rfl, h⟩ := h
    replace h := mv_pL_inv h
    obtain ⟨x, r, rfl, h⟩ := h
    exact lv_land hx hb hdd (hk _ _ _ _ _ _ _ _ h hP hS hL hn)
  | lor =>
    obtain ⟨hdd, rfl⟩ := hd (Nat.succ_ne_zero _)
    replace h := mv_pL_inv h
    obtain ⟨y, r, rfl, h⟩ := h
    replace h := mv_pL_inv h
    obtain ⟨x, r, rfl, h⟩ := h
    exact lv_lor hx hb hdd (hk _ _ _ _ _ _ _ _ h hP hS hL hn)
  | ldiv =>
    obtain ⟨hdd, rfl⟩ := hd (Nat.succ_ne_zero _)
    replace h := mv_pL_inv h
    obtain ⟨y, r, rfl, h⟩ := h
    replace h := mv_pL_inv h
    obtain ⟨x, r, rfl, h⟩ := h
    exact lv_ldiv hx hb hdd h.1 (hk _ _ _ _ _ _ _ _ h.2 hP hS hL hn)
  | lrem =>
    obtain ⟨hdd, rfl⟩ := hd (Nat.succ_ne_zero _)
    replace h := mv_pL_inv h
    obtain ⟨y, r, rfl, h⟩ := h
    replace h := mv_pL_inv h
    obtain ⟨x, r, rfl, h⟩ := h
    exact lv_lrem hx hb hdd h.1 (hk _ _ _ _ _ _ _ _ h.2 hP hS hL hn)
  | lcmp =>
    obtain ⟨hdd, rfl⟩ := hd (Nat.succ_ne_zero _)
    replace h := mv_pL_inv h
    obtain ⟨y, r, rfl, h⟩ := h
    replace h := mv_pL_inv h
    obtain ⟨x, r, rfl, h⟩ := h
    exact W.lcmp hx hb hdd (hk _ _ _ _ _ _ _ _ h hP hS hL hn)
  | lshl =>
    obtain ⟨hdd, rfl⟩ := hd (Nat.succ_ne_zero _)
    replace h := mv_pI_inv h
    obtain ⟨y, r, rfl, h⟩ := h
    replace h := mv_pL_inv h
    obtain ⟨x, r, rfl, h⟩ := h
    exact lv_lshl hx hb hdd rfl (hk _ _ _ _ _ _ _ _ h hP hS hL hn)
  | lshr =>
    obtain ⟨hdd, rfl⟩ := hd (Nat.succ_ne_zero _)
    replace h := mv_pI_inv h
    obtain ⟨y, r, rfl, h⟩ := h
    replace h := mv_pL_inv h
    obtain ⟨x, r, rfl, h⟩ := h
    exact lv_lshr hx hb hdd rfl (hk _ _ _ _ _ _ _ _ h hP hS hL hn)
  | i2l =>
    obtain ⟨hdd, rfl⟩ := hd (Nat.succ_ne_zero _)
    replace h := mv_pI_inv h
    obtain ⟨x, r, rfl, h⟩ := h
    exact lv_i2l hx hb hdd rfl (hk _ _ _ _ _ _ _ _ h hP hS hL hn)
  | l2i =>
    obtain ⟨hdd, rfl⟩ := hd (Nat.succ_ne_zero _)
    replace h := mv_pL_inv h
    obtain ⟨x, r, rfl, h⟩ := h
    exact lv_l2i hx hb hdd rfl (hk _ _ _ _ _ _ _ _ h hP hS hL hn)
  | i2b =>
    obtain ⟨hdd, rfl⟩ := hd (Nat.succ_ne_zero _)
    replace h := mv_pI_inv h
    obtain ⟨x, r, rfl, h⟩ := h
    exact lv_i2b hx hb hdd rfl (hk _ _ _ _ _ _ _ _ h hP hS hL hn)
  | i2s =>
    obtain ⟨hdd, rfl⟩ := hd (Nat.succ_ne_zero _)
    replace h := mv_pI_inv h
    obtain ⟨x, r, rfl, h⟩ := h
    exact lv_i2s hx hb hdd rfl (hk _ _ _ _ _ _ _ _ h hP hS hL hn)
  | dup =>
    obtain ⟨hdd, rfl⟩ := hd (Nat.succ_ne_zero _)
    match st, h with
    | .inl x :: r, h => exact lv_dup hx hb hdd rfl (hk _ _ _ _ _ _ _ _ h hP hS hL hn)
    | .inr (.inr x) :: r, h => exact lv_dup hx hb hdd rfl (hk _ _ _ _ _ _ _ _ h hP hS hL hn)
    | .inr (.inl x) :: r, h => exact h.elim
    | [], h => exact h.elim
  | dup2 =>
    obtain ⟨hdd, rfl⟩ := hd (Nat.succ_ne_zero _)
    replace h := mv_pI_inv h
    obtain ⟨y, r, rfl, h⟩ := h
    replace h := mv_pA_inv h
    obtain ⟨x, r, rfl, h⟩ := h
    exact lv_dup2_11 hx hb hdd rfl rfl (hk _ _ _ _ _ _ _ _ h hP hS hL hn)
  | pop =>
    obtain ⟨hdd, rfl⟩ := hd (Nat.succ_ne_zero _)
    replace h := mv_pI_inv h
    obtain ⟨y, r, rfl, h⟩ := h
    exact lv_pop hx hb hdd rfl (hk _ _ _ _ _ _ _ _ h hP hS hL hn)
  | goto off =>
    obtain ⟨hdd, rfl⟩ := hd (Nat.succ_ne_zero _)
    exact lv_goto hx hb hdd (of_decide_eq_true hg) (hk _ _ _ _ _ _ _ _ h hP hS hL hn)
  | ifCond z off =>
    obtain ⟨hdd, rfl⟩ := hd (Nat.succ_ne_zero _)
    replace h := mv_pI_inv h
    obtain ⟨x, r, rfl, h⟩ := h
    cases z with
    | eq => exact lv_if_eq hx hb hdd (of_decide_eq_true hg) (fun q => hk _ _ _ _ _ _ _ _ (h.1 q) hP hS hL hn) (fun q => hk _ _ _ _ _ _ _ _ (h.2 q) hP hS hL hn)
    | ne => exact lv_if_ne hx hb hdd (of_decide_eq_true hg) (fun q => hk _ _ _ _ _ _ _ _ (h.1 q) hP hS hL hn) (fun q => hk _ _ _ _ _ _ _ _ (h.2 q) hP hS hL hn)
    | lt => exact lv_if_lt hx hb hdd (of_decide_eq_true hg) (fun q => hk _ _ _ _ _ _ _ _ (h.1 q) hP hS hL hn) (fun q => hk _ _ _ _ _ _ _ _ (h.2 q) hP hS hL hn)
    | ge => exact lv_if_ge hx hb hdd (of_decide_eq_true hg) (fun q => hk _ _ _ _ _ _ _ _ (h.1 q) hP hS hL hn) (fun q => hk _ _ _ _ _ _ _ _ (h.2 q) hP hS hL hn)
    | gt => exact lv_if_gt hx hb hdd (of_decide_eq_true hg) (fun q => hk _ _ _ _ _ _ _ _ (h.1 q) hP hS hL hn) (fun q => hk _ _ _ _ _ _ _ _ (h.2 q) hP hS hL hn)
    | le => exact lv_if_le hx hb hdd (of_decide_eq_true hg) (fun q => hk _ _ _ _ _ _ _ _ (h.1 q) hP hS hL hn) (fun q => hk _ _ _ _ _ _ _ _ (h.2 q) hP hS hL hn)
  | if_icmp z off =>
    obtain ⟨hdd, rfl⟩ := hd (Nat.succ_ne_zero _)
    replace h := mv_pI_inv h
    obtain ⟨y, r, rfl, h⟩ := h
    replace h := mv_pI_inv h
    obtain ⟨x, r, rfl, h⟩ := h
    cases z with
    | eq => exact lv_icmp_eq hx hb hdd (of_decide_eq_true hg) (fun q => hk _ _ _ _ _ _ _ _ (h.1 q) hP hS hL hn) (fun q => hk _ _ _ _ _ _ _ _ (h.2 q) hP hS hL hn)
    | ne => exact lv_icmp_ne hx hb hdd (of_decide_eq_true hg) (fun q => hk _ _ _ _ _ _ _ _ (h.1 q) hP hS hL hn) (fun q => hk _ _ _ _ _ _ _ _ (h.2 q) hP hS hL hn)
    | lt => exact lv_icmp_lt hx hb hdd (of_decide_eq_true hg) (fun q => hk _ _ _ _ _ _ _ _ (h.1 q) hP hS hL hn) (fun q => hk _ _ _ _ _ _ _ _ (h.2 q) hP hS hL hn)
    | ge => exact lv_icmp_ge hx hb hdd (of_decide_eq_true hg) (fun q => hk _ _ _ _ _ _ _ _ (h.1 q) hP hS hL hn) (fun q => hk _ _ _ _ _ _ _ _ (h.2 q) hP hS hL hn)
    | gt => exact lv_icmp_gt hx hb hdd (of_decide_eq_true hg) (fun q => hk _ _ _ _ _ _ _ _ (h.1 q) hP hS hL hn) (fun q => hk _ _ _ _ _ _ _ _ (h.2 q) hP hS hL hn)
    | le => exact lv_icmp_le hx hb hdd (of_decide_eq_true hg) (fun q => hk _ _ _ _ _ _ _ _ (h.1 q) hP hS hL hn) (fun q => hk _ _ _ _ _ _ _ _ (h.2 q) hP hS hL hn)
  | tableswitch d lo hi offs =>
    replace h := mv_pI_inv h
    obtain ⟨x, r, rfl, h⟩ := h
    have hg : (decide ((pc : Int) + d = (tg : Int)) && offs.toList.all (fun o => decide (0 ≤ (pc : Int) + o)) && decide (lo + (offs.toList.length : Int) = hi + 1)) = true := hg
    simp only [Bool.and_eq_true, decide_eq_true_eq, List.all_eq_true] at hg
    obtain ⟨⟨g1, g2⟩, g3⟩ := hg
    by_cases ho : x.toInt < lo ∨ hi < x.toInt
    · exact lv_tableOut hx hb hraw ho g1 (hk _ _ _ _ _ _ _ _ (h.1 ho) hP hS hL hn)
    · have h1 : ¬ x.toInt < lo := fun q => ho (Or.inl q)
      have h2 : ¬ hi < x.toInt := fun q => ho (Or.inr q)
      have hj : (x.toInt - lo).toNat < offs.toList.length := by omega
      have hj2 : offs.toList[(x.toInt - lo).toNat]? = some (offs.toList[(x.toInt - lo).toNat]) := List.getElem?_eq_getElem hj
      have hpos := g2 _ (List.getElem_mem hj)
      exact lv_tableIn hx hb hraw h1 h2 (by rw [← Array.getElem?_toList]; exact hj2) (by rw [Int.toNat_of_nonneg hpos]) (hk _ _ _ _ _ _ _ _ (mv_sw_at h.2 _ _ hj2 (by omega)) hP hS hL hn)
  | getfield idx =>
    obtain ⟨hdd, rfl⟩ := hd (Nat.succ_ne_zero _)
    replace h := mv_pA_inv h
    obtain ⟨a, r, rfl, h⟩ := h
    cases hf : fl idx with
    | none => simp only [hf] at h
    | some q =>
      obtain ⟨ci, fi⟩ := q
      simp only [hf] at h
      replace h := mv_at_inv h
      obtain ⟨o, he, h⟩ := h
      replace h := mv_obj_inv h
      obtain ⟨fs, rfl, h⟩ := h
      obtain ⟨C, T, N, ty0, c1, c2, c3, c4, c5, c6⟩ := hF idx ci fi hf
      rcases h with ⟨q, hq, h⟩ | ⟨hq, h⟩
      · exact va_get (D := (dC, dI)) (ci := ci) (v := .ref (ad q)) (C := C) (T := T) (N := N) hx hb hts c3 hown hK hP a (mv_ws_get he) c1 fi c2 (hts _ c4) (fun _ h9 => h9) (mv_fs_ref ad (I a) fs 0 fi q hq) hdd (hk _ _ _ _ _ _ _ _ h hP hS hL hn)
      · have hv := mv_fs_int ad (I a) fs 0 fi hq
        rw [Nat.zero_add] at hv
        exact va_get (D := (dC, dI)) (ci := ci) (v := .int (I a fi)) (C := C) (T := T) (N := N) hx hb hts c3 hown hK hP a (mv_ws_get he) c1 fi c2 (hts _ c4) (fun _ h9 => h9) hv hdd (hk _ _ _ _ _ _ _ _ h hP hS hL hn)
  | putfield idx =>
    obtain ⟨hdd, rfl⟩ := hd (Nat.succ_ne_zero _)
    replace h := mv_pI_inv h
    obtain ⟨v, r, rfl, h⟩ := h
    replace h := mv_pA_inv h
    obtain ⟨a, r, rfl, h⟩ := h
    cases hf : fl idx with
    | none => simp only [hf] at h
    | some q =>
      obtain ⟨ci, fi⟩ := q
      simp only [hf] at h
      replace h := mv_at_inv h
      obtain ⟨o, he, h⟩ := h
      replace h := mv_obj_inv h
      obtain ⟨fs, rfl, h⟩ := h
      obtain ⟨C, T, N, ty0, c1, c2, c3, c4, c5, c6⟩ := hF idx ci fi hf
      rcases h with ⟨q, hq, h⟩ | ⟨hq, h⟩
      · exact h.elim
      · obtain ⟨z1, z2⟩ := hSh a (ci, fs) fi he hq (C, T, N) c1
        have hlt : fi < (mv_fs ad (I a) 0 fs).length := (List.getElem?_eq_some_iff.mp (mv_fs_int ad (I a) fs 0 fi hq)).1
        cases hz : mv_isZ ci fi with
        | false =>
          simp only [hz, cond_false] at h z2
          exact va_put (D := (dC, dI)) (ci := ci) (v := .int v) (ty := .int) (C := C) (T := T) (N := N) hx hb hts c3 ty0 c5 c6 hown hK hP (hD I J) hS a (mv_ws_get he) c1 fi c2 (hts _ c4) (fun _ h9 => h9) z1 z2 rfl rfl hlt hdd (fun H1 locs1 hP1 _ hS1 => hk _ _ _ _ _ _ _ _ h (by rw [← mv_ws_put he hq]; exact hP1) hS1 hL hn)
        | true =>
          simp only [hz, cond_true] at h z2
          have hv : narrow .boolean (.int v) = .int v ∧ fits .boolean (.int v) = true := by rcases h.1 with rfl | rfl <;> exact ⟨rfl, rfl⟩
          exact va_put (D := (dC, dI)) (ci := ci) (v := .int v) (ty := .boolean) (C := C) (T := T) (N := N) hx hb hts c3 ty0 c5 c6 hown hK hP (hD I J) hS a (mv_ws_get he) c1 fi c2 (hts _ c4) (fun _ h9 => h9) z1 z2 hv.1 hv.2 hlt hdd (fun H1 locs1 hP1 _ hS1 => hk _ _ _ _ _ _ _ _ h.2 (by rw [← mv_ws_put he hq]; exact hP1) hS1 hL hn)
  | iaload =>
    obtain ⟨hdd, rfl⟩ := hd (Nat.succ_ne_zero _)
    replace h := mv_pI_inv h
    obtain ⟨j, r, rfl, h⟩ := h
    replace h := mv_pA_inv h
    obtain ⟨a, r, rfl, h⟩ := h
    cases he : mv_nth a sh with
    | none =>
      simp only [he] at h
      cases hX9 : X with
      | none => simp only [hX9] at h
      | some q =>
        obtain ⟨L, xs⟩ := q
        simp only [hX9] at h
        replace h := mv_bif h
        obtain ⟨h1, h⟩ := h
        have h1 := Nat.eq_of_beq_eq_true h1
        subst h1
        obtain ⟨x1, x2, x3⟩ := hX L xs hX9
        exact va_sld hx hb x1 x2 x3 hS h.1 hdd (hk _ _ _ _ _ _ _ _ h.2 hP hS hL hn)
    | some o =>
      simp only [he] at h
      replace h := mv_arr_inv h
      obtain ⟨ty, n, rfl, h⟩ := h
      replace h := mv_bif h
      obtain ⟨h1, h⟩ := h
      have h1 := Nat.eq_of_beq_eq_true h1
      subst h1
      exact va_iald hx hb hK hP a 0 (mv_ws_get he) rfl h.1 hdd (hk _ _ _ _ _ _ _ _ h.2 hP hS hL hn)
  | baload =>
    obtain ⟨hdd, rfl⟩ := hd (Nat.succ_ne_zero _)
    replace h := mv_pI_inv h
    obtain ⟨j, r, rfl, h⟩ := h
    replace h := mv_pA_inv h
    obtain ⟨a, r, rfl, h⟩ := h
    replace h := mv_at_inv h
    obtain ⟨o, he, h⟩ := h
    replace h := mv_arr_inv h
    obtain ⟨ty, n, rfl, h⟩ := h
    replace h := mv_bif h
    obtain ⟨h1, h⟩ := h
    rcases Bool.or_eq_true _ _ ▸ h1 with h1 | h1
    · have h1 := Nat.eq_of_beq_eq_true h1
      subst h1
      exact va_bald hx hb hK hP a 2 (mv_ws_get he) rfl h.1 hdd (hk _ _ _ _ _ _ _ _ h.2 hP hS hL hn)
    · have h1 := Nat.eq_of_beq_eq_true h1
      subst h1
      exact va_zald hx hb hK hP a 3 (mv_ws_get he) rfl h.1 hdd (hk _ _ _ _ _ _ _ _ h.2 hP hS hL hn)
  | laload =>
    obtain ⟨hdd, rfl⟩ := hd (Nat.succ_ne_zero _)
    replace h := mv_pI_inv h
    obtain ⟨j, r, rfl, h⟩ := h
    replace h := mv_pA_inv h
    obtain ⟨a, r, rfl, h⟩ := h
    replace h := mv_at_inv h
    obtain ⟨o, he, h⟩ := h
    replace h := mv_arr_inv h
    obtain ⟨ty, n, rfl, h⟩ := h
    replace h := mv_bif h
    obtain ⟨h1, h⟩ := h
    have h1 := Nat.eq_of_beq_eq_true h1
    subst h1
    exact va_lald hx hb hK hP a 1 (mv_ws_get he) rfl h.1 hdd (hk _ _ _ _ _ _ _ _ h.2 hP hS hL hn)
  | aaload =>
    obtain ⟨hdd, rfl⟩ := hd (Nat.succ_ne_zero _)
    replace h := mv_pI_inv h
    obtain ⟨j, r, rfl, h⟩ := h
    replace h := mv_pA_inv h
    obtain ⟨a, r, rfl, h⟩ := h
    replace h := mv_at_inv h
    obtain ⟨o, he, h⟩ := h
    replace h := mv_arr_inv h
    obtain ⟨ty, n, rfl, h⟩ := h
    replace h := mv_bif h
    obtain ⟨h1, h⟩ := h
    have h1 : Nat.beq ty 4 = true ∧ Nat.beq n 4 = true := by simpa only [Bool.and_eq_true] using h1
    obtain ⟨h1, h2⟩ := h1
    have h1 := Nat.eq_of_beq_eq_true h1
    have h2 := Nat.eq_of_beq_eq_true h2
    subst h1
    subst h2
    obtain ⟨h0, k0, k1, k2, k3⟩ := h
    refine va_aldq hx hb hK hP a 4 (mv_ws_get he) rfl h0 hdd ?_
    obtain ⟨z, hz, rfl⟩ := vp_in_of h0 (by decide)
    match z, hz with
    | 0, _ => exact hk _ _ _ _ _ _ _ _ (k0 (by decide)) hP hS hL hn
    | 1, _ => exact hk _ _ _ _ _ _ _ _ (k1 (by decide)) hP hS hL hn
    | 2, _ => exact hk _ _ _ _ _ _ _ _ (k2 (by decide)) hP hS hL hn
    | 3, _ => exact hk _ _ _ _ _ _ _ _ (k3 (by decide)) hP hS hL hn
    | z + 4, hz => omega
  | arraylength =>
    obtain ⟨hdd, rfl⟩ := hd (Nat.succ_ne_zero _)
    replace h := mv_pA_inv h
    obtain ⟨a, r, rfl, h⟩ := h
    cases he : mv_nth a sh with
    | none =>
      simp only [he] at h
      cases hX9 : X with
      | none => simp only [hX9] at h
      | some q =>
        obtain ⟨L, xs⟩ := q
        simp only [hX9] at h
        replace h := mv_bif h
        obtain ⟨h1, h⟩ := h
        have h1 := Nat.eq_of_beq_eq_true h1
        subst h1
        obtain ⟨x1, x2, x3⟩ := hX L xs hX9
        exact va_slen hx hb x1 x2 x3 hS hdd (hk _ _ _ _ _ _ _ _ h hP hS hL hn)
    | some o =>
      simp only [he] at h
      replace h := mv_arr_inv h
      obtain ⟨ty, n, rfl, h⟩ := h
      replace h := mv_bif h
      obtain ⟨h1, h⟩ := h
      have h1 : ty < 5 := Nat.le_of_ble_eq_true h1
      match ty, h1, he with
      | 0, _, he => exact va_alen hx hb hK hP a 0 (mv_ws_get he) rfl rfl hdd (hk _ _ _ _ _ _ _ _ h hP hS hL hn)
      | 1, _, he => exact va_alen hx hb hK hP a 1 (mv_ws_get he) rfl rfl hdd (hk _ _ _ _ _ _ _ _ h hP hS hL hn)
      | 2, _, he => exact va_alen hx hb hK hP a 2 (mv_ws_get he) rfl rfl hdd (hk _ _ _ _ _ _ _ _ h hP hS hL hn)
      | 3, _, he => exact va_alen hx hb hK hP a 3 (mv_ws_get he) rfl rfl hdd (hk _ _ _ _ _ _ _ _ h hP hS hL hn)
      | 4, _, he => exact va_alen hx hb hK hP a 4 (mv_ws_get he) rfl rfl hdd (hk _ _ _ _ _ _ _ _ h hP hS hL hn)
      | z + 5, h1, _ => omega
  | iastore =>
    obtain ⟨hdd, rfl⟩ := hd (Nat.succ_ne_zero _)
    replace h := mv_pI_inv h
    obtain ⟨v, r, rfl, h⟩ := h
    replace h := mv_pI_inv h
    obtain ⟨j, r, rfl, h⟩ := h
    replace h := mv_pA_inv h
    obtain ⟨a, r, rfl, h⟩ := h
    replace h := mv_at_inv h
    obtain ⟨o, he, h⟩ := h
    replace h := mv_arr_inv h
    obtain ⟨ty, n, rfl, h⟩ := h
    replace h := mv_bif h
    obtain ⟨h1, h⟩ := h
    have h1 := Nat.eq_of_beq_eq_true h1
    subst h1
    exact va_iast hx hb hK hP (hD I J) hS a 0 (mv_ws_get he) rfl h.1 hdd (fun H1 locs1 hP1 _ hS1 => hk _ _ _ _ _ _ _ _ h.2 (by rw [← mv_ws_row _ he (fun _ _ => rfl)]; exact hP1) hS1 hL hn)
  | bastore =>
    obtain ⟨hdd, rfl⟩ := hd (Nat.succ_ne_zero _)
    replace h := mv_pI_inv h
    obtain ⟨v, r, rfl, h⟩ := h
    replace h := mv_pI_inv h
    obtain ⟨j, r, rfl, h⟩ := h
    replace h := mv_pA_inv h
    obtain ⟨a, r, rfl, h⟩ := h
    replace h := mv_at_inv h
    obtain ⟨o, he, h⟩ := h
    replace h := mv_arr_inv h
    obtain ⟨ty, n, rfl, h⟩ := h
    cases h2 : Nat.beq ty 2 with
    | true =>
      have h1 := Nat.eq_of_beq_eq_true h2
      subst h1
      exact va_bast hx hb hK hP (hD I J) hS a 2 (mv_ws_get he) rfl h.1 hdd (fun H1 locs1 hP1 _ hS1 => hk _ _ _ _ _ _ _ _ h.2 (by rw [← mv_ws_row _ he (fun _ _ => rfl)]; exact hP1) hS1 hL hn)
    | false =>
      simp only [h2, cond_false] at h
      replace h := mv_bif h
      obtain ⟨h1, h⟩ := h
      have h1 := Nat.eq_of_beq_eq_true h1
      subst h1
      exact va_zast hx hb hK hP (hD I J) hS a 3 (mv_ws_get he) rfl h.1 hdd (fun H1 locs1 hP1 _ hS1 => hk _ _ _ _ _ _ _ _ h.2 (by rw [← mv_ws_row _ he (fun _ _ => rfl)]; exact hP1) hS1 hL hn)
  | lastore =>
    obtain ⟨hdd, rfl⟩ := hd (Nat.succ_ne_zero _)
    replace h := mv_pL_inv h
    obtain ⟨v, r, rfl, h⟩ := h
    replace h := mv_pI_inv h
    obtain ⟨j, r, rfl, h⟩ := h
    replace h := mv_pA_inv h
    obtain ⟨a, r, rfl, h⟩ := h
    replace h := mv_at_inv h
    obtain ⟨o, he, h⟩ := h
    replace h := mv_arr_inv h
    obtain ⟨ty, n, rfl, h⟩ := h
    replace h := mv_bif h
    obtain ⟨h1, h⟩ := h
    have h1 := Nat.eq_of_beq_eq_true h1
    subst h1
    exact va_last hx hb hK hP (hD I J) hS a 1 (mv_ws_get he) rfl h.1 hdd (fun H1 locs1 hP1 _ hS1 => hk _ _ _ _ _ _ _ _ h.2 (by rw [← mv_ws_rowL _ he]; exact hP1) hS1 hL hn)
  | invokestatic idx =>
    obtain ⟨hdd, rfl⟩ := hd (Nat.succ_ne_zero _)
    cases hf : cs idx with
    | none => simp only [mv_step, hf] at h
    | some q =>
      obtain ⟨mid, na, ci⟩ := q
      simp only [mv_step, hf] at h
      replace h := mv_bif h
      obtain ⟨hci, h⟩ := h
      have hsz : c.maxLocals = arr.size := by rw [hml, hL.1, hn]
      unfold mv_static at h
      split at h
      · replace h := mv_pI_inv h
        obtain ⟨y, r, rfl, h⟩ := h
        replace h := mv_pI_inv h
        obtain ⟨x, r, rfl, h⟩ := h
        replace h := mv_bif h
        obtain ⟨h8, h⟩ := h
        have h8 := Nat.le_of_ble_eq_true h8
        obtain ⟨j1, j2, j3, j4⟩ := hJ.1 idx na ci hf
        exact va_mmax hx hb hsz hown (hts _ j1) (hts _ j2) (hts _ j3) (hts _ j4) hR.1 (by rw [mv_cs_eq]; omega) hR.2.2.1 hR.2.2.2 hdd (hk _ _ _ _ _ _ _ _ h hP hS hL hn)
      · replace h := mv_pI_inv h
        obtain ⟨y, r, rfl, h⟩ := h
        replace h := mv_pI_inv h
        obtain ⟨x, r, rfl, h⟩ := h
        replace h := mv_bif h
        obtain ⟨h8, h⟩ := h
        have h8 := Nat.le_of_ble_eq_true h8
        obtain ⟨j1, j2, j3, j4⟩ := hJ.2.1 idx na ci hf
        exact va_mmin hx hb hsz hown (hts _ j1) (hts _ j2) (hts _ j3) (hts _ j4) hR.1 (by rw [mv_cs_eq]; omega) hR.2.2.1 hR.2.2.2 hdd (hk _ _ _ _ _ _ _ _ h hP hS hL hn)
      · replace h := mv_pI_inv h
        obtain ⟨n, r, rfl, h⟩ := h
        replace h := mv_pI_inv h
        obtain ⟨dp, r, rfl, h⟩ := h
        replace h := mv_pA_inv h
        obtain ⟨a, r, rfl, h⟩ := h
        replace h := mv_pI_inv h
        obtain ⟨sp, r, rfl, h⟩ := h
        replace h := mv_pA_inv h
        obtain ⟨a0, r, rfl, h⟩ := h
        replace h := mv_bif h
        obtain ⟨h8, h⟩ := h
        have h8 := Nat.le_of_ble_eq_true h8
        replace h := mv_at_inv h
        obtain ⟨o0, he0, h⟩ := h
        replace h := mv_arr_inv h
        obtain ⟨t0, n0, rfl, h⟩ := h
        replace h := mv_at_inv h
        obtain ⟨o, he, h⟩ := h
        replace h := mv_arr_inv h
        obtain ⟨t1, n1, rfl, h⟩ := h
        replace h := mv_bif h
        obtain ⟨h1, h⟩ := h
        have h1 : Nat.beq t0 0 = true ∧ Nat.beq t1 0 = true := by simpa only [Bool.and_eq_true] using h1
        obtain ⟨h1, h2⟩ := h1
        have h1 := Nat.eq_of_beq_eq_true h1
        have h2 := Nat.eq_of_beq_eq_true h2
        subst h1
        subst h2
        obtain ⟨y1, y2, y3, y4, y5, h⟩ := h
        obtain ⟨j1, j2, j3, j4⟩ := hJ.2.2 idx na ci hf
        exact va_copyi hx hb hsz hown (hts _ j1) (hts _ j2) (hts _ j3) (hts _ j4) hK hP (hD I J) hS a0 a 0 0 (ty := .int) (mv_ws_get he0) (mv_ws_get he) rfl rfl rfl y1 y2 y3 y4 y5 (fun _ _ => rfl) hR.1 (by rw [mv_cs_eq]; show mv_cs r + (7 + 11) ≤ R.locals; omega) hdd (fun H1 locs1 hP1 _ hS1 => hk _ _ _ _ _ _ _ _ h (by rw [← mv_ws_row _ he (fun _ _ => rfl)]; exact hP1) hS1 hL hn)
      · replace h := mv_pop_inv h
        obtain ⟨as, r, rfl, hlen, h⟩ := h
        rw [List.append_nil] at h
        replace h := mv_bif h
        obtain ⟨h8, h⟩ := h
        have h8 := Nat.le_of_ble_eq_true h8
        obtain ⟨y, bytes, maxL, ret, ws, ws', rm, ⟨e1, e2, e3, e4⟩, r1, r2, r3, r4, hM⟩ := hC idx _ na ci hf as I J _ hlen h
        simp only [hci, cond_true] at e4
        have hstk : (as.reverse ++ r).map (mv_val ad) = (as.map (mv_val ad)).reverse ++ r.map (mv_val ad) := by rw [List.map_append, List.map_reverse]
        rcases hM H.size with hM | hM
        · exact va_calli (va_runS (As := as.map (mv_val ad)) (rest := r.map (mv_val ad)) ⟨hx, hb, hml, hown, hts⟩ hM (va_cwS na hts e4.1 e1 r1 r2 ⟨e2.1, e2.2, e4.2⟩ ⟨r3, by omega⟩) ⟨fun aa U g mk q => by obtain ⟨q0, q1, qP, qK, qD⟩ := q; exact ⟨q0, q1, qP, va_K.moved (u := U) (U := U.calling g mk aa) (Vm.Alike.refl U.vm) qK, qD⟩, fun U hU hW => ⟨rfl, by rw [hU], by rw [hU]; exact hP, va_K.moved hW.alike hK, (hD I J).weaken (fun _ _ _ _ => trivial)⟩⟩ rfl (by rw [List.length_map]; exact hlen) (by rw [← hn]; exact hL.1) hstk (lv_room (by rw [mv_cs_eq]; exact h8)) hdd ⟨hR.2.2.1, hR.2.2.2⟩) hS (fun q _ h => hFc q h) hFc (fun r0 u t H1 locs1 ht hvm hw hB hz1 hk1 hS1 => hk _ _ _ _ _ _ _ _ hw (by rw [← ht]; exact hB) hS1 hL hn)
        · exact va_callv (va_runS (As := as.map (mv_val ad)) (rest := r.map (mv_val ad)) ⟨hx, hb, hml, hown, hts⟩ hM (va_cwS na hts e4.1 e1 r1 r2 ⟨e2.1, e2.2, e4.2⟩ ⟨r3, by omega⟩) ⟨fun aa U g mk q => by obtain ⟨q0, q1, qP, qK, qD⟩ := q; exact ⟨q0, q1, qP, va_K.moved (u := U) (U := U.calling g mk aa) (Vm.Alike.refl U.vm) qK, qD⟩, fun U hU hW => ⟨rfl, by rw [hU], by rw [hU]; exact hP, va_K.moved hW.alike hK, (hD I J).weaken (fun _ _ _ _ => trivial)⟩⟩ rfl (by rw [List.length_map]; exact hlen) (by rw [← hn]; exact hL.1) hstk (lv_room (by rw [mv_cs_eq]; exact h8)) hdd ⟨hR.2.2.1, hR.2.2.2⟩) hS (fun q _ h => hFc q h) hFc (fun u t H1 locs1 ht hvm hw hB hz1 hk1 hS1 => hk _ _ _ _ _ _ _ _ hw (by rw [← ht]; exact hB) hS1 hL hn)
  | invokevirtual idx =>
    obtain ⟨hdd, rfl⟩ := hd (Nat.succ_ne_zero _)
    cases hf : cs idx with
    | none => simp only [mv_step, hf] at h
    | some q =>
      obtain ⟨mid, na, ci⟩ := q
      simp only [mv_step, hf] at h
      cases hci : Nat.beq ci 100 with
      | true => simp only [hci, cond_true] at h
      | false =>
        simp only [hci, cond_false] at h
        replace h := mv_pop_inv h
        obtain ⟨as, r, rfl, hlen, h⟩ := h
        rw [List.append_nil] at h
        cases as with
        | nil => exact h.elim
        | cons v as =>
          replace h := mv_asA_inv h
          obtain ⟨a, rfl, h⟩ := h
          replace h := mv_at_inv h
          obtain ⟨o, he, h⟩ := h
          replace h := mv_is_inv h
          obtain ⟨fs, rfl, h⟩ := h
          replace h := mv_bif h
          obtain ⟨h8, h⟩ := h
          have h8 := Nat.le_of_ble_eq_true h8
          obtain ⟨y, bytes, maxL, ret, ws, ws', rm, ⟨e1, e2, e3, e4⟩, r1, r2, r3, r4, hM⟩ := hC idx _ na ci hf _ I J _ hlen h
          simp only [hci, cond_false] at e4
          obtain ⟨n, rfl, hnp⟩ := e4.2.1
          obtain ⟨qc, hqc, hqy⟩ := e4.2.2
          have hstk : ((.inr (.inr a) :: as).reverse ++ r).map (mv_val ad) = (as.map (mv_val ad)).reverse ++ .ref (ad a) :: r.map (mv_val ad) := by
            rw [List.map_append, List.map_reverse, List.map_cons, List.reverse_cons, List.append_assoc]
            rfl
          have hrcv := va_recv hK hP hqc (mv_ws_get he)
          rw [hqy] at hrcv
          rcases hM H.size with hM | hM
          · exact va_calli (va_runV (As := as.map (mv_val ad)) (rest := r.map (mv_val ad)) ⟨hx, hb, hml, hown, hts⟩ hM (cwV n hts e4.1 e1 r1 r2 ⟨rfl, e2.1, e2.2, hnp⟩ ⟨r3, by omega⟩) ⟨fun aa U g mk q => by obtain ⟨q0, q1, qP, qK, qD⟩ := q; exact ⟨q0, q1, qP, va_K.moved (u := U) (U := U.calling g mk aa) (Vm.Alike.refl U.vm) qK, qD⟩, hrcv, fun U hU hW => ⟨rfl, by rw [hU], by rw [hU]; exact hP, va_K.moved hW.alike hK, (hD I J).weaken (fun _ _ _ _ => trivial)⟩⟩ rfl (by rw [List.length_map]; simpa using hlen) (by rw [← hn]; exact hL.1) hstk (lv_room (by rw [mv_cs_eq]; exact h8)) hdd ⟨hR.2.2.1, hR.2.2.2⟩) hS (fun q _ h => hFc q h) hFc (fun r0 u t H1 locs1 ht hvm hw hB hz1 hk1 hS1 => hk _ _ _ _ _ _ _ _ hw (by rw [← ht]; exact hB) hS1 hL hn)
          · exact va_callv (va_runV (As := as.map (mv_val ad)) (rest := r.map (mv_val ad)) ⟨hx, hb, hml, hown, hts⟩ hM (cwV n hts e4.1 e1 r1 r2 ⟨rfl, e2.1, e2.2, hnp⟩ ⟨r3, by omega⟩) ⟨fun aa U g mk q => by obtain ⟨q0, q1, qP, qK, qD⟩ := q; exact ⟨q0, q1, qP, va_K.moved (u := U) (U := U.calling g mk aa) (Vm.Alike.refl U.vm) qK, qD⟩, hrcv, fun U hU hW => ⟨rfl, by rw [hU], by rw [hU]; exact hP, va_K.moved hW.alike hK, (hD I J).weaken (fun _ _ _ _ => trivial)⟩⟩ rfl (by rw [List.length_map]; simpa using hlen) (by rw [← hn]; exact hL.1) hstk (lv_room (by rw [mv_cs_eq]; exact h8)) hdd ⟨hR.2.2.1, hR.2.2.2⟩) hS (fun q _ h => hFc q h) hFc (fun u t H1 locs1 ht hvm hw hB hz1 hk1 hS1 => hk _ _ _ _ _ _ _ _ hw (by rw [← ht]; exact hB) hS1 hL hn)
  | ireturn =>
    obtain ⟨hdd, rfl⟩ := hd (Nat.succ_ne_zero _)
    replace h := mv_pI_inv h
    obtain ⟨x, r, rfl, h⟩ := h
    cases r with
    | nil => exact hret _ _ _ _ _ _ _ hdd h hP hS
    | cons _ _ => exact h.elim
  | return_ =>
    obtain ⟨hdd, rfl⟩ := hd (Nat.succ_ne_zero _)
    cases st with
    | nil => exact hvret _ _ _ _ _ _ hdd h hP hS
    | cons _ _ => exact h.elim
  | _ => exact False.elim h
end MVS
end
section
theorem mv_nn_inv : ∀ {n : Nat} {f : mv_L → Prop}, mv_nn n f → ∃ ls, f ls ∧ ls.length = n ∧ ∀ j w, ¬ mv_nth j ls = some (some w)
  | 0, f, h => ⟨[], h, rfl, fun j w q => by simp [mv_nth] at q⟩
  | n + 1, f, h => by
    obtain ⟨ls, h1, h2, h3⟩ := mv_nn_inv (n := n) h
    refine ⟨_, h1, by simp [h2], fun j w q => ?_⟩
    cases j with
    | zero => cases q
    | succ j => exact h3 j w q
theorem mv_ini_inv (ad : Nat → Nat) : ∀ {as : List mv_V} {n : Nat} {f : mv_L → Prop}, mv_ini as n f → ∃ ls, f ls ∧ ls.length = n ∧ (lg_sl (as.map (mv_val ad))).length ≤ n ∧ ∀ k j w, mv_nth j ls = some (some w) → (k + j, mv_val ad w) ∈ lv_args k (as.map (mv_val ad))
  | [], n, f, h => by
    obtain ⟨ls, h1, h2, h3⟩ := mv_nn_inv h
    exact ⟨ls, h1, h2, by simp [lg_sl], fun k j w q => absurd q (h3 j w)⟩
  | .inl x :: t, 0, f, h => by simp [mv_ini] at h
  | .inl x :: t, n + 1, f, h => by
    obtain ⟨ls, h1, h2, h3, h4⟩ := mv_ini_inv ad (as := t) (n := n) h
    refine ⟨_, h1, by simp [h2], ?_, fun k j w q => ?_⟩
    · simp only [lg_sl, List.map_cons, List.flatMap_cons, List.length_append] at h3 ⊢
      simp only [mv_val, Value.category] at h3 ⊢
      simp at h3 ⊢
      omega
    · cases j with
      | zero =>
        have : (.inl x : mv_V) = w := Option.some.inj (Option.some.inj q)
        subst this
        exact List.mem_cons_self
      | succ j =>
        have := h4 (k + 1) j w q
        rw [show k + (j + 1) = k + 1 + j by omega]
        exact List.mem_cons_of_mem _ this
  | .inr (.inr x) :: t, 0, f, h => by simp [mv_ini] at h
  | .inr (.inr x) :: t, n + 1, f, h => by
    obtain ⟨ls, h1, h2, h3, h4⟩ := mv_ini_inv ad (as := t) (n := n) h
    refine ⟨_, h1, by simp [h2], ?_, fun k j w q => ?_⟩
    · simp only [lg_sl, List.map_cons, List.flatMap_cons, List.length_append] at h3 ⊢
      simp only [mv_val, Value.category] at h3 ⊢
      simp at h3 ⊢
      omega
    · cases j with
      | zero =>
        have : (.inr (.inr x) : mv_V) = w := Option.some.inj (Option.some.inj q)
        subst this
        exact List.mem_cons_self
      | succ j =>
        have := h4 (k + 1) j w q
        rw [show k + (j + 1) = k + 1 + j by omega]
        exact List.mem_cons_of_mem _ this
  | .inr (.inl x) :: t, 0, f, h => by simp [mv_ini] at h
  | .inr (.inl x) :: t, 1, f, h => by simp [mv_ini] at h
  | .inr (.inl x) :: t, n + 2, f, h => by
    obtain ⟨ls, h1, h2, h3, h4⟩ := mv_ini_inv ad (as := t) (n := n) h
    refine ⟨_, h1, by simp [h2], ?_, fun k j w q => ?_⟩
    · simp only [lg_sl, List.map_cons, List.flatMap_cons, List.length_append] at h3 ⊢
      simp only [mv_val, Value.category] at h3 ⊢
      simp at h3 ⊢
      omega
    · match j, q with
      | 0, q =>
        have : (.inr (.inl x) : mv_V) = w := Option.some.inj (Option.some.inj q)
        subst this
        exact List.mem_cons_self
      | 1, q => cases q
      | j + 2, q =>
        have := h4 (k + 2) j w q
        rw [show k + (j + 2) = k + 2 + j by omega]
        exact List.mem_cons_of_mem _ this
section MVW
variable {p : Program} {l : Launch} {e : Env} {R : Room} {s : State} {m : MethodId} {args : Array Value} {below : List Frame} {meth : Method} {c : Code} {cells slots : Nat} {Qf : State → Prop}
variable {cc : ByteArray} {own : String} {Ts : List Jvm.Cond} {nL : Nat} {dC : Nat → ClassId} {dI : Nat → Nat → Nat} {cl0 : List vw_C} {cy : Nat → ClassId} {ad : Nat → Nat} {sh : List mv_E} {A : Nat → Prop} {H0 : Heap}
theorem mv_wp_sound (hx : p.tables.exec = Jvm.exec) (hb : c.code = cc) (hml : c.maxLocals = nL) (hown : s.vm.findClass own = some m.cls) (hts : ∀ w ∈ Ts, w.before args s = true) (hK : va_K (dC, dI) cl0 (mv_tys cy) s) (hD : ∀ I J, va_D A (mv_ws cy ad sh I J)) (hA : ∀ q : Nat, H0.size ≤ q → A q) (hR : 1 ≤ R.frames ∧ 60 ≤ R.locals ∧ cells ≤ R.cells ∧ slots ≤ R.slots)
    {X : Option (Nat × (Nat → Int32))} (hX : ∀ L xs, X = some (L, xs) → va_X (ad 999) L xs s H0 ∧ ad 999 < H0.size ∧ ¬ A (ad 999)) {tb : Nat → Option mv_R} {fl : Nat → Option (Nat × Nat)} {cs : Nat → Option (Nat × Nat × Nat)} {call : Nat → List mv_V → mv_I → mv_J → mv_Q → Prop} {rb : Nat} {stop : mv_K} {Q : mv_Q}
    (hT : mv_tbB cc own Ts tb) (hF : mv_flB cl0 own Ts fl) (hSh : mv_shB cl0 sh) (hC : mv_csB l R cl0 dC dI cy ad sh own Ts cs call) (hJ : mv_jdB own Ts cs)
    (hret : ∀ (pc : Nat) (x : Int32) (I : mv_I) (J : mv_J) (H : Heap) (locs : List Loc) (arr : Array Slot), decode cc pc = .ok (.ireturn, 1) → mv_rq rb x (Q (some (.inl x)) I J) → va_P (dC, dI) cl0 (mv_ws cy ad sh I J) H → va_S A H0 H locs → W p l e R s m args below meth c H locs cells slots Qf (F0 m pc arr [.int x]))
    (hvret : ∀ (pc : Nat) (I : mv_I) (J : mv_J) (H : Heap) (locs : List Loc) (arr : Array Slot), decode cc pc = .ok (.return_, 1) → mv_rv rb (Q none I J) → va_P (dC, dI) cl0 (mv_ws cy ad sh I J) H → va_S A H0 H locs → W p l e R s m args below meth c H locs cells slots Qf (F0 m pc arr []))
    (hstop : ∀ (pc : Nat) (ls : mv_L) (st : List mv_V) (I : mv_I) (J : mv_J) (H : Heap) (locs : List Loc) (arr : Array Slot), stop pc ls st I J → va_P (dC, dI) cl0 (mv_ws cy ad sh I J) H → va_S A H0 H locs → mv_LS ad ls arr → ls.length = nL → W p l e R s m args below meth c H locs cells slots Qf (F0 m pc arr (st.map (mv_val ad)))) :
    ∀ (n pc : Nat) (ls : mv_L) (st : List mv_V) (I : mv_I) (J : mv_J) (H : Heap) (locs : List Loc) (arr : Array Slot), mv_wp call sh X tb fl cs rb stop Q n pc ls st I J → va_P (dC, dI) cl0 (mv_ws cy ad sh I J) H → va_S A H0 H locs → mv_LS ad ls arr → ls.length = nL → W p l e R s m args below meth c H locs cells slots Qf (F0 m pc arr (st.map (mv_val ad))) := by
  intro n
  induction n with
  | zero => intro pc ls st I J H locs arr h; exact h.elim
  | succ n ih =>
    intro pc ls st I J H locs arr h hP hS hL hn
    cases ht : tb pc with
    | none =>
      simp only [mv_wp, ht] at h
      exact hstop pc ls st I J H locs arr h hP hS hL hn
    | some r =>
      obtain ⟨i, nx, tg, cst, cl⟩ := r
      simp only [mv_wp, ht] at h
      obtain ⟨h1, h2, h3⟩ := mv_tb_at hT ht
      exact mv_step_sound hx hb hml hown hts hK hD hA hR hX hF hSh hC hJ hret hvret ih h1 h2 h3 h hP hS hL hn
end MVW
def mv_room (d : Nat) : Room := { frames := d, cells := 0, slots := 0, locals := 60 * d }
/-- what the tables must say of a method -/
def mv_ok (cl0 : List vw_C) (TT : List Jvm.Cond) (tab : List mv_N) (q : mv_N) : Prop := match q with
  | (y, cc, maxL, ret, own, tb, fl, cs) => plainName y.cls = true ∧ y.cls = own ∧ mv_rk ret < 3 ∧ mv_tbB cc own TT tb ∧ mv_flB cl0 own TT fl ∧ mv_jdB own TT cs ∧
    ∀ idx mid na ci, cs idx = some (mid, na, ci) → ∀ y' cc' maxL' ret' z, mv_nth mid tab = some (y', cc', maxL', ret', z) → mv_site cl0 own TT idx na ci y' cc' maxL' ret' (Jvm.Cond.code y' cc' maxL' ret' :: TT) TT
set_option maxHeartbeats 4000000 in
theorem mv_met (l : Launch) {cl0 : List vw_C} {dC : Nat → ClassId} {dI : Nat → Nat → Nat} {cy : Nat → ClassId} {ad : Nat → Nat} {sh : List mv_E} {TT : List Jvm.Cond} {tab : List mv_N} (hok : ∀ mid q, mv_nth mid tab = some q → mv_ok cl0 TT tab q) (hSh : mv_shB cl0 sh) :
    ∀ (d mid : Nat) (as : List mv_V) (I : mv_I) (J : mv_J) (Q : mv_Q), mv_wpM tab sh d mid as I J Q → ∃ y cc maxL ret z, mv_nth mid tab = some (y, cc, maxL, ret, z) ∧ mv_Mt l cl0 dC dI cy ad sh y (Jvm.Cond.code y cc maxL ret :: TT) (mv_room d) as I J Q := by
  intro d
  induction d with
  | zero => intro mid as I J Q h; exact h.elim
  | succ d ih =>
    intro mid as I J Q h
    cases ht : mv_nth mid tab with
    | none => simp only [mv_wpM, ht] at h
    | some q =>
      obtain ⟨y, cc, maxL, ret, own, tb, fl, cs⟩ := q
      simp only [mv_wpM, ht] at h
      refine ⟨y, cc, maxL, ret, (own, tb, fl, cs), rfl, fun sz => ?_⟩
      obtain ⟨ls, ⟨n, hw⟩, hl1, hl2, hl3⟩ := mv_ini_inv ad h
      obtain ⟨o1, o2, o3, o4, o5, o6, o7⟩ := hok mid _ ht
      have hCs : mv_csB l (mv_room (d + 1)) cl0 dC dI cy ad sh own TT cs (mv_wpM tab sh d) := by
        intro idx mid2 na ci hf as2 I2 J2 Q2 _ hc
        obtain ⟨y2, cc2, maxL2, ret2, z2, t1, t2⟩ := ih mid2 as2 I2 J2 Q2 hc
        exact ⟨y2, cc2, maxL2, ret2, _, TT, mv_room d, o7 idx mid2 na ci hf y2 cc2 maxL2 ret2 z2 t1, rfl, rfl, Nat.le_refl _, by show 40 + 60 * d ≤ 60 * (d + 1); omega, t2⟩
      have body : ∀ (Qc : Array Value → State → Outcome → State → Prop), (∀ (p : Program) (e : Env) (s : State) (m : MethodId) (args : Array Value) (below : List Frame) (meth : Method) (c : Code), p.tables.exec = Jvm.exec → c.code = cc → meth.sig.returnType = ret → meth.locks = false → ∀ (pc : Nat) (x : Int32) (I2 : mv_I) (J2 : mv_J) (H : Heap) (locs : List Loc) (arr : Array Slot), decode cc pc = .ok (.ireturn, 1) → mv_rq (mv_rk ret) x (Q (some (.inl x)) I2 J2) → va_P (dC, dI) cl0 (mv_ws cy ad sh I2 J2) H → va_S (va_A (mv_ws cy ad sh I J) s.heap.size) s.heap H locs → s.heap.size = sz → W p l e (mv_room (d + 1)) s m args below meth c H locs 0 0 (MQ below Qc args s 0 0 (va_A (mv_ws cy ad sh I J) sz)) (F0 m pc arr [.int x])) → (∀ (p : Program) (e : Env) (s : State) (m : MethodId) (args : Array Value) (below : List Frame) (meth : Method) (c : Code), p.tables.exec = Jvm.exec → c.code = cc → meth.sig.returnType = ret → meth.locks = false → ∀ (pc : Nat) (I2 : mv_I) (J2 : mv_J) (H : Heap) (locs : List Loc) (arr : Array Slot), decode cc pc = .ok (.return_, 1) → mv_rv (mv_rk ret) (Q none I2 J2) → va_P (dC, dI) cl0 (mv_ws cy ad sh I2 J2) H → va_S (va_A (mv_ws cy ad sh I J) s.heap.size) s.heap H locs → s.heap.size = sz → W p l e (mv_room (d + 1)) s m args below meth c H locs 0 0 (MQ below Qc args s 0 0 (va_A (mv_ws cy ad sh I J) sz)) (F0 m pc arr [])) → Met l y (Jvm.Cond.code y cc maxL ret :: TT) (mv_room (d + 1)) (mv_Pc cl0 dC dI cy ad sh sz as I J) Qc 0 0 (va_A (mv_ws cy ad sh I J) sz) := by
        intro Qc q1 q2
        refine Met.ofW (cc := cc) (maxL := maxL) (ret := ret) o1 rfl ?_
        intro p e s m args below meth c s₁ B hml hv
        obtain ⟨rfl, hsz, hP, hK, hD0⟩ := hv
        have hts := atoms_spec (ws := Jvm.Cond.code y cc maxL ret :: TT) B.pre
        have hown : s.vm.findClass own = some m.cls := by rw [← o2]; exact findClass_of_methodNamed B.named
        subst hsz
        have hD := hD0.self (sz := s.heap.size)
        have hl := lv_entry (as.map (mv_val ad)) (n := maxL) hl2
        rw [lg_entry_eq]
        generalize (lg_sl (as.map (mv_val ad)) ++ List.replicate (maxL - (lg_sl (as.map (mv_val ad))).length) Slot.unset).toArray = arr at hl ⊢
        have hLS : mv_LS ad ls arr := ⟨by rw [hl1]; exact hl.1, hl.2.1, fun j w hj => by
          have := hl.2.2 _ (hl3 0 j w hj)
          rwa [Nat.zero_add] at this⟩
        exact mv_wp_sound (A := va_A (mv_ws cy ad sh I J) s.heap.size) (H0 := s.heap) (R := mv_room (d + 1)) B.exec B.bytes hml hown (fun w h => hts w (List.mem_cons_of_mem _ h)) hK (fun I2 J2 => mv_D_any hD) (fun q h => Or.inr h) ⟨Nat.succ_le_succ (Nat.zero_le _), by show 60 ≤ 60 * (d + 1); omega, Nat.le_refl _, Nat.le_refl _⟩ (X := none) (fun L xs h => by cases h) o4 o5 hSh hCs o6 (fun pc x I2 J2 H locs arr h1 h2 h3 h4 => q1 p e s m _ below meth c B.exec B.bytes B.returns B.notSynchronized pc x I2 J2 H locs arr h1 h2 h3 h4 rfl) (fun pc I2 J2 H locs arr h1 h2 h3 h4 => q2 p e s m _ below meth c B.exec B.bytes B.returns B.notSynchronized pc I2 J2 H locs arr h1 h2 h3 h4 rfl) (fun _ _ _ _ _ _ _ _ h => h.elim) n 0 ls [] I J s.heap [] arr hw hP va_S.rf hLS hl1
      match ret, o3, body with
      | none, _, body =>
        refine Or.inr (body _ (fun p e s m args below meth c _ _ _ _ pc x I2 J2 H locs arr _ h => h.elim) (fun p e s m args below meth c hx hb hr hlocks pc I2 J2 H locs arr hd h hP hS hsz => ?_))
        subst hsz
        exact W.vret hx hb hr (fun t ht hW => ⟨⟨(I2, J2), rfl, h, by show va_P _ _ _ t.heap; rw [ht]; exact hP⟩, hS.F ht⟩) hS.2.2 hd hlocks
      | some .int, _, body =>
        refine Or.inl (body _ (fun p e s m args below meth c hx hb hr hlocks pc x I2 J2 H locs arr hd h hP hS hsz => ?_) (fun p e s m args below meth c _ _ _ _ pc I2 J2 H locs arr _ h => h.elim))
        subst hsz
        exact W.iret (v := x) hx hb hr (fun t ht hW => ⟨⟨x, (I2, J2), rfl, h, by show va_P _ _ _ t.heap; rw [ht]; exact hP⟩, hS.F ht⟩) hS.2.2 hd hlocks
      | some .boolean, _, body =>
        refine Or.inl (body _ (fun p e s m args below meth c hx hb hr hlocks pc x I2 J2 H locs arr hd h hP hS hsz => ?_) (fun p e s m args below meth c _ _ _ _ pc I2 J2 H locs arr _ h => h.elim))
        subst hsz
        exact W.zret (v := x) hx hb hr (by rcases h.1 with rfl | rfl <;> rfl) (fun t ht hW => ⟨⟨x, (I2, J2), rfl, h.2, by show va_P _ _ _ t.heap; rw [ht]; exact hP⟩, hS.F ht⟩) hS.2.2 hd hlocks
      | some .byte, o3, _ => exact absurd o3 (by decide)
      | some .char, o3, _ => exact absurd o3 (by decide)
      | some .short, o3, _ => exact absurd o3 (by decide)
      | some .long, o3, _ => exact absurd o3 (by decide)
      | some .float, o3, _ => exact absurd o3 (by decide)
      | some .double, o3, _ => exact absurd o3 (by decide)
      | some (.object _), o3, _ => exact absurd o3 (by simp [mv_rk])
      | some (.array _), o3, _ => exact absurd o3 (by simp [mv_rk])
end
