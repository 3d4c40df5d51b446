section
-- ===== PART A: goes FIRST, ahead of the names: the tables' words, and 'selects' of the private methods out of them =====
/-- a private method of a class that the tables say can be made, by its rows of tables_1 -/
def lw_okq (q : MethodName × Nat) : Prop := (q.1.cls ≠ "java/lang/invoke/MethodHandle" ∧ q.1.cls ≠ "java/lang/invoke/VarHandle") ∧ Cond.instantiable q.1.cls q.2 ∈ tables_1 ∧ Cond.privateMethod q.1 ∈ tables_1 ∧ Cond.instanceMethod q.1 ∈ tables_1
theorem lw_p0 : lw_okq (⟨"SaltPool$Pool", "partAmong", "(I)V"⟩, 13) := ⟨⟨by decide +kernel, by decide +kernel⟩, List.mem_of_getElem? (i := 23) (by decide +kernel), List.mem_of_getElem? (i := 339) (by decide +kernel), List.mem_of_getElem? (i := 340) (by decide +kernel)⟩
theorem lw_p1 : lw_okq (⟨"SaltPool$Pool", "partsAmong", "()I"⟩, 13) := ⟨⟨by decide +kernel, by decide +kernel⟩, List.mem_of_getElem? (i := 23) (by decide +kernel), List.mem_of_getElem? (i := 343) (by decide +kernel), List.mem_of_getElem? (i := 344) (by decide +kernel)⟩
theorem lw_p2 : lw_okq (⟨"SaltPool$Pool", "raiseGreatestRests", "(I)V"⟩, 13) := ⟨⟨by decide +kernel, by decide +kernel⟩, List.mem_of_getElem? (i := 23) (by decide +kernel), List.mem_of_getElem? (i := 347) (by decide +kernel), List.mem_of_getElem? (i := 348) (by decide +kernel)⟩
theorem lw_p3 : lw_okq (⟨"SaltPool$Pool", "lentTo", "(III)I"⟩, 13) := ⟨⟨by decide +kernel, by decide +kernel⟩, List.mem_of_getElem? (i := 23) (by decide +kernel), List.mem_of_getElem? (i := 355) (by decide +kernel), List.mem_of_getElem? (i := 356) (by decide +kernel)⟩
theorem lw_p4 : lw_okq (⟨"SaltPool", "isAsked", "(III)Z"⟩, 8) := ⟨⟨by decide +kernel, by decide +kernel⟩, List.mem_of_getElem? (i := 15) (by decide +kernel), List.mem_of_getElem? (i := 374) (by decide +kernel), List.mem_of_getElem? (i := 375) (by decide +kernel)⟩
theorem lw_p5 : lw_okq (⟨"SaltPool$Tape", "readPair", "(I)Z"⟩, 4) := ⟨⟨by decide +kernel, by decide +kernel⟩, List.mem_of_getElem? (i := 75) (by decide +kernel), List.mem_of_getElem? (i := 416) (by decide +kernel), List.mem_of_getElem? (i := 417) (by decide +kernel)⟩
theorem lw_p6 : lw_okq (⟨"SaltPool$Tape", "readNumber", "(II)I"⟩, 4) := ⟨⟨by decide +kernel, by decide +kernel⟩, List.mem_of_getElem? (i := 75) (by decide +kernel), List.mem_of_getElem? (i := 420) (by decide +kernel), List.mem_of_getElem? (i := 421) (by decide +kernel)⟩
theorem lw_p7 : lw_okq (⟨"SaltPool$Tape", "skipBlanks", "()V"⟩, 4) := ⟨⟨by decide +kernel, by decide +kernel⟩, List.mem_of_getElem? (i := 75) (by decide +kernel), List.mem_of_getElem? (i := 424) (by decide +kernel), List.mem_of_getElem? (i := 425) (by decide +kernel)⟩
theorem lw_p8 : lw_okq (⟨"SaltPool$Tape", "readSign", "(C)Z"⟩, 4) := ⟨⟨by decide +kernel, by decide +kernel⟩, List.mem_of_getElem? (i := 75) (by decide +kernel), List.mem_of_getElem? (i := 432) (by decide +kernel), List.mem_of_getElem? (i := 433) (by decide +kernel)⟩
theorem lw_p9 : lw_okq (⟨"SaltPool$Mole", "seek", "(LSaltPool$Fleet;LSaltPool$Sea;IIII)V"⟩, 8) := ⟨⟨by decide +kernel, by decide +kernel⟩, List.mem_of_getElem? (i := 196) (by decide +kernel), List.mem_of_getElem? (i := 539) (by decide +kernel), List.mem_of_getElem? (i := 540) (by decide +kernel)⟩
theorem lw_p10 : lw_okq (⟨"SaltPool$Mole", "keepCheapest", "(LSaltPool$Fleet;LSaltPool$Sea;I)V"⟩, 8) := ⟨⟨by decide +kernel, by decide +kernel⟩, List.mem_of_getElem? (i := 196) (by decide +kernel), List.mem_of_getElem? (i := 567) (by decide +kernel), List.mem_of_getElem? (i := 568) (by decide +kernel)⟩
theorem lw_p11 : lw_okq (⟨"SaltPoolModel", "isWorks", "(I)Z"⟩, 46) := ⟨⟨by decide +kernel, by decide +kernel⟩, List.mem_of_getElem? (i := 611) (by decide +kernel), List.mem_of_getElem? (i := 772) (by decide +kernel), List.mem_of_getElem? (i := 773) (by decide +kernel)⟩
theorem lw_p12 : lw_okq (⟨"SaltPoolModel", "isLot", "(I)Z"⟩, 46) := ⟨⟨by decide +kernel, by decide +kernel⟩, List.mem_of_getElem? (i := 611) (by decide +kernel), List.mem_of_getElem? (i := 780) (by decide +kernel), List.mem_of_getElem? (i := 781) (by decide +kernel)⟩
theorem lw_p13 : lw_okq (⟨"SaltPoolModel", "inHolds", "(I)I"⟩, 46) := ⟨⟨by decide +kernel, by decide +kernel⟩, List.mem_of_getElem? (i := 611) (by decide +kernel), List.mem_of_getElem? (i := 788) (by decide +kernel), List.mem_of_getElem? (i := 789) (by decide +kernel)⟩
theorem lw_p14 : lw_okq (⟨"SaltPoolModel", "quotas", "(II)V"⟩, 46) := ⟨⟨by decide +kernel, by decide +kernel⟩, List.mem_of_getElem? (i := 611) (by decide +kernel), List.mem_of_getElem? (i := 802) (by decide +kernel), List.mem_of_getElem? (i := 803) (by decide +kernel)⟩
theorem lw_p15 : lw_okq (⟨"SaltPoolModel", "isOpen", "(III)Z"⟩, 46) := ⟨⟨by decide +kernel, by decide +kernel⟩, List.mem_of_getElem? (i := 611) (by decide +kernel), List.mem_of_getElem? (i := 806) (by decide +kernel), List.mem_of_getElem? (i := 807) (by decide +kernel)⟩
def lw_privs_1 : List (MethodName × Nat) := [(⟨"SaltPool$Pool", "partAmong", "(I)V"⟩, 13), (⟨"SaltPool$Pool", "partsAmong", "()I"⟩, 13), (⟨"SaltPool$Pool", "raiseGreatestRests", "(I)V"⟩, 13), (⟨"SaltPool$Pool", "lentTo", "(III)I"⟩, 13), (⟨"SaltPool", "isAsked", "(III)Z"⟩, 8), (⟨"SaltPool$Tape", "readPair", "(I)Z"⟩, 4), (⟨"SaltPool$Tape", "readNumber", "(II)I"⟩, 4), (⟨"SaltPool$Tape", "skipBlanks", "()V"⟩, 4), (⟨"SaltPool$Tape", "readSign", "(C)Z"⟩, 4), (⟨"SaltPool$Mole", "seek", "(LSaltPool$Fleet;LSaltPool$Sea;IIII)V"⟩, 8), (⟨"SaltPool$Mole", "keepCheapest", "(LSaltPool$Fleet;LSaltPool$Sea;I)V"⟩, 8), (⟨"SaltPoolModel", "isWorks", "(I)Z"⟩, 46), (⟨"SaltPoolModel", "isLot", "(I)Z"⟩, 46), (⟨"SaltPoolModel", "inHolds", "(I)I"⟩, 46), (⟨"SaltPoolModel", "quotas", "(II)V"⟩, 46), (⟨"SaltPoolModel", "isOpen", "(III)Z"⟩, 46)]
theorem lw_r1 : ∀ q ∈ lw_privs_1, lw_okq q := List.forall_mem_cons.mpr ⟨lw_p0, List.forall_mem_cons.mpr ⟨lw_p1, List.forall_mem_cons.mpr ⟨lw_p2, List.forall_mem_cons.mpr ⟨lw_p3, List.forall_mem_cons.mpr ⟨lw_p4, List.forall_mem_cons.mpr ⟨lw_p5, List.forall_mem_cons.mpr ⟨lw_p6, List.forall_mem_cons.mpr ⟨lw_p7, List.forall_mem_cons.mpr ⟨lw_p8, List.forall_mem_cons.mpr ⟨lw_p9, List.forall_mem_cons.mpr ⟨lw_p10, List.forall_mem_cons.mpr ⟨lw_p11, List.forall_mem_cons.mpr ⟨lw_p12, List.forall_mem_cons.mpr ⟨lw_p13, List.forall_mem_cons.mpr ⟨lw_p14, List.forall_mem_cons.mpr ⟨lw_p15, fun _ h => absurd h List.not_mem_nil⟩⟩⟩⟩⟩⟩⟩⟩⟩⟩⟩⟩⟩⟩⟩⟩
theorem lw_p16 : lw_okq (⟨"SaltPoolModel", "part", "(JI)V"⟩, 46) := ⟨⟨by decide +kernel, by decide +kernel⟩, List.mem_of_getElem? (i := 611) (by decide +kernel), List.mem_of_getElem? (i := 810) (by decide +kernel), List.mem_of_getElem? (i := 811) (by decide +kernel)⟩
theorem lw_p17 : lw_okq (⟨"SaltPoolModel", "entry", "(IIIII)I"⟩, 46) := ⟨⟨by decide +kernel, by decide +kernel⟩, List.mem_of_getElem? (i := 611) (by decide +kernel), List.mem_of_getElem? (i := 814) (by decide +kernel), List.mem_of_getElem? (i := 815) (by decide +kernel)⟩
theorem lw_p18 : lw_okq (⟨"SaltPoolModel", "isAsOf", "(III)Z"⟩, 46) := ⟨⟨by decide +kernel, by decide +kernel⟩, List.mem_of_getElem? (i := 611) (by decide +kernel), List.mem_of_getElem? (i := 826) (by decide +kernel), List.mem_of_getElem? (i := 827) (by decide +kernel)⟩
theorem lw_p19 : lw_okq (⟨"SaltPoolModel", "leftOf", "(I)I"⟩, 46) := ⟨⟨by decide +kernel, by decide +kernel⟩, List.mem_of_getElem? (i := 611) (by decide +kernel), List.mem_of_getElem? (i := 839) (by decide +kernel), List.mem_of_getElem? (i := 840) (by decide +kernel)⟩
theorem lw_p20 : lw_okq (⟨"SaltPoolModel", "reads", "()I"⟩, 46) := ⟨⟨by decide +kernel, by decide +kernel⟩, List.mem_of_getElem? (i := 611) (by decide +kernel), List.mem_of_getElem? (i := 852) (by decide +kernel), List.mem_of_getElem? (i := 853) (by decide +kernel)⟩
theorem lw_p21 : lw_okq (⟨"SaltPoolModel", "number", "(II)I"⟩, 46) := ⟨⟨by decide +kernel, by decide +kernel⟩, List.mem_of_getElem? (i := 611) (by decide +kernel), List.mem_of_getElem? (i := 856) (by decide +kernel), List.mem_of_getElem? (i := 857) (by decide +kernel)⟩
theorem lw_p22 : lw_okq (⟨"SaltPoolModel", "next", "()I"⟩, 46) := ⟨⟨by decide +kernel, by decide +kernel⟩, List.mem_of_getElem? (i := 611) (by decide +kernel), List.mem_of_getElem? (i := 860) (by decide +kernel), List.mem_of_getElem? (i := 861) (by decide +kernel)⟩
theorem lw_p23 : lw_okq (⟨"SaltPoolModel", "isShip", "(I)Z"⟩, 46) := ⟨⟨by decide +kernel, by decide +kernel⟩, List.mem_of_getElem? (i := 611) (by decide +kernel), List.mem_of_getElem? (i := 872) (by decide +kernel), List.mem_of_getElem? (i := 873) (by decide +kernel)⟩
theorem lw_p24 : lw_okq (⟨"SaltPoolModel", "inHold", "(I)I"⟩, 46) := ⟨⟨by decide +kernel, by decide +kernel⟩, List.mem_of_getElem? (i := 611) (by decide +kernel), List.mem_of_getElem? (i := 876) (by decide +kernel), List.mem_of_getElem? (i := 877) (by decide +kernel)⟩
theorem lw_p25 : lw_okq (⟨"SaltPoolModel", "taken", "(I)I"⟩, 46) := ⟨⟨by decide +kernel, by decide +kernel⟩, List.mem_of_getElem? (i := 611) (by decide +kernel), List.mem_of_getElem? (i := 892) (by decide +kernel), List.mem_of_getElem? (i := 893) (by decide +kernel)⟩
theorem lw_p26 : lw_okq (⟨"SaltPoolModel", "costOf", "(I)I"⟩, 46) := ⟨⟨by decide +kernel, by decide +kernel⟩, List.mem_of_getElem? (i := 611) (by decide +kernel), List.mem_of_getElem? (i := 904) (by decide +kernel), List.mem_of_getElem? (i := 905) (by decide +kernel)⟩
theorem lw_p27 : lw_okq (⟨"SaltPoolModel", "endOf", "(II)I"⟩, 46) := ⟨⟨by decide +kernel, by decide +kernel⟩, List.mem_of_getElem? (i := 611) (by decide +kernel), List.mem_of_getElem? (i := 908) (by decide +kernel), List.mem_of_getElem? (i := 909) (by decide +kernel)⟩
theorem lw_p28 : lw_okq (⟨"SaltPoolModel", "lets", "(I)Z"⟩, 46) := ⟨⟨by decide +kernel, by decide +kernel⟩, List.mem_of_getElem? (i := 611) (by decide +kernel), List.mem_of_getElem? (i := 912) (by decide +kernel), List.mem_of_getElem? (i := 913) (by decide +kernel)⟩
theorem lw_p29 : lw_okq (⟨"SaltPoolModel", "keep", "(I)V"⟩, 46) := ⟨⟨by decide +kernel, by decide +kernel⟩, List.mem_of_getElem? (i := 611) (by decide +kernel), List.mem_of_getElem? (i := 916) (by decide +kernel), List.mem_of_getElem? (i := 917) (by decide +kernel)⟩
theorem lw_p30 : lw_okq (⟨"SaltPoolModel", "countsUp", "(I)Z"⟩, 46) := ⟨⟨by decide +kernel, by decide +kernel⟩, List.mem_of_getElem? (i := 611) (by decide +kernel), List.mem_of_getElem? (i := 920) (by decide +kernel), List.mem_of_getElem? (i := 921) (by decide +kernel)⟩
theorem lw_p31 : lw_okq (⟨"SaltPoolModel", "swap", "(II)V"⟩, 46) := ⟨⟨by decide +kernel, by decide +kernel⟩, List.mem_of_getElem? (i := 611) (by decide +kernel), List.mem_of_getElem? (i := 924) (by decide +kernel), List.mem_of_getElem? (i := 925) (by decide +kernel)⟩
def lw_privs_2 : List (MethodName × Nat) := [(⟨"SaltPoolModel", "part", "(JI)V"⟩, 46), (⟨"SaltPoolModel", "entry", "(IIIII)I"⟩, 46), (⟨"SaltPoolModel", "isAsOf", "(III)Z"⟩, 46), (⟨"SaltPoolModel", "leftOf", "(I)I"⟩, 46), (⟨"SaltPoolModel", "reads", "()I"⟩, 46), (⟨"SaltPoolModel", "number", "(II)I"⟩, 46), (⟨"SaltPoolModel", "next", "()I"⟩, 46), (⟨"SaltPoolModel", "isShip", "(I)Z"⟩, 46), (⟨"SaltPoolModel", "inHold", "(I)I"⟩, 46), (⟨"SaltPoolModel", "taken", "(I)I"⟩, 46), (⟨"SaltPoolModel", "costOf", "(I)I"⟩, 46), (⟨"SaltPoolModel", "endOf", "(II)I"⟩, 46), (⟨"SaltPoolModel", "lets", "(I)Z"⟩, 46), (⟨"SaltPoolModel", "keep", "(I)V"⟩, 46), (⟨"SaltPoolModel", "countsUp", "(I)Z"⟩, 46), (⟨"SaltPoolModel", "swap", "(II)V"⟩, 46)]
theorem lw_r2 : ∀ q ∈ lw_privs_2, lw_okq q := List.forall_mem_cons.mpr ⟨lw_p16, List.forall_mem_cons.mpr ⟨lw_p17, List.forall_mem_cons.mpr ⟨lw_p18, List.forall_mem_cons.mpr ⟨lw_p19, List.forall_mem_cons.mpr ⟨lw_p20, List.forall_mem_cons.mpr ⟨lw_p21, List.forall_mem_cons.mpr ⟨lw_p22, List.forall_mem_cons.mpr ⟨lw_p23, List.forall_mem_cons.mpr ⟨lw_p24, List.forall_mem_cons.mpr ⟨lw_p25, List.forall_mem_cons.mpr ⟨lw_p26, List.forall_mem_cons.mpr ⟨lw_p27, List.forall_mem_cons.mpr ⟨lw_p28, List.forall_mem_cons.mpr ⟨lw_p29, List.forall_mem_cons.mpr ⟨lw_p30, List.forall_mem_cons.mpr ⟨lw_p31, fun _ h => absurd h List.not_mem_nil⟩⟩⟩⟩⟩⟩⟩⟩⟩⟩⟩⟩⟩⟩⟩⟩
theorem lw_p32 : lw_okq (⟨"SaltPoolModel", "isWithin", "(III)Z"⟩, 46) := ⟨⟨by decide +kernel, by decide +kernel⟩, List.mem_of_getElem? (i := 611) (by decide +kernel), List.mem_of_getElem? (i := 955) (by decide +kernel), List.mem_of_getElem? (i := 956) (by decide +kernel)⟩
def lw_privs_3 : List (MethodName × Nat) := [(⟨"SaltPoolModel", "isWithin", "(III)Z"⟩, 46)]
theorem lw_r3 : ∀ q ∈ lw_privs_3, lw_okq q := List.forall_mem_cons.mpr ⟨lw_p32, fun _ h => absurd h List.not_mem_nil⟩
def lw_privs : List (MethodName × Nat) := lw_privs_1 ++ (lw_privs_2 ++ (lw_privs_3))
def lw_tbl : List Cond := k2_sels lw_privs ++ tables_1
theorem lw_privs_ok : ∀ q ∈ lw_privs, lw_okq q := by
  show ∀ q ∈ lw_privs_1 ++ (lw_privs_2 ++ (lw_privs_3)), lw_okq q
  exact List.forall_mem_append.mpr ⟨lw_r1, List.forall_mem_append.mpr ⟨lw_r2, lw_r3⟩⟩
end
section
/-! ===== BEGIN words of one list among another's, by their places ===== -/
theorem goodIn_r {big : List Cond} (ws : List Cond) (ps : List Nat) (hp : ws = ps.filterMap (fun i => big[i]?)) (h : ws.all goodWord = true) : GoodIn big ws := by
  intro w hw
  have h1 := List.all_eq_true.mp h w hw
  rw [hp] at hw
  obtain ⟨i, -, hi⟩ := List.mem_filterMap.mp hw
  have hm : w ∈ big := by first | exact List.mem_of_getElem? hi | exact List.getElem?_mem hi
  exact ⟨hm, good_of_word h1⟩
theorem goodIn_app {big a b : List Cond} (ha : GoodIn big a) (hb : GoodIn big b) : GoodIn big (a ++ b) := fun w h => (List.mem_append.mp h).elim (ha w) (hb w)
theorem goodIn_ca {big a b : List Cond} {c : Cond} (ha : GoodIn big (c :: a)) (hb : GoodIn big b) : GoodIn big (c :: (a ++ b)) := fun w h => (List.mem_cons.mp h).elim (fun e => ha w (List.mem_cons.mpr (Or.inl e))) (fun h => (List.mem_append.mp h).elim (fun h => ha w (List.mem_cons.mpr (Or.inr h))) (hb w))
theorem goodIn_sub {big ws : List Cond} (hm : ∀ w ∈ ws, w ∈ big) (h : ws.all goodWord = true) : GoodIn big ws := fun w hw => ⟨hm w hw, good_of_word (List.all_eq_true.mp h w hw)⟩
/-! ===== END ===== -/

/-! ===== BEGIN printed: names, fields, word lists, decode rows ===== -/
def RX0 : String := "SaltPool$Fleet"
def TX0 : u_T := fun k => match k with
  | 0 => ("SaltPool$Fleet", "arrival", "[I", true)
  | 1 => ("SaltPool$Fleet", "room", "[I", true)
  | 2 => ("SaltPool$Fleet", "rate", "[I", true)
  | 3 => ("SaltPool$Fleet", "layDays", "[I", true)
  | 4 => ("SaltPool$Fleet", "due", "[I", true)
  | 5 => ("SaltPool$Fleet", "stowed", "[I", true)
  | 6 => ("SaltPool$Fleet", "stowedLots", "[I", true)
  | _ => ("SaltPool$Fleet", "count", "I", false)
def tyX0 : Nat → FieldType := fun k => match k with
  | 0 => .array .int
  | 1 => .array .int
  | 2 => .array .int
  | 3 => .array .int
  | 4 => .array .int
  | 5 => .array .int
  | 6 => .array .int
  | _ => .int
abbrev wsX00 : List Cond := u_ws RX0 TX0 8
theorem nmX0 : ∀ a, a < 8 → ∀ b, b < 8 → a ≠ b → (TX0 a).2.1 ≠ (TX0 b).2.1 := by decide +kernel
theorem tyX0_ok : ∀ k, k < 8 → parseFieldDescriptor (TX0 k).2.2.1 = some (tyX0 k) := by decide +kernel
abbrev cX0_init : ByteArray := prog_2_method_1_code
def yX0_init : MethodName := ⟨RX0, "<init>", "()V"⟩
abbrev cX0_has : ByteArray := prog_2_method_2_code
def yX0_has : MethodName := ⟨RX0, "has", "(I)Z"⟩
abbrev cX0_add : ByteArray := prog_2_method_3_code
def yX0_add : MethodName := ⟨RX0, "add", "(IIIII)I"⟩
abbrev cX0_freeRoom : ByteArray := prog_2_method_4_code
def yX0_freeRoom : MethodName := ⟨RX0, "freeRoom", "(I)I"⟩
abbrev cX0_stow : ByteArray := prog_2_method_5_code
def yX0_stow : MethodName := ⟨RX0, "stow", "(III)I"⟩
abbrev cX0_stowedOf : ByteArray := prog_2_method_6_code
def yX0_stowedOf : MethodName := ⟨RX0, "stowedOf", "(II)I"⟩
abbrev cX0_turnBehind : ByteArray := prog_2_method_7_code
def yX0_turnBehind : MethodName := ⟨RX0, "turnBehind", "(II)I"⟩
abbrev cX0_loadingDays : ByteArray := prog_2_method_8_code
def yX0_loadingDays : MethodName := ⟨RX0, "loadingDays", "(I)I"⟩
abbrev cX0_costOf : ByteArray := prog_2_method_9_code
def yX0_costOf : MethodName := ⟨RX0, "costOf", "(II)I"⟩
def RX1 : String := "SaltPool$Lots"
def TX1 : u_T := fun k => match k with
  | 0 => ("SaltPool$Lots", "works", "[I", true)
  | 1 => ("SaltPool$Lots", "grade", "[I", true)
  | 2 => ("SaltPool$Lots", "week", "[I", true)
  | 3 => ("SaltPool$Lots", "inPit", "[I", true)
  | 4 => ("SaltPool$Lots", "atPort", "[I", true)
  | 5 => ("SaltPool$Lots", "inHolds", "[I", true)
  | _ => ("SaltPool$Lots", "count", "I", false)
def tyX1 : Nat → FieldType := fun k => match k with
  | 0 => .array .int
  | 1 => .array .int
  | 2 => .array .int
  | 3 => .array .int
  | 4 => .array .int
  | 5 => .array .int
  | _ => .int
abbrev wsX10 : List Cond := u_ws RX1 TX1 7
theorem nmX1 : ∀ a, a < 7 → ∀ b, b < 7 → a ≠ b → (TX1 a).2.1 ≠ (TX1 b).2.1 := by decide +kernel
theorem tyX1_ok : ∀ k, k < 7 → parseFieldDescriptor (TX1 k).2.2.1 = some (tyX1 k) := by decide +kernel
abbrev cX1_init : ByteArray := prog_3_method_1_code
def yX1_init : MethodName := ⟨RX1, "<init>", "()V"⟩
abbrev cX1_has : ByteArray := prog_3_method_2_code
def yX1_has : MethodName := ⟨RX1, "has", "(I)Z"⟩
abbrev cX1_add : ByteArray := prog_3_method_3_code
def yX1_add : MethodName := ⟨RX1, "add", "(IIII)I"⟩
abbrev cX1_moveToPort : ByteArray := prog_3_method_4_code
def yX1_moveToPort : MethodName := ⟨RX1, "moveToPort", "(II)V"⟩
abbrev cX1_moveToHolds : ByteArray := prog_3_method_5_code
def yX1_moveToHolds : MethodName := ⟨RX1, "moveToHolds", "(II)V"⟩
abbrev cX1_sumOf : ByteArray := prog_3_method_6_code
def yX1_sumOf : MethodName := ⟨RX1, "sumOf", "([I)I"⟩
def RX2 : String := "SaltPool$Mole"
def TX2 : u_T := fun k => match k with
  | 0 => ("SaltPool$Mole", "place", "[I", true)
  | 1 => ("SaltPool$Mole", "turn", "[I", true)
  | 2 => ("SaltPool$Mole", "end", "[I", true)
  | 3 => ("SaltPool$Mole", "cost", "[I", true)
  | 4 => ("SaltPool$Mole", "hasOrder", "Z", false)
  | 5 => ("SaltPool$Mole", "order", "[I", true)
  | 6 => ("SaltPool$Mole", "cheapest", "[I", true)
  | _ => ("SaltPool$Mole", "least", "I", false)
def tyX2 : Nat → FieldType := fun k => match k with
  | 0 => .array .int
  | 1 => .array .int
  | 2 => .array .int
  | 3 => .array .int
  | 4 => .boolean
  | 5 => .array .int
  | 6 => .array .int
  | _ => .int
abbrev wsX20 : List Cond := u_ws RX2 TX2 8
theorem nmX2 : ∀ a, a < 8 → ∀ b, b < 8 → a ≠ b → (TX2 a).2.1 ≠ (TX2 b).2.1 := by decide +kernel
theorem tyX2_ok : ∀ k, k < 8 → parseFieldDescriptor (TX2 k).2.2.1 = some (tyX2 k) := by decide +kernel
abbrev cX2_init : ByteArray := prog_4_method_1_code
def yX2_init : MethodName := ⟨RX2, "<init>", "()V"⟩
abbrev cX2_layCheapest : ByteArray := prog_4_method_2_code
def yX2_layCheapest : MethodName := ⟨RX2, "layCheapest", "(LSaltPool$Fleet;LSaltPool$Sea;I)I"⟩
abbrev cX2_seek : ByteArray := prog_4_method_3_code
def yX2_seek : MethodName := ⟨RX2, "seek", "(LSaltPool$Fleet;LSaltPool$Sea;IIII)V"⟩
abbrev cX2_keepCheapest : ByteArray := prog_4_method_4_code
def yX2_keepCheapest : MethodName := ⟨RX2, "keepCheapest", "(LSaltPool$Fleet;LSaltPool$Sea;I)V"⟩
def RX3 : String := "SaltPool$Pool"
def TX3 : u_T := fun k => match k with
  | 0 => ("SaltPool$Pool", "part", "[I", true)
  | 1 => ("SaltPool$Pool", "shipped", "[I", true)
  | 2 => ("SaltPool$Pool", "works", "I", false)
  | 3 => ("SaltPool$Pool", "total", "I", false)
  | 4 => ("SaltPool$Pool", "kind", "[I", true)
  | 5 => ("SaltPool$Pool", "of", "[I", true)
  | 6 => ("SaltPool$Pool", "to", "[I", true)
  | 7 => ("SaltPool$Pool", "sacks", "[I", true)
  | 8 => ("SaltPool$Pool", "week", "[I", true)
  | 9 => ("SaltPool$Pool", "entries", "I", false)
  | 10 => ("SaltPool$Pool", "share", "[I", true)
  | 11 => ("SaltPool$Pool", "rest", "[I", true)
  | _ => ("SaltPool$Pool", "among", "[Z", true)
def tyX3 : Nat → FieldType := fun k => match k with
  | 0 => .array .int
  | 1 => .array .int
  | 2 => .int
  | 3 => .int
  | 4 => .array .int
  | 5 => .array .int
  | 6 => .array .int
  | 7 => .array .int
  | 8 => .array .int
  | 9 => .int
  | 10 => .array .int
  | 11 => .array .int
  | _ => .array .boolean
abbrev wsX30 : List Cond := u_ws RX3 TX3 13
theorem nmX3 : ∀ a, a < 13 → ∀ b, b < 13 → a ≠ b → (TX3 a).2.1 ≠ (TX3 b).2.1 := by decide +kernel
theorem tyX3_ok : ∀ k, k < 13 → parseFieldDescriptor (TX3 k).2.2.1 = some (tyX3 k) := by decide +kernel
abbrev cX3_init : ByteArray := prog_5_method_1_code
def yX3_init : MethodName := ⟨RX3, "<init>", "()V"⟩
abbrev cX3_hasWorks : ByteArray := prog_5_method_2_code
def yX3_hasWorks : MethodName := ⟨RX3, "hasWorks", "(I)Z"⟩
abbrev cX3_addWorks : ByteArray := prog_5_method_3_code
def yX3_addWorks : MethodName := ⟨RX3, "addWorks", "(I)I"⟩
abbrev cX3_addEntry : ByteArray := prog_5_method_4_code
def yX3_addEntry : MethodName := ⟨RX3, "addEntry", "(IIIII)I"⟩
abbrev cX3_takeParts : ByteArray := prog_5_method_5_code
def yX3_takeParts : MethodName := ⟨RX3, "takeParts", "([I)V"⟩
abbrev cX3_unshipped : ByteArray := prog_5_method_6_code
def yX3_unshipped : MethodName := ⟨RX3, "unshipped", "(II)I"⟩
abbrev cX3_isOpen : ByteArray := prog_5_method_7_code
def yX3_isOpen : MethodName := ⟨RX3, "isOpen", "(III)Z"⟩
abbrev cX3_quotaOf : ByteArray := prog_5_method_8_code
def yX3_quotaOf : MethodName := ⟨RX3, "quotaOf", "(III)I"⟩
abbrev cX3_lentTo : ByteArray := prog_5_method_9_code
def yX3_lentTo : MethodName := ⟨RX3, "lentTo", "(III)I"⟩
abbrev cX3_partAmong : ByteArray := prog_5_method_10_code
def yX3_partAmong : MethodName := ⟨RX3, "partAmong", "(I)V"⟩
abbrev cX3_partsAmong : ByteArray := prog_5_method_11_code
def yX3_partsAmong : MethodName := ⟨RX3, "partsAmong", "()I"⟩
abbrev cX3_raiseGreatestRests : ByteArray := prog_5_method_12_code
def yX3_raiseGreatestRests : MethodName := ⟨RX3, "raiseGreatestRests", "(I)V"⟩
def RX4 : String := "SaltPool$Sea"
def TX4 : u_T := fun k => match k with
  | 0 => ("SaltPool$Sea", "surf", "[I", true)
  | 1 => ("SaltPool$Sea", "bar", "I", false)
  | 2 => ("SaltPool$Sea", "loadable", "[I", true)
  | 3 => ("SaltPool$Sea", "loadableBefore", "[I", true)
  | 4 => ("SaltPool$Sea", "loadables", "I", false)
  | _ => ("SaltPool$Sea", "loadsForEver", "Z", false)
def tyX4 : Nat → FieldType := fun k => match k with
  | 0 => .array .int
  | 1 => .int
  | 2 => .array .int
  | 3 => .array .int
  | 4 => .int
  | _ => .boolean
abbrev wsX40 : List Cond := u_ws RX4 TX4 6
theorem nmX4 : ∀ a, a < 6 → ∀ b, b < 6 → a ≠ b → (TX4 a).2.1 ≠ (TX4 b).2.1 := by decide +kernel
theorem tyX4_ok : ∀ k, k < 6 → parseFieldDescriptor (TX4 k).2.2.1 = some (tyX4 k) := by decide +kernel
abbrev cX4_init : ByteArray := prog_6_method_1_code
def yX4_init : MethodName := ⟨RX4, "<init>", "()V"⟩
abbrev cX4_takenOn : ByteArray := prog_6_method_2_code
def yX4_takenOn : MethodName := ⟨RX4, "takenOn", "(I)I"⟩
abbrev cX4_countLoadableDays : ByteArray := prog_6_method_3_code
def yX4_countLoadableDays : MethodName := ⟨RX4, "countLoadableDays", "()V"⟩
abbrev cX4_endFrom : ByteArray := prog_6_method_4_code
def yX4_endFrom : MethodName := ⟨RX4, "endFrom", "(II)I"⟩
def RX5 : String := "SaltPool$Sheet"
def TX5 : u_T := fun k => match k with
  | 0 => ("SaltPool$Sheet", "items", "[I", true)
  | 1 => ("SaltPool$Sheet", "lane", "I", false)
  | _ => ("SaltPool$Sheet", "length", "I", false)
def tyX5 : Nat → FieldType := fun k => match k with
  | 0 => .array .int
  | 1 => .int
  | _ => .int
abbrev wsX50 : List Cond := u_ws RX5 TX5 3
theorem nmX5 : ∀ a, a < 3 → ∀ b, b < 3 → a ≠ b → (TX5 a).2.1 ≠ (TX5 b).2.1 := by decide +kernel
theorem tyX5_ok : ∀ k, k < 3 → parseFieldDescriptor (TX5 k).2.2.1 = some (tyX5 k) := by decide +kernel
abbrev cX5_init : ByteArray := prog_7_method_1_code
def yX5_init : MethodName := ⟨RX5, "<init>", "()V"⟩
abbrev cX5_isNothing : ByteArray := prog_7_method_2_code
def yX5_isNothing : MethodName := ⟨RX5, "isNothing", "()Z"⟩
abbrev cX5_begin : ByteArray := prog_7_method_3_code
def yX5_begin : MethodName := ⟨RX5, "begin", "(II)V"⟩
abbrev cX5_hasItems : ByteArray := prog_7_method_4_code
def yX5_hasItems : MethodName := ⟨RX5, "hasItems", "(II)Z"⟩
abbrev cX5_faultAs : ByteArray := prog_7_method_5_code
def yX5_faultAs : MethodName := ⟨RX5, "faultAs", "(III)I"⟩
abbrev cX5_hasAbove : ByteArray := prog_7_method_6_code
def yX5_hasAbove : MethodName := ⟨RX5, "hasAbove", "(III)Z"⟩
abbrev cX5_put : ByteArray := prog_7_method_7_code
def yX5_put : MethodName := ⟨RX5, "put", "(II)V"⟩
def RX6 : String := "SaltPool$Tape"
def TX6 : u_T := fun k => match k with
  | 0 => ("SaltPool$Tape", "told", "[I", true)
  | 1 => ("SaltPool$Tape", "bytes", "[B", true)
  | 2 => ("SaltPool$Tape", "length", "I", false)
  | _ => ("SaltPool$Tape", "at", "I", false)
def tyX6 : Nat → FieldType := fun k => match k with
  | 0 => .array .int
  | 1 => .array .byte
  | 2 => .int
  | _ => .int
abbrev wsX60 : List Cond := u_ws RX6 TX6 4
theorem nmX6 : ∀ a, a < 4 → ∀ b, b < 4 → a ≠ b → (TX6 a).2.1 ≠ (TX6 b).2.1 := by decide +kernel
theorem tyX6_ok : ∀ k, k < 4 → parseFieldDescriptor (TX6 k).2.2.1 = some (tyX6 k) := by decide +kernel
abbrev cX6_init : ByteArray := prog_8_method_1_code
def yX6_init : MethodName := ⟨RX6, "<init>", "()V"⟩
abbrev cX6_canHold : ByteArray := prog_8_method_2_code
def yX6_canHold : MethodName := ⟨RX6, "canHold", "(JI)Z"⟩
abbrev cX6_byteOf : ByteArray := prog_8_method_3_code
def yX6_byteOf : MethodName := ⟨RX6, "byteOf", "(JI)I"⟩
abbrev cX6_append : ByteArray := prog_8_method_4_code
def yX6_append : MethodName := ⟨RX6, "append", "(JI)I"⟩
abbrev cX6_readPairs : ByteArray := prog_8_method_5_code
def yX6_readPairs : MethodName := ⟨RX6, "readPairs", "(I)I"⟩
abbrev cX6_readPair : ByteArray := prog_8_method_6_code
def yX6_readPair : MethodName := ⟨RX6, "readPair", "(I)Z"⟩
abbrev cX6_readSign : ByteArray := prog_8_method_7_code
def yX6_readSign : MethodName := ⟨RX6, "readSign", "(C)Z"⟩
abbrev cX6_readNumber : ByteArray := prog_8_method_8_code
def yX6_readNumber : MethodName := ⟨RX6, "readNumber", "(II)I"⟩
abbrev cX6_skipBlanks : ByteArray := prog_8_method_9_code
def yX6_skipBlanks : MethodName := ⟨RX6, "skipBlanks", "()V"⟩
def RX7 : String := "SaltPool"
def TX7 : u_T := fun k => match k with
  | 0 => ("SaltPool", "pool", "LSaltPool$Pool;", true)
  | 1 => ("SaltPool", "tape", "LSaltPool$Tape;", true)
  | 2 => ("SaltPool", "lots", "LSaltPool$Lots;", true)
  | 3 => ("SaltPool", "fleet", "LSaltPool$Fleet;", true)
  | 4 => ("SaltPool", "sea", "LSaltPool$Sea;", true)
  | 5 => ("SaltPool", "mole", "LSaltPool$Mole;", true)
  | 6 => ("SaltPool", "sheets", "[LSaltPool$Sheet;", true)
  | _ => ("SaltPool", "now", "I", false)
def tyX7 : Nat → FieldType := fun k => match k with
  | 0 => .object "SaltPool$Pool"
  | 1 => .object "SaltPool$Tape"
  | 2 => .object "SaltPool$Lots"
  | 3 => .object "SaltPool$Fleet"
  | 4 => .object "SaltPool$Sea"
  | 5 => .object "SaltPool$Mole"
  | 6 => .array (.object "SaltPool$Sheet")
  | _ => .int
abbrev wsX70 : List Cond := u_ws RX7 TX7 8
theorem nmX7 : ∀ a, a < 8 → ∀ b, b < 8 → a ≠ b → (TX7 a).2.1 ≠ (TX7 b).2.1 := by decide +kernel
theorem tyX7_ok : ∀ k, k < 8 → parseFieldDescriptor (TX7 k).2.2.1 = some (tyX7 k) := by decide +kernel
abbrev cX7_init : ByteArray := prog_1_method_1_code
def yX7_init : MethodName := ⟨RX7, "<init>", "()V"⟩
abbrev cX7_works : ByteArray := prog_1_method_2_code
def yX7_works : MethodName := ⟨RX7, "works", "(I)I"⟩
abbrev cX7_weeks : ByteArray := prog_1_method_3_code
def yX7_weeks : MethodName := ⟨RX7, "weeks", "(I)I"⟩
abbrev cX7_lot : ByteArray := prog_1_method_4_code
def yX7_lot : MethodName := ⟨RX7, "lot", "(III)I"⟩
abbrev cX7_rail : ByteArray := prog_1_method_5_code
def yX7_rail : MethodName := ⟨RX7, "rail", "(II)I"⟩
abbrev cX7_told : ByteArray := prog_1_method_6_code
def yX7_told : MethodName := ⟨RX7, "told", "(II)I"⟩
abbrev cX7_total : ByteArray := prog_1_method_7_code
def yX7_total : MethodName := ⟨RX7, "total", "(I)I"⟩
abbrev cX7_lend : ByteArray := prog_1_method_8_code
def yX7_lend : MethodName := ⟨RX7, "lend", "(III)I"⟩
abbrev cX7_shut : ByteArray := prog_1_method_9_code
def yX7_shut : MethodName := ⟨RX7, "shut", "(IZI)I"⟩
abbrev cX7_open : ByteArray := prog_1_method_10_code
def yX7_open : MethodName := ⟨RX7, "open", "(III)I"⟩
abbrev cX7_quota : ByteArray := prog_1_method_11_code
def yX7_quota : MethodName := ⟨RX7, "quota", "(III)I"⟩
abbrev cX7_left : ByteArray := prog_1_method_12_code
def yX7_left : MethodName := ⟨RX7, "left", "(I)I"⟩
abbrev cX7_type : ByteArray := prog_1_method_13_code
def yX7_type : MethodName := ⟨RX7, "type", "(JI)I"⟩
abbrev cX7_parts : ByteArray := prog_1_method_14_code
def yX7_parts : MethodName := ⟨RX7, "parts", "()I"⟩
abbrev cX7_ship : ByteArray := prog_1_method_15_code
def yX7_ship : MethodName := ⟨RX7, "ship", "(IIIII)I"⟩
abbrev cX7_load : ByteArray := prog_1_method_16_code
def yX7_load : MethodName := ⟨RX7, "load", "(III)I"⟩
abbrev cX7_held : ByteArray := prog_1_method_17_code
def yX7_held : MethodName := ⟨RX7, "held", "(II)I"⟩
abbrev cX7_grade : ByteArray := prog_1_method_18_code
def yX7_grade : MethodName := ⟨RX7, "grade", "(I)I"⟩
abbrev cX7_surf : ByteArray := prog_1_method_19_code
def yX7_surf : MethodName := ⟨RX7, "surf", "(IIIII)I"⟩
abbrev cX7_sea : ByteArray := prog_1_method_20_code
def yX7_sea : MethodName := ⟨RX7, "sea", "(I)I"⟩
abbrev cX7_bar : ByteArray := prog_1_method_21_code
def yX7_bar : MethodName := ⟨RX7, "bar", "(I)I"⟩
abbrev cX7_lay : ByteArray := prog_1_method_22_code
def yX7_lay : MethodName := ⟨RX7, "lay", "(I)I"⟩
abbrev cX7_laid : ByteArray := prog_1_method_23_code
def yX7_laid : MethodName := ⟨RX7, "laid", "(II)I"⟩
abbrev cX7_count : ByteArray := prog_1_method_24_code
def yX7_count : MethodName := ⟨RX7, "count", "(I)I"⟩
abbrev cX7_sheet : ByteArray := prog_1_method_25_code
def yX7_sheet : MethodName := ⟨RX7, "sheet", "(III)I"⟩
abbrev cX7_drop : ByteArray := prog_1_method_26_code
def yX7_drop : MethodName := ⟨RX7, "drop", "(I)I"⟩
abbrev cX7_item : ByteArray := prog_1_method_27_code
def yX7_item : MethodName := ⟨RX7, "item", "(IIII)I"⟩
abbrev cX7_copy : ByteArray := prog_1_method_28_code
def yX7_copy : MethodName := ⟨RX7, "copy", "(IIIII)I"⟩
abbrev cX7_isWithin : ByteArray := prog_1_method_29_code
def yX7_isWithin : MethodName := ⟨RX7, "isWithin", "(III)Z"⟩
abbrev cX7_isWeek : ByteArray := prog_1_method_30_code
def yX7_isWeek : MethodName := ⟨RX7, "isWeek", "(I)Z"⟩
abbrev cX7_isDay : ByteArray := prog_1_method_31_code
def yX7_isDay : MethodName := ⟨RX7, "isDay", "(I)Z"⟩
abbrev cX7_isSheet : ByteArray := prog_1_method_32_code
def yX7_isSheet : MethodName := ⟨RX7, "isSheet", "(I)Z"⟩
abbrev cX7_isLane : ByteArray := prog_1_method_33_code
def yX7_isLane : MethodName := ⟨RX7, "isLane", "(I)Z"⟩
abbrev cX7_isAsked : ByteArray := prog_1_method_34_code
def yX7_isAsked : MethodName := ⟨RX7, "isAsked", "(III)Z"⟩
def RX8 : String := "SaltPoolModel"
def TX8 : u_T := fun k => match k with
  | 0 => ("SaltPoolModel", "works", "I", false)
  | 1 => ("SaltPoolModel", "parts", "[I", true)
  | 2 => ("SaltPoolModel", "shipped", "[I", true)
  | 3 => ("SaltPoolModel", "now", "I", false)
  | 4 => ("SaltPoolModel", "lots", "I", false)
  | 5 => ("SaltPoolModel", "lotWorks", "[I", true)
  | 6 => ("SaltPoolModel", "grades", "[I", true)
  | 7 => ("SaltPoolModel", "inPit", "[I", true)
  | 8 => ("SaltPoolModel", "atPort", "[I", true)
  | 9 => ("SaltPoolModel", "weeksOf", "[I", true)
  | 10 => ("SaltPoolModel", "total", "I", false)
  | 11 => ("SaltPoolModel", "entries", "I", false)
  | 12 => ("SaltPoolModel", "entryKind", "[I", true)
  | 13 => ("SaltPoolModel", "entryA", "[I", true)
  | 14 => ("SaltPoolModel", "entryB", "[I", true)
  | 15 => ("SaltPoolModel", "entryMany", "[I", true)
  | 16 => ("SaltPoolModel", "entryWeek", "[I", true)
  | 17 => ("SaltPoolModel", "shares", "[J", true)
  | 18 => ("SaltPoolModel", "given", "[Z", true)
  | 19 => ("SaltPoolModel", "tape", "[I", true)
  | 20 => ("SaltPoolModel", "taped", "I", false)
  | 21 => ("SaltPoolModel", "at", "I", false)
  | 22 => ("SaltPoolModel", "wrong", "I", false)
  | 23 => ("SaltPoolModel", "readParts", "[I", true)
  | 24 => ("SaltPoolModel", "ships", "I", false)
  | 25 => ("SaltPoolModel", "days", "[I", true)
  | 26 => ("SaltPoolModel", "rooms", "[I", true)
  | 27 => ("SaltPoolModel", "rates", "[I", true)
  | 28 => ("SaltPoolModel", "lays", "[I", true)
  | 29 => ("SaltPoolModel", "dues", "[I", true)
  | 30 => ("SaltPoolModel", "holds", "[I", true)
  | 31 => ("SaltPoolModel", "surfs", "[I", true)
  | 32 => ("SaltPoolModel", "bar", "I", false)
  | 33 => ("SaltPoolModel", "row", "[I", true)
  | 34 => ("SaltPoolModel", "rowTurn", "[I", true)
  | 35 => ("SaltPoolModel", "rowEnd", "[I", true)
  | 36 => ("SaltPoolModel", "rowCost", "[I", true)
  | 37 => ("SaltPoolModel", "hasLaid", "Z", false)
  | 38 => ("SaltPoolModel", "laidAt", "[I", true)
  | 39 => ("SaltPoolModel", "laidTurn", "[I", true)
  | 40 => ("SaltPoolModel", "laidEnd", "[I", true)
  | 41 => ("SaltPoolModel", "laidCost", "[I", true)
  | 42 => ("SaltPoolModel", "lanes", "[I", true)
  | 43 => ("SaltPoolModel", "sizes", "[I", true)
  | 44 => ("SaltPoolModel", "items", "[I", true)
  | _ => ("SaltPoolModel", "moved", "[I", true)
def tyX8 : Nat → FieldType := fun k => match k with
  | 0 => .int
  | 1 => .array .int
  | 2 => .array .int
  | 3 => .int
  | 4 => .int
  | 5 => .array .int
  | 6 => .array .int
  | 7 => .array .int
  | 8 => .array .int
  | 9 => .array .int
  | 10 => .int
  | 11 => .int
  | 12 => .array .int
  | 13 => .array .int
  | 14 => .array .int
  | 15 => .array .int
  | 16 => .array .int
  | 17 => .array .long
  | 18 => .array .boolean
  | 19 => .array .int
  | 20 => .int
  | 21 => .int
  | 22 => .int
  | 23 => .array .int
  | 24 => .int
  | 25 => .array .int
  | 26 => .array .int
  | 27 => .array .int
  | 28 => .array .int
  | 29 => .array .int
  | 30 => .array .int
  | 31 => .array .int
  | 32 => .int
  | 33 => .array .int
  | 34 => .array .int
  | 35 => .array .int
  | 36 => .array .int
  | 37 => .boolean
  | 38 => .array .int
  | 39 => .array .int
  | 40 => .array .int
  | 41 => .array .int
  | 42 => .array .int
  | 43 => .array .int
  | 44 => .array .int
  | _ => .array .int
abbrev wsX80 : List Cond := u_ws RX8 TX8 46
theorem nmX8 : ∀ a, a < 46 → ∀ b, b < 46 → a ≠ b → (TX8 a).2.1 ≠ (TX8 b).2.1 := by decide +kernel
theorem tyX8_ok : ∀ k, k < 46 → parseFieldDescriptor (TX8 k).2.2.1 = some (tyX8 k) := by decide +kernel
abbrev cX8_in : ByteArray := prog_10_method_2_code
def yX8_in : MethodName := ⟨RX8, "in", "(III)Z"⟩
abbrev cX8_init : ByteArray := prog_10_method_3_code
def yX8_init : MethodName := ⟨RX8, "<init>", "()V"⟩
abbrev cX8_isWorks : ByteArray := prog_10_method_4_code
def yX8_isWorks : MethodName := ⟨RX8, "isWorks", "(I)Z"⟩
abbrev cX8_isLot : ByteArray := prog_10_method_5_code
def yX8_isLot : MethodName := ⟨RX8, "isLot", "(I)Z"⟩
abbrev cX8_works : ByteArray := prog_10_method_6_code
def yX8_works : MethodName := ⟨RX8, "works", "(I)I"⟩
abbrev cX8_weeks : ByteArray := prog_10_method_7_code
def yX8_weeks : MethodName := ⟨RX8, "weeks", "(I)I"⟩
abbrev cX8_lot : ByteArray := prog_10_method_8_code
def yX8_lot : MethodName := ⟨RX8, "lot", "(III)I"⟩
abbrev cX8_rail : ByteArray := prog_10_method_9_code
def yX8_rail : MethodName := ⟨RX8, "rail", "(II)I"⟩
abbrev cX8_inHolds : ByteArray := prog_10_method_10_code
def yX8_inHolds : MethodName := ⟨RX8, "inHolds", "(I)I"⟩
abbrev cX8_told : ByteArray := prog_10_method_11_code
def yX8_told : MethodName := ⟨RX8, "told", "(II)I"⟩
abbrev cX8_total : ByteArray := prog_10_method_12_code
def yX8_total : MethodName := ⟨RX8, "total", "(I)I"⟩
abbrev cX8_entry : ByteArray := prog_10_method_13_code
def yX8_entry : MethodName := ⟨RX8, "entry", "(IIIII)I"⟩
abbrev cX8_isOpen : ByteArray := prog_10_method_14_code
def yX8_isOpen : MethodName := ⟨RX8, "isOpen", "(III)Z"⟩
abbrev cX8_part : ByteArray := prog_10_method_15_code
def yX8_part : MethodName := ⟨RX8, "part", "(JI)V"⟩
abbrev cX8_quotas : ByteArray := prog_10_method_16_code
def yX8_quotas : MethodName := ⟨RX8, "quotas", "(II)V"⟩
abbrev cX8_lend : ByteArray := prog_10_method_17_code
def yX8_lend : MethodName := ⟨RX8, "lend", "(III)I"⟩
abbrev cX8_shut : ByteArray := prog_10_method_18_code
def yX8_shut : MethodName := ⟨RX8, "shut", "(IZI)I"⟩
abbrev cX8_isAsOf : ByteArray := prog_10_method_19_code
def yX8_isAsOf : MethodName := ⟨RX8, "isAsOf", "(III)Z"⟩
abbrev cX8_open : ByteArray := prog_10_method_20_code
def yX8_open : MethodName := ⟨RX8, "open", "(III)I"⟩
abbrev cX8_quota : ByteArray := prog_10_method_21_code
def yX8_quota : MethodName := ⟨RX8, "quota", "(III)I"⟩
abbrev cX8_leftOf : ByteArray := prog_10_method_22_code
def yX8_leftOf : MethodName := ⟨RX8, "leftOf", "(I)I"⟩
abbrev cX8_left : ByteArray := prog_10_method_23_code
def yX8_left : MethodName := ⟨RX8, "left", "(I)I"⟩
abbrev cX8_type : ByteArray := prog_10_method_24_code
def yX8_type : MethodName := ⟨RX8, "type", "(JI)I"⟩
abbrev cX8_next : ByteArray := prog_10_method_25_code
def yX8_next : MethodName := ⟨RX8, "next", "()I"⟩
abbrev cX8_number : ByteArray := prog_10_method_26_code
def yX8_number : MethodName := ⟨RX8, "number", "(II)I"⟩
abbrev cX8_reads : ByteArray := prog_10_method_27_code
def yX8_reads : MethodName := ⟨RX8, "reads", "()I"⟩
abbrev cX8_parts : ByteArray := prog_10_method_28_code
def yX8_parts : MethodName := ⟨RX8, "parts", "()I"⟩
abbrev cX8_isShip : ByteArray := prog_10_method_29_code
def yX8_isShip : MethodName := ⟨RX8, "isShip", "(I)Z"⟩
abbrev cX8_ship : ByteArray := prog_10_method_30_code
def yX8_ship : MethodName := ⟨RX8, "ship", "(IIIII)I"⟩
abbrev cX8_inHold : ByteArray := prog_10_method_31_code
def yX8_inHold : MethodName := ⟨RX8, "inHold", "(I)I"⟩
abbrev cX8_load : ByteArray := prog_10_method_32_code
def yX8_load : MethodName := ⟨RX8, "load", "(III)I"⟩
abbrev cX8_held : ByteArray := prog_10_method_33_code
def yX8_held : MethodName := ⟨RX8, "held", "(II)I"⟩
abbrev cX8_grade : ByteArray := prog_10_method_34_code
def yX8_grade : MethodName := ⟨RX8, "grade", "(I)I"⟩
abbrev cX8_taken : ByteArray := prog_10_method_35_code
def yX8_taken : MethodName := ⟨RX8, "taken", "(I)I"⟩
abbrev cX8_sea : ByteArray := prog_10_method_36_code
def yX8_sea : MethodName := ⟨RX8, "sea", "(I)I"⟩
abbrev cX8_bar : ByteArray := prog_10_method_37_code
def yX8_bar : MethodName := ⟨RX8, "bar", "(I)I"⟩
abbrev cX8_lets : ByteArray := prog_10_method_38_code
def yX8_lets : MethodName := ⟨RX8, "lets", "(I)Z"⟩
abbrev cX8_endOf : ByteArray := prog_10_method_39_code
def yX8_endOf : MethodName := ⟨RX8, "endOf", "(II)I"⟩
abbrev cX8_costOf : ByteArray := prog_10_method_40_code
def yX8_costOf : MethodName := ⟨RX8, "costOf", "(I)I"⟩
abbrev cX8_keep : ByteArray := prog_10_method_41_code
def yX8_keep : MethodName := ⟨RX8, "keep", "(I)V"⟩
abbrev cX8_countsUp : ByteArray := prog_10_method_42_code
def yX8_countsUp : MethodName := ⟨RX8, "countsUp", "(I)Z"⟩
abbrev cX8_swap : ByteArray := prog_10_method_43_code
def yX8_swap : MethodName := ⟨RX8, "swap", "(II)V"⟩
abbrev cX8_lay : ByteArray := prog_10_method_44_code
def yX8_lay : MethodName := ⟨RX8, "lay", "(I)I"⟩
abbrev cX8_laid : ByteArray := prog_10_method_45_code
def yX8_laid : MethodName := ⟨RX8, "laid", "(II)I"⟩
abbrev cX8_count : ByteArray := prog_10_method_46_code
def yX8_count : MethodName := ⟨RX8, "count", "(I)I"⟩
abbrev cX8_isSheet : ByteArray := prog_10_method_47_code
def yX8_isSheet : MethodName := ⟨RX8, "isSheet", "(I)Z"⟩
abbrev cX8_sheet : ByteArray := prog_10_method_48_code
def yX8_sheet : MethodName := ⟨RX8, "sheet", "(III)I"⟩
abbrev cX8_drop : ByteArray := prog_10_method_49_code
def yX8_drop : MethodName := ⟨RX8, "drop", "(I)I"⟩
abbrev cX8_item : ByteArray := prog_10_method_50_code
def yX8_item : MethodName := ⟨RX8, "item", "(IIII)I"⟩
abbrev cX8_isWithin : ByteArray := prog_10_method_51_code
def yX8_isWithin : MethodName := ⟨RX8, "isWithin", "(III)Z"⟩
abbrev cX8_copy : ByteArray := prog_10_method_52_code
def yX8_copy : MethodName := ⟨RX8, "copy", "(IIIII)I"⟩
abbrev cX8_surf : ByteArray := prog_10_method_53_code
def yX8_surf : MethodName := ⟨RX8, "surf", "(IIIII)I"⟩
def RJ6 : String := "java/lang/Integer"
def TJ6 : u_T := fun k => match k with
  | _ => ("", "", "", false)
def tyJ6 : Nat → FieldType := fun k => match k with
  | _ => .int
abbrev wsJ60 : List Cond := u_ws RJ6 TJ6 0
theorem nmJ6 : ∀ a, a < 0 → ∀ b, b < 0 → a ≠ b → (TJ6 a).2.1 ≠ (TJ6 b).2.1 := by decide +kernel
theorem tyJ6_ok : ∀ k, k < 0 → parseFieldDescriptor (TJ6 k).2.2.1 = some (tyJ6 k) := by decide +kernel
abbrev cJ6_bitCount_0f7a4 : ByteArray := prog_11_method_49_code
def yJ6_bitCount_0f7a4 : MethodName := ⟨RJ6, "bitCount", "(I)I"⟩
def RJ9 : String := "java/lang/Math"
def TJ9 : u_T := fun k => match k with
  | _ => ("", "", "", false)
def tyJ9 : Nat → FieldType := fun k => match k with
  | _ => .int
abbrev wsJ90 : List Cond := u_ws RJ9 TJ9 0
theorem nmJ9 : ∀ a, a < 0 → ∀ b, b < 0 → a ≠ b → (TJ9 a).2.1 ≠ (TJ9 b).2.1 := by decide +kernel
theorem tyJ9_ok : ∀ k, k < 0 → parseFieldDescriptor (TJ9 k).2.2.1 = some (tyJ9 k) := by decide +kernel
abbrev cJ9_max_7cf53 : ByteArray := prog_12_method_65_code
def yJ9_max_7cf53 : MethodName := ⟨RJ9, "max", "(II)I"⟩
abbrev cJ9_min_7cf53 : ByteArray := prog_12_method_69_code
def yJ9_min_7cf53 : MethodName := ⟨RJ9, "min", "(II)I"⟩
def RJ10 : String := "java/lang/System"
def TJ10 : u_T := fun k => match k with
  | _ => ("", "", "", false)
def tyJ10 : Nat → FieldType := fun k => match k with
  | _ => .int
abbrev wsJ100 : List Cond := u_ws RJ10 TJ10 0
theorem nmJ10 : ∀ a, a < 0 → ∀ b, b < 0 → a ≠ b → (TJ10 a).2.1 ≠ (TJ10 b).2.1 := by decide +kernel
theorem tyJ10_ok : ∀ k, k < 0 → parseFieldDescriptor (TJ10 k).2.2.1 = some (tyJ10 k) := by decide +kernel
def RJ7 : String := "java/util/Arrays"
def TJ7 : u_T := fun k => match k with
  | _ => ("", "", "", false)
def tyJ7 : Nat → FieldType := fun k => match k with
  | _ => .int
abbrev wsJ70 : List Cond := u_ws RJ7 TJ7 0
theorem nmJ7 : ∀ a, a < 0 → ∀ b, b < 0 → a ≠ b → (TJ7 a).2.1 ≠ (TJ7 b).2.1 := by decide +kernel
theorem tyJ7_ok : ∀ k, k < 0 → parseFieldDescriptor (TJ7 k).2.2.1 = some (tyJ7 k) := by decide +kernel
abbrev cJ7_fill_53178 : ByteArray := prog_14_method_103_code
def yJ7_fill_53178 : MethodName := ⟨RJ7, "fill", "([II)V"⟩
def RL : String := "SaltPoolLaw"
abbrev cL_law : ByteArray := code
def yL_law : MethodName := ⟨RL, "law", "([I)Z"⟩
def wsL_law_r1 : List Cond := [Cond.classLink RL 7 RX7, Cond.instantiable RX7 8, Cond.initialized RX7, Cond.classLink RL 10 RX8, Cond.instantiable RX8 46, Cond.initialized RX8, Cond.constantLong RL 61 (4294967295), Cond.methodLink RL 9 yX7_init, Cond.instanceMethod yX7_init, Cond.code yX7_init cX7_init 2 none, Cond.methodLink RX7 1 objectInit, Cond.instanceMethod objectInit, Cond.code objectInit ⟨#[0xb1]⟩ 1 none, Cond.classLink RX7 7 RX3, Cond.instantiable RX3 13, Cond.initialized RX3, Cond.fieldLink RX7 10 "SaltPool" "pool" "LSaltPool$Pool;", Cond.classLink RX7 16 RX6, Cond.instantiable RX6 4, Cond.initialized RX6, Cond.fieldLink RX7 19 "SaltPool" "tape" "LSaltPool$Tape;", Cond.classLink RX7 23 RX1, Cond.instantiable RX1 7, Cond.initialized RX1]
def wsL_law_r2 : List Cond := [Cond.fieldLink RX7 26 "SaltPool" "lots" "LSaltPool$Lots;", Cond.classLink RX7 30 RX0, Cond.instantiable RX0 8, Cond.initialized RX0, Cond.fieldLink RX7 33 "SaltPool" "fleet" "LSaltPool$Fleet;", Cond.classLink RX7 37 RX4, Cond.instantiable RX4 6, Cond.initialized RX4, Cond.fieldLink RX7 40 "SaltPool" "sea" "LSaltPool$Sea;", Cond.classLink RX7 44 RX2, Cond.instantiable RX2 8, Cond.initialized RX2, Cond.fieldLink RX7 47 "SaltPool" "mole" "LSaltPool$Mole;", Cond.classLink RX7 51 RX5, Cond.fieldLink RX7 53 "SaltPool" "sheets" "[LSaltPool$Sheet;", Cond.instantiable RX5 3, Cond.initialized RX5, Cond.instanceMethod yX3_init, Cond.code yX3_init cX3_init 1 none, Cond.methodLink RX3 3 objectInit, Cond.arrayClass .int, Cond.fieldLink RX3 9 "SaltPool$Pool" "part" "[I", Cond.fieldLink RX3 15 "SaltPool$Pool" "shipped" "[I", Cond.fieldLink RX3 18 "SaltPool$Pool" "kind" "[I"]
def wsL_law_r3 : List Cond := [Cond.fieldLink RX3 21 "SaltPool$Pool" "of" "[I", Cond.fieldLink RX3 24 "SaltPool$Pool" "to" "[I", Cond.fieldLink RX3 27 "SaltPool$Pool" "sacks" "[I", Cond.fieldLink RX3 30 "SaltPool$Pool" "week" "[I", Cond.fieldLink RX3 33 "SaltPool$Pool" "share" "[I", Cond.fieldLink RX3 36 "SaltPool$Pool" "rest" "[I", Cond.arrayClass .boolean, Cond.fieldLink RX3 39 "SaltPool$Pool" "among" "[Z", Cond.instanceMethod yX6_init, Cond.code yX6_init cX6_init 1 none, Cond.methodLink RX6 3 objectInit, Cond.fieldLink RX6 9 "SaltPool$Tape" "told" "[I", Cond.arrayClass .byte, Cond.fieldLink RX6 15 "SaltPool$Tape" "bytes" "[B", Cond.instanceMethod yX1_init, Cond.code yX1_init cX1_init 1 none, Cond.methodLink RX1 3 objectInit, Cond.fieldLink RX1 9 "SaltPool$Lots" "works" "[I", Cond.fieldLink RX1 15 "SaltPool$Lots" "grade" "[I", Cond.fieldLink RX1 18 "SaltPool$Lots" "week" "[I", Cond.fieldLink RX1 21 "SaltPool$Lots" "inPit" "[I", Cond.fieldLink RX1 24 "SaltPool$Lots" "atPort" "[I", Cond.fieldLink RX1 27 "SaltPool$Lots" "inHolds" "[I", Cond.instanceMethod yX0_init]
def wsL_law_r4 : List Cond := [Cond.code yX0_init cX0_init 1 none, Cond.methodLink RX0 3 objectInit, Cond.fieldLink RX0 9 "SaltPool$Fleet" "arrival" "[I", Cond.fieldLink RX0 15 "SaltPool$Fleet" "room" "[I", Cond.fieldLink RX0 18 "SaltPool$Fleet" "rate" "[I", Cond.fieldLink RX0 21 "SaltPool$Fleet" "layDays" "[I", Cond.fieldLink RX0 24 "SaltPool$Fleet" "due" "[I", Cond.fieldLink RX0 27 "SaltPool$Fleet" "stowed" "[I", Cond.fieldLink RX0 30 "SaltPool$Fleet" "stowedLots" "[I", Cond.methodLink RX7 39 yX4_init, Cond.instanceMethod yX4_init, Cond.code yX4_init cX4_init 1 none, Cond.methodLink RX4 3 objectInit, Cond.fieldLink RX4 9 "SaltPool$Sea" "surf" "[I", Cond.fieldLink RX4 15 "SaltPool$Sea" "bar" "I", Cond.fieldLink RX4 19 "SaltPool$Sea" "loadable" "[I", Cond.fieldLink RX4 22 "SaltPool$Sea" "loadableBefore" "[I", Cond.methodLink RX4 25 yJ7_fill_53178, Cond.static yJ7_fill_53178, Cond.initialized RJ7, Cond.code yJ7_fill_53178 cJ7_fill_53178 4 none, Cond.instanceMethod yX2_init, Cond.code yX2_init cX2_init 1 none, Cond.methodLink RX2 3 objectInit]
def wsL_law_r5 : List Cond := [Cond.fieldLink RX2 9 "SaltPool$Mole" "place" "[I", Cond.fieldLink RX2 15 "SaltPool$Mole" "turn" "[I", Cond.fieldLink RX2 18 "SaltPool$Mole" "end" "[I", Cond.fieldLink RX2 21 "SaltPool$Mole" "cost" "[I", Cond.fieldLink RX2 24 "SaltPool$Mole" "order" "[I", Cond.fieldLink RX2 27 "SaltPool$Mole" "cheapest" "[I", Cond.instanceMethod yX5_init, Cond.code yX5_init cX5_init 1 none, Cond.methodLink RX5 3 objectInit, Cond.fieldLink RX5 9 "SaltPool$Sheet" "items" "[I", Cond.fieldLink RX5 15 "SaltPool$Sheet" "lane" "I", Cond.methodLink RL 12 yX8_init, Cond.instanceMethod yX8_init, Cond.code yX8_init cX8_init 2 none, Cond.methodLink RX8 1 objectInit, Cond.fieldLink RX8 7 "SaltPoolModel" "parts" "[I", Cond.fieldLink RX8 13 "SaltPoolModel" "shipped" "[I", Cond.fieldLink RX8 16 "SaltPoolModel" "lotWorks" "[I", Cond.fieldLink RX8 19 "SaltPoolModel" "grades" "[I", Cond.fieldLink RX8 22 "SaltPoolModel" "inPit" "[I", Cond.fieldLink RX8 25 "SaltPoolModel" "atPort" "[I", Cond.fieldLink RX8 28 "SaltPoolModel" "weeksOf" "[I", Cond.fieldLink RX8 31 "SaltPoolModel" "entryKind" "[I", Cond.fieldLink RX8 34 "SaltPoolModel" "entryA" "[I"]
def wsL_law_r6 : List Cond := [Cond.fieldLink RX8 37 "SaltPoolModel" "entryB" "[I", Cond.fieldLink RX8 40 "SaltPoolModel" "entryMany" "[I", Cond.fieldLink RX8 43 "SaltPoolModel" "entryWeek" "[I", Cond.arrayClass .long, Cond.fieldLink RX8 46 "SaltPoolModel" "shares" "[J", Cond.fieldLink RX8 50 "SaltPoolModel" "given" "[Z", Cond.fieldLink RX8 54 "SaltPoolModel" "tape" "[I", Cond.fieldLink RX8 57 "SaltPoolModel" "readParts" "[I", Cond.fieldLink RX8 60 "SaltPoolModel" "days" "[I", Cond.fieldLink RX8 63 "SaltPoolModel" "rooms" "[I", Cond.fieldLink RX8 66 "SaltPoolModel" "rates" "[I", Cond.fieldLink RX8 69 "SaltPoolModel" "lays" "[I", Cond.fieldLink RX8 72 "SaltPoolModel" "dues" "[I", Cond.fieldLink RX8 75 "SaltPoolModel" "holds" "[I", Cond.fieldLink RX8 78 "SaltPoolModel" "surfs" "[I", Cond.fieldLink RX8 81 "SaltPoolModel" "bar" "I", Cond.fieldLink RX8 85 "SaltPoolModel" "row" "[I", Cond.fieldLink RX8 88 "SaltPoolModel" "rowTurn" "[I", Cond.fieldLink RX8 91 "SaltPoolModel" "rowEnd" "[I", Cond.fieldLink RX8 94 "SaltPoolModel" "rowCost" "[I", Cond.fieldLink RX8 97 "SaltPoolModel" "laidAt" "[I", Cond.fieldLink RX8 100 "SaltPoolModel" "laidTurn" "[I", Cond.fieldLink RX8 103 "SaltPoolModel" "laidEnd" "[I", Cond.fieldLink RX8 106 "SaltPoolModel" "laidCost" "[I"]
def wsL_law_r7 : List Cond := [Cond.fieldLink RX8 109 "SaltPoolModel" "lanes" "[I", Cond.fieldLink RX8 112 "SaltPoolModel" "sizes" "[I", Cond.fieldLink RX8 115 "SaltPoolModel" "items" "[I", Cond.fieldLink RX8 118 "SaltPoolModel" "moved" "[I", Cond.methodLink RL 13 yX7_works, Cond.instanceMethod yX7_works, Cond.selects RX7 yX7_works yX7_works, Cond.code yX7_works cX7_works 2 (some .int), Cond.methodLink RX7 58 yX7_isWithin, Cond.static yX7_isWithin, Cond.code yX7_isWithin cX7_isWithin 3 (some .boolean), Cond.methodLink RX7 62 yX3_addWorks, Cond.instanceMethod yX3_addWorks, Cond.selects RX3 yX3_addWorks yX3_addWorks, Cond.code yX3_addWorks cX3_addWorks 2 (some .int), Cond.fieldLink RX3 43 "SaltPool$Pool" "works" "I", Cond.methodLink RL 17 yX8_works, Cond.instanceMethod yX8_works, Cond.selects RX8 yX8_works yX8_works, Cond.code yX8_works cX8_works 2 (some .int), Cond.fieldLink RX8 121 "SaltPoolModel" "works" "I", Cond.methodLink RX8 124 yX8_in, Cond.static yX8_in, Cond.code yX8_in cX8_in 3 (some .boolean)]
def wsL_law_r8 : List Cond := [Cond.methodLink RL 18 yX7_weeks, Cond.instanceMethod yX7_weeks, Cond.selects RX7 yX7_weeks yX7_weeks, Cond.code yX7_weeks cX7_weeks 2 (some .int), Cond.fieldLink RX7 66 "SaltPool" "now" "I", Cond.methodLink RL 21 yX8_weeks, Cond.instanceMethod yX8_weeks, Cond.selects RX8 yX8_weeks yX8_weeks, Cond.code yX8_weeks cX8_weeks 2 (some .int), Cond.fieldLink RX8 131 "SaltPoolModel" "now" "I", Cond.methodLink RL 22 yX7_lot, Cond.instanceMethod yX7_lot, Cond.selects RX7 yX7_lot yX7_lot, Cond.code yX7_lot cX7_lot 4 (some .int), Cond.methodLink RX7 70 yX3_hasWorks, Cond.instanceMethod yX3_hasWorks, Cond.selects RX3 yX3_hasWorks yX3_hasWorks, Cond.code yX3_hasWorks cX3_hasWorks 2 (some .boolean), Cond.methodLink RX7 74 yX1_add, Cond.instanceMethod yX1_add, Cond.selects RX1 yX1_add yX1_add, Cond.code yX1_add cX1_add 5 (some .int), Cond.fieldLink RX1 30 "SaltPool$Lots" "count" "I", Cond.methodLink RL 26 yX8_lot]
def wsL_law_r9 : List Cond := [Cond.instanceMethod yX8_lot, Cond.selects RX8 yX8_lot yX8_lot, Cond.code yX8_lot cX8_lot 4 (some .int), Cond.fieldLink RX8 128 "SaltPoolModel" "lots" "I", Cond.methodLink RX8 134 yX8_isWorks, Cond.instanceMethod yX8_isWorks, Cond.selects RX8 yX8_isWorks yX8_isWorks, Cond.code yX8_isWorks cX8_isWorks 2 (some .boolean), Cond.methodLink RL 27 yX7_rail, Cond.instanceMethod yX7_rail, Cond.selects RX7 yX7_rail yX7_rail, Cond.code yX7_rail cX7_rail 3 (some .int), Cond.fieldLink RX7 81 "SaltPool$Lots" "inPit" "[I", Cond.methodLink RX7 78 yX1_has, Cond.instanceMethod yX1_has, Cond.selects RX1 yX1_has yX1_has, Cond.code yX1_has cX1_has 2 (some .boolean), Cond.methodLink RX7 85 yX1_moveToPort, Cond.instanceMethod yX1_moveToPort, Cond.selects RX1 yX1_moveToPort yX1_moveToPort, Cond.code yX1_moveToPort cX1_moveToPort 3 none, Cond.methodLink RL 31 yX8_rail, Cond.instanceMethod yX8_rail, Cond.selects RX8 yX8_rail yX8_rail]
def wsL_law_r10 : List Cond := [Cond.code yX8_rail cX8_rail 3 (some .int), Cond.methodLink RX8 138 yX8_isLot, Cond.instanceMethod yX8_isLot, Cond.selects RX8 yX8_isLot yX8_isLot, Cond.code yX8_isLot cX8_isLot 2 (some .boolean), Cond.methodLink RL 32 yX7_told, Cond.instanceMethod yX7_told, Cond.selects RX7 yX7_told yX7_told, Cond.code yX7_told cX7_told 3 (some .int), Cond.fieldLink RX7 89 "SaltPool$Lots" "works" "[I", Cond.fieldLink RX7 92 "SaltPool$Lots" "grade" "[I", Cond.fieldLink RX7 95 "SaltPool$Lots" "atPort" "[I", Cond.fieldLink RX7 98 "SaltPool$Lots" "inHolds" "[I", Cond.fieldLink RX7 101 "SaltPool$Lots" "week" "[I", Cond.methodLink RL 35 yX8_told, Cond.instanceMethod yX8_told, Cond.selects RX8 yX8_told yX8_told, Cond.code yX8_told cX8_told 3 (some .int), Cond.methodLink RX8 141 yX8_inHolds, Cond.instanceMethod yX8_inHolds, Cond.selects RX8 yX8_inHolds yX8_inHolds, Cond.code yX8_inHolds cX8_inHolds 4 (some .int), Cond.methodLink RL 36 yX7_total, Cond.instanceMethod yX7_total]
def wsL_law_r11 : List Cond := [Cond.selects RX7 yX7_total yX7_total, Cond.code yX7_total cX7_total 3 (some .int), Cond.constant RX7 104 (1000000), Cond.fieldLink RX7 105 "SaltPool$Pool" "total" "I", Cond.methodLink RL 39 yX8_total, Cond.instanceMethod yX8_total, Cond.selects RX8 yX8_total yX8_total, Cond.code yX8_total cX8_total 3 (some .int), Cond.constant RX8 145 (1000000), Cond.fieldLink RX8 146 "SaltPoolModel" "total" "I", Cond.methodLink RL 40 yX7_lend, Cond.instanceMethod yX7_lend, Cond.selects RX7 yX7_lend yX7_lend, Cond.code yX7_lend cX7_lend 4 (some .int), Cond.constant RX7 108 (100000), Cond.methodLink RX7 109 yX3_unshipped, Cond.instanceMethod yX3_unshipped, Cond.selects RX3 yX3_unshipped yX3_unshipped, Cond.code yX3_unshipped cX3_unshipped 3 (some .int), Cond.fieldLink RX3 47 "SaltPool$Pool" "entries" "I", Cond.methodLink RX3 50 yX3_quotaOf, Cond.instanceMethod yX3_quotaOf, Cond.selects RX3 yX3_quotaOf yX3_quotaOf, Cond.code yX3_quotaOf cX3_quotaOf 5 (some .int)]
def wsL_law_r12 : List Cond := [Cond.fieldLink RX3 60 "SaltPool$Pool" "total" "I", Cond.methodLink RX3 54 yJ7_fill_53178, Cond.methodLink RX3 63 yX3_partAmong, Cond.instanceMethod yX3_partAmong, Cond.selects RX3 yX3_partAmong yX3_partAmong, Cond.code yX3_partAmong cX3_partAmong 6 none, Cond.methodLink RX3 74 yX3_partsAmong, Cond.instanceMethod yX3_partsAmong, Cond.selects RX3 yX3_partsAmong yX3_partsAmong, Cond.code yX3_partsAmong cX3_partsAmong 3 (some .int), Cond.methodLink RX3 78 yX3_raiseGreatestRests, Cond.instanceMethod yX3_raiseGreatestRests, Cond.selects RX3 yX3_raiseGreatestRests yX3_raiseGreatestRests, Cond.code yX3_raiseGreatestRests cX3_raiseGreatestRests 5 none, Cond.methodLink RX3 67 yX3_isOpen, Cond.instanceMethod yX3_isOpen, Cond.selects RX3 yX3_isOpen yX3_isOpen, Cond.code yX3_isOpen cX3_isOpen 7 (some .boolean), Cond.methodLink RX3 71 yX3_lentTo, Cond.instanceMethod yX3_lentTo, Cond.selects RX3 yX3_lentTo yX3_lentTo, Cond.code yX3_lentTo cX3_lentTo 6 (some .int), Cond.methodLink RX7 113 yX3_addEntry, Cond.instanceMethod yX3_addEntry]
def wsL_law_r13 : List Cond := [Cond.selects RX3 yX3_addEntry yX3_addEntry, Cond.code yX3_addEntry cX3_addEntry 6 (some .int), Cond.methodLink RL 43 yX8_lend, Cond.instanceMethod yX8_lend, Cond.selects RX8 yX8_lend yX8_lend, Cond.code yX8_lend cX8_lend 4 (some .int), Cond.constant RX8 159 (100000), Cond.fieldLink RX8 149 "SaltPoolModel" "entries" "I", Cond.methodLink RX8 160 yX8_quotas, Cond.instanceMethod yX8_quotas, Cond.selects RX8 yX8_quotas yX8_quotas, Cond.code yX8_quotas cX8_quotas 7 none, Cond.methodLink RX8 152 yX8_isOpen, Cond.instanceMethod yX8_isOpen, Cond.selects RX8 yX8_isOpen yX8_isOpen, Cond.code yX8_isOpen cX8_isOpen 7 (some .boolean), Cond.methodLink RX8 155 yX8_part, Cond.instanceMethod yX8_part, Cond.selects RX8 yX8_part yX8_part, Cond.code yX8_part cX8_part 11 none, Cond.methodLink RX8 164 yX8_entry, Cond.instanceMethod yX8_entry, Cond.selects RX8 yX8_entry yX8_entry, Cond.code yX8_entry cX8_entry 6 (some .int)]
def wsL_law_r14 : List Cond := [Cond.methodLink RL 44 yX7_shut, Cond.instanceMethod yX7_shut, Cond.selects RX7 yX7_shut yX7_shut, Cond.code yX7_shut cX7_shut 4 (some .int), Cond.methodLink RX7 117 yX7_isWeek, Cond.static yX7_isWeek, Cond.code yX7_isWeek cX7_isWeek 1 (some .boolean), Cond.methodLink RL 48 yX8_shut, Cond.instanceMethod yX8_shut, Cond.selects RX8 yX8_shut yX8_shut, Cond.code yX8_shut cX8_shut 4 (some .int), Cond.methodLink RL 49 yX7_open, Cond.instanceMethod yX7_open, Cond.selects RX7 yX7_open yX7_open, Cond.code yX7_open cX7_open 4 (some .int), Cond.methodLink RX7 120 yX7_isAsked, Cond.instanceMethod yX7_isAsked, Cond.selects RX7 yX7_isAsked yX7_isAsked, Cond.code yX7_isAsked cX7_isAsked 4 (some .boolean), Cond.fieldLink RX7 237 "SaltPool$Pool" "entries" "I", Cond.methodLink RX7 123 yX3_isOpen, Cond.methodLink RL 52 yX8_open, Cond.instanceMethod yX8_open, Cond.selects RX8 yX8_open yX8_open]
def wsL_law_r15 : List Cond := [Cond.code yX8_open cX8_open 4 (some .int), Cond.methodLink RX8 168 yX8_isAsOf, Cond.instanceMethod yX8_isAsOf, Cond.selects RX8 yX8_isAsOf yX8_isAsOf, Cond.code yX8_isAsOf cX8_isAsOf 4 (some .boolean), Cond.methodLink RL 53 yX7_quota, Cond.instanceMethod yX7_quota, Cond.selects RX7 yX7_quota yX7_quota, Cond.code yX7_quota cX7_quota 4 (some .int), Cond.constant RX7 126 (-10000001), Cond.methodLink RX7 127 yX3_quotaOf, Cond.methodLink RL 56 yX8_quota, Cond.instanceMethod yX8_quota, Cond.selects RX8 yX8_quota yX8_quota, Cond.code yX8_quota cX8_quota 4 (some .int), Cond.constant RX8 171 (-10000001), Cond.methodLink RL 57 yX7_left, Cond.instanceMethod yX7_left, Cond.selects RX7 yX7_left yX7_left, Cond.code yX7_left cX7_left 2 (some .int), Cond.methodLink RX7 131 Lib.Math.max.name, Cond.static Lib.Math.max.name, Cond.initialized "java/lang/Math", Cond.code Lib.Math.max.name Lib.Math.max.code 2 (some .int)]
def wsL_law_r16 : List Cond := [Cond.methodLink RL 60 yX8_left, Cond.instanceMethod yX8_left, Cond.selects RX8 yX8_left yX8_left, Cond.code yX8_left cX8_left 2 (some .int), Cond.methodLink RX8 172 yX8_leftOf, Cond.instanceMethod yX8_leftOf, Cond.selects RX8 yX8_leftOf yX8_leftOf, Cond.code yX8_leftOf cX8_leftOf 4 (some .int), Cond.methodLink RL 63 yX7_type, Cond.instanceMethod yX7_type, Cond.selects RX7 yX7_type yX7_type, Cond.code yX7_type cX7_type 4 (some .int), Cond.methodLink RX7 136 yX6_canHold, Cond.static yX6_canHold, Cond.code yX6_canHold cX6_canHold 4 (some .boolean), Cond.methodLink RX6 19 yX6_byteOf, Cond.static yX6_byteOf, Cond.code yX6_byteOf cX6_byteOf 3 (some .int), Cond.methodLink RX7 140 yX6_append, Cond.instanceMethod yX6_append, Cond.selects RX6 yX6_append yX6_append, Cond.code yX6_append cX6_append 5 (some .int), Cond.fieldLink RX6 27 "SaltPool$Tape" "length" "I", Cond.methodLink RL 67 yX8_type]
def wsL_law_r17 : List Cond := [Cond.instanceMethod yX8_type, Cond.selects RX8 yX8_type yX8_type, Cond.code yX8_type cX8_type 5 (some .int), Cond.constantLong RX8 175 (255), Cond.fieldLink RX8 177 "SaltPoolModel" "taped" "I", Cond.methodLink RL 68 yX7_parts, Cond.instanceMethod yX7_parts, Cond.selects RX7 yX7_parts yX7_parts, Cond.code yX7_parts cX7_parts 2 (some .int), Cond.fieldLink RX7 144 "SaltPool$Pool" "works" "I", Cond.fieldLink RX7 149 "SaltPool$Tape" "length" "I", Cond.fieldLink RX7 152 "SaltPool$Tape" "told" "[I", Cond.methodLink RX7 146 yX6_readPairs, Cond.instanceMethod yX6_readPairs, Cond.selects RX6 yX6_readPairs yX6_readPairs, Cond.code yX6_readPairs cX6_readPairs 3 (some .int), Cond.fieldLink RX6 37 "SaltPool$Tape" "at" "I", Cond.methodLink RX6 31 yJ7_fill_53178, Cond.methodLink RX6 40 yX6_readPair, Cond.instanceMethod yX6_readPair, Cond.selects RX6 yX6_readPair yX6_readPair, Cond.code yX6_readPair cX6_readPair 4 (some .boolean), Cond.methodLink RX6 51 yX6_readNumber, Cond.instanceMethod yX6_readNumber]
def wsL_law_r18 : List Cond := [Cond.selects RX6 yX6_readNumber yX6_readNumber, Cond.code yX6_readNumber cX6_readNumber 5 (some .int), Cond.constant RX6 55 (100000), Cond.methodLink RX6 56 Lib.Math.min.name, Cond.static Lib.Math.min.name, Cond.code Lib.Math.min.name Lib.Math.min.code 2 (some .int), Cond.methodLink RX6 44 yX6_skipBlanks, Cond.instanceMethod yX6_skipBlanks, Cond.selects RX6 yX6_skipBlanks yX6_skipBlanks, Cond.code yX6_skipBlanks cX6_skipBlanks 1 none, Cond.methodLink RX6 47 yX6_readSign, Cond.instanceMethod yX6_readSign, Cond.selects RX6 yX6_readSign yX6_readSign, Cond.code yX6_readSign cX6_readSign 2 (some .boolean), Cond.methodLink RX7 155 yX3_takeParts, Cond.instanceMethod yX3_takeParts, Cond.selects RX3 yX3_takeParts yX3_takeParts, Cond.code yX3_takeParts cX3_takeParts 3 none, Cond.methodLink RL 72 yX8_parts, Cond.instanceMethod yX8_parts, Cond.selects RX8 yX8_parts yX8_parts, Cond.code yX8_parts cX8_parts 3 (some .int), Cond.fieldLink RX8 187 "SaltPoolModel" "wrong" "I", Cond.methodLink RX8 194 yX8_reads]
def wsL_law_r19 : List Cond := [Cond.instanceMethod yX8_reads, Cond.selects RX8 yX8_reads yX8_reads, Cond.code yX8_reads cX8_reads 5 (some .int), Cond.fieldLink RX8 180 "SaltPoolModel" "at" "I", Cond.methodLink RX8 190 yX8_number, Cond.instanceMethod yX8_number, Cond.selects RX8 yX8_number yX8_number, Cond.code yX8_number cX8_number 5 (some .int), Cond.methodLink RX8 183 yX8_next, Cond.instanceMethod yX8_next, Cond.selects RX8 yX8_next yX8_next, Cond.code yX8_next cX8_next 1 (some .int), Cond.methodLink RL 73 yX7_ship, Cond.instanceMethod yX7_ship, Cond.selects RX7 yX7_ship yX7_ship, Cond.code yX7_ship cX7_ship 6 (some .int), Cond.methodLink RX7 159 yX7_isDay, Cond.static yX7_isDay, Cond.code yX7_isDay cX7_isDay 1 (some .boolean), Cond.methodLink RX7 162 yX0_add, Cond.instanceMethod yX0_add, Cond.selects RX0 yX0_add yX0_add, Cond.code yX0_add cX0_add 6 (some .int), Cond.fieldLink RX0 33 "SaltPool$Fleet" "count" "I"]
def wsL_law_r20 : List Cond := [Cond.methodLink RL 77 yX8_ship, Cond.instanceMethod yX8_ship, Cond.selects RX8 yX8_ship yX8_ship, Cond.code yX8_ship cX8_ship 6 (some .int), Cond.fieldLink RX8 197 "SaltPoolModel" "ships" "I", Cond.methodLink RL 78 yX7_load, Cond.instanceMethod yX7_load, Cond.selects RX7 yX7_load yX7_load, Cond.code yX7_load cX7_load 5 (some .int), Cond.fieldLink RX7 171 "SaltPool$Pool" "shipped" "[I", Cond.methodLink RX7 164 yX0_has, Cond.instanceMethod yX0_has, Cond.selects RX0 yX0_has yX0_has, Cond.code yX0_has cX0_has 2 (some .boolean), Cond.methodLink RX7 165 yX0_freeRoom, Cond.instanceMethod yX0_freeRoom, Cond.selects RX0 yX0_freeRoom yX0_freeRoom, Cond.code yX0_freeRoom cX0_freeRoom 2 (some .int), Cond.methodLink RX7 168 yX1_moveToHolds, Cond.instanceMethod yX1_moveToHolds, Cond.selects RX1 yX1_moveToHolds yX1_moveToHolds, Cond.code yX1_moveToHolds cX1_moveToHolds 3 none, Cond.methodLink RX7 174 yX0_stow, Cond.instanceMethod yX0_stow]
def wsL_law_r21 : List Cond := [Cond.selects RX0 yX0_stow yX0_stow, Cond.code yX0_stow cX0_stow 4 (some .int), Cond.methodLink RX0 37 yX0_stowedOf, Cond.instanceMethod yX0_stowedOf, Cond.selects RX0 yX0_stowedOf yX0_stowedOf, Cond.code yX0_stowedOf cX0_stowedOf 3 (some .int), Cond.methodLink RL 81 yX8_load, Cond.instanceMethod yX8_load, Cond.selects RX8 yX8_load yX8_load, Cond.code yX8_load cX8_load 5 (some .int), Cond.methodLink RX8 200 yX8_isShip, Cond.instanceMethod yX8_isShip, Cond.selects RX8 yX8_isShip yX8_isShip, Cond.code yX8_isShip cX8_isShip 2 (some .boolean), Cond.methodLink RX8 203 yX8_inHold, Cond.instanceMethod yX8_inHold, Cond.selects RX8 yX8_inHold yX8_inHold, Cond.code yX8_inHold cX8_inHold 4 (some .int), Cond.methodLink RL 82 yX7_held, Cond.instanceMethod yX7_held, Cond.selects RX7 yX7_held yX7_held, Cond.code yX7_held cX7_held 3 (some .int), Cond.fieldLink RX7 177 "SaltPool$Fleet" "stowed" "[I", Cond.methodLink RX7 180 yX0_stowedOf]
def wsL_law_r22 : List Cond := [Cond.methodLink RL 85 yX8_held, Cond.instanceMethod yX8_held, Cond.selects RX8 yX8_held yX8_held, Cond.code yX8_held cX8_held 3 (some .int), Cond.methodLink RL 86 yX7_grade, Cond.instanceMethod yX7_grade, Cond.selects RX7 yX7_grade yX7_grade, Cond.code yX7_grade cX7_grade 5 (some .int), Cond.fieldLink RX7 183 "SaltPool$Lots" "count" "I", Cond.methodLink RL 89 yX8_grade, Cond.instanceMethod yX8_grade, Cond.selects RX8 yX8_grade yX8_grade, Cond.code yX8_grade cX8_grade 5 (some .int), Cond.methodLink RL 90 yX7_surf, Cond.instanceMethod yX7_surf, Cond.selects RX7 yX7_surf yX7_surf, Cond.code yX7_surf cX7_surf 8 (some .int), Cond.fieldLink RX7 198 "SaltPool$Sheet" "items" "[I", Cond.fieldLink RX7 201 "SaltPool$Sea" "surf" "[I", Cond.methodLink RX7 204 arraycopyName, Cond.native arraycopyName, Cond.static arraycopyName, Cond.initialized "java/lang/System", Cond.methodLink RX7 186 yX7_isSheet]
def wsL_law_r23 : List Cond := [Cond.static yX7_isSheet, Cond.code yX7_isSheet cX7_isSheet 1 (some .boolean), Cond.methodLink RX7 189 yX7_isLane, Cond.static yX7_isLane, Cond.code yX7_isLane cX7_isLane 1 (some .boolean), Cond.methodLink RX7 192 yX5_faultAs, Cond.instanceMethod yX5_faultAs, Cond.selects RX5 yX5_faultAs yX5_faultAs, Cond.code yX5_faultAs cX5_faultAs 4 (some .int), Cond.methodLink RX5 28 yX5_isNothing, Cond.instanceMethod yX5_isNothing, Cond.selects RX5 yX5_isNothing yX5_isNothing, Cond.code yX5_isNothing cX5_isNothing 1 (some .boolean), Cond.methodLink RX5 32 yX5_hasItems, Cond.instanceMethod yX5_hasItems, Cond.selects RX5 yX5_hasItems yX5_hasItems, Cond.code yX5_hasItems cX5_hasItems 3 (some .boolean), Cond.fieldLink RX5 25 "SaltPool$Sheet" "length" "I", Cond.methodLink RX7 195 yX5_hasAbove, Cond.instanceMethod yX5_hasAbove, Cond.selects RX5 yX5_hasAbove yX5_hasAbove, Cond.code yX5_hasAbove cX5_hasAbove 5 (some .boolean), Cond.methodLink RL 93 yX8_surf, Cond.instanceMethod yX8_surf]
def wsL_law_r24 : List Cond := [Cond.selects RX8 yX8_surf yX8_surf, Cond.code yX8_surf cX8_surf 8 (some .int), Cond.methodLink RX8 232 yX8_isSheet, Cond.static yX8_isSheet, Cond.code yX8_isSheet cX8_isSheet 1 (some .boolean), Cond.methodLink RX8 235 yX8_isWithin, Cond.instanceMethod yX8_isWithin, Cond.selects RX8 yX8_isWithin yX8_isWithin, Cond.code yX8_isWithin cX8_isWithin 4 (some .boolean), Cond.methodLink RL 94 yX7_sea, Cond.instanceMethod yX7_sea, Cond.selects RX7 yX7_sea yX7_sea, Cond.code yX7_sea cX7_sea 2 (some .int), Cond.methodLink RX7 210 yX4_takenOn, Cond.instanceMethod yX4_takenOn, Cond.selects RX4 yX4_takenOn yX4_takenOn, Cond.code yX4_takenOn cX4_takenOn 4 (some .int), Cond.methodLink RL 97 yX8_sea, Cond.instanceMethod yX8_sea, Cond.selects RX8 yX8_sea yX8_sea, Cond.code yX8_sea cX8_sea 2 (some .int), Cond.methodLink RX8 206 yX8_taken, Cond.instanceMethod yX8_taken, Cond.selects RX8 yX8_taken yX8_taken]
def wsL_law_r25 : List Cond := [Cond.code yX8_taken cX8_taken 4 (some .int), Cond.methodLink RL 98 yX7_bar, Cond.instanceMethod yX7_bar, Cond.selects RX7 yX7_bar yX7_bar, Cond.code yX7_bar cX7_bar 3 (some .int), Cond.fieldLink RX7 213 "SaltPool$Sea" "bar" "I", Cond.methodLink RL 101 yX8_bar, Cond.instanceMethod yX8_bar, Cond.selects RX8 yX8_bar yX8_bar, Cond.code yX8_bar cX8_bar 3 (some .int), Cond.methodLink RL 102 yX7_lay, Cond.instanceMethod yX7_lay, Cond.selects RX7 yX7_lay yX7_lay, Cond.code yX7_lay cX7_lay 2 (some .int), Cond.fieldLink RX7 216 "SaltPool$Fleet" "count" "I", Cond.methodLink RX7 217 yX2_layCheapest, Cond.instanceMethod yX2_layCheapest, Cond.selects RX2 yX2_layCheapest yX2_layCheapest, Cond.code yX2_layCheapest cX2_layCheapest 4 (some .int), Cond.constant RX2 35 (1000000000), Cond.fieldLink RX2 36 "SaltPool$Mole" "least" "I", Cond.methodLink RX2 30 yX4_countLoadableDays, Cond.instanceMethod yX4_countLoadableDays, Cond.selects RX4 yX4_countLoadableDays yX4_countLoadableDays]
def wsL_law_r26 : List Cond := [Cond.code yX4_countLoadableDays cX4_countLoadableDays 2 none, Cond.fieldLink RX4 31 "SaltPool$Sea" "loadables" "I", Cond.fieldLink RX4 38 "SaltPool$Sea" "loadsForEver" "Z", Cond.methodLink RX4 34 yX4_takenOn, Cond.methodLink RX2 40 yX2_seek, Cond.instanceMethod yX2_seek, Cond.selects RX2 yX2_seek yX2_seek, Cond.code yX2_seek cX2_seek 10 none, Cond.methodLink RX2 54 arraycopyName, Cond.fieldLink RX2 60 "SaltPool$Fleet" "count" "I", Cond.methodLink RX2 65 yX0_turnBehind, Cond.instanceMethod yX0_turnBehind, Cond.selects RX0 yX0_turnBehind yX0_turnBehind, Cond.code yX0_turnBehind cX0_turnBehind 3 (some .int), Cond.methodLink RX0 41 Lib.Math.max.name, Cond.methodLink RX2 69 yX0_loadingDays, Cond.instanceMethod yX0_loadingDays, Cond.selects RX0 yX0_loadingDays yX0_loadingDays, Cond.code yX0_loadingDays cX0_loadingDays 3 (some .int), Cond.methodLink RX2 72 yX4_endFrom, Cond.instanceMethod yX4_endFrom, Cond.selects RX4 yX4_endFrom yX4_endFrom, Cond.code yX4_endFrom cX4_endFrom 4 (some .int), Cond.methodLink RX2 75 yX0_costOf]
def wsL_law_r27 : List Cond := [Cond.instanceMethod yX0_costOf, Cond.selects RX0 yX0_costOf yX0_costOf, Cond.code yX0_costOf cX0_costOf 4 (some .int), Cond.methodLink RX2 44 yJ6_bitCount_0f7a4, Cond.static yJ6_bitCount_0f7a4, Cond.initialized RJ6, Cond.code yJ6_bitCount_0f7a4 cJ6_bitCount_0f7a4 1 (some .int), Cond.constant RJ6 265 (1431655765), Cond.constant RJ6 266 (858993459), Cond.constant RJ6 267 (252645135), Cond.methodLink RX2 50 yX2_keepCheapest, Cond.instanceMethod yX2_keepCheapest, Cond.selects RX2 yX2_keepCheapest yX2_keepCheapest, Cond.code yX2_keepCheapest cX2_keepCheapest 7 none, Cond.fieldLink RX2 84 "SaltPool$Mole" "hasOrder" "Z", Cond.methodLink RX2 78 yJ7_fill_53178, Cond.methodLink RL 105 yX8_lay, Cond.instanceMethod yX8_lay, Cond.selects RX8 yX8_lay yX8_lay, Cond.code yX8_lay cX8_lay 6 (some .int), Cond.methodLink RX8 222 yX8_costOf, Cond.instanceMethod yX8_costOf, Cond.selects RX8 yX8_costOf yX8_costOf, Cond.code yX8_costOf cX8_costOf 7 (some .int)]
def wsL_law_r28 : List Cond := [Cond.methodLink RX8 212 yX8_endOf, Cond.instanceMethod yX8_endOf, Cond.selects RX8 yX8_endOf yX8_endOf, Cond.code yX8_endOf cX8_endOf 5 (some .int), Cond.methodLink RX8 209 yX8_lets, Cond.instanceMethod yX8_lets, Cond.selects RX8 yX8_lets yX8_lets, Cond.code yX8_lets cX8_lets 2 (some .boolean), Cond.methodLink RX8 225 yX8_keep, Cond.instanceMethod yX8_keep, Cond.selects RX8 yX8_keep yX8_keep, Cond.code yX8_keep cX8_keep 3 none, Cond.fieldLink RX8 215 "SaltPoolModel" "hasLaid" "Z", Cond.methodLink RX8 229 yX8_countsUp, Cond.instanceMethod yX8_countsUp, Cond.selects RX8 yX8_countsUp yX8_countsUp, Cond.code yX8_countsUp cX8_countsUp 6 (some .boolean), Cond.methodLink RX8 219 yX8_swap, Cond.instanceMethod yX8_swap, Cond.selects RX8 yX8_swap yX8_swap, Cond.code yX8_swap cX8_swap 4 none, Cond.methodLink RL 106 yX7_laid, Cond.instanceMethod yX7_laid, Cond.selects RX7 yX7_laid yX7_laid]
def wsL_law_r29 : List Cond := [Cond.code yX7_laid cX7_laid 3 (some .int), Cond.fieldLink RX7 221 "SaltPool$Mole" "hasOrder" "Z", Cond.fieldLink RX7 225 "SaltPool$Mole" "place" "[I", Cond.fieldLink RX7 228 "SaltPool$Mole" "turn" "[I", Cond.fieldLink RX7 231 "SaltPool$Mole" "end" "[I", Cond.fieldLink RX7 234 "SaltPool$Mole" "cost" "[I", Cond.methodLink RL 109 yX8_laid, Cond.instanceMethod yX8_laid, Cond.selects RX8 yX8_laid yX8_laid, Cond.code yX8_laid cX8_laid 3 (some .int), Cond.methodLink RL 110 yX7_count, Cond.instanceMethod yX7_count, Cond.selects RX7 yX7_count yX7_count, Cond.code yX7_count cX7_count 2 (some .int), Cond.methodLink RX7 240 yX1_sumOf, Cond.instanceMethod yX1_sumOf, Cond.selects RX1 yX1_sumOf yX1_sumOf, Cond.code yX1_sumOf cX1_sumOf 4 (some .int), Cond.methodLink RL 113 yX8_count, Cond.instanceMethod yX8_count, Cond.selects RX8 yX8_count yX8_count, Cond.code yX8_count cX8_count 4 (some .int), Cond.methodLink RL 114 yX7_sheet, Cond.instanceMethod yX7_sheet]
def wsL_law_r30 : List Cond := [Cond.selects RX7 yX7_sheet yX7_sheet, Cond.code yX7_sheet cX7_sheet 4 (some .int), Cond.methodLink RX7 244 yX5_begin, Cond.instanceMethod yX5_begin, Cond.selects RX5 yX5_begin yX5_begin, Cond.code yX5_begin cX5_begin 3 none, Cond.methodLink RX5 19 yJ7_fill_53178, Cond.methodLink RL 117 yX8_sheet, Cond.instanceMethod yX8_sheet, Cond.selects RX8 yX8_sheet yX8_sheet, Cond.code yX8_sheet cX8_sheet 5 (some .int), Cond.methodLink RL 118 yX7_drop, Cond.instanceMethod yX7_drop, Cond.selects RX7 yX7_drop yX7_drop, Cond.code yX7_drop cX7_drop 3 (some .int), Cond.fieldLink RX7 251 "SaltPool$Sheet" "lane" "I", Cond.fieldLink RX7 254 "SaltPool$Sheet" "length" "I", Cond.methodLink RX7 247 yX5_isNothing, Cond.methodLink RL 121 yX8_drop, Cond.instanceMethod yX8_drop, Cond.selects RX8 yX8_drop yX8_drop, Cond.code yX8_drop cX8_drop 2 (some .int), Cond.methodLink RL 122 yX7_item, Cond.instanceMethod yX7_item]
def wsL_law_r31 : List Cond := [Cond.selects RX7 yX7_item yX7_item, Cond.code yX7_item cX7_item 6 (some .int), Cond.methodLink RX7 255 yX5_put, Cond.instanceMethod yX5_put, Cond.selects RX5 yX5_put yX5_put, Cond.code yX5_put cX5_put 3 none, Cond.methodLink RL 126 yX8_item, Cond.instanceMethod yX8_item, Cond.selects RX8 yX8_item yX8_item, Cond.code yX8_item cX8_item 5 (some .int), Cond.methodLink RL 127 yX7_copy, Cond.instanceMethod yX7_copy, Cond.selects RX7 yX7_copy yX7_copy, Cond.code yX7_copy cX7_copy 8 (some .int), Cond.methodLink RX7 258 yX5_hasItems, Cond.methodLink RL 130 yX8_copy, Cond.instanceMethod yX8_copy, Cond.selects RX8 yX8_copy yX8_copy, Cond.code yX8_copy cX8_copy 7 (some .int)]
def wsL_law : List Cond := (wsL_law_r1 ++ (wsL_law_r2 ++ (wsL_law_r3 ++ (wsL_law_r4 ++ (wsL_law_r5 ++ (wsL_law_r6 ++ (wsL_law_r7 ++ (wsL_law_r8 ++ (wsL_law_r9 ++ (wsL_law_r10 ++ (wsL_law_r11 ++ (wsL_law_r12 ++ (wsL_law_r13 ++ (wsL_law_r14 ++ (wsL_law_r15 ++ (wsL_law_r16 ++ (wsL_law_r17 ++ (wsL_law_r18 ++ (wsL_law_r19 ++ (wsL_law_r20 ++ (wsL_law_r21 ++ (wsL_law_r22 ++ (wsL_law_r23 ++ (wsL_law_r24 ++ (wsL_law_r25 ++ (wsL_law_r26 ++ (wsL_law_r27 ++ (wsL_law_r28 ++ (wsL_law_r29 ++ (wsL_law_r30 ++ wsL_law_r31)))))))))))))))))))))))))))))) ++ wsX70 ++ wsX80 ++ wsX30 ++ wsX60 ++ wsX10 ++ wsX00 ++ wsX40 ++ wsX20 ++ wsX50 ++ ([] : List Cond)
set_option maxRecDepth 20000 in
theorem wsL_law_in : ∀ w ∈ wsL_law, w ∈ lw_tbl := fun w h => (goodIn_p wsL_law [51, 54, 59, 111, 133, 168, 202, 206, 232, 269, 647, 312, 315, 319, 792, 795, 323, 799, 327, 331, 335, 803, 807, 339, 343, 347, 811, 815, 351, 819, 823, 355, 827, 360, 365, 369, 374, 378, 382, 386, 390, 394, 832, 837, 841, 845, 849, 398, 401, 853, 405, 409, 857, 861, 414, 865, 420, 423, 870, 874, 427, 430, 433, 438, 878, 442, 446, 451, 455, 463, 459, 467, 471, 883, 887, 891, 895, 475, 478, 482, 899, 486, 490, 494, 498, 502, 506, 903, 907, 911, 510, 915, 515, 919, 519, 522, 525, 529, 533, 537, 541, 994, 974, 990, 548, 552, 923, 927, 556, 931, 560, 564, 568, 574, 579, 584, 588, 592, 595, 602, 935, 939, 943, 947, 951, 955, 959, 607, 963, 611, 615, 967, 619, 623, 971, 628, 978, 633, 637, 982, 641, 986] (by decide +kernel) (by decide +kernel) w h).1
theorem inlX0 : ∀ w ∈ wsX00, w ∈ wsL_law := fun _ h => List.mem_append_left _ (List.mem_append_left _ (List.mem_append_left _ (List.mem_append_left _ (List.mem_append_right _ h))))
theorem inX0 : ∀ w ∈ wsX00, w ∈ lw_tbl := fun w h => wsL_law_in w (inlX0 w h)
theorem inlX1 : ∀ w ∈ wsX10, w ∈ wsL_law := fun _ h => List.mem_append_left _ (List.mem_append_left _ (List.mem_append_left _ (List.mem_append_left _ (List.mem_append_left _ (List.mem_append_right _ h)))))
theorem inX1 : ∀ w ∈ wsX10, w ∈ lw_tbl := fun w h => wsL_law_in w (inlX1 w h)
theorem inlX2 : ∀ w ∈ wsX20, w ∈ wsL_law := fun _ h => List.mem_append_left _ (List.mem_append_left _ (List.mem_append_right _ h))
theorem inX2 : ∀ w ∈ wsX20, w ∈ lw_tbl := fun w h => wsL_law_in w (inlX2 w h)
theorem inlX3 : ∀ w ∈ wsX30, w ∈ wsL_law := fun _ h => List.mem_append_left _ (List.mem_append_left _ (List.mem_append_left _ (List.mem_append_left _ (List.mem_append_left _ (List.mem_append_left _ (List.mem_append_left _ (List.mem_append_right _ h)))))))
theorem inX3 : ∀ w ∈ wsX30, w ∈ lw_tbl := fun w h => wsL_law_in w (inlX3 w h)
theorem inlX4 : ∀ w ∈ wsX40, w ∈ wsL_law := fun _ h => List.mem_append_left _ (List.mem_append_left _ (List.mem_append_left _ (List.mem_append_right _ h)))
theorem inX4 : ∀ w ∈ wsX40, w ∈ lw_tbl := fun w h => wsL_law_in w (inlX4 w h)
theorem inlX5 : ∀ w ∈ wsX50, w ∈ wsL_law := fun _ h => List.mem_append_left _ (List.mem_append_right _ h)
theorem inX5 : ∀ w ∈ wsX50, w ∈ lw_tbl := fun w h => wsL_law_in w (inlX5 w h)
theorem inlX6 : ∀ w ∈ wsX60, w ∈ wsL_law := fun _ h => List.mem_append_left _ (List.mem_append_left _ (List.mem_append_left _ (List.mem_append_left _ (List.mem_append_left _ (List.mem_append_left _ (List.mem_append_right _ h))))))
theorem inX6 : ∀ w ∈ wsX60, w ∈ lw_tbl := fun w h => wsL_law_in w (inlX6 w h)
theorem inlX7 : ∀ w ∈ wsX70, w ∈ wsL_law := fun _ h => List.mem_append_left _ (List.mem_append_left _ (List.mem_append_left _ (List.mem_append_left _ (List.mem_append_left _ (List.mem_append_left _ (List.mem_append_left _ (List.mem_append_left _ (List.mem_append_left _ (List.mem_append_right _ h)))))))))
theorem inX7 : ∀ w ∈ wsX70, w ∈ lw_tbl := fun w h => wsL_law_in w (inlX7 w h)
theorem inlX8 : ∀ w ∈ wsX80, w ∈ wsL_law := fun _ h => List.mem_append_left _ (List.mem_append_left _ (List.mem_append_left _ (List.mem_append_left _ (List.mem_append_left _ (List.mem_append_left _ (List.mem_append_left _ (List.mem_append_left _ (List.mem_append_right _ h))))))))
theorem inX8 : ∀ w ∈ wsX80, w ∈ lw_tbl := fun w h => wsL_law_in w (inlX8 w h)
theorem inJ6 : ∀ w ∈ wsJ60, w ∈ lw_tbl := by decide +kernel
theorem inJ9 : ∀ w ∈ wsJ90, w ∈ lw_tbl := by decide +kernel
theorem inJ10 : ∀ w ∈ wsJ100, w ∈ lw_tbl := by decide +kernel
theorem inJ7 : ∀ w ∈ wsJ70, w ∈ lw_tbl := by decide +kernel
abbrev vwCl : List vw_C := [(RX0, TX0, 8), (RX1, TX1, 7), (RX2, TX2, 8), (RX3, TX3, 13), (RX4, TX4, 6), (RX5, TX5, 3), (RX6, TX6, 4), (RX7, TX7, 8), (RX8, TX8, 46)]
end
section
/-! A small machine over a shape of cells that stays: values, places, a step as a condition; its steps are steps of the machine -/
abbrev mv_V : Type := Int32 ⊕ (Int64 ⊕ Nat)
abbrev mv_L : Type := List (Option mv_V)
abbrev mv_I : Type := Nat → Nat → Int32
abbrev mv_J : Type := Nat → Nat → Int64
abbrev mv_Q : Type := Option mv_V → mv_I → mv_J → Prop
abbrev mv_K : Type := Nat → mv_L → List mv_V → mv_I → mv_J → Prop
/-- a cell's shape: an object (its number, its fields: a cell, or an int), or a row (0 ints, 1 longs, 2 bytes, 3 booleans, 4 cells; its length) -/
abbrev mv_E : Type := (Nat × List (Option Nat)) ⊕ (Nat × Nat)
/-- an instruction, the place behind it, where it jumps to, its number -/
abbrev mv_R : Type := Instr × Nat × Nat × Int32 × Int64
def mv_val (ad : Nat → Nat) : mv_V → Value
  | .inl x => .int x
  | .inr (.inl x) => .long x
  | .inr (.inr k) => .ref (ad k)
def mv_cat : mv_V → Nat
  | .inl _ => 1
  | .inr (.inl _) => 2
  | .inr (.inr _) => 1
theorem mv_cat_val (ad : Nat → Nat) (v : mv_V) : (mv_val ad v).category = mv_cat v := by rcases v with x | x | x <;> rfl
def mv_nth {α : Type} : Nat → List α → Option α
  | _, [] => none
  | 0, a :: _ => some a
  | n + 1, _ :: t => mv_nth n t
theorem mv_nth_eq {α : Type} : ∀ (n : Nat) (l : List α), mv_nth n l = l[n]?
  | _, [] => by simp [mv_nth]
  | 0, a :: t => by simp [mv_nth]
  | n + 1, a :: t => by simp [mv_nth, mv_nth_eq n t]
/-! the world -/
def mv_fs (ad : Nat → Nat) (f : Nat → Int32) : Nat → List (Option Nat) → List Value
  | _, [] => []
  | j, some r :: t => .ref (ad r) :: mv_fs ad f (j + 1) t
  | j, none :: t => .int (f j) :: mv_fs ad f (j + 1) t
def mv_sc (j : Nat) : Nat := 8 + j
def mv_row (ad : Nat → Nat) (f : Nat → Int32) (g : Nat → Int64) : Nat → ((Nat → Int32) ⊕ (Nat → Int64) ⊕ (Nat → UInt32) ⊕ (Nat → UInt64) ⊕ (Nat → Option Nat))
  | 1 => .inr (.inl g)
  | 4 => .inr (.inr (.inr (.inr (fun j => some (ad (mv_sc j))))))
  | _ => .inl f
def mv_cell (cy : Nat → ClassId) (ad : Nat → Nat) (I : mv_I) (J : mv_J) (k : Nat) (e : mv_E) : va_E := match e with
  | .inl o => .inr (o.1, mv_fs ad (I k) 0 o.2)
  | .inr a => .inl (cy a.1, a.2, mv_row ad (I k) (J k) a.1)
def mv_wsg (cy : Nat → ClassId) (ad : Nat → Nat) (I : mv_I) (J : mv_J) : Nat → List mv_E → va_W
  | _, [] => []
  | k, e :: t => (ad k, mv_cell cy ad I J k e) :: mv_wsg cy ad I J (k + 1) t
abbrev mv_ws (cy : Nat → ClassId) (ad : Nat → Nat) (sh : List mv_E) (I : mv_I) (J : mv_J) : va_W := mv_wsg cy ad I J 0 sh
theorem mv_wsg_get (cy : Nat → ClassId) (ad : Nat → Nat) (I : mv_I) (J : mv_J) : ∀ (sh : List mv_E) (k j : Nat), (mv_wsg cy ad I J k sh)[j]? = (mv_nth j sh).map (fun e => (ad (k + j), mv_cell cy ad I J (k + j) e))
  | [], k, j => by simp [mv_wsg, mv_nth]
  | e :: t, k, 0 => by simp [mv_wsg, mv_nth]
  | e :: t, k, j + 1 => by
    have h := mv_wsg_get cy ad I J t (k + 1) j
    simp only [mv_wsg, mv_nth, List.getElem?_cons_succ]
    rw [h, show k + 1 + j = k + (j + 1) by omega]
theorem mv_ws_get {cy : Nat → ClassId} {ad : Nat → Nat} {I : mv_I} {J : mv_J} {sh : List mv_E} {a : Nat} {e : mv_E} (h : mv_nth a sh = some e) : (mv_ws cy ad sh I J)[a]? = some (ad a, mv_cell cy ad I J a e) := by
  rw [mv_wsg_get, h]
  simp
theorem mv_ws_set {cy : Nat → ClassId} {ad : Nat → Nat} {I I' : mv_I} {J J' : mv_J} {sh : List mv_E} {a : Nat} {e : mv_E} (h : mv_nth a sh = some e) (hI : ∀ j, j ≠ a → I' j = I j) (hJ : ∀ j, j ≠ a → J' j = J j) :
    (mv_ws cy ad sh I J).set a (ad a, mv_cell cy ad I' J' a e) = mv_ws cy ad sh I' J' := by
  apply List.ext_getElem?
  intro j
  rw [List.getElem?_set, mv_wsg_get, mv_wsg_get]
  by_cases hj : a = j
  · subst hj
    have hl : a < (mv_ws cy ad sh I J).length := (List.getElem?_eq_some_iff.mp (mv_ws_get (cy := cy) (ad := ad) (I := I) (J := J) h)).1
    rw [if_pos rfl, h]
    simp [hl]
  · rw [if_neg hj]
    cases mv_nth j sh with
    | none => rfl
    | some e =>
      have h1 := hI j (fun q => hj q.symm)
      have h2 := hJ j (fun q => hj q.symm)
      rcases e with o | o <;> simp [mv_cell, h1, h2]
theorem mv_ws_at {cy : Nat → ClassId} {ad : Nat → Nat} {I : mv_I} {J : mv_J} {sh : List mv_E} {j : Nat} {q : Nat × va_E} (h : (mv_ws cy ad sh I J)[j]? = some q) : q.1 = ad j ∧ ∃ e, mv_nth j sh = some e := by
  rw [mv_wsg_get] at h
  cases he : mv_nth j sh with
  | none => rw [he] at h; cases h
  | some e =>
    rw [he] at h
    have := (Option.some.inj h).symm
    subst this
    exact ⟨by simp, e, rfl⟩
theorem mv_D_any {cy : Nat → ClassId} {ad : Nat → Nat} {sh : List mv_E} {A : Nat → Prop} {I I' : mv_I} {J J' : mv_J} (h : va_D A (mv_ws cy ad sh I J)) : va_D A (mv_ws cy ad sh I' J') := by
  have key : ∀ (k : Nat) (q : Nat × va_E), (mv_ws cy ad sh I' J')[k]? = some q → ∃ q0, (mv_ws cy ad sh I J)[k]? = some q0 ∧ q0.1 = q.1 := by
    intro k q hq
    obtain ⟨h1, e, he⟩ := mv_ws_at hq
    exact ⟨_, mv_ws_get he, h1.symm⟩
  refine ⟨fun i j p q hp hq hpq => ?_, fun k q hq => ?_⟩
  · obtain ⟨p0, e1, e2⟩ := key i p hp
    obtain ⟨q0, e3, e4⟩ := key j q hq
    exact h.1 i j p0 q0 e1 e3 (by rw [e2, e4]; exact hpq)
  · obtain ⟨q0, e3, e4⟩ := key k q hq
    rw [← e4]
    exact h.2 k q0 e3
def mv_tys (cy : Nat → ClassId) : List (ClassId × FieldType) := [(cy 0, .int), (cy 1, .long), (cy 2, .byte), (cy 3, .boolean), (cy 4, .object "SaltPool$Sheet")]
/-! places and stacks, with what goes on behind them -/
def mv_asI (v : mv_V) (f : Int32 → Prop) : Prop := match v with
  | .inl x => f x
  | .inr _ => False
def mv_asL (v : mv_V) (f : Int64 → Prop) : Prop := match v with
  | .inr (.inl x) => f x
  | _ => False
def mv_asA (v : mv_V) (f : Nat → Prop) : Prop := match v with
  | .inr (.inr x) => f x
  | _ => False
theorem mv_asI_inv {v : mv_V} {f : Int32 → Prop} (h : mv_asI v f) : ∃ x, v = .inl x ∧ f x := by
  rcases v with x | x | x
  · exact ⟨x, rfl, h⟩
  · exact h.elim
  · exact h.elim
theorem mv_asL_inv {v : mv_V} {f : Int64 → Prop} (h : mv_asL v f) : ∃ x, v = .inr (.inl x) ∧ f x := by
  rcases v with x | x | x
  · exact h.elim
  · exact ⟨x, rfl, h⟩
  · exact h.elim
theorem mv_asA_inv {v : mv_V} {f : Nat → Prop} (h : mv_asA v f) : ∃ x, v = .inr (.inr x) ∧ f x := by
  rcases v with x | x | x
  · exact h.elim
  · exact h.elim
  · exact ⟨x, rfl, h⟩
def mv_pI (st : List mv_V) (f : Int32 → List mv_V → Prop) : Prop := match st with
  | v :: r => mv_asI v (fun x => f x r)
  | [] => False
def mv_pL (st : List mv_V) (f : Int64 → List mv_V → Prop) : Prop := match st with
  | v :: r => mv_asL v (fun x => f x r)
  | [] => False
def mv_pA (st : List mv_V) (f : Nat → List mv_V → Prop) : Prop := match st with
  | v :: r => mv_asA v (fun x => f x r)
  | [] => False
theorem mv_pI_inv {st : List mv_V} {f : Int32 → List mv_V → Prop} (h : mv_pI st f) : ∃ x r, st = .inl x :: r ∧ f x r := by
  cases st with
  | nil => exact h.elim
  | cons v r => obtain ⟨x, rfl, h⟩ := mv_asI_inv h; exact ⟨x, r, rfl, h⟩
theorem mv_pL_inv {st : List mv_V} {f : Int64 → List mv_V → Prop} (h : mv_pL st f) : ∃ x r, st = .inr (.inl x) :: r ∧ f x r := by
  cases st with
  | nil => exact h.elim
  | cons v r => obtain ⟨x, rfl, h⟩ := mv_asL_inv h; exact ⟨x, r, rfl, h⟩
theorem mv_pA_inv {st : List mv_V} {f : Nat → List mv_V → Prop} (h : mv_pA st f) : ∃ x r, st = .inr (.inr x) :: r ∧ f x r := by
  cases st with
  | nil => exact h.elim
  | cons v r => obtain ⟨x, rfl, h⟩ := mv_asA_inv h; exact ⟨x, r, rfl, h⟩
def mv_get : Nat → mv_L → (mv_V → Prop) → Prop
  | 0, some v :: _, f => f v
  | n + 1, _ :: t, f => mv_get n t f
  | _, _, _ => False
theorem mv_get_inv : ∀ {i : Nat} {ls : mv_L} {f : mv_V → Prop}, mv_get i ls f → ∃ v, mv_nth i ls = some (some v) ∧ f v
  | 0, [], _, h => h.elim
  | 0, none :: _, _, h => h.elim
  | 0, some v :: _, _, h => ⟨v, rfl, h⟩
  | _ + 1, [], _, h => h.elim
  | n + 1, _ :: t, _, h => mv_get_inv (i := n) (ls := t) h
def mv_set0 (v : mv_V) (t : mv_L) (f : mv_L → Prop) : Prop := match v with
  | .inl x => f (some (.inl x) :: t)
  | .inr (.inr x) => f (some (.inr (.inr x)) :: t)
  | .inr (.inl x) => (match t with
    | _ :: t' => f (some (.inr (.inl x)) :: none :: t')
    | [] => False)
def mv_dr (h : Option mv_V) (f : Option mv_V → Prop) : Prop := match h with
  | some (.inr (.inl _)) => f none
  | some (.inl x) => f (some (.inl x))
  | some (.inr (.inr x)) => f (some (.inr (.inr x)))
  | none => f none
def mv_set : Nat → mv_V → mv_L → (mv_L → Prop) → Prop
  | 0, v, _ :: t, f => mv_set0 v t f
  | 1, v, h :: t, f => mv_set 0 v t (fun t' => mv_dr h (fun h' => f (h' :: t')))
  | n + 2, v, h :: t, f => mv_set (n + 1) v t (fun t' => f (h :: t'))
  | _, _, [], _ => False
theorem mv_dr_inv {h : Option mv_V} {f : Option mv_V → Prop} (k : mv_dr h f) : ∃ h', f h' ∧ ∀ w, h' = some w → h = some w ∧ mv_cat w ≠ 2 := by
  rcases h with _ | x | x | x
  · exact ⟨none, k, fun w e => by cases e⟩
  · exact ⟨_, k, fun w e => by cases e; exact ⟨rfl, by decide⟩⟩
  · exact ⟨none, k, fun w e => by cases e⟩
  · exact ⟨_, k, fun w e => by cases e; exact ⟨rfl, by decide⟩⟩
def mv_setR (i : Nat) (v : mv_V) (ls ls' : mv_L) : Prop := ls'.length = ls.length ∧ i < ls.length ∧ (mv_cat v = 2 → i + 1 < ls.length) ∧ ∀ j w, mv_nth j ls' = some (some w) → (j = i ∧ w = v) ∨ (mv_nth j ls = some (some w) ∧ j ≠ i ∧ ¬ (j + 1 = i ∧ mv_cat w = 2) ∧ ¬ (mv_cat v = 2 ∧ j = i + 1))
theorem mv_set0_inv {v : mv_V} {h : Option mv_V} {t : mv_L} {f : mv_L → Prop} (k : mv_set0 v t f) : ∃ ls', f ls' ∧ mv_setR 0 v (h :: t) ls' := by
  rcases v with x | x | x
  · refine ⟨_, k, rfl, by simp, fun e => by cases e, fun j w hj => ?_⟩
    cases j with
    | zero => exact Or.inl ⟨rfl, (Option.some.inj (Option.some.inj hj)).symm⟩
    | succ j => exact Or.inr ⟨hj, by omega, by omega, fun e => by cases e.1⟩
  · cases t with
    | nil => exact k.elim
    | cons h2 t =>
      refine ⟨_, k, rfl, by simp, fun _ => by simp, fun j w hj => ?_⟩
      match j, hj with
      | 0, hj => exact Or.inl ⟨rfl, (Option.some.inj (Option.some.inj hj)).symm⟩
      | 1, hj => cases hj
      | j + 2, hj => exact Or.inr ⟨hj, by omega, by omega, by omega⟩
  · refine ⟨_, k, rfl, by simp, fun e => by cases e, fun j w hj => ?_⟩
    cases j with
    | zero => exact Or.inl ⟨rfl, (Option.some.inj (Option.some.inj hj)).symm⟩
    | succ j => exact Or.inr ⟨hj, by omega, by omega, fun e => by cases e.1⟩
theorem mv_set_inv : ∀ {i : Nat} {v : mv_V} {ls : mv_L} {f : mv_L → Prop}, mv_set i v ls f → ∃ ls', f ls' ∧ mv_setR i v ls ls'
  | 0, v, [], f, k => k.elim
  | 0, v, h :: t, f, k => mv_set0_inv k
  | 1, v, [], f, k => k.elim
  | 1, v, h :: t, f, k => by
    obtain ⟨t', k, e1, e2, e3, e4⟩ := mv_set_inv (i := 0) (v := v) (ls := t) k
    obtain ⟨h', k, eh⟩ := mv_dr_inv k
    refine ⟨_, k, by simp [e1], by simp; omega, fun c => by have := e3 c; simp; omega, fun j w hj => ?_⟩
    cases j with
    | zero =>
      have q := eh w (Option.some.inj hj)
      exact Or.inr ⟨by rw [q.1]; rfl, by omega, fun z => q.2 z.2, by omega⟩
    | succ j =>
      rcases e4 j w hj with ⟨z1, z2⟩ | ⟨z1, z2, z3, z4⟩
      · exact Or.inl ⟨by omega, z2⟩
      · exact Or.inr ⟨z1, by omega, fun z => by omega, fun z => z4 ⟨z.1, by omega⟩⟩
  | n + 2, v, [], f, k => k.elim
  | n + 2, v, h :: t, f, k => by
    obtain ⟨t', k, e1, e2, e3, e4⟩ := mv_set_inv (i := n + 1) (v := v) (ls := t) k
    refine ⟨_, k, by simp [e1], by simp; omega, fun c => by have := e3 c; simp; omega, fun j w hj => ?_⟩
    cases j with
    | zero => exact Or.inr ⟨hj, by omega, by omega, by omega⟩
    | succ j =>
      rcases e4 j w hj with ⟨z1, z2⟩ | ⟨z1, z2, z3, z4⟩
      · exact Or.inl ⟨by omega, z2⟩
      · exact Or.inr ⟨z1, by omega, fun z => z3 ⟨by omega, z.2⟩, fun z => z4 ⟨z.1, by omega⟩⟩
def mv_prs (ad : Nat → Nat) : Nat → mv_L → List (Nat × Value)
  | _, [] => []
  | j, none :: t => mv_prs ad (j + 1) t
  | j, some v :: t => (j, mv_val ad v) :: mv_prs ad (j + 1) t
theorem mv_prs_in (ad : Nat → Nat) : ∀ (ls : mv_L) (k j : Nat) (w : mv_V), mv_nth j ls = some (some w) → (k + j, mv_val ad w) ∈ mv_prs ad k ls
  | [], _, _, _, h => by cases h
  | none :: t, k, 0, w, h => by cases h
  | some v :: t, k, 0, w, h => by
    have : v = w := Option.some.inj (Option.some.inj h)
    subst this
    exact List.mem_cons_self
  | none :: t, k, j + 1, w, h => by
    have := mv_prs_in ad t (k + 1) j w h
    rw [show k + (j + 1) = k + 1 + j by omega]
    exact this
  | some v :: t, k, j + 1, w, h => by
    have := mv_prs_in ad t (k + 1) j w h
    rw [show k + (j + 1) = k + 1 + j by omega]
    exact List.mem_cons_of_mem _ this
theorem mv_prs_of (ad : Nat → Nat) : ∀ (ls : mv_L) (k : Nat) (q : Nat × Value), q ∈ mv_prs ad k ls → ∃ j w, mv_nth j ls = some (some w) ∧ q = (k + j, mv_val ad w)
  | [], _, _, h => by cases h
  | none :: t, k, q, h => by
    obtain ⟨j, w, h1, h2⟩ := mv_prs_of ad t (k + 1) q h
    exact ⟨j + 1, w, h1, by rw [h2, show k + 1 + j = k + (j + 1) by omega]⟩
  | some v :: t, k, q, h => by
    rcases List.mem_cons.mp h with h | h
    · exact ⟨0, v, rfl, h⟩
    · obtain ⟨j, w, h1, h2⟩ := mv_prs_of ad t (k + 1) q h
      exact ⟨j + 1, w, h1, by rw [h2, show k + 1 + j = k + (j + 1) by omega]⟩
def mv_LS (ad : Nat → Nat) (ls : mv_L) (arr : Array Slot) : Prop := arr.size = ls.length ∧ lv_wf arr ∧ ∀ j w, mv_nth j ls = some (some w) → arr[j]? = some (.val (mv_val ad w))
theorem mv_LS.has {ad : Nat → Nat} {ls : mv_L} {arr : Array Slot} (h : mv_LS ad ls arr) : lv_has arr ls.length (mv_prs ad 0 ls) := by
  refine ⟨h.1, h.2.1, fun q hq => ?_⟩
  obtain ⟨j, w, h1, rfl⟩ := mv_prs_of ad ls 0 q hq
  rw [show (0 + j, mv_val ad w).1 = j by simp]
  exact h.2.2 j w h1
theorem mv_LS.set1 {ad : Nat → Nat} {ls ls' : mv_L} {i : Nat} {v : mv_V} (hc : mv_cat v = 1) (hr : mv_setR i v ls ls') {arr' : Array Slot} (h : lv_has arr' ls.length ((i, mv_val ad v) :: (mv_prs ad 0 ls).filter (fun q => !(q.1 == i) && !(q.1 + 1 == i && q.2.category == 2)))) : mv_LS ad ls' arr' := by
  refine ⟨by rw [hr.1]; exact h.1, h.2.1, fun j w hj => ?_⟩
  rcases hr.2.2.2 j w hj with ⟨rfl, rfl⟩ | ⟨h1, h2, h3, -⟩
  · exact h.2.2 _ List.mem_cons_self
  · refine h.2.2 (j, mv_val ad w) (List.mem_cons_of_mem _ (List.mem_filter.mpr ⟨?_, ?_⟩))
    · have := mv_prs_in ad ls 0 j w h1
      rwa [Nat.zero_add] at this
    · simp only [mv_cat_val, Bool.and_eq_true, Bool.not_eq_true', beq_eq_false_iff_ne, Bool.and_eq_false_imp, beq_iff_eq]
      exact ⟨h2, fun e c => h3 ⟨e, c⟩⟩
theorem mv_LS.set2 {ad : Nat → Nat} {ls ls' : mv_L} {i : Nat} {v : mv_V} (hc : mv_cat v = 2) (hr : mv_setR i v ls ls') {arr' : Array Slot} (h : lv_has arr' ls.length ((i, mv_val ad v) :: (mv_prs ad 0 ls).filter (fun q => !(q.1 == i) && (!(q.1 == i + 1) && !(q.1 + 1 == i && q.2.category == 2))))) : mv_LS ad ls' arr' := by
  refine ⟨by rw [hr.1]; exact h.1, h.2.1, fun j w hj => ?_⟩
  rcases hr.2.2.2 j w hj with ⟨rfl, rfl⟩ | ⟨h1, h2, h3, h4⟩
  · exact h.2.2 _ List.mem_cons_self
  · refine h.2.2 (j, mv_val ad w) (List.mem_cons_of_mem _ (List.mem_filter.mpr ⟨?_, ?_⟩))
    · have := mv_prs_in ad ls 0 j w h1
      rwa [Nat.zero_add] at this
    · simp only [mv_cat_val, Bool.and_eq_true, Bool.not_eq_true', beq_eq_false_iff_ne, Bool.and_eq_false_imp, beq_iff_eq]
      exact ⟨h2, fun e => h4 ⟨hc, e⟩, fun e c => h3 ⟨e, c⟩⟩
/-! a step -/
def mv_if (c : Jvm.ClassFile.Cond) (x : Int32) (A B : Prop) : Prop := match c with
  | .eq => (x = 0 → A) ∧ (¬ x = 0 → B)
  | .ne => (¬ x = 0 → A) ∧ (x = 0 → B)
  | .lt => (x < 0 → A) ∧ (¬ x < 0 → B)
  | .ge => (0 ≤ x → A) ∧ (¬ 0 ≤ x → B)
  | .gt => (0 < x → A) ∧ (¬ 0 < x → B)
  | .le => (x ≤ 0 → A) ∧ (¬ x ≤ 0 → B)
def mv_ic (c : Jvm.ClassFile.Cond) (x y : Int32) (A B : Prop) : Prop := match c with
  | .eq => (x = y → A) ∧ (¬ x = y → B)
  | .ne => (¬ x = y → A) ∧ (x = y → B)
  | .lt => (x < y → A) ∧ (¬ x < y → B)
  | .ge => (y ≤ x → A) ∧ (¬ y ≤ x → B)
  | .gt => (y < x → A) ∧ (¬ y < x → B)
  | .le => (x ≤ y → A) ∧ (¬ x ≤ y → B)
def mv_sw (x : Int32) (f : Nat → Prop) (pc : Nat) : Int → List Int → Prop
  | _, [] => True
  | lo, o :: os => (x.toInt = lo → f (Int.toNat ((pc : Int) + o))) ∧ mv_sw x f pc (lo + 1) os
theorem mv_sw_at {x : Int32} {f : Nat → Prop} {pc : Nat} : ∀ {lo : Int} {os : List Int}, mv_sw x f pc lo os → ∀ (j : Nat) (o : Int), os[j]? = some o → x.toInt = lo + (j : Int) → f (Int.toNat ((pc : Int) + o))
  | _, [], _, j, o, h, _ => by simp at h
  | lo, o' :: os, k, 0, o, h, e => by
    have : o' = o := by simpa using h
    subst this
    exact k.1 (by simpa using e)
  | lo, o' :: os, k, j + 1, o, h, e => mv_sw_at k.2 j o (by simpa using h) (by rw [e]; omega)
def mv_obj (e : mv_E) (ci fi : Nat) (fR : Nat → Prop) (fI : Prop) : Prop := match e with
  | .inl o => bif Nat.beq ci o.1 then (match mv_nth fi o.2 with
    | some (some r) => fR r
    | some none => fI
    | none => False) else False
  | .inr _ => False
def mv_is (e : mv_E) (ci : Nat) (P : Prop) : Prop := match e with
  | .inl o => bif Nat.beq ci o.1 then P else False
  | .inr _ => False
def mv_arr (e : mv_E) (f : Nat → Nat → Prop) : Prop := match e with
  | .inr a => f a.1 a.2
  | .inl _ => False
def mv_at (sh : List mv_E) (a : Nat) (f : mv_E → Prop) : Prop := match mv_nth a sh with
  | some e => f e
  | none => False
def mv_pop : Nat → List mv_V → List mv_V → (List mv_V → List mv_V → Prop) → Prop
  | 0, st, acc, f => f acc st
  | n + 1, v :: st, acc, f => mv_pop n st (v :: acc) f
  | _ + 1, [], _, _ => False
def mv_cs : List mv_V → Nat
  | [] => 0
  | v :: t => mv_cat v + mv_cs t
def mv_hd (l : List mv_V) (f : Nat → Prop) : Prop := match l with
  | v :: _ => mv_asA v f
  | [] => False
/-- which int fields are booleans -/
def mv_isZ (ci fi : Nat) : Bool := (Nat.beq ci 2 && Nat.beq fi 4) || (Nat.beq ci 4 && Nat.beq fi 5) || (Nat.beq ci 8 && Nat.beq fi 37)
def mv_back (k : mv_K) (nx : Nat) (ls : mv_L) (st : List mv_V) : mv_Q := fun r I J => match r with
  | some v => k nx ls (v :: st) I J
  | none => k nx ls st I J
def mv_static (call : Nat → List mv_V → mv_I → mv_J → mv_Q → Prop) (sh : List mv_E) (mid na nx : Nat) (ls : mv_L) (st : List mv_V) (I : mv_I) (J : mv_J) (k : mv_K) : Prop := match mid with
  | 1000 => mv_pI st fun y r => mv_pI r fun x r => bif Nat.ble (mv_cs r) 8 then k nx ls (.inl (if x < y then y else x) :: r) I J else False
  | 1001 => mv_pI st fun y r => mv_pI r fun x r => bif Nat.ble (mv_cs r) 8 then k nx ls (.inl (if y < x then y else x) :: r) I J else False
  | 1002 => mv_pI st fun n r => mv_pI r fun dp r => mv_pA r fun a r => mv_pI r fun sp r => mv_pA r fun a0 r => bif Nat.ble (mv_cs r) 8 then mv_at sh a0 (fun e0 => mv_arr e0 fun t0 n0 => mv_at sh a (fun e => mv_arr e fun t1 n1 => bif Nat.beq t0 0 && Nat.beq t1 0 then (¬ sp < 0 ∧ ¬ dp < 0 ∧ ¬ n < 0 ∧ sp.toNatClampNeg + n.toNatClampNeg ≤ n0 ∧ dp.toNatClampNeg + n.toNatClampNeg ≤ n1 ∧ k nx ls r (va_up I a (va_cpy (I a0) (I a) sp.toNatClampNeg dp.toNatClampNeg n.toNatClampNeg)) J) else False)) else False
  | mid => mv_pop na st [] fun as r => bif Nat.ble (mv_cs r) 8 then call mid as I J (mv_back k nx ls r) else False
def mv_step (call : Nat → List mv_V → mv_I → mv_J → mv_Q → Prop) (sh : List mv_E) (X : Option (Nat × (Nat → Int32))) (fl : Nat → Option (Nat × Nat)) (cs : Nat → Option (Nat × Nat × Nat)) (rb : Bool) (pc : Nat) (i : Instr) (nx tg : Nat) (cst : Int32) (cl : Int64) (ls : mv_L) (st : List mv_V) (I : mv_I) (J : mv_J) (k : mv_K) (Q : mv_Q) : Prop :=
  match i with
  | .iload_n n => mv_get n.val ls fun v => mv_asI v fun x => k nx ls (.inl x :: st) I J
  | .iload n => mv_get n ls fun v => mv_asI v fun x => k nx ls (.inl x :: st) I J
  | .lload_n n => mv_get n.val ls fun v => mv_asL v fun x => k nx ls (.inr (.inl x) :: st) I J
  | .lload n => mv_get n ls fun v => mv_asL v fun x => k nx ls (.inr (.inl x) :: st) I J
  | .aload_n n => mv_get n.val ls fun v => mv_asA v fun x => k nx ls (.inr (.inr x) :: st) I J
  | .aload n => mv_get n ls fun v => mv_asA v fun x => k nx ls (.inr (.inr x) :: st) I J
  | .istore_n n => mv_pI st fun x r => mv_set n.val (.inl x) ls fun ls => k nx ls r I J
  | .istore n => mv_pI st fun x r => mv_set n (.inl x) ls fun ls => k nx ls r I J
  | .lstore_n n => mv_pL st fun x r => mv_set n.val (.inr (.inl x)) ls fun ls => k nx ls r I J
  | .lstore n => mv_pL st fun x r => mv_set n (.inr (.inl x)) ls fun ls => k nx ls r I J
  | .astore_n n => mv_pA st fun x r => mv_set n.val (.inr (.inr x)) ls fun ls => k nx ls r I J
  | .astore n => mv_pA st fun x r => mv_set n (.inr (.inr x)) ls fun ls => k nx ls r I J
  | .iinc n _ => mv_get n ls fun v => mv_asI v fun x => mv_set n (.inl (x + cst)) ls fun ls => k nx ls st I J
  | .iconst _ => k nx ls (.inl cst :: st) I J
  | .bipush _ => k nx ls (.inl cst :: st) I J
  | .sipush _ => k nx ls (.inl cst :: st) I J
  | .ldc _ => k nx ls (.inl cst :: st) I J
  | .ldc_w _ => k nx ls (.inl cst :: st) I J
  | .lconst _ => k nx ls (.inr (.inl cl) :: st) I J
  | .ldc2_w _ => k nx ls (.inr (.inl cl) :: st) I J
  | .iadd => mv_pI st fun y r => mv_pI r fun x r => k nx ls (.inl (x + y) :: r) I J
  | .isub => mv_pI st fun y r => mv_pI r fun x r => k nx ls (.inl (x - y) :: r) I J
  | .imul => mv_pI st fun y r => mv_pI r fun x r => k nx ls (.inl (x * y) :: r) I J
  | .iand => mv_pI st fun y r => mv_pI r fun x r => k nx ls (.inl (x &&& y) :: r) I J
  | .ior => mv_pI st fun y r => mv_pI r fun x r => k nx ls (.inl (x ||| y) :: r) I J
  | .ixor => mv_pI st fun y r => mv_pI r fun x r => k nx ls (.inl (x ^^^ y) :: r) I J
  | .idiv => mv_pI st fun y r => mv_pI r fun x r => ¬ y = 0 ∧ k nx ls (.inl (x / y) :: r) I J
  | .irem => mv_pI st fun y r => mv_pI r fun x r => ¬ y = 0 ∧ k nx ls (.inl (x - x / y * y) :: r) I J
  | .ishl => mv_pI st fun y r => mv_pI r fun x r => k nx ls (.inl (x <<< (y &&& 31)) :: r) I J
  | .ishr => mv_pI st fun y r => mv_pI r fun x r => k nx ls (.inl (x >>> (y &&& 31)) :: r) I J
  | .iushr => mv_pI st fun y r => mv_pI r fun x r => k nx ls (.inl ((x.toUInt32 >>> (y.toUInt32 &&& Int32.toUInt32 31)).toInt32) :: r) I J
  | .ladd => mv_pL st fun y r => mv_pL r fun x r => k nx ls (.inr (.inl (x + y)) :: r) I J
  | .lsub => mv_pL st fun y r => mv_pL r fun x r => k nx ls (.inr (.inl (x - y)) :: r) I J
  | .lmul => mv_pL st fun y r => mv_pL r fun x r => k nx ls (.inr (.inl (x * y)) :: r) I J
  | .land => mv_pL st fun y r => mv_pL r fun x r => k nx ls (.inr (.inl (x &&& y)) :: r) I J
  | .lor => mv_pL st fun y r => mv_pL r fun x r => k nx ls (.inr (.inl (x ||| y)) :: r) I J
  | .ldiv => mv_pL st fun y r => mv_pL r fun x r => ¬ y = 0 ∧ k nx ls (.inr (.inl (x / y)) :: r) I J
  | .lrem => mv_pL st fun y r => mv_pL r fun x r => ¬ y = 0 ∧ k nx ls (.inr (.inl (x - x / y * y)) :: r) I J
  | .lcmp => mv_pL st fun y r => mv_pL r fun x r => k nx ls (.inl (lg_cmp x y) :: r) I J
  | .lshl => mv_pI st fun y r => mv_pL r fun x r => k nx ls (.inr (.inl (x <<< (y.toInt64 &&& 63))) :: r) I J
  | .lshr => mv_pI st fun y r => mv_pL r fun x r => k nx ls (.inr (.inl (x >>> (y.toInt64 &&& 63))) :: r) I J
  | .i2l => mv_pI st fun x r => k nx ls (.inr (.inl x.toInt64) :: r) I J
  | .l2i => mv_pL st fun x r => k nx ls (.inl x.toInt32 :: r) I J
  | .i2b => mv_pI st fun x r => k nx ls (.inl x.toInt8.toInt32 :: r) I J
  | .i2s => mv_pI st fun x r => k nx ls (.inl x.toInt16.toInt32 :: r) I J
  | .dup => (match st with
    | .inl x :: r => k nx ls (.inl x :: .inl x :: r) I J
    | .inr (.inr x) :: r => k nx ls (.inr (.inr x) :: .inr (.inr x) :: r) I J
    | _ => False)
  | .dup2 => mv_pI st fun y r => mv_pA r fun x r => k nx ls (.inl y :: .inr (.inr x) :: .inl y :: .inr (.inr x) :: r) I J
  | .pop => mv_pI st fun _ r => k nx ls r I J
  | .goto _ => k tg ls st I J
  | .ifCond c _ => mv_pI st fun x r => mv_if c x (k tg ls r I J) (k nx ls r I J)
  | .if_icmp c _ => mv_pI st fun y r => mv_pI r fun x r => mv_ic c x y (k tg ls r I J) (k nx ls r I J)
  | .tableswitch _ lo hi offs => mv_pI st fun x r => (x.toInt < lo ∨ hi < x.toInt → k tg ls r I J) ∧ mv_sw x (fun t => k t ls r I J) pc lo offs.toList
  | .getfield idx => mv_pA st fun a r => (match fl idx with
    | some (ci, fi) => mv_at sh a fun e => mv_obj e ci fi (fun q => k nx ls (.inr (.inr q) :: r) I J) (k nx ls (.inl (I a fi) :: r) I J)
    | none => False)
  | .putfield idx => mv_pI st fun v r => mv_pA r fun a r => (match fl idx with
    | some (ci, fi) => mv_at sh a fun e => mv_obj e ci fi (fun _ => False) (bif mv_isZ ci fi then (v = 0 ∨ v = 1) ∧ k nx ls r (va_up I a (upd (I a) fi v)) J else k nx ls r (va_up I a (upd (I a) fi v)) J)
    | none => False)
  | .iaload => mv_pI st fun j r => mv_pA r fun a r => (match mv_nth a sh with
    | some e => mv_arr e fun ty n => bif Nat.beq ty 0 then vp_in j n ∧ k nx ls (.inl (I a j.toNatClampNeg) :: r) I J else False
    | none => (match X with
      | some (L, xs) => bif Nat.beq a 999 then vp_in j L ∧ k nx ls (.inl (xs j.toNatClampNeg) :: r) I J else False
      | none => False))
  | .baload => mv_pI st fun j r => mv_pA r fun a r => mv_at sh a fun e => mv_arr e fun ty n => bif Nat.beq ty 2 || Nat.beq ty 3 then vp_in j n ∧ k nx ls (.inl (I a j.toNatClampNeg) :: r) I J else False
  | .laload => mv_pI st fun j r => mv_pA r fun a r => mv_at sh a fun e => mv_arr e fun ty n => bif Nat.beq ty 1 then vp_in j n ∧ k nx ls (.inr (.inl (J a j.toNatClampNeg)) :: r) I J else False
  | .aaload => mv_pI st fun j r => mv_pA r fun a r => mv_at sh a fun e => mv_arr e fun ty n => bif Nat.beq ty 4 && Nat.beq n 4 then vp_in j 4 ∧ (j = 0 → k nx ls (.inr (.inr 8) :: r) I J) ∧ (j = 1 → k nx ls (.inr (.inr 9) :: r) I J) ∧ (j = 2 → k nx ls (.inr (.inr 10) :: r) I J) ∧ (j = 3 → k nx ls (.inr (.inr 11) :: r) I J) else False
  | .arraylength => mv_pA st fun a r => (match mv_nth a sh with
    | some e => mv_arr e fun ty n => bif Nat.blt ty 5 then k nx ls (.inl (nI n) :: r) I J else False
    | none => (match X with
      | some (L, _) => bif Nat.beq a 999 then k nx ls (.inl (nI L) :: r) I J else False
      | none => False))
  | .iastore => mv_pI st fun v r => mv_pI r fun j r => mv_pA r fun a r => mv_at sh a fun e => mv_arr e fun ty n => bif Nat.beq ty 0 then vp_in j n ∧ k nx ls r (va_up I a (upd (I a) j.toNatClampNeg v)) J else False
  | .bastore => mv_pI st fun v r => mv_pI r fun j r => mv_pA r fun a r => mv_at sh a fun e => mv_arr e fun ty n => bif Nat.beq ty 2 then vp_in j n ∧ k nx ls r (va_up I a (upd (I a) j.toNatClampNeg (vp_nar .byte v))) J else bif Nat.beq ty 3 then vp_in j n ∧ k nx ls r (va_up I a (upd (I a) j.toNatClampNeg (vp_nar .boolean v))) J else False
  | .lastore => mv_pL st fun v r => mv_pI r fun j r => mv_pA r fun a r => mv_at sh a fun e => mv_arr e fun ty n => bif Nat.beq ty 1 then vp_in j n ∧ k nx ls r I (va_up J a (vp_updL (J a) j.toNatClampNeg v)) else False
  | .invokestatic idx => (match cs idx with
    | some (mid, na, _) => mv_static call sh mid na nx ls st I J k
    | none => False)
  | .invokevirtual idx => (match cs idx with
    | some (mid, na, ci) => mv_pop na st [] fun as r => mv_hd as fun a => mv_at sh a fun e => mv_is e ci (bif Nat.ble (mv_cs r) 8 then call mid as I J (mv_back k nx ls r) else False)
    | none => False)
  | .ireturn => mv_pI st fun x r => (match r with
    | [] => bif rb then (x = 0 ∨ x = 1) ∧ Q (some (.inl x)) I J else Q (some (.inl x)) I J
    | _ :: _ => False)
  | .return_ => (match st with
    | [] => Q none I J
    | _ :: _ => False)
  | _ => False
def mv_wp (call : Nat → List mv_V → mv_I → mv_J → mv_Q → Prop) (sh : List mv_E) (X : Option (Nat × (Nat → Int32))) (tb : Nat → Option mv_R) (fl : Nat → Option (Nat × Nat)) (cs : Nat → Option (Nat × Nat × Nat)) (rb : Bool) (stop : mv_K) (Q : mv_Q) : Nat → mv_K
  | 0 => fun _ _ _ _ _ => False
  | n + 1 => fun pc ls st I J => match tb pc with
    | some (i, nx, tg, cst, cl) => mv_step call sh X fl cs rb pc i nx tg cst cl ls st I J (mv_wp call sh X tb fl cs rb stop Q n) Q
    | none => stop pc ls st I J
end
