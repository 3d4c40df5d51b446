/-- the cells: 0 SaltPool, 1 Pool, 2 Tape, 3 Lots, 4 Fleet, 5 Sea, 6 Mole, 7 ROW, 8 Sheet0, 9 Sheet1, 10 Sheet2, 11 Sheet3, 12 Model, 13 Pool.part, 14 Pool.shipped, 15 Pool.kind, 16 Pool.of, 17 Pool.to, 18 Pool.sacks, 19 Pool.week, 20 Pool.share, 21 Pool.rest, 22 Pool.among, 23 Tape.told, 24 Tape.bytes, 25 Lots.works, 26 Lots.grade, 27 Lots.week, 28 Lots.inPit, 29 Lots.atPort, 30 Lots.inHolds, 31 Fleet.arrival, 32 Fleet.room, 33 Fleet.rate, 34 Fleet.layDays, 35 Fleet.due, 36 Fleet.stowed, 37 Fleet.stowedLots, 38 Sea.surf, 39 Sea.loadable, 40 Sea.loadableBefore, 41 Mole.place, 42 Mole.turn, 43 Mole.end, 44 Mole.cost, 45 Mole.order, 46 Mole.cheapest, 47 Sheet0.items, 48 Sheet1.items, 49 Sheet2.items, 50 Sheet3.items, 51 Model.parts, 52 Model.shipped, 53 Model.lotWorks, 54 Model.grades, 55 Model.inPit, 56 Model.atPort, 57 Model.weeksOf, 58 Model.entryKind, 59 Model.entryA, 60 Model.entryB, 61 Model.entryMany, 62 Model.entryWeek, 63 Model.shares, 64 Model.given, 65 Model.tape, 66 Model.readParts, 67 Model.days, 68 Model.rooms, 69 Model.rates, 70 Model.lays, 71 Model.dues, 72 Model.holds, 73 Model.surfs, 74 Model.row, 75 Model.rowTurn, 76 Model.rowEnd, 77 Model.rowCost, 78 Model.laidAt, 79 Model.laidTurn, 80 Model.laidEnd, 81 Model.laidCost, 82 Model.lanes, 83 Model.sizes, 84 Model.items, 85 Model.moved -/
def mv_sh : List mv_E := [.inl (7, [some 1, some 2, some 3, some 4, some 5, some 6, some 7, none]), .inl (3, [some 13, some 14, none, none, some 15, some 16, some 17, some 18, some 19, none, some 20, some 21, some 22]), .inl (6, [some 23, some 24, none, none]), .inl (1, [some 25, some 26, some 27, some 28, some 29, some 30, none]), .inl (0, [some 31, some 32, some 33, some 34, some 35, some 36, some 37, none]), .inl (4, [some 38, none, some 39, some 40, none, none]), .inl (2, [some 41, some 42, some 43, some 44, none, some 45, some 46, none]), .inr (4, 4), .inl (5, [some 47, none, none]), .inl (5, [some 48, none, none]), .inl (5, [some 49, none, none]), .inl (5, [some 50, none, none]), .inl (8, [none, some 51, some 52, none, none, some 53, some 54, some 55, some 56, some 57, none, none, some 58, some 59, some 60, some 61, some 62, some 63, some 64, some 65, none, none, none, some 66, none, some 67, some 68, some 69, some 70, some 71, some 72, some 73, none, some 74, some 75, some 76, some 77, none, some 78, some 79, some 80, some 81, some 82, some 83, some 84, some 85]), .inr (0, 8), .inr (0, 8), .inr (0, 100), .inr (0, 100), .inr (0, 100), .inr (0, 100), .inr (0, 100), .inr (0, 8), .inr (0, 8), .inr (3, 8), .inr (0, 8), .inr (2, 70), .inr (0, 60), .inr (0, 60), .inr (0, 60), .inr (0, 60), .inr (0, 60), .inr (0, 60), .inr (0, 6), .inr (0, 6), .inr (0, 6), .inr (0, 6), .inr (0, 6), .inr (0, 6), .inr (0, 360), .inr (0, 60), .inr (0, 60), .inr (0, 60), .inr (0, 6), .inr (0, 6), .inr (0, 6), .inr (0, 6), .inr (0, 6), .inr (0, 6), .inr (0, 60), .inr (0, 60), .inr (0, 60), .inr (0, 60), .inr (0, 8), .inr (0, 8), .inr (0, 60), .inr (0, 60), .inr (0, 60), .inr (0, 60), .inr (0, 60), .inr (0, 100), .inr (0, 100), .inr (0, 100), .inr (0, 100), .inr (0, 100), .inr (1, 8), .inr (3, 8), .inr (0, 70), .inr (0, 8), .inr (0, 6), .inr (0, 6), .inr (0, 6), .inr (0, 6), .inr (0, 6), .inr (0, 360), .inr (0, 60), .inr (0, 6), .inr (0, 6), .inr (0, 6), .inr (0, 6), .inr (0, 6), .inr (0, 6), .inr (0, 6), .inr (0, 6), .inr (0, 4), .inr (0, 4), .inr (0, 240), .inr (0, 60)]
def mv_lim (N : Nat) (f : Nat → Option mv_R) : Nat → Option mv_R := fun pc => bif Nat.blt pc N then f pc else none
theorem mv_tbB_lim {cc : ByteArray} {own : String} {Ts : List Jvm.Cond} {N : Nat} {f : Nat → Option mv_R} (h : (List.range N).all (fun pc => mv_chk cc own Ts pc (mv_lim N f pc)) = true) : mv_tbB cc own Ts (mv_lim N f) := by
  intro pc
  by_cases hp : pc < N
  · exact List.all_eq_true.mp h pc (List.mem_range.mpr hp)
  · have : mv_lim N f pc = none := by
      unfold mv_lim
      cases hq : Nat.blt pc N with
      | false => rfl
      | true => exact absurd (Nat.le_of_ble_eq_true hq) hp
    rw [this]
    rfl
def mv_seg (lo hi : Nat) (f : Nat → Option mv_R) : Nat → Option mv_R := fun pc => bif Nat.ble lo pc && Nat.blt pc hi then f pc else none
theorem mv_tbB_seg {cc : ByteArray} {own : String} {Ts : List Jvm.Cond} {lo hi : Nat} {f : Nat → Option mv_R} (h : (List.range (hi - lo)).all (fun j => mv_chk cc own Ts (lo + j) (mv_seg lo hi f (lo + j))) = true) : mv_tbB cc own Ts (mv_seg lo hi f) := by
  intro pc
  by_cases hp : lo ≤ pc ∧ pc < hi
  · have := List.all_eq_true.mp h (pc - lo) (List.mem_range.mpr (by omega))
    rwa [show lo + (pc - lo) = pc by omega] at this
  · have : mv_seg lo hi f pc = none := by
      unfold mv_seg
      cases hq : (Nat.ble lo pc && Nat.blt pc hi) with
      | false => rfl
      | true =>
        simp only [Bool.and_eq_true] at hq
        exact absurd ⟨Nat.le_of_ble_eq_true hq.1, Nat.le_of_ble_eq_true hq.2⟩ hp
    rw [this]
    rfl
def mv_lk {α : Type} : List (Nat × α) → Nat → Option α
  | [], _ => none
  | q :: t, i => bif Nat.beq i q.1 then some q.2 else mv_lk t i
theorem mv_lk_in {α : Type} : ∀ {l : List (Nat × α)} {i : Nat} {v : α}, mv_lk l i = some v → (i, v) ∈ l
  | [], i, v, h => by cases h
  | q :: t, i, v, h => by
    unfold mv_lk at h
    cases hq : Nat.beq i q.1 with
    | true =>
      rw [hq] at h
      have h1 := Nat.eq_of_beq_eq_true hq
      have h2 := Option.some.inj h
      rw [h1, ← h2]
      exact List.mem_cons_self
    | false =>
      rw [hq] at h
      exact List.mem_cons_of_mem _ (mv_lk_in h)
theorem mv_flB_of {cl0 : List vw_C} {own : String} {Ts : List Jvm.Cond} {l : List (Nat × (Nat × Nat))} (h : ∀ q ∈ l, ∃ (C : String) (T : u_T) (N : Nat) (ty0 : Nat → FieldType), cl0[q.2.1]? = some (C, T, N) ∧ q.2.2 < N ∧ (∀ w ∈ u_ws C T N, w ∈ Ts) ∧ Jvm.Cond.fieldLink own q.1 (T q.2.2).1 (T q.2.2).2.1 (T q.2.2).2.2.1 ∈ Ts ∧ (∀ k, k < N → parseFieldDescriptor (T k).2.2.1 = some (ty0 k)) ∧ (∀ a, a < N → ∀ b, b < N → a ≠ b → (T a).2.1 ≠ (T b).2.1)) : mv_flB cl0 own Ts (mv_lk l) :=
  fun idx ci fi hq => h (idx, (ci, fi)) (mv_lk_in hq)
/-- a static call's words -/
theorem mv_siteS {cl0 : List vw_C} {own : String} {TT : List Jvm.Cond} (hgood : TT.all goodWord = true) {idx na : Nat} {y : MethodName} {bytes : ByteArray} {maxL : Nat} {ret : Option FieldType} (h1 : Jvm.Cond.methodLink own idx y ∈ TT) (h2 : Jvm.Cond.static y ∈ TT) (h3 : Jvm.Cond.initialized y.cls ∈ TT) (h4 : Jvm.Cond.code y bytes maxL ret ∈ TT) (h5 : (y.cls ≠ "java/lang/invoke/MethodHandle" ∧ y.cls ≠ "java/lang/invoke/VarHandle") ∧ maxL ≤ 21 ∧ (parseMethodDescriptor y.desc).map (fun d => d.parameters.length) = some na) : mv_site cl0 own TT idx na 100 y bytes maxL ret (Jvm.Cond.code y bytes maxL ret :: TT) TT := by
  refine ⟨rfl, h5.1, h5.2.1, ?_, h5.2.2⟩
  show GoodIn TT (va_wsS own idx y (Jvm.Cond.code y bytes maxL ret :: TT))
  have hm : ∀ w ∈ va_wsS own idx y (Jvm.Cond.code y bytes maxL ret :: TT), w ∈ TT := by
    intro w hw
    simp only [va_wsS, List.mem_append, List.mem_cons, List.not_mem_nil, or_false] at hw
    rcases hw with (rfl | rfl | rfl) | rfl | hw
    · exact h1
    · exact h2
    · exact h3
    · exact h4
    · exact hw
  exact fun w hw => ⟨hm w hw, good_of_word (List.all_eq_true.mp hgood w (hm w hw))⟩
theorem mv_siteV {cl0 : List vw_C} {own : String} {TT : List Jvm.Cond} (hgood : TT.all goodWord = true) {idx n ci : Nat} {y : MethodName} {bytes : ByteArray} {maxL : Nat} {ret : Option FieldType} (hci : Nat.ble 100 ci = false) (h1 : Jvm.Cond.methodLink own idx y ∈ TT) (h2 : Jvm.Cond.instanceMethod y ∈ TT) (h3 : Jvm.Cond.selects y.cls y y ∈ TT) (h3' : Jvm.Cond.initialized y.cls ∈ TT) (h4 : Jvm.Cond.code y bytes maxL ret ∈ TT) (h5 : (y.cls ≠ "java/lang/invoke/MethodHandle" ∧ y.cls ≠ "java/lang/invoke/VarHandle") ∧ maxL ≤ 21 ∧ (parseMethodDescriptor y.desc).map (fun d => d.parameters.length) = some n) {q : vw_C} (hq : cl0[ci]? = some q) (hq2 : q.1 = y.cls) : mv_site cl0 own TT idx (n + 1) ci y bytes maxL ret (Jvm.Cond.code y bytes maxL ret :: TT) TT := by
  refine ⟨rfl, h5.1, h5.2.1, ?_⟩
  rw [hci]
  refine ⟨?_, ⟨n, rfl, h5.2.2⟩, q, hq, hq2⟩
  have hm : ∀ w ∈ wsV own idx y.cls y (Jvm.Cond.code y bytes maxL ret :: TT), w ∈ TT := by
    intro w hw
    simp only [wsV, List.mem_append, List.mem_cons, List.not_mem_nil, or_false] at hw
    rcases hw with (rfl | rfl | rfl | rfl) | rfl | hw
    · exact h1
    · exact h2
    · exact h3
    · exact h3'
    · exact h4
    · exact hw
  exact fun w hw => ⟨hm w hw, good_of_word (List.all_eq_true.mp hgood w (hm w hw))⟩
/-- a nest mate's -/
theorem mv_siteN {cl0 : List vw_C} {own : String} {TT : List Jvm.Cond} (hgood : TT.all goodWord = true) {idx na : Nat} {y : MethodName} {bytes : ByteArray} {maxL : Nat} {ret : Option FieldType} {host : String} (h1 : (own, idx, y, host) ∈ mv_nw) (h2 : Jvm.Cond.static y ∈ TT) (h3 : Jvm.Cond.initialized y.cls ∈ TT) (h4 : Jvm.Cond.code y bytes maxL ret ∈ TT) (h5 : (y.cls ≠ "java/lang/invoke/MethodHandle" ∧ y.cls ≠ "java/lang/invoke/VarHandle") ∧ maxL ≤ 21 ∧ (parseMethodDescriptor y.desc).map (fun d => d.parameters.length) = some na) : mv_site cl0 own TT idx na 101 y bytes maxL ret (Jvm.Cond.code y bytes maxL ret :: TT) TT := by
  refine ⟨rfl, h5.1, h5.2.1, ⟨?_, h2, h3, host, h1⟩, h5.2.2⟩
  have hm : ∀ w ∈ Jvm.Cond.code y bytes maxL ret :: TT, w ∈ TT := by
    intro w hw
    rcases List.mem_cons.mp hw with rfl | hw
    · exact h4
    · exact hw
  exact fun w hw => ⟨hm w hw, good_of_word (List.all_eq_true.mp hgood w (hm w hw))⟩
/-- a call's row: it is one of the JDK's three, or the table has the callee and the words are there -/
def mv_cok (cl0 : List vw_C) (own : String) (TT : List Jvm.Cond) (tab : List mv_N) (q : Nat × (Nat × Nat × Nat)) : Prop := mv_nth q.2.1 tab = none ∨ ∃ y cc maxL ret z, mv_nth q.2.1 tab = some (y, cc, maxL, ret, z) ∧ mv_site cl0 own TT q.1 q.2.2.1 q.2.2.2 y cc maxL ret (Jvm.Cond.code y cc maxL ret :: TT) TT
theorem mv_cok_all {cl0 : List vw_C} {own : String} {TT : List Jvm.Cond} {tab : List mv_N} {l : List (Nat × (Nat × Nat × Nat))} (h : ∀ q ∈ l, mv_cok cl0 own TT tab q) : ∀ idx mid na ci, mv_lk l idx = some (mid, na, ci) → ∀ y' cc' maxL' ret' z, mv_nth mid tab = some (y', cc', maxL', ret', z) → mv_site cl0 own TT idx na ci y' cc' maxL' ret' (Jvm.Cond.code y' cc' maxL' ret' :: TT) TT := by
  intro idx mid na ci hq y' cc' maxL' ret' z ht
  rcases h _ (mv_lk_in hq) with h1 | ⟨y, cc, maxL, ret, z2, h1, h2⟩
  · rw [h1] at ht; cases ht
  · rw [h1] at ht
    cases ht
    exact h2
theorem mv_jdB_of {own : String} {Ts : List Jvm.Cond} {l : List (Nat × (Nat × Nat × Nat))} (h : ∀ q ∈ l, (q.2.1 = 1000 → Jvm.Cond.methodLink own q.1 Lib.Math.max.name ∈ Ts ∧ Jvm.Cond.static Lib.Math.max.name ∈ Ts ∧ Jvm.Cond.initialized "java/lang/Math" ∈ Ts ∧ Jvm.Cond.code Lib.Math.max.name Lib.Math.max.code 2 (some .int) ∈ Ts) ∧ (q.2.1 = 1001 → Jvm.Cond.methodLink own q.1 Lib.Math.min.name ∈ Ts ∧ Jvm.Cond.static Lib.Math.min.name ∈ Ts ∧ Jvm.Cond.initialized "java/lang/Math" ∈ Ts ∧ Jvm.Cond.code Lib.Math.min.name Lib.Math.min.code 2 (some .int) ∈ Ts) ∧ (q.2.1 = 1002 → Jvm.Cond.methodLink own q.1 arraycopyName ∈ Ts ∧ Jvm.Cond.native arraycopyName ∈ Ts ∧ Jvm.Cond.static arraycopyName ∈ Ts ∧ Jvm.Cond.initialized "java/lang/System" ∈ Ts)) : mv_jdB own Ts (mv_lk l) :=
  ⟨fun idx na ci hq => (h _ (mv_lk_in hq)).1 rfl, fun idx na ci hq => (h _ (mv_lk_in hq)).2.1 rfl, fun idx na ci hq => (h _ (mv_lk_in hq)).2.2 rfl⟩
theorem mv_jd_no {own : String} {Ts : List Jvm.Cond} {q : Nat × (Nat × Nat × Nat)} (h : q.2.1 < 1000) : (q.2.1 = 1000 → Jvm.Cond.methodLink own q.1 Lib.Math.max.name ∈ Ts ∧ Jvm.Cond.static Lib.Math.max.name ∈ Ts ∧ Jvm.Cond.initialized "java/lang/Math" ∈ Ts ∧ Jvm.Cond.code Lib.Math.max.name Lib.Math.max.code 2 (some .int) ∈ Ts) ∧ (q.2.1 = 1001 → Jvm.Cond.methodLink own q.1 Lib.Math.min.name ∈ Ts ∧ Jvm.Cond.static Lib.Math.min.name ∈ Ts ∧ Jvm.Cond.initialized "java/lang/Math" ∈ Ts ∧ Jvm.Cond.code Lib.Math.min.name Lib.Math.min.code 2 (some .int) ∈ Ts) ∧ (q.2.1 = 1002 → Jvm.Cond.methodLink own q.1 arraycopyName ∈ Ts ∧ Jvm.Cond.native arraycopyName ∈ Ts ∧ Jvm.Cond.static arraycopyName ∈ Ts ∧ Jvm.Cond.initialized "java/lang/System" ∈ Ts) := ⟨fun e => absurd e (by omega), fun e => absurd e (by omega), fun e => absurd e (by omega)⟩
def mv_TT : List Jvm.Cond := lw_tbl.filter goodWord
theorem mT0 : ∀ w ∈ k2_sels lw_privs, goodWord w = true → w ∈ mv_TT := fun _ h g => List.mem_filter.mpr ⟨List.mem_append_left _ h, g⟩
theorem mT1 : ∀ w ∈ tables_1_1, goodWord w = true → w ∈ mv_TT := fun _ h g => List.mem_filter.mpr ⟨List.mem_append_right _ (List.mem_append_left _ h), g⟩
theorem mT2 : ∀ w ∈ tables_1_2, goodWord w = true → w ∈ mv_TT := fun _ h g => List.mem_filter.mpr ⟨List.mem_append_right _ (List.mem_append_right _ (List.mem_append_left _ h)), g⟩
theorem mT3 : ∀ w ∈ tables_1_3, goodWord w = true → w ∈ mv_TT := fun _ h g => List.mem_filter.mpr ⟨List.mem_append_right _ (List.mem_append_right _ (List.mem_append_right _ (List.mem_append_left _ h))), g⟩
theorem mT4 : ∀ w ∈ tables_1_4, goodWord w = true → w ∈ mv_TT := fun _ h g => List.mem_filter.mpr ⟨List.mem_append_right _ (List.mem_append_right _ (List.mem_append_right _ (List.mem_append_right _ (List.mem_append_left _ h)))), g⟩
theorem mT5 : ∀ w ∈ tables_1_5, goodWord w = true → w ∈ mv_TT := fun _ h g => List.mem_filter.mpr ⟨List.mem_append_right _ (List.mem_append_right _ (List.mem_append_right _ (List.mem_append_right _ (List.mem_append_right _ h)))), g⟩
theorem mT_good : mv_TT.all goodWord = true := List.all_eq_true.mpr fun w h => (List.mem_filter.mp h).2
theorem mT_tbl : ∀ w ∈ mv_TT, w ∈ lw_tbl := fun w h => (List.mem_filter.mp h).1
