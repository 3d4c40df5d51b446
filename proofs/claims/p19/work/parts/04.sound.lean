/-! what the small machine does, the machine does -/
def mv_len : Instr → Nat
  | .aload _ => 2
  | .iload _ => 2
  | .lload _ => 2
  | .astore _ => 2
  | .istore _ => 2
  | .lstore _ => 2
  | .bipush _ => 2
  | .ldc _ => 2
  | .getfield _ => 3
  | .putfield _ => 3
  | .invokevirtual _ => 3
  | .invokestatic _ => 3
  | .ifCond _ _ => 3
  | .if_icmp _ _ => 3
  | .goto _ => 3
  | .iinc _ _ => 3
  | .sipush _ => 3
  | .ldc_w _ => 3
  | .ldc2_w _ => 3
  | .tableswitch _ _ _ _ => 0
  | _ => 1
def mv_arg (own : String) (Ts : List Jvm.Cond) (pc : Nat) (i : Instr) (tg : Nat) (cst : Int32) (cl : Int64) : Bool := match i with
  | .iconst n => decide (Int32.ofInt n = cst)
  | .bipush n => decide ((Int8.ofInt n).toInt32 = cst)
  | .sipush n => decide ((Int16.ofInt n).toInt32 = cst)
  | .lconst n => decide (Int64.ofNat n.val = cl)
  | .iinc _ n => decide (Int32.ofInt n = cst)
  | .ldc idx => decide (Jvm.Cond.constant own idx cst ∈ Ts)
  | .ldc_w idx => decide (Jvm.Cond.constant own idx cst ∈ Ts)
  | .ldc2_w idx => decide (Jvm.Cond.constantLong own idx cl ∈ Ts)
  | .goto off => decide ((pc : Int) + off = (tg : Int))
  | .ifCond _ off => decide ((pc : Int) + off = (tg : Int))
  | .if_icmp _ off => decide ((pc : Int) + off = (tg : Int))
  | .tableswitch d lo hi offs => decide ((pc : Int) + d = (tg : Int)) && offs.toList.all (fun o => decide (0 ≤ (pc : Int) + o)) && decide (lo + (offs.toList.length : Int) = hi + 1)
  | _ => true
def mv_chk (cc : ByteArray) (own : String) (Ts : List Jvm.Cond) (pc : Nat) (r : Option mv_R) : Bool := match r with
  | none => true
  | some (i, nx, tg, cst, cl) => decide (decode cc pc = .ok (i, nx - pc)) && (Nat.beq (mv_len i) 0 || Nat.beq nx (pc + mv_len i)) && mv_arg own Ts pc i tg cst cl
/-- a table of a method's instructions: it is the code's -/
def mv_tbB (cc : ByteArray) (own : String) (Ts : List Jvm.Cond) (tb : Nat → Option mv_R) : Prop := ∀ pc, mv_chk cc own Ts pc (tb pc) = true
theorem mv_tb_at {cc : ByteArray} {own : String} {Ts : List Jvm.Cond} {tb : Nat → Option mv_R} (h : mv_tbB cc own Ts tb) {pc : Nat} {i : Instr} {nx tg : Nat} {cst : Int32} {cl : Int64} (e : tb pc = some (i, nx, tg, cst, cl)) :
    decode cc pc = .ok (i, nx - pc) ∧ (mv_len i ≠ 0 → decode cc pc = .ok (i, mv_len i) ∧ nx = pc + mv_len i) ∧ mv_arg own Ts pc i tg cst cl = true := by
  have h1 := h pc
  rw [e] at h1
  simp only [mv_chk, Bool.and_eq_true, Bool.or_eq_true, decide_eq_true_eq] at h1
  obtain ⟨⟨h1, h2⟩, h3⟩ := h1
  have h2 := h2.imp Nat.eq_of_beq_eq_true Nat.eq_of_beq_eq_true
  refine ⟨h1, fun hn => ?_, h3⟩
  rcases h2 with h2 | h2
  · exact absurd h2 hn
  · exact ⟨by rw [h1, h2]; congr 2; omega, h2⟩
/-- a table of the fields that the instructions name -/
def mv_flB (cl0 : List vw_C) (own : String) (Ts : List Jvm.Cond) (fl : Nat → Option (Nat × Nat)) : Prop := ∀ idx ci fi, fl idx = some (ci, fi) → ∃ (C : String) (T : u_T) (N : Nat) (ty0 : Nat → FieldType), cl0[ci]? = some (C, T, N) ∧ fi < N ∧ (∀ w ∈ u_ws C T N, w ∈ Ts) ∧ Jvm.Cond.fieldLink own idx (T fi).1 (T fi).2.1 (T fi).2.2.1 ∈ Ts ∧ (∀ k, k < N → parseFieldDescriptor (T k).2.2.1 = some (ty0 k)) ∧ (∀ a, a < N → ∀ b, b < N → a ≠ b → (T a).2.1 ≠ (T b).2.1)
/-- int fields may be written -/
def mv_shB (cl0 : List vw_C) (sh : List mv_E) : Prop := ∀ (a : Nat) (o : Nat × List (Option Nat)) (fi : Nat), mv_nth a sh = some (.inl o) → mv_nth fi o.2 = some none → ∀ (q : vw_C), cl0[o.1]? = some q → (q.2.1 fi).2.2.2 = false ∧ parseFieldDescriptor (q.2.1 fi).2.2.1 = some (bif mv_isZ o.1 fi then .boolean else .int)
theorem mv_fs_ref (ad : Nat → Nat) (f : Nat → Int32) : ∀ (fs : List (Option Nat)) (j fi r : Nat), mv_nth fi fs = some (some r) → (mv_fs ad f j fs)[fi]? = some (.ref (ad r))
  | [], _, _, _, h => by simp [mv_nth] at h
  | some q :: t, j, 0, r, h => by
    have : q = r := Option.some.inj (Option.some.inj h)
    subst this
    rfl
  | none :: t, j, 0, r, h => by cases h
  | some q :: t, j, fi + 1, r, h => by simpa [mv_fs] using mv_fs_ref ad f t (j + 1) fi r h
  | none :: t, j, fi + 1, r, h => by simpa [mv_fs] using mv_fs_ref ad f t (j + 1) fi r h
theorem mv_fs_int (ad : Nat → Nat) (f : Nat → Int32) : ∀ (fs : List (Option Nat)) (j fi : Nat), mv_nth fi fs = some none → (mv_fs ad f j fs)[fi]? = some (.int (f (j + fi)))
  | [], _, _, h => by simp [mv_nth] at h
  | some q :: t, j, 0, h => by cases h
  | none :: t, j, 0, h => rfl
  | some q :: t, j, fi + 1, h => by
    have := mv_fs_int ad f t (j + 1) fi h
    rw [show j + (fi + 1) = j + 1 + fi by omega]
    simpa [mv_fs] using this
  | none :: t, j, fi + 1, h => by
    have := mv_fs_int ad f t (j + 1) fi h
    rw [show j + (fi + 1) = j + 1 + fi by omega]
    simpa [mv_fs] using this
theorem mv_fs_len (ad : Nat → Nat) (f : Nat → Int32) : ∀ (fs : List (Option Nat)) (j : Nat), (mv_fs ad f j fs).length = fs.length
  | [], _ => rfl
  | some _ :: t, j => by simp [mv_fs, mv_fs_len ad f t (j + 1)]
  | none :: t, j => by simp [mv_fs, mv_fs_len ad f t (j + 1)]
theorem mv_fs_keep (ad : Nat → Nat) {f g : Nat → Int32} : ∀ (fs : List (Option Nat)) (j : Nat), (∀ i, j ≤ i → g i = f i) → mv_fs ad g j fs = mv_fs ad f j fs
  | [], _, _ => rfl
  | some _ :: t, j, h => by simp [mv_fs, mv_fs_keep ad t (j + 1) (fun i hi => h i (by omega))]
  | none :: t, j, h => by simp [mv_fs, mv_fs_keep ad t (j + 1) (fun i hi => h i (by omega)), h j (Nat.le_refl j)]
theorem mv_fs_set (ad : Nat → Nat) (f : Nat → Int32) (v : Int32) : ∀ (fs : List (Option Nat)) (j fi : Nat), mv_nth fi fs = some none → (mv_fs ad f j fs).set fi (.int v) = mv_fs ad (upd f (j + fi) v) j fs
  | [], _, _, h => by simp [mv_nth] at h
  | some q :: t, j, 0, h => by cases h
  | none :: t, j, 0, h => by
    simp only [mv_fs, List.set_cons_zero, Nat.add_zero]
    rw [mv_fs_keep ad (f := f) (g := upd f j v) t (j + 1) (fun i hi => by simp only [upd]; rw [if_neg (by omega)])]
    simp [upd]
  | some q :: t, j, fi + 1, h => by
    simp only [mv_fs, List.set_cons_succ]
    rw [mv_fs_set ad f v t (j + 1) fi h, show j + 1 + fi = j + (fi + 1) by omega]
  | none :: t, j, fi + 1, h => by
    simp only [mv_fs, List.set_cons_succ]
    rw [mv_fs_set ad f v t (j + 1) fi h, show j + 1 + fi = j + (fi + 1) by omega]
    simp only [upd]
    rw [if_neg (show ¬ j = j + (fi + 1) by omega)]
theorem mv_at_inv {sh : List mv_E} {a : Nat} {f : mv_E → Prop} (h : mv_at sh a f) : ∃ e, mv_nth a sh = some e ∧ f e := by
  unfold mv_at at h
  cases he : mv_nth a sh with
  | none => rw [he] at h; exact h.elim
  | some e => rw [he] at h; exact ⟨e, rfl, h⟩
theorem mv_arr_inv {e : mv_E} {f : Nat → Nat → Prop} (h : mv_arr e f) : ∃ ty n, e = .inr (ty, n) ∧ f ty n := by
  rcases e with o | ⟨ty, n⟩
  · exact h.elim
  · exact ⟨ty, n, rfl, h⟩
theorem mv_bif {b : Bool} {P : Prop} (h : bif b then P else False) : b = true ∧ P := by
  cases b
  · exact h.elim
  · exact ⟨rfl, h⟩
theorem mv_obj_inv {e : mv_E} {ci fi : Nat} {fR : Nat → Prop} {fI : Prop} (h : mv_obj e ci fi fR fI) : ∃ fs, e = .inl (ci, fs) ∧ ((∃ r, mv_nth fi fs = some (some r) ∧ fR r) ∨ (mv_nth fi fs = some none ∧ fI)) := by
  rcases e with ⟨cj, fs⟩ | o
  · obtain ⟨h1, h2⟩ := mv_bif (h : bif Nat.beq ci cj then _ else False)
    have h1 : ci = cj := Nat.eq_of_beq_eq_true h1
    subst h1
    refine ⟨fs, rfl, ?_⟩
    match hq : mv_nth fi fs, h2 with
    | some (some r), h2 => exact Or.inl ⟨r, rfl, h2⟩
    | some none, h2 => exact Or.inr ⟨rfl, h2⟩
    | none, h2 => exact h2.elim
  · exact h.elim
theorem mv_is_inv {e : mv_E} {ci : Nat} {P : Prop} (h : mv_is e ci P) : ∃ fs, e = .inl (ci, fs) ∧ P := by
  rcases e with ⟨cj, fs⟩ | o
  · obtain ⟨h1, h2⟩ := mv_bif (h : bif Nat.beq ci cj then P else False)
    have h1 : ci = cj := Nat.eq_of_beq_eq_true h1
    subst h1
    exact ⟨fs, rfl, h2⟩
  · exact h.elim
theorem mv_pop_inv : ∀ {n : Nat} {st acc : List mv_V} {f : List mv_V → List mv_V → Prop}, mv_pop n st acc f → ∃ as r, st = as.reverse ++ r ∧ as.length = n ∧ f (as ++ acc) r
  | 0, st, acc, f, h => ⟨[], st, rfl, rfl, h⟩
  | n + 1, [], acc, f, h => h.elim
  | n + 1, v :: st, acc, f, h => by
    obtain ⟨as, r, h1, h2, h3⟩ := mv_pop_inv (n := n) (st := st) (acc := v :: acc) h
    exact ⟨as ++ [v], r, by simp [h1], by simp [h2], by simpa using h3⟩
theorem mv_cs_eq (ad : Nat → Nat) : ∀ st : List mv_V, ((st.map (mv_val ad)).map fun v => v.category).sum = mv_cs st
  | [] => rfl
  | v :: t => by simp [mv_cs, mv_cat_val, ← mv_cs_eq ad t]
/-- the calls between nest mates, and that they link -/
def mv_nw : List (String × Nat × MethodName × String) := [("SaltPool$Tape", 23, ⟨"SaltPool", "isWithin", "(III)Z"⟩, "SaltPool")]
def mv_NW (U : State) : Prop := ∀ q ∈ mv_nw, va_Nw (.methodLinkNest q.1 q.2.1 q.2.2.1 q.2.2.2) U
theorem mv_NW.warm {s U : State} (hW : s.WarmedH U.vm) (h : mv_NW s) : mv_NW U := fun q hq => va_Nw.warmM hW (h q hq)
theorem mv_NW.same {u U : State} (e : u.vm = U.vm) (h : mv_NW u) : mv_NW U := fun q hq => va_Nw.same rfl e (h q hq)
/-- a callee's world -/
def mv_Pc (cl0 : List vw_C) (dC : Nat → ClassId) (dI : Nat → Nat → Nat) (cy : Nat → ClassId) (ad : Nat → Nat) (sh : List mv_E) (sz : Nat) (as : List mv_V) (I : mv_I) (J : mv_J) : Array Value → State → Prop :=
  va_Pc (as.map (mv_val ad)) (fun U => U.heap.size = sz ∧ va_P (dC, dI) cl0 (mv_ws cy ad sh I J) U.heap ∧ va_K (dC, dI) cl0 (mv_tys cy) U ∧ va_D (fun _ => True) (mv_ws cy ad sh I J) ∧ mv_NW U)
def mv_Bt (cl0 : List vw_C) (dC : Nat → ClassId) (dI : Nat → Nat → Nat) (cy : Nat → ClassId) (ad : Nat → Nat) (sh : List mv_E) : mv_I × mv_J → State → Prop := fun u t => va_P (dC, dI) cl0 (mv_ws cy ad sh u.1 u.2) t.heap
/-- a callee's contract, out of what the small machine says of it -/
def mv_Mt (l : Launch) (cl0 : List vw_C) (dC : Nat → ClassId) (dI : Nat → Nat → Nat) (cy : Nat → ClassId) (ad : Nat → Nat) (sh : List mv_E) (y : MethodName) (ws : List Jvm.Cond) (rm : Room) (as : List mv_V) (I : mv_I) (J : mv_J) (Q : mv_Q) : Prop :=
  ∀ sz : Nat, Met l y ws rm (mv_Pc cl0 dC dI cy ad sh sz as I J) (va_Qi (fun (r : Int32) (u : mv_I × mv_J) => Q (some (.inl r)) u.1 u.2) (mv_Bt cl0 dC dI cy ad sh) (va_A (mv_ws cy ad sh I J) sz)) 0 0 (va_A (mv_ws cy ad sh I J) sz) ∨
    Met l y ws rm (mv_Pc cl0 dC dI cy ad sh sz as I J) (va_Qv (fun (u : mv_I × mv_J) => Q none u.1 u.2) (mv_Bt cl0 dC dI cy ad sh) (va_A (mv_ws cy ad sh I J) sz)) 0 0 (va_A (mv_ws cy ad sh I J) sz)
/-- what a call needs, but for the callee's contract -/
def mv_site (cl0 : List vw_C) (own : String) (Ts : List Jvm.Cond) (idx na ci : Nat) (y : MethodName) (bytes : ByteArray) (maxL : Nat) (ret : Option FieldType) (ws ws' : List Jvm.Cond) : Prop :=
  ws = Jvm.Cond.code y bytes maxL ret :: ws' ∧ (y.cls ≠ "java/lang/invoke/MethodHandle" ∧ y.cls ≠ "java/lang/invoke/VarHandle") ∧ maxL ≤ 21 ∧
    (bif Nat.ble 100 ci then (bif Nat.beq ci 100 then GoodIn Ts (va_wsS own idx y ws) else GoodIn Ts ws ∧ Jvm.Cond.static y ∈ Ts ∧ Jvm.Cond.initialized y.cls ∈ Ts ∧ ∃ host, (own, idx, y, host) ∈ mv_nw) ∧ (parseMethodDescriptor y.desc).map (fun d => d.parameters.length) = some na
     else GoodIn Ts (wsV own idx y.cls y ws) ∧ (∃ n, na = n + 1 ∧ (parseMethodDescriptor y.desc).map (fun d => d.parameters.length) = some n) ∧ ∃ q : vw_C, cl0[ci]? = some q ∧ q.1 = y.cls)
def mv_csB (l : Launch) (R : Room) (cl0 : List vw_C) (dC : Nat → ClassId) (dI : Nat → Nat → Nat) (cy : Nat → ClassId) (ad : Nat → Nat) (sh : List mv_E) (own : String) (Ts : List Jvm.Cond) (cs : Nat → Option (Nat × Nat × Nat)) (call : Nat → List mv_V → mv_I → mv_J → mv_Q → Prop) : Prop :=
  ∀ idx mid na ci, cs idx = some (mid, na, ci) → ∀ as I J Q, as.length = na → call mid as I J Q → ∃ (y : MethodName) (bytes : ByteArray) (maxL : Nat) (ret : Option FieldType) (ws ws' : List Jvm.Cond) (rm : Room), mv_site cl0 own Ts idx na ci y bytes maxL ret ws ws' ∧ rm.cells = 0 ∧ rm.slots = 0 ∧ rm.frames + 1 ≤ R.frames ∧ 40 + rm.locals ≤ R.locals ∧ mv_Mt l cl0 dC dI cy ad sh y ws rm as I J Q
/-- the three of the JDK -/
def mv_jdB (own : String) (Ts : List Jvm.Cond) (cs : Nat → Option (Nat × Nat × Nat)) : Prop :=
  (∀ idx na ci, cs idx = some (1000, na, ci) → Jvm.Cond.methodLink own idx Lib.Math.max.name ∈ Ts ∧ Jvm.Cond.static Lib.Math.max.name ∈ Ts ∧ Jvm.Cond.initialized "java/lang/Math" ∈ Ts ∧ Jvm.Cond.code Lib.Math.max.name Lib.Math.max.code 2 (some .int) ∈ Ts) ∧
  (∀ idx na ci, cs idx = some (1001, na, ci) → Jvm.Cond.methodLink own idx Lib.Math.min.name ∈ Ts ∧ Jvm.Cond.static Lib.Math.min.name ∈ Ts ∧ Jvm.Cond.initialized "java/lang/Math" ∈ Ts ∧ Jvm.Cond.code Lib.Math.min.name Lib.Math.min.code 2 (some .int) ∈ Ts) ∧
  (∀ idx na ci, cs idx = some (1002, na, ci) → Jvm.Cond.methodLink own idx arraycopyName ∈ Ts ∧ Jvm.Cond.native arraycopyName ∈ Ts ∧ Jvm.Cond.static arraycopyName ∈ Ts ∧ Jvm.Cond.initialized "java/lang/System" ∈ Ts)
