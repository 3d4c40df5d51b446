/-! A small machine over a shape of cells that stays: values, places, a step as a condition; its steps are steps of the machine -/
abbrev mv_V : Type := Int32 ⊕ (Int64 ⊕ Nat)
abbrev mv_L : Type := List (Option mv_V)
abbrev mv_I : Type := Nat → Nat → Int32
abbrev mv_J : Type := Nat → Nat → Int64
abbrev mv_Q : Type := Option mv_V → mv_I → mv_J → Prop
abbrev mv_K : Type := Nat → mv_L → List mv_V → mv_I → mv_J → Prop
/-- a cell's shape: an object (its number, its fields: a cell, or an int), or a row (0 ints, 1 longs, 2 bytes, 3 booleans, 4 cells; its length) -/
abbrev mv_E : Type := (Nat × List (Option Nat)) ⊕ (Nat × Nat)
/-- an instruction, the place behind it, where it jumps to, its number -/
abbrev mv_R : Type := Instr × Nat × Nat × Int32 × Int64
def mv_val (ad : Nat → Nat) : mv_V → Value
  | .inl x => .int x
  | .inr (.inl x) => .long x
  | .inr (.inr k) => .ref (ad k)
def mv_cat : mv_V → Nat
  | .inl _ => 1
  | .inr (.inl _) => 2
  | .inr (.inr _) => 1
theorem mv_cat_val (ad : Nat → Nat) (v : mv_V) : (mv_val ad v).category = mv_cat v := by rcases v with x | x | x <;> rfl
def mv_nth {α : Type} : Nat → List α → Option α
  | _, [] => none
  | 0, a :: _ => some a
  | n + 1, _ :: t => mv_nth n t
theorem mv_nth_eq {α : Type} : ∀ (n : Nat) (l : List α), mv_nth n l = l[n]?
  | _, [] => by simp [mv_nth]
  | 0, a :: t => by simp [mv_nth]
  | n + 1, a :: t => by simp [mv_nth, mv_nth_eq n t]
/-! the world -/
def mv_fs (ad : Nat → Nat) (f : Nat → Int32) : Nat → List (Option Nat) → List Value
  | _, [] => []
  | j, some r :: t => .ref (ad r) :: mv_fs ad f (j + 1) t
  | j, none :: t => .int (f j) :: mv_fs ad f (j + 1) t
def mv_sc (j : Nat) : Nat := 8 + j
def mv_row (ad : Nat → Nat) (f : Nat → Int32) (g : Nat → Int64) : Nat → ((Nat → Int32) ⊕ (Nat → Int64) ⊕ (Nat → UInt32) ⊕ (Nat → UInt64) ⊕ (Nat → Option Nat))
  | 1 => .inr (.inl g)
  | 4 => .inr (.inr (.inr (.inr (fun j => some (ad (mv_sc j))))))
  | _ => .inl f
def mv_cell (cy : Nat → ClassId) (ad : Nat → Nat) (I : mv_I) (J : mv_J) (k : Nat) (e : mv_E) : va_E := match e with
  | .inl o => .inr (o.1, mv_fs ad (I k) 0 o.2)
  | .inr a => .inl (cy a.1, a.2, mv_row ad (I k) (J k) a.1)
def mv_wsg (cy : Nat → ClassId) (ad : Nat → Nat) (I : mv_I) (J : mv_J) : Nat → List mv_E → va_W
  | _, [] => []
  | k, e :: t => (ad k, mv_cell cy ad I J k e) :: mv_wsg cy ad I J (k + 1) t
abbrev mv_ws (cy : Nat → ClassId) (ad : Nat → Nat) (sh : List mv_E) (I : mv_I) (J : mv_J) : va_W := mv_wsg cy ad I J 0 sh
theorem mv_wsg_get (cy : Nat → ClassId) (ad : Nat → Nat) (I : mv_I) (J : mv_J) : ∀ (sh : List mv_E) (k j : Nat), (mv_wsg cy ad I J k sh)[j]? = (mv_nth j sh).map (fun e => (ad (k + j), mv_cell cy ad I J (k + j) e))
  | [], k, j => by simp [mv_wsg, mv_nth]
  | e :: t, k, 0 => by simp [mv_wsg, mv_nth]
  | e :: t, k, j + 1 => by
    have h := mv_wsg_get cy ad I J t (k + 1) j
    simp only [mv_wsg, mv_nth, List.getElem?_cons_succ]
    rw [h, show k + 1 + j = k + (j + 1) by omega]
theorem mv_ws_get {cy : Nat → ClassId} {ad : Nat → Nat} {I : mv_I} {J : mv_J} {sh : List mv_E} {a : Nat} {e : mv_E} (h : mv_nth a sh = some e) : (mv_ws cy ad sh I J)[a]? = some (ad a, mv_cell cy ad I J a e) := by
  rw [mv_wsg_get, h]
  simp
theorem mv_ws_set {cy : Nat → ClassId} {ad : Nat → Nat} {I I' : mv_I} {J J' : mv_J} {sh : List mv_E} {a : Nat} {e : mv_E} (h : mv_nth a sh = some e) (hI : ∀ j, j ≠ a → I' j = I j) (hJ : ∀ j, j ≠ a → J' j = J j) :
    (mv_ws cy ad sh I J).set a (ad a, mv_cell cy ad I' J' a e) = mv_ws cy ad sh I' J' := by
  apply List.ext_getElem?
  intro j
  rw [List.getElem?_set, mv_wsg_get, mv_wsg_get]
  by_cases hj : a = j
  · subst hj
    have hl : a < (mv_ws cy ad sh I J).length := (List.getElem?_eq_some_iff.mp (mv_ws_get (cy := cy) (ad := ad) (I := I) (J := J) h)).1
    rw [if_pos rfl, h]
    simp [hl]
  · rw [if_neg hj]
    cases mv_nth j sh with
    | none => rfl
    | some e =>
      have h1 := hI j (fun q => hj q.symm)
      have h2 := hJ j (fun q => hj q.symm)
      rcases e with o | o <;> simp [mv_cell, h1, h2]
theorem mv_ws_at {cy : Nat → ClassId} {ad : Nat → Nat} {I : mv_I} {J : mv_J} {sh : List mv_E} {j : Nat} {q : Nat × va_E} (h : (mv_ws cy ad sh I J)[j]? = some q) : q.1 = ad j ∧ ∃ e, mv_nth j sh = some e := by
  rw [mv_wsg_get] at h
  cases he : mv_nth j sh with
  | none => rw [he] at h; cases h
  | some e =>
    rw [he] at h
    have := (Option.some.inj h).symm
    subst this
    exact ⟨by simp, e, rfl⟩
theorem mv_D_any {cy : Nat → ClassId} {ad : Nat → Nat} {sh : List mv_E} {A : Nat → Prop} {I I' : mv_I} {J J' : mv_J} (h : va_D A (mv_ws cy ad sh I J)) : va_D A (mv_ws cy ad sh I' J') := by
  have key : ∀ (k : Nat) (q : Nat × va_E), (mv_ws cy ad sh I' J')[k]? = some q → ∃ q0, (mv_ws cy ad sh I J)[k]? = some q0 ∧ q0.1 = q.1 := by
    intro k q hq
    obtain ⟨h1, e, he⟩ := mv_ws_at hq
    exact ⟨_, mv_ws_get he, h1.symm⟩
  refine ⟨fun i j p q hp hq hpq => ?_, fun k q hq => ?_⟩
  · obtain ⟨p0, e1, e2⟩ := key i p hp
    obtain ⟨q0, e3, e4⟩ := key j q hq
    exact h.1 i j p0 q0 e1 e3 (by rw [e2, e4]; exact hpq)
  · obtain ⟨q0, e3, e4⟩ := key k q hq
    rw [← e4]
    exact h.2 k q0 e3
def mv_tys (cy : Nat → ClassId) : List (ClassId × FieldType) := [(cy 0, .int), (cy 1, .long), (cy 2, .byte), (cy 3, .boolean), (cy 4, .object "SaltPool$Sheet")]
/-! places and stacks, with what goes on behind them -/
def mv_asI (v : mv_V) (f : Int32 → Prop) : Prop := match v with
  | .inl x => f x
  | .inr _ => False
def mv_asL (v : mv_V) (f : Int64 → Prop) : Prop := match v with
  | .inr (.inl x) => f x
  | _ => False
def mv_asA (v : mv_V) (f : Nat → Prop) : Prop := match v with
  | .inr (.inr x) => f x
  | _ => False
theorem mv_asI_inv {v : mv_V} {f : Int32 → Prop} (h : mv_asI v f) : ∃ x, v = .inl x ∧ f x := by
  rcases v with x | x | x
  · exact ⟨x, rfl, h⟩
  · exact h.elim
  · exact h.elim
theorem mv_asL_inv {v : mv_V} {f : Int64 → Prop} (h : mv_asL v f) : ∃ x, v = .inr (.inl x) ∧ f x := by
  rcases v with x | x | x
  · exact h.elim
  · exact ⟨x, rfl, h⟩
  · exact h.elim
theorem mv_asA_inv {v : mv_V} {f : Nat → Prop} (h : mv_asA v f) : ∃ x, v = .inr (.inr x) ∧ f x := by
  rcases v with x | x | x
  · exact h.elim
  · exact h.elim
  · exact ⟨x, rfl, h⟩
def mv_pI (st : List mv_V) (f : Int32 → List mv_V → Prop) : Prop := match st with
  | v :: r => mv_asI v (fun x => f x r)
  | [] => False
def mv_pL (st : List mv_V) (f : Int64 → List mv_V → Prop) : Prop := match st with
  | v :: r => mv_asL v (fun x => f x r)
  | [] => False
def mv_pA (st : List mv_V) (f : Nat → List mv_V → Prop) : Prop := match st with
  | v :: r => mv_asA v (fun x => f x r)
  | [] => False
theorem mv_pI_inv {st : List mv_V} {f : Int32 → List mv_V → Prop} (h : mv_pI st f) : ∃ x r, st = .inl x :: r ∧ f x r := by
  cases st with
  | nil => exact h.elim
  | cons v r => obtain ⟨x, rfl, h⟩ := mv_asI_inv h; exact ⟨x, r, rfl, h⟩
theorem mv_pL_inv {st : List mv_V} {f : Int64 → List mv_V → Prop} (h : mv_pL st f) : ∃ x r, st = .inr (.inl x) :: r ∧ f x r := by
  cases st with
  | nil => exact h.elim
  | cons v r => obtain ⟨x, rfl, h⟩ := mv_asL_inv h; exact ⟨x, r, rfl, h⟩
theorem mv_pA_inv {st : List mv_V} {f : Nat → List mv_V → Prop} (h : mv_pA st f) : ∃ x r, st = .inr (.inr x) :: r ∧ f x r := by
  cases st with
  | nil => exact h.elim
  | cons v r => obtain ⟨x, rfl, h⟩ := mv_asA_inv h; exact ⟨x, r, rfl, h⟩
def mv_get : Nat → mv_L → (mv_V → Prop) → Prop
  | 0, some v :: _, f => f v
  | n + 1, _ :: t, f => mv_get n t f
  | _, _, _ => False
theorem mv_get_inv : ∀ {i : Nat} {ls : mv_L} {f : mv_V → Prop}, mv_get i ls f → ∃ v, mv_nth i ls = some (some v) ∧ f v
  | 0, [], _, h => h.elim
  | 0, none :: _, _, h => h.elim
  | 0, some v :: _, _, h => ⟨v, rfl, h⟩
  | _ + 1, [], _, h => h.elim
  | n + 1, _ :: t, _, h => mv_get_inv (i := n) (ls := t) h
def mv_set0 (v : mv_V) (t : mv_L) (f : mv_L → Prop) : Prop := match v with
  | .inl x => f (some (.inl x) :: t)
  | .inr (.inr x) => f (some (.inr (.inr x)) :: t)
  | .inr (.inl x) => (match t with
    | _ :: t' => f (some (.inr (.inl x)) :: none :: t')
    | [] => False)
def mv_dr (h : Option mv_V) (f : Option mv_V → Prop) : Prop := match h with
  | some (.inr (.inl _)) => f none
  | some (.inl x) => f (some (.inl x))
  | some (.inr (.inr x)) => f (some (.inr (.inr x)))
  | none => f none
def mv_set : Nat → mv_V → mv_L → (mv_L → Prop) → Prop
  | 0, v, _ :: t, f => mv_set0 v t f
  | 1, v, h :: t, f => mv_set 0 v t (fun t' => mv_dr h (fun h' => f (h' :: t')))
  | n + 2, v, h :: t, f => mv_set (n + 1) v t (fun t' => f (h :: t'))
  | _, _, [], _ => False
theorem mv_dr_inv {h : Option mv_V} {f : Option mv_V → Prop} (k : mv_dr h f) : ∃ h', f h' ∧ ∀ w, h' = some w → h = some w ∧ mv_cat w ≠ 2 := by
  rcases h with _ | x | x | x
  · exact ⟨none, k, fun w e => by cases e⟩
  · exact ⟨_, k, fun w e => by cases e; exact ⟨rfl, fun q => by cases q⟩⟩
  · exact ⟨none, k, fun w e => by cases e⟩
  · exact ⟨_, k, fun w e => by cases e; exact ⟨rfl, fun q => by cases q⟩⟩
def mv_setR (i : Nat) (v : mv_V) (ls ls' : mv_L) : Prop := ls'.length = ls.length ∧ i < ls.length ∧ (mv_cat v = 2 → i + 1 < ls.length) ∧ ∀ j w, mv_nth j ls' = some (some w) → (j = i ∧ w = v) ∨ (mv_nth j ls = some (some w) ∧ j ≠ i ∧ ¬ (j + 1 = i ∧ mv_cat w = 2) ∧ ¬ (mv_cat v = 2 ∧ j = i + 1))
theorem mv_set0_inv {v : mv_V} {h : Option mv_V} {t : mv_L} {f : mv_L → Prop} (k : mv_set0 v t f) : ∃ ls', f ls' ∧ mv_setR 0 v (h :: t) ls' := by
  rcases v with x | x | x
  · refine ⟨_, k, rfl, by simp, fun e => (by cases e), fun j w hj => ?_⟩
    cases j with
    | zero => exact Or.inl ⟨rfl, (Option.some.inj (Option.some.inj hj)).symm⟩
    | succ j => exact Or.inr ⟨hj, by omega, by omega, fun e => by cases e.1⟩
  · cases t with
    | nil => exact k.elim
    | cons h2 t =>
      refine ⟨_, k, rfl, by simp, fun _ => by simp, fun j w hj => ?_⟩
      match j, hj with
      | 0, hj => exact Or.inl ⟨rfl, (Option.some.inj (Option.some.inj hj)).symm⟩
      | 1, hj => cases hj
      | j + 2, hj => exact Or.inr ⟨hj, by omega, by omega, by omega⟩
  · refine ⟨_, k, rfl, by simp, fun e => (by cases e), fun j w hj => ?_⟩
    cases j with
    | zero => exact Or.inl ⟨rfl, (Option.some.inj (Option.some.inj hj)).symm⟩
    | succ j => exact Or.inr ⟨hj, by omega, by omega, fun e => by cases e.1⟩
theorem mv_set_inv : ∀ {i : Nat} {v : mv_V} {ls : mv_L} {f : mv_L → Prop}, mv_set i v ls f → ∃ ls', f ls' ∧ mv_setR i v ls ls'
  | 0, v, [], f, k => k.elim
  | 0, v, h :: t, f, k => mv_set0_inv k
  | 1, v, [], f, k => k.elim
  | 1, v, h :: t, f, k => by
    obtain ⟨t', k, e1, e2, e3, e4⟩ := mv_set_inv (i := 0) (v := v) (ls := t) k
    obtain ⟨h', k, eh⟩ := mv_dr_inv k
    refine ⟨_, k, by simp [e1], by simp; omega, fun c => by have := e3 c; simp; omega, fun j w hj => ?_⟩
    cases j with
    | zero =>
      have q := eh w (Option.some.inj hj)
      exact Or.inr ⟨by rw [q.1]; rfl, by omega, fun z => q.2 z.2, by omega⟩
    | succ j =>
      rcases e4 j w hj with ⟨z1, z2⟩ | ⟨z1, z2, z3, z4⟩
      · exact Or.inl ⟨by omega, z2⟩
      · exact Or.inr ⟨z1, by omega, fun z => by omega, fun z => z4 ⟨z.1, by omega⟩⟩
  | n + 2, v, [], f, k => k.elim
  | n + 2, v, h :: t, f, k => by
    obtain ⟨t', k, e1, e2, e3, e4⟩ := mv_set_inv (i := n + 1) (v := v) (ls := t) k
    refine ⟨_, k, by simp [e1], by simp; omega, fun c => by have := e3 c; simp; omega, fun j w hj => ?_⟩
    cases j with
    | zero => exact Or.inr ⟨hj, by omega, by omega, by omega⟩
    | succ j =>
      rcases e4 j w hj with ⟨z1, z2⟩ | ⟨z1, z2, z3, z4⟩
      · exact Or.inl ⟨by omega, z2⟩
      · exact Or.inr ⟨z1, by omega, fun z => z3 ⟨by omega, z.2⟩, fun z => z4 ⟨z.1, by omega⟩⟩
def mv_prs (ad : Nat → Nat) : Nat → mv_L → List (Nat × Value)
  | _, [] => []
  | j, none :: t => mv_prs ad (j + 1) t
  | j, some v :: t => (j, mv_val ad v) :: mv_prs ad (j + 1) t
theorem mv_prs_in (ad : Nat → Nat) : ∀ (ls : mv_L) (k j : Nat) (w : mv_V), mv_nth j ls = some (some w) → (k + j, mv_val ad w) ∈ mv_prs ad k ls
  | [], _, _, _, h => by simp [mv_nth] at h
  | none :: t, k, 0, w, h => by cases h
  | some v :: t, k, 0, w, h => by
    have : v = w := Option.some.inj (Option.some.inj h)
    subst this
    exact List.mem_cons_self
  | none :: t, k, j + 1, w, h => by
    have := mv_prs_in ad t (k + 1) j w h
    rw [show k + (j + 1) = k + 1 + j by omega]
    exact this
  | some v :: t, k, j + 1, w, h => by
    have := mv_prs_in ad t (k + 1) j w h
    rw [show k + (j + 1) = k + 1 + j by omega]
    exact List.mem_cons_of_mem _ this
theorem mv_prs_of (ad : Nat → Nat) : ∀ (ls : mv_L) (k : Nat) (q : Nat × Value), q ∈ mv_prs ad k ls → ∃ j w, mv_nth j ls = some (some w) ∧ q = (k + j, mv_val ad w)
  | [], _, _, h => by cases h
  | none :: t, k, q, h => by
    obtain ⟨j, w, h1, h2⟩ := mv_prs_of ad t (k + 1) q h
    exact ⟨j + 1, w, h1, by rw [h2, show k + 1 + j = k + (j + 1) by omega]⟩
  | some v :: t, k, q, h => by
    rcases List.mem_cons.mp h with h | h
    · exact ⟨0, v, rfl, h⟩
    · obtain ⟨j, w, h1, h2⟩ := mv_prs_of ad t (k + 1) q h
      exact ⟨j + 1, w, h1, by rw [h2, show k + 1 + j = k + (j + 1) by omega]⟩
def mv_LS (ad : Nat → Nat) (ls : mv_L) (arr : Array Slot) : Prop := arr.size = ls.length ∧ lv_wf arr ∧ ∀ j w, mv_nth j ls = some (some w) → arr[j]? = some (.val (mv_val ad w))
theorem mv_LS.has {ad : Nat → Nat} {ls : mv_L} {arr : Array Slot} (h : mv_LS ad ls arr) : lv_has arr ls.length (mv_prs ad 0 ls) := by
  refine ⟨h.1, h.2.1, fun q hq => ?_⟩
  obtain ⟨j, w, h1, rfl⟩ := mv_prs_of ad ls 0 q hq
  rw [show (0 + j, mv_val ad w).1 = j by simp]
  exact h.2.2 j w h1
theorem mv_LS.set1 {ad : Nat → Nat} {ls ls' : mv_L} {i : Nat} {v : mv_V} (hc : mv_cat v = 1) (hr : mv_setR i v ls ls') {arr' : Array Slot} (h : lv_has arr' ls.length ((i, mv_val ad v) :: (mv_prs ad 0 ls).filter (fun q => !(q.1 == i) && !(q.1 + 1 == i && q.2.category == 2)))) : mv_LS ad ls' arr' := by
  refine ⟨by rw [hr.1]; exact h.1, h.2.1, fun j w hj => ?_⟩
  rcases hr.2.2.2 j w hj with ⟨rfl, rfl⟩ | ⟨h1, h2, h3, -⟩
  · exact h.2.2 _ List.mem_cons_self
  · refine h.2.2 (j, mv_val ad w) (List.mem_cons_of_mem _ (List.mem_filter.mpr ⟨?_, ?_⟩))
    · have := mv_prs_in ad ls 0 j w h1
      rwa [Nat.zero_add] at this
    · simp only [mv_cat_val, Bool.and_eq_true, Bool.not_eq_true', beq_eq_false_iff_ne, Bool.and_eq_false_imp, beq_iff_eq]
      exact ⟨h2, fun e c => h3 ⟨e, c⟩⟩
theorem mv_LS.set2 {ad : Nat → Nat} {ls ls' : mv_L} {i : Nat} {v : mv_V} (hc : mv_cat v = 2) (hr : mv_setR i v ls ls') {arr' : Array Slot} (h : lv_has arr' ls.length ((i, mv_val ad v) :: (mv_prs ad 0 ls).filter (fun q => !(q.1 == i) && (!(q.1 == i + 1) && !(q.1 + 1 == i && q.2.category == 2))))) : mv_LS ad ls' arr' := by
  refine ⟨by rw [hr.1]; exact h.1, h.2.1, fun j w hj => ?_⟩
  rcases hr.2.2.2 j w hj with ⟨rfl, rfl⟩ | ⟨h1, h2, h3, h4⟩
  · exact h.2.2 _ List.mem_cons_self
  · refine h.2.2 (j, mv_val ad w) (List.mem_cons_of_mem _ (List.mem_filter.mpr ⟨?_, ?_⟩))
    · have := mv_prs_in ad ls 0 j w h1
      rwa [Nat.zero_add] at this
    · simp only [mv_cat_val, Bool.and_eq_true, Bool.not_eq_true', beq_eq_false_iff_ne, Bool.and_eq_false_imp, beq_iff_eq]
      exact ⟨h2, fun e => h4 ⟨hc, e⟩, fun e c => h3 ⟨e, c⟩⟩
/-! a step -/
def mv_if (c : Jvm.ClassFile.Cond) (x : Int32) (A B : Prop) : Prop := match c with
  | .eq => (x = 0 → A) ∧ (¬ x = 0 → B)
  | .ne => (¬ x = 0 → A) ∧ (x = 0 → B)
  | .lt => (x < 0 → A) ∧ (¬ x < 0 → B)
  | .ge => (0 ≤ x → A) ∧ (¬ 0 ≤ x → B)
  | .gt => (0 < x → A) ∧ (¬ 0 < x → B)
  | .le => (x ≤ 0 → A) ∧ (¬ x ≤ 0 → B)
def mv_ic (c : Jvm.ClassFile.Cond) (x y : Int32) (A B : Prop) : Prop := match c with
  | .eq => (x = y → A) ∧ (¬ x = y → B)
  | .ne => (¬ x = y → A) ∧ (x = y → B)
  | .lt => (x < y → A) ∧ (¬ x < y → B)
  | .ge => (y ≤ x → A) ∧ (¬ y ≤ x → B)
  | .gt => (y < x → A) ∧ (¬ y < x → B)
  | .le => (x ≤ y → A) ∧ (¬ x ≤ y → B)
def mv_sw (x : Int32) (f : Nat → Prop) (pc : Nat) : Int → List Int → Prop
  | _, [] => True
  | lo, o :: os => (x.toInt = lo → f (Int.toNat ((pc : Int) + o))) ∧ mv_sw x f pc (lo + 1) os
theorem mv_sw_at {x : Int32} {f : Nat → Prop} {pc : Nat} : ∀ {lo : Int} {os : List Int}, mv_sw x f pc lo os → ∀ (j : Nat) (o : Int), os[j]? = some o → x.toInt = lo + (j : Int) → f (Int.toNat ((pc : Int) + o))
  | _, [], _, j, o, h, _ => by simp at h
  | lo, o' :: os, k, 0, o, h, e => by
    have : o' = o := by simpa using h
    subst this
    exact k.1 (by simpa using e)
  | lo, o' :: os, k, j + 1, o, h, e => mv_sw_at k.2 j o (by simpa using h) (by rw [e]; omega)
def mv_obj (e : mv_E) (ci fi : Nat) (fR : Nat → Prop) (fI : Prop) : Prop := match e with
  | .inl o => bif Nat.beq ci o.1 then (match mv_nth fi o.2 with
    | some (some r) => fR r
    | some none => fI
    | none => False) else False
  | .inr _ => False
def mv_is (e : mv_E) (ci : Nat) (P : Prop) : Prop := match e with
  | .inl o => bif Nat.beq ci o.1 then P else False
  | .inr _ => False
def mv_arr (e : mv_E) (f : Nat → Nat → Prop) : Prop := match e with
  | .inr (t, n) => f t n
  | .inl _ => False
def mv_at (sh : List mv_E) (a : Nat) (f : mv_E → Prop) : Prop := match mv_nth a sh with
  | some e => f e
  | none => False
def mv_pop : Nat → List mv_V → List mv_V → (List mv_V → List mv_V → Prop) → Prop
  | 0, st, acc, f => f acc st
  | n + 1, v :: st, acc, f => mv_pop n st (v :: acc) f
  | _ + 1, [], _, _ => False
def mv_cs : List mv_V → Nat
  | [] => 0
  | v :: t => mv_cat v + mv_cs t
def mv_hd (l : List mv_V) (f : Nat → Prop) : Prop := match l with
  | v :: _ => mv_asA v f
  | [] => False
/-- which int fields are booleans -/
def mv_isZ (ci fi : Nat) : Bool := (Nat.beq ci 2 && Nat.beq fi 4) || (Nat.beq ci 4 && Nat.beq fi 5) || (Nat.beq ci 8 && Nat.beq fi 37)
def mv_back (k : mv_K) (nx : Nat) (ls : mv_L) (st : List mv_V) : mv_Q := fun r I J => match r with
  | some v => k nx ls (v :: st) I J
  | none => k nx ls st I J
def mv_static (call : Nat → List mv_V → mv_I → mv_J → mv_Q → Prop) (sh : List mv_E) (mid na nx : Nat) (ls : mv_L) (st : List mv_V) (I : mv_I) (J : mv_J) (k : mv_K) : Prop := match mid with
  | 1000 => mv_pI st fun y r => mv_pI r fun x r => bif Nat.ble (mv_cs r) 8 then k nx ls (.inl (if x < y then y else x) :: r) I J else False
  | 1001 => mv_pI st fun y r => mv_pI r fun x r => bif Nat.ble (mv_cs r) 8 then k nx ls (.inl (if y < x then y else x) :: r) I J else False
  | 1002 => mv_pI st fun n r => mv_pI r fun dp r => mv_pA r fun a r => mv_pI r fun sp r => mv_pA r fun a0 r => bif Nat.ble (mv_cs r) 8 then mv_at sh a0 (fun e0 => mv_arr e0 fun t0 n0 => mv_at sh a (fun e => mv_arr e fun t1 n1 => bif Nat.beq t0 0 && Nat.beq t1 0 then (¬ sp < 0 ∧ ¬ dp < 0 ∧ ¬ n < 0 ∧ sp.toNatClampNeg + n.toNatClampNeg ≤ n0 ∧ dp.toNatClampNeg + n.toNatClampNeg ≤ n1 ∧ k nx ls r (va_up I a (va_cpy (I a0) (I a) sp.toNatClampNeg dp.toNatClampNeg n.toNatClampNeg)) J) else False)) else False
  | mid => mv_pop na st [] fun as r => bif Nat.ble (mv_cs r) 8 then call mid as I J (mv_back k nx ls r) else False
/-- what a method gives back: 0 nothing, 1 an int, 2 a boolean -/
def mv_rq (rb : Nat) (x : Int32) (P : Prop) : Prop := match rb with
  | 1 => P
  | 2 => (x = 0 ∨ x = 1) ∧ P
  | _ => False
def mv_rv (rb : Nat) (P : Prop) : Prop := match rb with
  | 0 => P
  | _ => False
def mv_step (call : Nat → List mv_V → mv_I → mv_J → mv_Q → Prop) (sh : List mv_E) (X : Option (Nat × (Nat → Int32))) (fl : Nat → Option (Nat × Nat)) (cs : Nat → Option (Nat × Nat × Nat)) (rb : Nat) (pc : Nat) (i : Instr) (nx tg : Nat) (cst : Int32) (cl : Int64) (ls : mv_L) (st : List mv_V) (I : mv_I) (J : mv_J) (k : mv_K) (Q : mv_Q) : Prop :=
  match i with
  | .iload_n n => mv_get n.val ls fun v => mv_asI v fun x => k nx ls (.inl x :: st) I J
  | .iload n => mv_get n ls fun v => mv_asI v fun x => k nx ls (.inl x :: st) I J
  | .lload_n n => mv_get n.val ls fun v => mv_asL v fun x => k nx ls (.inr (.inl x) :: st) I J
  | .lload n => mv_get n ls fun v => mv_asL v fun x => k nx ls (.inr (.inl x) :: st) I J
  | .aload_n n => mv_get n.val ls fun v => mv_asA v fun x => k nx ls (.inr (.inr x) :: st) I J
  | .aload n => mv_get n ls fun v => mv_asA v fun x => k nx ls (.inr (.inr x) :: st) I J
  | .istore_n n => mv_pI st fun x r => mv_set n.val (.inl x) ls fun ls => k nx ls r I J
  | .istore n => mv_pI st fun x r => mv_set n (.inl x) ls fun ls => k nx ls r I J
  | .lstore_n n => mv_pL st fun x r => mv_set n.val (.inr (.inl x)) ls fun ls => k nx ls r I J
  | .lstore n => mv_pL st fun x r => mv_set n (.inr (.inl x)) ls fun ls => k nx ls r I J
  | .astore_n n => mv_pA st fun x r => mv_set n.val (.inr (.inr x)) ls fun ls => k nx ls r I J
  | .astore n => mv_pA st fun x r => mv_set n (.inr (.inr x)) ls fun ls => k nx ls r I J
  | .iinc n _ => mv_get n ls fun v => mv_asI v fun x => mv_set n (.inl (x + cst)) ls fun ls => k nx ls st I J
  | .iconst _ => k nx ls (.inl cst :: st) I J
  | .bipush _ => k nx ls (.inl cst :: st) I J
  | .sipush _ => k nx ls (.inl cst :: st) I J
  | .ldc _ => k nx ls (.inl cst :: st) I J
  | .ldc_w _ => k nx ls (.inl cst :: st) I J
  | .lconst _ => k nx ls (.inr (.inl cl) :: st) I J
  | .ldc2_w _ => k nx ls (.inr (.inl cl) :: st) I J
  | .iadd => mv_pI st fun y r => mv_pI r fun x r => k nx ls (.inl (x + y) :: r) I J
  | .isub => mv_pI st fun y r => mv_pI r fun x r => k nx ls (.inl (x - y) :: r) I J
  | .imul => mv_pI st fun y r => mv_pI r fun x r => k nx ls (.inl (x * y) :: r) I J
  | .iand => mv_pI st fun y r => mv_pI r fun x r => k nx ls (.inl (x &&& y) :: r) I J
  | .ior => mv_pI st fun y r => mv_pI r fun x r => k nx ls (.inl (x ||| y) :: r) I J
  | .ixor => mv_pI st fun y r => mv_pI r fun x r => k nx ls (.inl (x ^^^ y) :: r) I J
  | .idiv => mv_pI st fun y r => mv_pI r fun x r => ¬ y = 0 ∧ k nx ls (.inl (x / y) :: r) I J
  | .irem => mv_pI st fun y r => mv_pI r fun x r => ¬ y = 0 ∧ k nx ls (.inl (x - x / y * y) :: r) I J
  | .ishl => mv_pI st fun y r => mv_pI r fun x r => k nx ls (.inl (x <<< (y &&& 31)) :: r) I J
  | .ishr => mv_pI st fun y r => mv_pI r fun x r => k nx ls (.inl (x >>> (y &&& 31)) :: r) I J
  | .iushr => mv_pI st fun y r => mv_pI r fun x r => k nx ls (.inl ((x.toUInt32 >>> (y.toUInt32 &&& Int32.toUInt32 31)).toInt32) :: r) I J
  | .ladd => mv_pL st fun y r => mv_pL r fun x r => k nx ls (.inr (.inl (x + y)) :: r) I J
  | .lsub => mv_pL st fun y r => mv_pL r fun x r => k nx ls (.inr (.inl (x - y)) :: r) I J
  | .lmul => mv_pL st fun y r => mv_pL r fun x r => k nx ls (.inr (.inl (x * y)) :: r) I J
  | .land => mv_pL st fun y r => mv_pL r fun x r => k nx ls (.inr (.inl (x &&& y)) :: r) I J
  | .lor => mv_pL st fun y r => mv_pL r fun x r => k nx ls (.inr (.inl (x ||| y)) :: r) I J
  | .ldiv => mv_pL st fun y r => mv_pL r fun x r => ¬ y = 0 ∧ k nx ls (.inr (.inl (x / y)) :: r) I J
  | .lrem => mv_pL st fun y r => mv_pL r fun x r => ¬ y = 0 ∧ k nx ls (.inr (.inl (x - x / y * y)) :: r) I J
  | .lcmp => mv_pL st fun y r => mv_pL r fun x r => k nx ls (.inl (lg_cmp x y) :: r) I J
  | .lshl => mv_pI st fun y r => mv_pL r fun x r => k nx ls (.inr (.inl (x <<< (y.toInt64 &&& 63))) :: r) I J
  | .lshr => mv_pI st fun y r => mv_pL r fun x r => k nx ls (.inr (.inl (x >>> (y.toInt64 &&& 63))) :: r) I J
  | .i2l => mv_pI st fun x r => k nx ls (.inr (.inl x.toInt64) :: r) I J
  | .l2i => mv_pL st fun x r => k nx ls (.inl x.toInt32 :: r) I J
  | .i2b => mv_pI st fun x r => k nx ls (.inl x.toInt8.toInt32 :: r) I J
  | .i2s => mv_pI st fun x r => k nx ls (.inl x.toInt16.toInt32 :: r) I J
  | .dup => (match st with
    | .inl x :: r => k nx ls (.inl x :: .inl x :: r) I J
    | .inr (.inr x) :: r => k nx ls (.inr (.inr x) :: .inr (.inr x) :: r) I J
    | _ => False)
  | .dup2 => mv_pI st fun y r => mv_pA r fun x r => k nx ls (.inl y :: .inr (.inr x) :: .inl y :: .inr (.inr x) :: r) I J
  | .pop => mv_pI st fun _ r => k nx ls r I J
  | .goto _ => k tg ls st I J
  | .ifCond c _ => mv_pI st fun x r => mv_if c x (k tg ls r I J) (k nx ls r I J)
  | .if_icmp c _ => mv_pI st fun y r => mv_pI r fun x r => mv_ic c x y (k tg ls r I J) (k nx ls r I J)
  | .tableswitch _ lo hi offs => mv_pI st fun x r => (x.toInt < lo ∨ hi < x.toInt → k tg ls r I J) ∧ mv_sw x (fun t => k t ls r I J) pc lo offs.toList
  | .getfield idx => mv_pA st fun a r => (match fl idx with
    | some (ci, fi) => mv_at sh a fun e => mv_obj e ci fi (fun q => k nx ls (.inr (.inr q) :: r) I J) (k nx ls (.inl (I a fi) :: r) I J)
    | none => False)
  | .putfield idx => mv_pI st fun v r => mv_pA r fun a r => (match fl idx with
    | some (ci, fi) => mv_at sh a fun e => mv_obj e ci fi (fun _ => False) (bif mv_isZ ci fi then (v = 0 ∨ v = 1) ∧ k nx ls r (va_up I a (upd (I a) fi v)) J else k nx ls r (va_up I a (upd (I a) fi v)) J)
    | none => False)
  | .iaload => mv_pI st fun j r => mv_pA r fun a r => (match mv_nth a sh with
    | some e => mv_arr e fun ty n => bif Nat.beq ty 0 then vp_in j n ∧ k nx ls (.inl (I a j.toNatClampNeg) :: r) I J else False
    | none => (match X with
      | some (L, xs) => bif Nat.beq a 999 then vp_in j L ∧ k nx ls (.inl (xs j.toNatClampNeg) :: r) I J else False
      | none => False))
  | .baload => mv_pI st fun j r => mv_pA r fun a r => mv_at sh a fun e => mv_arr e fun ty n => bif Nat.beq ty 2 || Nat.beq ty 3 then vp_in j n ∧ k nx ls (.inl (I a j.toNatClampNeg) :: r) I J else False
  | .laload => mv_pI st fun j r => mv_pA r fun a r => mv_at sh a fun e => mv_arr e fun ty n => bif Nat.beq ty 1 then vp_in j n ∧ k nx ls (.inr (.inl (J a j.toNatClampNeg)) :: r) I J else False
  | .aaload => mv_pI st fun j r => mv_pA r fun a r => mv_at sh a fun e => mv_arr e fun ty n => bif Nat.beq ty 4 && Nat.beq n 4 then vp_in j 4 ∧ (j = 0 → k nx ls (.inr (.inr 8) :: r) I J) ∧ (j = 1 → k nx ls (.inr (.inr 9) :: r) I J) ∧ (j = 2 → k nx ls (.inr (.inr 10) :: r) I J) ∧ (j = 3 → k nx ls (.inr (.inr 11) :: r) I J) else False
  | .arraylength => mv_pA st fun a r => (match mv_nth a sh with
    | some e => mv_arr e fun ty n => bif Nat.blt ty 5 then k nx ls (.inl (nI n) :: r) I J else False
    | none => (match X with
      | some (L, _) => bif Nat.beq a 999 then k nx ls (.inl (nI L) :: r) I J else False
      | none => False))
  | .iastore => mv_pI st fun v r => mv_pI r fun j r => mv_pA r fun a r => mv_at sh a fun e => mv_arr e fun ty n => bif Nat.beq ty 0 then vp_in j n ∧ k nx ls r (va_up I a (upd (I a) j.toNatClampNeg v)) J else False
  | .bastore => mv_pI st fun v r => mv_pI r fun j r => mv_pA r fun a r => mv_at sh a fun e => mv_arr e fun ty n => bif Nat.beq ty 2 then vp_in j n ∧ k nx ls r (va_up I a (upd (I a) j.toNatClampNeg (vp_nar .byte v))) J else bif Nat.beq ty 3 then vp_in j n ∧ k nx ls r (va_up I a (upd (I a) j.toNatClampNeg (vp_nar .boolean v))) J else False
  | .lastore => mv_pL st fun v r => mv_pI r fun j r => mv_pA r fun a r => mv_at sh a fun e => mv_arr e fun ty n => bif Nat.beq ty 1 then vp_in j n ∧ k nx ls r I (va_up J a (vp_updL (J a) j.toNatClampNeg v)) else False
  | .invokestatic idx => (match cs idx with
    | some (mid, na, ci) => bif Nat.ble 100 ci then mv_static call sh mid na nx ls st I J k else False
    | none => False)
  | .invokevirtual idx => (match cs idx with
    | some (mid, na, ci) => bif Nat.ble 100 ci then False else mv_pop na st [] fun as r => mv_hd as fun a => mv_at sh a fun e => mv_is e ci (bif Nat.ble (mv_cs r) 8 then call mid as I J (mv_back k nx ls r) else False)
    | none => False)
  | .ireturn => mv_pI st fun x r => (match r with
    | [] => mv_rq rb x (Q (some (.inl x)) I J)
    | _ :: _ => False)
  | .return_ => (match st with
    | [] => mv_rv rb (Q none I J)
    | _ :: _ => False)
  | _ => False
/-- a row that is the head of a loop: a load with 1 where others have the place that they jump to -/
def mv_hdr (r : Option mv_R) : Bool := match r with
  | some (.iload_n _, _, t, _, _) => Nat.beq t 1
  | some (.iload _, _, t, _, _) => Nat.beq t 1
  | some (.aload_n _, _, t, _, _) => Nat.beq t 1
  | some (.aload _, _, t, _, _) => Nat.beq t 1
  | some (.lload_n _, _, t, _, _) => Nat.beq t 1
  | some (.lload _, _, t, _, _) => Nat.beq t 1
  | _ => false
def mv_cut (b : Bool) (P : Prop) : Prop := bif b then P ∧ True else P
theorem mv_cut_inv {b : Bool} {P : Prop} (h : mv_cut b P) : P := by
  cases b
  · exact h
  · exact h.1
def mv_wp (call : Nat → List mv_V → mv_I → mv_J → mv_Q → Prop) (sh : List mv_E) (X : Option (Nat × (Nat → Int32))) (tb : Nat → Option mv_R) (fl : Nat → Option (Nat × Nat)) (cs : Nat → Option (Nat × Nat × Nat)) (rb : Nat) (stop : mv_K) (Q : mv_Q) : Nat → mv_K
  | 0 => fun _ _ _ _ _ => False
  | n + 1 => fun pc ls st I J => match tb pc with
    | some (i, nx, tg, cst, cl) => mv_step call sh X fl cs rb pc i nx tg cst cl ls st I J (fun pc ls st I J => mv_cut (mv_hdr (tb pc)) (mv_wp call sh X tb fl cs rb stop Q n pc ls st I J)) Q
    | none => stop pc ls st I J
def mv_nn : Nat → (mv_L → Prop) → Prop
  | 0, f => f []
  | n + 1, f => mv_nn n (fun t => f (none :: t))
def mv_ini : List mv_V → Nat → (mv_L → Prop) → Prop
  | [], n, f => mv_nn n f
  | .inl x :: t, n + 1, f => mv_ini t n (fun l => f (some (.inl x) :: l))
  | .inr (.inr x) :: t, n + 1, f => mv_ini t n (fun l => f (some (.inr (.inr x)) :: l))
  | .inr (.inl x) :: t, n + 2, f => mv_ini t n (fun l => f (some (.inr (.inl x)) :: none :: l))
  | _, _, _ => False
/-- a method: its name, code, places, answer, owner, instructions, fields, calls -/
abbrev mv_N : Type := MethodName × ByteArray × Nat × Option FieldType × String × (Nat → Option mv_R) × (Nat → Option (Nat × Nat)) × (Nat → Option (Nat × Nat × Nat))
def mv_rk (ret : Option FieldType) : Nat := match ret with
  | none => 0
  | some .int => 1
  | some .boolean => 2
  | some _ => 3
def mv_wpM (tab : List mv_N) (sh : List mv_E) : Nat → Nat → List mv_V → mv_I → mv_J → mv_Q → Prop
  | 0 => fun _ _ _ _ _ => False
  | d + 1 => fun mid as I J Q => match mv_nth mid tab with
    | some (_, _, maxL, ret, _, tb, fl, cs) => mv_ini as maxL (fun ls => ∃ n, mv_wp (mv_wpM tab sh d) sh none tb fl cs (mv_rk ret) (fun _ _ _ _ _ => False) Q n 0 ls [] I J)
    | none => False
