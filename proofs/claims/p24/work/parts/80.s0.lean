theorem mv_asI_2 {v : mv_V} {f g h : Int32 → Prop} (a : mv_asI v f) (b : mv_asI v g) (k : ∀ x, f x → g x → h x) : mv_asI v h := by
  rcases v with x | x | x
  · exact k x a b
  · exact False.elim a
  · exact False.elim a
theorem mv_pI_2 {st : List mv_V} {f g h : Int32 → List mv_V → Prop} (a : mv_pI st f) (b : mv_pI st g) (k : ∀ x r, f x r → g x r → h x r) : mv_pI st h := by
  cases st with
  | nil => exact False.elim a
  | cons v r => exact mv_asI_2 a b (fun x p q => k x r p q)
theorem mv_asL_2 {v : mv_V} {f g h : Int64 → Prop} (a : mv_asL v f) (b : mv_asL v g) (k : ∀ x, f x → g x → h x) : mv_asL v h := by
  rcases v with x | x | x
  · exact False.elim a
  · exact k x a b
  · exact False.elim a
theorem mv_pL_2 {st : List mv_V} {f g h : Int64 → List mv_V → Prop} (a : mv_pL st f) (b : mv_pL st g) (k : ∀ x r, f x r → g x r → h x r) : mv_pL st h := by
  cases st with
  | nil => exact False.elim a
  | cons v r => exact mv_asL_2 a b (fun x p q => k x r p q)
theorem mv_asA_2 {v : mv_V} {f g h : Nat → Prop} (a : mv_asA v f) (b : mv_asA v g) (k : ∀ x, f x → g x → h x) : mv_asA v h := by
  rcases v with x | x | x
  · exact False.elim a
  · exact False.elim a
  · exact k x a b
theorem mv_pA_2 {st : List mv_V} {f g h : Nat → List mv_V → Prop} (a : mv_pA st f) (b : mv_pA st g) (k : ∀ x r, f x r → g x r → h x r) : mv_pA st h := by
  cases st with
  | nil => exact False.elim a
  | cons v r => exact mv_asA_2 a b (fun x p q => k x r p q)
theorem mv_get_2 : ∀ {n : Nat} {ls : mv_L} {f g h : mv_V → Prop}, mv_get n ls f → mv_get n ls g → (∀ v, f v → g v → h v) → mv_get n ls h
  | 0, [], _, _, _, a, _, _ => False.elim a
  | 0, none :: _, _, _, _, a, _, _ => False.elim a
  | 0, some v :: _, _, _, _, a, b, k => k v a b
  | _ + 1, [], _, _, _, a, _, _ => False.elim a
  | n + 1, _ :: t, _, _, _, a, b, k => mv_get_2 (n := n) (ls := t) a b k
theorem mv_set0_2 {v : mv_V} {t : mv_L} {f g h : mv_L → Prop} (a : mv_set0 v t f) (b : mv_set0 v t g) (k : ∀ l, f l → g l → h l) : mv_set0 v t h := by
  rcases v with x | x | x
  · exact k _ a b
  · cases t with
    | nil => exact False.elim a
    | cons y t => exact k _ a b
  · exact k _ a b
theorem mv_dr_2 {v : Option mv_V} {f g h : Option mv_V → Prop} (a : mv_dr v f) (b : mv_dr v g) (k : ∀ l, f l → g l → h l) : mv_dr v h := by
  rcases v with _ | x | x | x
  · exact k _ a b
  · exact k _ a b
  · exact k _ a b
  · exact k _ a b
theorem mv_set_2 : ∀ {n : Nat} {v : mv_V} {ls : mv_L} {f g h : mv_L → Prop}, mv_set n v ls f → mv_set n v ls g → (∀ l, f l → g l → h l) → mv_set n v ls h
  | 0, _, [], _, _, _, a, _, _ => False.elim a
  | 1, _, [], _, _, _, a, _, _ => False.elim a
  | _ + 2, _, [], _, _, _, a, _, _ => False.elim a
  | 0, v, _ :: t, _, _, _, a, b, k => mv_set0_2 (v := v) (t := t) a b k
  | 1, v, _ :: t, _, _, _, a, b, k => mv_set_2 (n := 0) (v := v) (ls := t) a b (fun _ p q => mv_dr_2 p q (fun _ p q => k _ p q))
  | n + 2, v, _ :: t, _, _, _, a, b, k => mv_set_2 (n := n + 1) (v := v) (ls := t) a b (fun _ p q => k _ p q)
theorem mv_if_2 {c : Jvm.ClassFile.Cond} {x : Int32} {A B A' B' A2 B2 : Prop} (a : mv_if c x A B) (b : mv_if c x A' B') (hA : A → A' → A2) (hB : B → B' → B2) : mv_if c x A2 B2 := by
  cases c <;> exact ⟨fun z => hA (a.1 z) (b.1 z), fun z => hB (a.2 z) (b.2 z)⟩
theorem mv_ic_2 {c : Jvm.ClassFile.Cond} {x y : Int32} {A B A' B' A2 B2 : Prop} (a : mv_ic c x y A B) (b : mv_ic c x y A' B') (hA : A → A' → A2) (hB : B → B' → B2) : mv_ic c x y A2 B2 := by
  cases c <;> exact ⟨fun z => hA (a.1 z) (b.1 z), fun z => hB (a.2 z) (b.2 z)⟩
theorem mv_sw_2 {x : Int32} {f g h : Nat → Prop} {pc : Nat} (k : ∀ t, f t → g t → h t) : ∀ {lo : Int} {os : List Int}, mv_sw x f pc lo os → mv_sw x g pc lo os → mv_sw x h pc lo os
  | _, [], _, _ => trivial
  | _, _ :: _, a, b => ⟨fun z => k _ (a.1 z) (b.1 z), mv_sw_2 k a.2 b.2⟩
theorem bif_2 {c : Bool} {P P' P2 : Prop} (a : bif c then P else False) (b : bif c then P' else False) (h : P → P' → P2) : bif c then P2 else False := by
  cases c
  · exact a
  · exact h a b
theorem bif_22 {c : Bool} {P P' P2 R R' R2 : Prop} (a : bif c then P else R) (b : bif c then P' else R') (h : P → P' → P2) (g : R → R' → R2) : bif c then P2 else R2 := by
  cases c
  · exact g a b
  · exact h a b
theorem mv_obj_2 {e : mv_E} {ci fi : Nat} {f g h : Nat → Prop} {P P' P2 : Prop} (a : mv_obj e ci fi f P) (b : mv_obj e ci fi g P') (k : ∀ q, f q → g q → h q) (kp : P → P' → P2) : mv_obj e ci fi h P2 := by
  rcases e with o | o
  · refine bif_2 a b (fun p q => ?_)
    revert p q
    cases mv_nth fi o.2 with
    | none => exact fun p _ => p
    | some r => cases r with
      | none => exact fun p q => kp p q
      | some r => exact fun p q => k r p q
  · exact a
theorem mv_is_2 {e : mv_E} {ci : Nat} {P P' P2 : Prop} (a : mv_is e ci P) (b : mv_is e ci P') (k : P → P' → P2) : mv_is e ci P2 := by
  rcases e with o | o
  · exact bif_2 a b k
  · exact a
theorem mv_arr_2 {e : mv_E} {f g h : Nat → Nat → Prop} (a : mv_arr e f) (b : mv_arr e g) (k : ∀ t n, f t n → g t n → h t n) : mv_arr e h := by
  rcases e with o | ⟨t, n⟩
  · exact a
  · exact k t n a b
theorem mv_at_2 {sh : List mv_E} {x : Nat} {f g h : mv_E → Prop} (a : mv_at sh x f) (b : mv_at sh x g) (k : ∀ e, f e → g e → h e) : mv_at sh x h := by
  unfold mv_at at *
  revert a b
  cases mv_nth x sh with
  | none => exact fun a _ => a
  | some e => exact fun a b => k e a b
theorem mv_pop_2 : ∀ {n : Nat} {st acc : List mv_V} {f g h : List mv_V → List mv_V → Prop}, mv_pop n st acc f → mv_pop n st acc g → (∀ x y, f x y → g x y → h x y) → mv_pop n st acc h
  | 0, _, _, _, _, _, a, b, k => k _ _ a b
  | n + 1, _ :: st, _, _, _, _, a, b, k => mv_pop_2 (n := n) (st := st) a b k
  | _ + 1, [], _, _, _, _, a, _, _ => False.elim a
theorem mv_hd_2 {l : List mv_V} {f g h : Nat → Prop} (a : mv_hd l f) (b : mv_hd l g) (k : ∀ x, f x → g x → h x) : mv_hd l h := by
  cases l with
  | nil => exact False.elim a
  | cons v r => exact mv_asA_2 a b k
theorem mv_rq_2 {rb : Nat} {x : Int32} {P P' P2 : Prop} (a : mv_rq rb x P) (b : mv_rq rb x P') (h : P → P' → P2) : mv_rq rb x P2 := by
  rcases rb with _ | _ | _ | rb
  · exact a
  · exact h a b
  · exact ⟨a.1, h a.2 b.2⟩
  · exact a
theorem mv_rv_2 {rb : Nat} {P P' P2 : Prop} (a : mv_rv rb P) (b : mv_rv rb P') (h : P → P' → P2) : mv_rv rb P2 := by
  rcases rb with _ | rb
  · exact h a b
  · exact a
theorem mv_cut_2 {c : Bool} {P P' P2 : Prop} (a : mv_cut c P) (b : mv_cut c P') (h : P → P' → P2) : mv_cut c P2 := by
  cases c
  · exact h a b
  · exact ⟨h a.1 b.1, trivial⟩
theorem mv_nn_2 : ∀ {n : Nat} {f g h : mv_L → Prop}, mv_nn n f → mv_nn n g → (∀ l, f l → g l → h l) → mv_nn n h
  | 0, _, _, _, a, b, k => k _ a b
  | n + 1, _, _, _, a, b, k => mv_nn_2 (n := n) a b (fun _ p q => k _ p q)
theorem mv_ini_2 : ∀ {as : List mv_V} {n : Nat} {f g h : mv_L → Prop}, mv_ini as n f → mv_ini as n g → (∀ l, f l → g l → h l) → mv_ini as n h
  | [], n, _, _, _, a, b, k => mv_nn_2 (n := n) a b k
  | .inl _ :: t, n + 1, _, _, _, a, b, k => mv_ini_2 (as := t) (n := n) a b (fun _ p q => k _ p q)
  | .inr (.inr _) :: t, n + 1, _, _, _, a, b, k => mv_ini_2 (as := t) (n := n) a b (fun _ p q => k _ p q)
  | .inr (.inl _) :: t, n + 2, _, _, _, a, b, k => mv_ini_2 (as := t) (n := n) a b (fun _ p q => k _ p q)
  | .inl _ :: _, 0, _, _, _, a, _, _ => False.elim a
  | .inr (.inr _) :: _, 0, _, _, _, a, _, _ => False.elim a
  | .inr (.inl _) :: _, 0, _, _, _, a, _, _ => False.elim a
  | .inr (.inl _) :: _, 1, _, _, _, a, _, _ => False.elim a
theorem mv_static_2 {call : Nat → List mv_V → mv_I → mv_J → mv_Q → Prop} (hc : ∀ (mid : Nat) (as : List mv_V) (I : mv_I) (J : mv_J) (Qa Qb Qc : mv_Q), (∀ r I J, Qa r I J → Qb r I J → Qc r I J) → call mid as I J Qa → call mid as I J Qb → call mid as I J Qc) {sh : List mv_E} {mid na nx : Nat} {ls : mv_L} {st : List mv_V} {I : mv_I} {J : mv_J} {k1 k2 k3 : mv_K} (hk : ∀ {pc : Nat} {ls : mv_L} {st : List mv_V} {I : mv_I} {J : mv_J}, k1 pc ls st I J → k2 pc ls st I J → k3 pc ls st I J) (a : mv_static call sh mid na nx ls st I J k1) (b : mv_static call sh mid na nx ls st I J k2) : mv_static call sh mid na nx ls st I J k3 := by
  unfold mv_static at *
  split at a
  · exact mv_pI_2 a b (fun y r a b => mv_pI_2 a b (fun x r a b => bif_2 a b hk))
  · exact mv_pI_2 a b (fun y r a b => mv_pI_2 a b (fun x r a b => bif_2 a b hk))
  · exact mv_pI_2 a b (fun n r a b => mv_pI_2 a b (fun dp r a b => mv_pA_2 a b (fun x r a b => mv_pI_2 a b (fun sp r a b => mv_pA_2 a b (fun x0 r a b => bif_2 a b (fun a b => mv_at_2 a b (fun e0 a b => mv_arr_2 a b (fun t0 n0 a b => mv_at_2 a b (fun e a b => mv_arr_2 a b (fun t1 n1 a b => bif_2 a b (fun a b => ⟨a.1, a.2.1, a.2.2.1, a.2.2.2.1, a.2.2.2.2.1, hk a.2.2.2.2.2 b.2.2.2.2.2⟩)))))))))))
  · rename_i n1 n2 n3
    split at b
    · exact absurd rfl n1
    · exact absurd rfl n2
    · exact absurd rfl n3
    · exact mv_pop_2 a b (fun x r a b => bif_2 a b (fun a b => hc _ _ _ _ _ _ _ (fun q I J p1 p2 => by
          cases q with
          | none => exact hk p1 p2
          | some v => exact hk p1 p2) a b))
set_option maxHeartbeats 1000000 in
theorem mv_step_2 {call : Nat → List mv_V → mv_I → mv_J → mv_Q → Prop} (hc : ∀ (mid : Nat) (as : List mv_V) (I : mv_I) (J : mv_J) (Qa Qb Qc : mv_Q), (∀ r I J, Qa r I J → Qb r I J → Qc r I J) → call mid as I J Qa → call mid as I J Qb → call mid as I J Qc) {sh : List mv_E} {X : Option (Nat × (Nat → Int32))} {fl : Nat → Option (Nat × Nat)} {cs : Nat → Option (Nat × Nat × Nat)} {rb pc : Nat} (i : Instr) {nx tg : Nat} {cst : Int32} {cl : Int64} {ls : mv_L} {st : List mv_V} {I : mv_I} {J : mv_J} {k1 k2 k3 : mv_K} {Q1 Q2 Q3 : mv_Q} (hk : ∀ {pc : Nat} {ls : mv_L} {st : List mv_V} {I : mv_I} {J : mv_J}, k1 pc ls st I J → k2 pc ls st I J → k3 pc ls st I J) (hQ : ∀ r I J, Q1 r I J → Q2 r I J → Q3 r I J) (a : mv_step call sh X fl cs rb pc i nx tg cst cl ls st I J k1 Q1) (b : mv_step call sh X fl cs rb pc i nx tg cst cl ls st I J k2 Q2) : mv_step call sh X fl cs rb pc i nx tg cst cl ls st I J k3 Q3 := by
  cases i
  case iload_n n =>
    exact mv_get_2 a b (fun v a b => mv_asI_2 a b (fun x a b => (hk a b)))
  case iload n =>
    exact mv_get_2 a b (fun v a b => mv_asI_2 a b (fun x a b => (hk a b)))
  case lload_n n =>
    exact mv_get_2 a b (fun v a b => mv_asL_2 a b (fun x a b => (hk a b)))
  case lload n =>
    exact mv_get_2 a b (fun v a b => mv_asL_2 a b (fun x a b => (hk a b)))
  case aload_n n =>
    exact mv_get_2 a b (fun v a b => mv_asA_2 a b (fun x a b => (hk a b)))
  case aload n =>
    exact mv_get_2 a b (fun v a b => mv_asA_2 a b (fun x a b => (hk a b)))
  case istore_n n =>
    exact mv_pI_2 a b (fun x r a b => mv_set_2 a b (fun l a b => (hk a b)))
  case istore n =>
    exact mv_pI_2 a b (fun x r a b => mv_set_2 a b (fun l a b => (hk a b)))
  case lstore_n n =>
    exact mv_pL_2 a b (fun x r a b => mv_set_2 a b (fun l a b => (hk a b)))
  case lstore n =>
    exact mv_pL_2 a b (fun x r a b => mv_set_2 a b (fun l a b => (hk a b)))
  case astore_n n =>
    exact mv_pA_2 a b (fun x r a b => mv_set_2 a b (fun l a b => (hk a b)))
  case astore n =>
    exact mv_pA_2 a b (fun x r a b => mv_set_2 a b (fun l a b => (hk a b)))
  case iinc n c =>
    exact mv_get_2 a b (fun v a b => mv_asI_2 a b (fun x a b => mv_set_2 a b (fun l a b => (hk a b))))
  case iconst n =>
    exact (hk a b)
  case bipush n =>
    exact (hk a b)
  case sipush n =>
    exact (hk a b)
  case ldc n =>
    exact (hk a b)
  case ldc_w n =>
    exact (hk a b)
  case lconst n =>
    exact (hk a b)
  case ldc2_w n =>
    exact (hk a b)
  case goto n =>
    exact (hk a b)
  case iadd =>
    exact mv_pI_2 a b (fun x r a b => mv_pI_2 a b (fun x r a b => (hk a b)))
  case isub =>
    exact mv_pI_2 a b (fun x r a b => mv_pI_2 a b (fun x r a b => (hk a b)))
  case imul =>
    exact mv_pI_2 a b (fun x r a b => mv_pI_2 a b (fun x r a b => (hk a b)))
  case iand =>
    exact mv_pI_2 a b (fun x r a b => mv_pI_2 a b (fun x r a b => (hk a b)))
  case ior =>
    exact mv_pI_2 a b (fun x r a b => mv_pI_2 a b (fun x r a b => (hk a b)))
  case ixor =>
    exact mv_pI_2 a b (fun x r a b => mv_pI_2 a b (fun x r a b => (hk a b)))
  case ishl =>
    exact mv_pI_2 a b (fun x r a b => mv_pI_2 a b (fun x r a b => (hk a b)))
  case ishr =>
    exact mv_pI_2 a b (fun x r a b => mv_pI_2 a b (fun x r a b => (hk a b)))
  case iushr =>
    exact mv_pI_2 a b (fun x r a b => mv_pI_2 a b (fun x r a b => (hk a b)))
  case idiv =>
    exact mv_pI_2 a b (fun x r a b => mv_pI_2 a b (fun x r a b => ⟨a.1, hk a.2 b.2⟩))
  case irem =>
    exact mv_pI_2 a b (fun x r a b => mv_pI_2 a b (fun x r a b => ⟨a.1, hk a.2 b.2⟩))
  case ladd =>
    exact mv_pL_2 a b (fun x r a b => mv_pL_2 a b (fun x r a b => (hk a b)))
  case lsub =>
    exact mv_pL_2 a b (fun x r a b => mv_pL_2 a b (fun x r a b => (hk a b)))
  case lmul =>
    exact mv_pL_2 a b (fun x r a b => mv_pL_2 a b (fun x r a b => (hk a b)))
  case land =>
    exact mv_pL_2 a b (fun x r a b => mv_pL_2 a b (fun x r a b => (hk a b)))
  case lor =>
    exact mv_pL_2 a b (fun x r a b => mv_pL_2 a b (fun x r a b => (hk a b)))
  case lcmp =>
    exact mv_pL_2 a b (fun x r a b => mv_pL_2 a b (fun x r a b => (hk a b)))
  case ldiv =>
    exact mv_pL_2 a b (fun x r a b => mv_pL_2 a b (fun x r a b => ⟨a.1, hk a.2 b.2⟩))
  case lrem =>
    exact mv_pL_2 a b (fun x r a b => mv_pL_2 a b (fun x r a b => ⟨a.1, hk a.2 b.2⟩))
  case lshl =>
    exact mv_pI_2 a b (fun x r a b => mv_pL_2 a b (fun x r a b => (hk a b)))
  case lshr =>
    exact mv_pI_2 a b (fun x r a b => mv_pL_2 a b (fun x r a b => (hk a b)))
  case i2l =>
    exact mv_pI_2 a b (fun x r a b => (hk a b))
  case i2b =>
    exact mv_pI_2 a b (fun x r a b => (hk a b))
  case i2s =>
    exact mv_pI_2 a b (fun x r a b => (hk a b))
  case pop =>
    exact mv_pI_2 a b (fun x r a b => (hk a b))
  case l2i =>
    exact mv_pL_2 a b (fun x r a b => (hk a b))
  case dup2 =>
    exact mv_pI_2 a b (fun x r a b => mv_pA_2 a b (fun x r a b => (hk a b)))
  case ifCond c o =>
    exact mv_pI_2 a b (fun x r a b => mv_if_2 a b hk hk)
  case if_icmp c o =>
    exact mv_pI_2 a b (fun x r a b => mv_pI_2 a b (fun x r a b => mv_ic_2 a b hk hk))
  case tableswitch d lo hi offs =>
    exact mv_pI_2 a b (fun x r a b => ⟨fun z => hk (a.1 z) (b.1 z), mv_sw_2 (fun t p q => hk p q) a.2 b.2⟩)
  case baload =>
    exact mv_pI_2 a b (fun x r a b => mv_pA_2 a b (fun x r a b => mv_at_2 a b (fun e a b => mv_arr_2 a b (fun t n a b => bif_2 a b (fun a b => ⟨a.1, hk a.2 b.2⟩)))))
  case laload =>
    exact mv_pI_2 a b (fun x r a b => mv_pA_2 a b (fun x r a b => mv_at_2 a b (fun e a b => mv_arr_2 a b (fun t n a b => bif_2 a b (fun a b => ⟨a.1, hk a.2 b.2⟩)))))
  case aaload =>
    exact mv_pI_2 a b (fun x r a b => mv_pA_2 a b (fun x r a b => mv_at_2 a b (fun e a b => mv_arr_2 a b (fun t n a b => bif_2 a b (fun a b => ⟨a.1, fun z => hk (a.2.1 z) (b.2.1 z), fun z => hk (a.2.2.1 z) (b.2.2.1 z), fun z => hk (a.2.2.2.1 z) (b.2.2.2.1 z), fun z => hk (a.2.2.2.2 z) (b.2.2.2.2 z)⟩)))))
  case iastore =>
    exact mv_pI_2 a b (fun x r a b => mv_pI_2 a b (fun x r a b => mv_pA_2 a b (fun x r a b => mv_at_2 a b (fun e a b => mv_arr_2 a b (fun t n a b => bif_2 a b (fun a b => ⟨a.1, hk a.2 b.2⟩))))))
  case lastore =>
    exact mv_pL_2 a b (fun x r a b => mv_pI_2 a b (fun x r a b => mv_pA_2 a b (fun x r a b => mv_at_2 a b (fun e a b => mv_arr_2 a b (fun t n a b => bif_2 a b (fun a b => ⟨a.1, hk a.2 b.2⟩))))))
  case bastore =>
    exact mv_pI_2 a b (fun x r a b => mv_pI_2 a b (fun x r a b => mv_pA_2 a b (fun x r a b => mv_at_2 a b (fun e a b => mv_arr_2 a b (fun t n a b => bif_22 a b (fun a b => ⟨a.1, hk a.2 b.2⟩) (fun a b => bif_2 a b (fun a b => ⟨a.1, hk a.2 b.2⟩)))))))
  case getfield idx =>
    exact mv_pA_2 a b (fun x r a b => by
      revert a b
      cases fl idx with
      | none => exact fun a _ => a
      | some q => exact fun a b => mv_at_2 a b (fun e a b => mv_obj_2 a b (fun _ p q => hk p q) (fun p q => hk p q)))
  case putfield idx =>
    exact mv_pI_2 a b (fun x r a b => mv_pA_2 a b (fun x r a b => by
      revert a b
      cases fl idx with
      | none => exact fun a _ => a
      | some q => exact fun a b => mv_at_2 a b (fun e a b => mv_obj_2 a b (fun _ p _ => p) (fun a b => bif_22 a b (fun a b => ⟨a.1, hk a.2 b.2⟩) (fun a b => hk a b)))))
  case iaload =>
    exact mv_pI_2 a b (fun x r a b => mv_pA_2 a b (fun x r a b => by
      revert a b
      cases mv_nth x sh with
      | none => exact (by
        cases X with
        | none => exact fun a _ => a
        | some q => exact fun a b => bif_2 a b (fun a b => ⟨a.1, hk a.2 b.2⟩))
      | some q => exact fun a b => mv_arr_2 a b (fun t n a b => bif_2 a b (fun a b => ⟨a.1, hk a.2 b.2⟩))))
  case arraylength =>
    exact mv_pA_2 a b (fun x r a b => by
      revert a b
      cases mv_nth x sh with
      | none => exact (by
        cases X with
        | none => exact fun a _ => a
        | some q => exact fun a b => bif_2 a b (fun a b => hk a b))
      | some q => exact fun a b => mv_arr_2 a b (fun t n a b => bif_2 a b (fun a b => hk a b)))
  case dup =>
    rcases st with _ | ⟨x | x | x, r⟩
    · exact False.elim a
    · exact hk a b
    · exact False.elim a
    · exact hk a b
  case ireturn =>
    exact mv_pI_2 a b (fun x r a b => by
      cases r with
      | nil => exact mv_rq_2 a b (hQ _ _ _)
      | cons y r => exact False.elim a)
  case return_ =>
    cases st with
    | nil => exact mv_rv_2 a b (hQ _ _ _)
    | cons y r => exact False.elim a
  case invokestatic idx =>
    change (match cs idx with | some (mid, na, ci) => bif Nat.ble 100 ci then mv_static call sh mid na nx ls st I J k1 else False | none => False) at a
    change (match cs idx with | some (mid, na, ci) => bif Nat.ble 100 ci then mv_static call sh mid na nx ls st I J k2 else False | none => False) at b
    change (match cs idx with | some (mid, na, ci) => bif Nat.ble 100 ci then mv_static call sh mid na nx ls st I J k3 else False | none => False)
    revert a b
    cases cs idx with
    | none => exact fun a _ => a
    | some q => exact fun a b => bif_2 a b (fun a b => mv_static_2 hc hk a b)
  case invokevirtual idx =>
    change (match cs idx with | some (mid, na, ci) => bif Nat.ble 100 ci then False else mv_pop na st [] fun as r => mv_hd as fun a => mv_at sh a fun e => mv_is e ci (bif Nat.ble (mv_cs r) 8 then call mid as I J (mv_back k1 nx ls r) else False) | none => False) at a
    change (match cs idx with | some (mid, na, ci) => bif Nat.ble 100 ci then False else mv_pop na st [] fun as r => mv_hd as fun a => mv_at sh a fun e => mv_is e ci (bif Nat.ble (mv_cs r) 8 then call mid as I J (mv_back k2 nx ls r) else False) | none => False) at b
    change (match cs idx with | some (mid, na, ci) => bif Nat.ble 100 ci then False else mv_pop na st [] fun as r => mv_hd as fun a => mv_at sh a fun e => mv_is e ci (bif Nat.ble (mv_cs r) 8 then call mid as I J (mv_back k3 nx ls r) else False) | none => False)
    revert a b
    cases cs idx with
    | none => exact fun a _ => a
    | some q => exact fun a b => bif_22 a b (fun a _ => a) (fun a b => mv_pop_2 a b (fun x r a b => mv_hd_2 a b (fun y a b => mv_at_2 a b (fun e a b => mv_is_2 a b (fun a b => bif_2 a b (fun a b => hc _ _ _ _ _ _ _ (fun q I J p1 p2 => by
        cases q with
        | none => exact hk p1 p2
        | some v => exact hk p1 p2) a b))))))
  all_goals exact False.elim a
theorem mv_wp_2 {call : Nat → List mv_V → mv_I → mv_J → mv_Q → Prop} (hc : ∀ (mid : Nat) (as : List mv_V) (I : mv_I) (J : mv_J) (Qa Qb Qc : mv_Q), (∀ r I J, Qa r I J → Qb r I J → Qc r I J) → call mid as I J Qa → call mid as I J Qb → call mid as I J Qc) {sh : List mv_E} {X : Option (Nat × (Nat → Int32))} {tb : Nat → Option mv_R} {fl : Nat → Option (Nat × Nat)} {cs : Nat → Option (Nat × Nat × Nat)} {rb : Nat} {s1 s2 s3 : mv_K} {Q1 Q2 Q3 : mv_Q} (hs : ∀ pc ls st I J, s1 pc ls st I J → s2 pc ls st I J → s3 pc ls st I J) (hQ : ∀ r I J, Q1 r I J → Q2 r I J → Q3 r I J) : ∀ (n m : Nat) (pc : Nat) (ls : mv_L) (st : List mv_V) (I : mv_I) (J : mv_J), mv_wp call sh X tb fl cs rb s1 Q1 n pc ls st I J → mv_wp call sh X tb fl cs rb s2 Q2 m pc ls st I J → mv_wp call sh X tb fl cs rb s3 Q3 n pc ls st I J := by
  intro n
  induction n with
  | zero => intro m pc ls st I J a b; exact False.elim a
  | succ n ih =>
    intro m pc ls st I J a b
    cases m with
    | zero => exact False.elim b
    | succ m =>
      unfold mv_wp at a b ⊢
      revert a b
      cases tb pc with
      | none => exact fun a b => hs _ _ _ _ _ a b
      | some q => exact fun a b => mv_step_2 hc q.1 (fun p1 p2 => mv_cut_2 p1 p2 (ih m _ _ _ _ _)) hQ a b
theorem mv_wpM_2 {tab : List mv_N} {sh : List mv_E} : ∀ (d mid : Nat) (as : List mv_V) (I : mv_I) (J : mv_J) (Q1 Q2 Q3 : mv_Q), (∀ r I J, Q1 r I J → Q2 r I J → Q3 r I J) → mv_wpM tab sh d mid as I J Q1 → mv_wpM tab sh d mid as I J Q2 → mv_wpM tab sh d mid as I J Q3 := by
  intro d
  induction d with
  | zero => intro mid as I J Q1 Q2 Q3 hQ a b; exact False.elim a
  | succ d ih =>
    intro mid as I J Q1 Q2 Q3 hQ a b
    unfold mv_wpM at a b ⊢
    revert a b
    cases mv_nth mid tab with
    | none => exact fun a _ => a
    | some q => exact fun a b => mv_ini_2 a b (fun ls a b => by
        obtain ⟨n, a⟩ := a
        obtain ⟨m, b⟩ := b
        exact ⟨n, mv_wp_2 ih (fun _ _ _ _ _ p _ => p) hQ n m _ _ _ _ _ a b⟩)
