theorem mv_ws_put {cy : Nat → ClassId} {ad : Nat → Nat} {sh : List mv_E} {I : mv_I} {J : mv_J} {a ci fi : Nat} {fs : List (Option Nat)} {v : Int32} (he : mv_nth a sh = some (.inl (ci, fs))) (hq : mv_nth fi fs = some none) : (mv_ws cy ad sh I J).set a (ad a, .inr (ci, (mv_fs ad (I a) 0 fs).set fi (.int v))) = mv_ws cy ad sh (va_up I a (upd (I a) fi v)) J := by
  rw [mv_fs_set ad (I a) v fs 0 fi hq, Nat.zero_add]
  have h := mv_ws_set (cy := cy) (ad := ad) (I := I) (I' := va_up I a (upd (I a) fi v)) (J := J) (J' := J) he (fun j hj => va_up_ne _ _ hj) (fun _ _ => rfl)
  rw [← h]
  simp only [mv_cell, va_up_self]
theorem mv_ws_row {cy : Nat → ClassId} {ad : Nat → Nat} {sh : List mv_E} {I : mv_I} {J : mv_J} {a ty n : Nat} (f : Nat → Int32) (he : mv_nth a sh = some (.inr (ty, n))) (hr : ∀ f g, mv_row ad f g ty = .inl f) : (mv_ws cy ad sh I J).set a (ad a, .inl (cy ty, n, .inl f)) = mv_ws cy ad sh (va_up I a f) J := by
  have h := mv_ws_set (cy := cy) (ad := ad) (I := I) (I' := va_up I a f) (J := J) (J' := J) he (fun j hj => va_up_ne _ _ hj) (fun _ _ => rfl)
  rw [← h]
  simp only [mv_cell, va_up_self, hr]
theorem mv_ws_rowL {cy : Nat → ClassId} {ad : Nat → Nat} {sh : List mv_E} {I : mv_I} {J : mv_J} {a n : Nat} (g : Nat → Int64) (he : mv_nth a sh = some (.inr (1, n))) : (mv_ws cy ad sh I J).set a (ad a, .inl (cy 1, n, .inr (.inl g))) = mv_ws cy ad sh I (va_up J a g) := by
  have h := mv_ws_set (cy := cy) (ad := ad) (I := I) (I' := I) (J := J) (J' := va_up J a g) he (fun _ _ => rfl) (fun j hj => va_up_ne _ _ hj)
  rw [← h]
  simp only [mv_cell, va_up_self, mv_row]
section MVS
variable {p : Program} {l : Launch} {e : Env} {R : Room} {s : State} {m : MethodId} {args : Array Value} {below : List Frame} {meth : Method} {c : Code} {cells slots : Nat} {Qf : State → Prop}
variable {cc : ByteArray} {own : String} {Ts : List Jvm.Cond} {nL : Nat} {dC : Nat → ClassId} {dI : Nat → Nat → Nat} {cl0 : List vw_C} {cy : Nat → ClassId} {ad : Nat → Nat} {sh : List mv_E} {A : Nat → Prop} {H0 : Heap}
set_option maxHeartbeats 4000000 in
set_option maxRecDepth 100000 in
theorem mv_step_sound (hx : p.tables.exec = Jvm.exec) (hb : c.code = cc) (hml : c.maxLocals = nL) (hown : s.vm.findClass own = some m.cls) (hts : ∀ w ∈ Ts, w.before args s = true) (hK : va_K (dC, dI) cl0 (mv_tys cy) s) (hD : ∀ I J, va_D A (mv_ws cy ad sh I J)) (hA : ∀ q : Nat, H0.size ≤ q → A q) (hR : 1 ≤ R.frames ∧ 60 ≤ R.locals ∧ cells ≤ R.cells ∧ slots ≤ R.slots)
    {X : Option (Nat × (Nat → Int32))} (hX : ∀ L xs, X = some (L, xs) → va_X (ad 999) L xs s H0 ∧ ad 999 < H0.size ∧ ¬ A (ad 999)) {fl : Nat → Option (Nat × Nat)} {cs : Nat → Option (Nat × Nat × Nat)} {call : Nat → List mv_V → mv_I → mv_J → mv_Q → Prop} {rb : Nat} {k : mv_K} {Q : mv_Q}
    (hNW : mv_NW s) (hF : mv_flB cl0 own Ts fl) (hSh : mv_shB cl0 sh) (hC : mv_csB l R cl0 dC dI cy ad sh own Ts cs call) (hJ : mv_jdB own Ts cs)
    (hret : ∀ (pc : Nat) (x : Int32) (I : mv_I) (J : mv_J) (H : Heap) (locs : List Loc) (arr : Array Slot), decode cc pc = .ok (.ireturn, 1) → mv_rq rb x (Q (some (.inl x)) I J) → va_P (dC, dI) cl0 (mv_ws cy ad sh I J) H → va_S A H0 H locs → W p l e R s m args below meth c H locs cells slots Qf (F0 m pc arr [.int x]))
    (hvret : ∀ (pc : Nat) (I : mv_I) (J : mv_J) (H : Heap) (locs : List Loc) (arr : Array Slot), decode cc pc = .ok (.return_, 1) → mv_rv rb (Q none I J) → va_P (dC, dI) cl0 (mv_ws cy ad sh I J) H → va_S A H0 H locs → W p l e R s m args below meth c H locs cells slots Qf (F0 m pc arr []))
    (hk : ∀ (pc : Nat) (ls : mv_L) (st : List mv_V) (I : mv_I) (J : mv_J) (H : Heap) (locs : List Loc) (arr : Array Slot), k pc ls st I J → va_P (dC, dI) cl0 (mv_ws cy ad sh I J) H → va_S A H0 H locs → mv_LS ad ls arr → ls.length = nL → W p l e R s m args below meth c H locs cells slots Qf (F0 m pc arr (st.map (mv_val ad))))
    {pc : Nat} {i : Instr} {nx tg : Nat} {cst : Int32} {cl : Int64} (hraw : decode cc pc = .ok (i, nx - pc)) (hd : mv_len i ≠ 0 → decode cc pc = .ok (i, mv_len i) ∧ nx = pc + mv_len i) (hg : mv_arg own Ts pc i tg cst cl = true)
    {ls : mv_L} {st : List mv_V} {I : mv_I} {J : mv_J} {H : Heap} {locs : List Loc} {arr : Array Slot} (h : mv_step call sh X fl cs rb pc i nx tg cst cl ls st I J k Q) (hP : va_P (dC, dI) cl0 (mv_ws cy ad sh I J) H) (hS : va_S A H0 H locs) (hL : mv_LS ad ls arr) (hn : ls.length = nL) :
    W p l e R s m args below meth c H locs cells slots Qf (F0 m pc arr (st.map (mv_val ad))) := by
  have hFc : ∀ q, va_A (mv_ws cy ad sh I J) H.size q → A q := by
    intro q hq
    rcases hq with ⟨kq, eq, hq⟩ | hq
    · exact (hD I J).2 kq (q, eq) hq
    · exact hA q (Nat.le_trans hS.1 hq)
  cases i with
  | iload_n n =>
    obtain ⟨hdd, rfl⟩ := hd (Nat.succ_ne_zero _)
    replace h := mv_get_inv h
    obtain ⟨v, hv, h⟩ := h
    replace h := mv_asI_inv h
    obtain ⟨x, rfl, h⟩ := h
    exact lv_iload_n hx hb hdd rfl (hL.2.2 _ _ hv) (hk _ _ _ _ _ _ _ _ h hP hS hL hn)
  | iload n =>
    obtain ⟨hdd, rfl⟩ := hd (Nat.succ_ne_zero _)
    replace h := mv_get_inv h
    obtain ⟨v, hv, h⟩ := h
    replace h := mv_asI_inv h
    obtain ⟨x, rfl, h⟩ := h
    exact lv_iload hx hb hdd (hL.2.2 _ _ hv) (hk _ _ _ _ _ _ _ _ h hP hS hL hn)
  | istore_n n =>
    obtain ⟨hdd, rfl⟩ := hd (Nat.succ_ne_zero _)
    replace h := mv_pI_inv h
    obtain ⟨x, r, rfl, h⟩ := h
    obtain ⟨ls', h, hr⟩ := mv_set_inv h
    exact lv_istore_n hx hb hdd rfl hL.has hr.2.1 rfl (fun arr' ha => hk _ _ _ _ _ _ _ _ h hP hS (mv_LS.set1 rfl hr ha) (hr.1.trans hn))
  | istore n =>
    obtain ⟨hdd, rfl⟩ := hd (Nat.succ_ne_zero _)
    replace h := mv_pI_inv h
    obtain ⟨x, r, rfl, h⟩ := h
    obtain ⟨ls', h, hr⟩ := mv_set_inv h
    exact lv_istore hx hb hdd hL.has hr.2.1 rfl (fun arr' ha => hk _ _ _ _ _ _ _ _ h hP hS (mv_LS.set1 rfl hr ha) (hr.1.trans hn))
  | lload_n n =>
    obtain ⟨hdd, rfl⟩ := hd (Nat.succ_ne_zero _)
    replace h := mv_get_inv h
    obtain ⟨v, hv, h⟩ := h
    replace h := mv_asL_inv h
    obtain ⟨x, rfl, h⟩ := h
    exact lv_lload_n hx hb hdd rfl (hL.2.2 _ _ hv) (hk _ _ _ _ _ _ _ _ h hP hS hL hn)
  | lload n =>
    obtain ⟨hdd, rfl⟩ := hd (Nat.succ_ne_zero _)
    replace h := mv_get_inv h
    obtain ⟨v, hv, h⟩ := h
    replace h := mv_asL_inv h
    obtain ⟨x, rfl, h⟩ := h
    exact lv_lload hx hb hdd (hL.2.2 _ _ hv) (hk _ _ _ _ _ _ _ _ h hP hS hL hn)
  | lstore_n n =>
    obtain ⟨hdd, rfl⟩ := hd (Nat.succ_ne_zero _)
    replace h := mv_pL_inv h
    obtain ⟨x, r, rfl, h⟩ := h
    obtain ⟨ls', h, hr⟩ := mv_set_inv h
    exact lv_lstore_n hx hb hdd rfl hL.has (hr.2.2.1 rfl) rfl (fun arr' ha => hk _ _ _ _ _ _ _ _ h hP hS (mv_LS.set2 rfl hr ha) (hr.1.trans hn))
  | lstore n =>
    obtain ⟨hdd, rfl⟩ := hd (Nat.succ_ne_zero _)
    replace h := mv_pL_inv h
    obtain ⟨x, r, rfl, h⟩ := h
    obtain ⟨ls', h, hr⟩ := mv_set_inv h
    exact lv_lstore hx hb hdd hL.has (hr.2.2.1 rfl) rfl (fun arr' ha => hk _ _ _ _ _ _ _ _ h hP hS (mv_LS.set2 rfl hr ha) (hr.1.trans hn))
  | aload_n n =>
    obtain ⟨hdd, rfl⟩ := hd (Nat.succ_ne_zero _)
    replace h := mv_get_inv h
    obtain ⟨v, hv, h⟩ := h
    replace h := mv_asA_inv h
    obtain ⟨x, rfl, h⟩ := h
    exact lv_aload_n hx hb hdd rfl (hL.2.2 _ _ hv) (hk _ _ _ _ _ _ _ _ h hP hS hL hn)
  | aload n =>
    obtain ⟨hdd, rfl⟩ := hd (Nat.succ_ne_zero _)
    replace h := mv_get_inv h
    obtain ⟨v, hv, h⟩ := h
    replace h := mv_asA_inv h
    obtain ⟨x, rfl, h⟩ := h
    exact lv_aload hx hb hdd (hL.2.2 _ _ hv) (hk _ _ _ _ _ _ _ _ h hP hS hL hn)
  | astore_n n =>
    obtain ⟨hdd, rfl⟩ := hd (Nat.succ_ne_zero _)
    replace h := mv_pA_inv h
    obtain ⟨x, r, rfl, h⟩ := h
    obtain ⟨ls', h, hr⟩ := mv_set_inv h
    exact lv_astore_n hx hb hdd rfl hL.has hr.2.1 rfl (fun arr' ha => hk _ _ _ _ _ _ _ _ h hP hS (mv_LS.set1 rfl hr ha) (hr.1.trans hn))
  | astore n =>
    obtain ⟨hdd, rfl⟩ := hd (Nat.succ_ne_zero _)
    replace h := mv_pA_inv h
    obtain ⟨x, r, rfl, h⟩ := h
    obtain ⟨ls', h, hr⟩ := mv_set_inv h
    exact lv_astore hx hb hdd hL.has hr.2.1 rfl (fun arr' ha => hk _ _ _ _ _ _ _ _ h hP hS (mv_LS.set1 rfl hr ha) (hr.1.trans hn))
  | iinc n z =>
    obtain ⟨hdd, rfl⟩ := hd (Nat.succ_ne_zero _)
    replace h := mv_get_inv h
    obtain ⟨v, hv, h⟩ := h
    replace h := mv_asI_inv h
    obtain ⟨x, rfl, h⟩ := h
    obtain ⟨ls', h, hr⟩ := mv_set_inv h
    have hmem := mv_prs_in ad ls 0 n (.inl x) hv
    rw [Nat.zero_add] at hmem
    obtain ⟨kk, hkk⟩ := List.getElem?_of_mem hmem
    exact lv_iinc (k := kk) (v := x + cst) hx hb hdd hL.has hkk (by rw [of_decide_eq_true hg]) hr.2.1 rfl (fun arr' ha => hk _ _ _ _ _ _ _ _ h hP hS (mv_LS.set1 rfl hr ha) (hr.1.trans hn))
  | iconst n =>
    obtain ⟨hdd, rfl⟩ := hd (Nat.succ_ne_zero _)
    exact lv_iconst hx hb hdd (of_decide_eq_true hg) (hk _ _ _ _ _ _ _ _ h hP hS hL hn)
  | bipush n =>
    obtain ⟨hdd, rfl⟩ := hd (Nat.succ_ne_zero _)
    exact lv_bipush hx hb hdd (of_decide_eq_true hg) (hk _ _ _ _ _ _ _ _ h hP hS hL hn)
  | sipush n =>
    obtain ⟨hdd, rfl⟩ := hd (Nat.succ_ne_zero _)
    exact lv_sipush hx hb hdd (of_decide_eq_true hg) (hk _ _ _ _ _ _ _ _ h hP hS hL hn)
  | lconst n =>
    obtain ⟨hdd, rfl⟩ := hd (Nat.succ_ne_zero _)
    exact lv_lconst hx hb hdd (of_decide_eq_true hg) (hk _ _ _ _ _ _ _ _ h hP hS hL hn)
  | ldc idx =>
    obtain ⟨hdd, rfl⟩ := hd (Nat.succ_ne_zero _)
    exact lv_ldc hx hb hown (hts _ (of_decide_eq_true hg)) hdd (hk _ _ _ _ _ _ _ _ h hP hS hL hn)
  | ldc_w idx =>
    obtain ⟨hdd, rfl⟩ := hd (Nat.succ_ne_zero _)
    exact lv_ldcw hx hb hown (hts _ (of_decide_eq_true hg)) hdd (hk _ _ _ _ _ _ _ _ h hP hS hL hn)
  | ldc2_w idx =>
    obtain ⟨hdd, rfl⟩ := hd (Nat.succ_ne_zero _)
    exact lv_ldc2 hx hb hown (hts _ (of_decide_eq_true hg)) hdd (hk _ _ _ _ _ _ _ _ h hP hS hL hn)
  | iadd =>
    obtain ⟨hdd, rfl⟩ := hd (Nat.succ_ne_zero _)
    replace h := mv_pI_inv h
    obtain ⟨y, r, rfl, h⟩ := h
    replace h := mv_pI_inv h
    obtain ⟨x, r, rfl, h⟩ := h
    exact lv_iadd hx hb hdd (hk _ _ _ _ _ _ _ _ h hP hS hL hn)
  | isub =>
    obtain ⟨hdd, rfl⟩ := hd (Nat.succ_ne_zero _)
    replace h := mv_pI_inv h
    obtain ⟨y, r, rfl, h⟩ := h
    replace h := mv_pI_inv h
    obtain ⟨x, r, rfl, h⟩ := h
    exact lv_isub hx hb hdd (hk _ _ _ _ _ _ _ _ h hP hS hL hn)
  | imul =>
    obtain ⟨hdd, rfl⟩ := hd (Nat.succ_ne_zero _)
    replace h := mv_pI_inv h
    obtain ⟨y, r, rfl, h⟩ := h
    replace h := mv_pI_inv h
    obtain ⟨x, r, rfl, h⟩ := h
    exact lv_imul hx hb hdd (hk _ _ _ _ _ _ _ _ h hP hS hL hn)
  | iand =>
    obtain ⟨hdd, rfl⟩ := hd (Nat.succ_ne_zero _)
    replace h := mv_pI_inv h
    obtain ⟨y, r, rfl, h⟩ := h
    replace h := mv_pI_inv h
    obtain ⟨x, r, rfl, h⟩ := h
    exact lv_iand hx hb hdd (hk _ _ _ _ _ _ _ _ h hP hS hL hn)
  | ior =>
    obtain ⟨hdd, rfl⟩ := hd (Nat.succ_ne_zero _)
    replace h := mv_pI_inv h
    obtain ⟨y, r, rfl, h⟩ := h
    replace h := mv_pI_inv h
    obtain ⟨x, r, rfl, h⟩ := h
    exact lv_ior hx hb hdd (hk _ _ _ _ _ _ _ _ h hP hS hL hn)
  | ixor =>
    obtain ⟨hdd, rfl⟩ := hd (Nat.succ_ne_zero _)
    replace h := mv_pI_inv h
    obtain ⟨y, r, rfl, h⟩ := h
    replace h := mv_pI_inv h
    obtain ⟨x, r, rfl, h⟩ := h
    exact lv_ixor hx hb hdd (hk _ _ _ _ _ _ _ _ h hP hS hL hn)
  | ishl =>
    obtain ⟨hdd, rfl⟩ := hd (Nat.succ_ne_zero _)
    replace h := mv_pI_inv h
    obtain ⟨y, r, rfl, h⟩ := h
    replace h := mv_pI_inv h
    obtain ⟨x, r, rfl, h⟩ := h
    exact lv_ishl hx hb hdd (hk _ _ _ _ _ _ _ _ h hP hS hL hn)
  | ishr =>
    obtain ⟨hdd, rfl⟩ := hd (Nat.succ_ne_zero _)
    replace h := mv_pI_inv h
    obtain ⟨y, r, rfl, h⟩ := h
    replace h := mv_pI_inv h
    obtain ⟨x, r, rfl, h⟩ := h
    exact lv_ishr hx hb hdd (hk _ _ _ _ _ _ _ _ h hP hS hL hn)
  | idiv =>
    obtain ⟨hdd, rfl⟩ := hd (Nat.succ_ne_zero _)
    replace h := mv_pI_inv h
    obtain ⟨y, r, rfl, h⟩ := h
    replace h := mv_pI_inv h
    obtain ⟨x, r, rfl, h⟩ := h
    exact lv_idiv hx hb hdd h.1 (hk _ _ _ _ _ _ _ _ h.2 hP hS hL hn)
  | irem =>
    obtain ⟨hdd, rfl⟩ := hd (Nat.succ_ne_zero _)
    replace h := mv_pI_inv h
    obtain ⟨y, r, rfl, h⟩ := h
    replace h := mv_pI_inv h
    obtain ⟨x, r, rfl, h⟩ := h
    exact lv_irem hx hb hdd h.1 (hk _ _ _ _ _ _ _ _ h.2 hP hS hL hn)
  | iushr =>
    obtain ⟨hdd, rfl⟩ := hd (Nat.succ_ne_zero _)
    replace h := mv_pI_inv h
    obtain ⟨y, r, rfl, h⟩ := h
    replace h := mv_pI_inv h
    obtain ⟨x, r, rfl, h⟩ := h
    exact lv_iushr hx hb hdd rfl (hk _ _ _ _ _ _ _ _ h hP hS hL hn)
  | ladd =>
    obtain ⟨hdd, rfl⟩ := hd (Nat.succ_ne_zero _)
    replace h := mv_pL_inv h
    obtain ⟨y, r, rfl, h⟩ := h
    replace h := mv_pL_inv h
    obtain ⟨x, r, rfl, h⟩ := h
    exact lv_ladd hx hb hdd (hk _ _ _ _ _ _ _ _ h hP hS hL hn)
  | lsub =>
    obtain ⟨hdd, rfl⟩ := hd (Nat.succ_ne_zero _)
    replace h := mv_pL_inv h
    obtain ⟨y, r, rfl, h⟩ := h
    replace h := mv_pL_inv h
    obtain ⟨x, r, rfl, h⟩ := h
    exact lv_lsub hx hb hdd (hk _ _ _ _ _ _ _ _ h hP hS hL hn)
  | lmul =>
    obtain ⟨hdd, rfl⟩ := hd (Nat.succ_ne_zero _)
    replace h := mv_pL_inv h
    obtain ⟨y, r, rfl, h⟩ := h
    replace h := mv_pL_inv h
    obtain ⟨x, r, rfl, h⟩ := h
    exact lv_lmul hx hb hdd (hk _ _ _ _ _ _ _ _ h hP hS hL hn)
  | land =>
    obtain ⟨hdd, rfl⟩ := hd (Nat.succ_ne_zero _)
    replace h := mv_pL_inv h
    obtain ⟨y, r, rfl, h⟩ := h
    replace h := mv_pL_inv h
    obtain ⟨x, r, rfl, h⟩ := h
    exact lv_land hx hb hdd (hk _ _ _ _ _ _ _ _ h hP hS hL hn)
  | lor =>
    obtain ⟨hdd, rfl⟩ := hd (Nat.succ_ne_zero _)
    replace h := mv_pL_inv h
    obtain ⟨y, r, rfl, h⟩ := h
    replace h := mv_pL_inv h
    obtain ⟨x, r, rfl, h⟩ := h
    exact lv_lor hx hb hdd (hk _ _ _ _ _ _ _ _ h hP hS hL hn)
  | ldiv =>
    obtain ⟨hdd, rfl⟩ := hd (Nat.succ_ne_zero _)
    replace h := mv_pL_inv h
    obtain ⟨y, r, rfl, h⟩ := h
    replace h := mv_pL_inv h
    obtain ⟨x, r, rfl, h⟩ := h
    exact lv_ldiv hx hb hdd h.1 (hk _ _ _ _ _ _ _ _ h.2 hP hS hL hn)
  | lrem =>
    obtain ⟨hdd, rfl⟩ := hd (Nat.succ_ne_zero _)
    replace h := mv_pL_inv h
    obtain ⟨y, r, rfl, h⟩ := h
    replace h := mv_pL_inv h
    obtain ⟨x, r, rfl, h⟩ := h
    exact lv_lrem hx hb hdd h.1 (hk _ _ _ _ _ _ _ _ h.2 hP hS hL hn)
  | lcmp =>
    obtain ⟨hdd, rfl⟩ := hd (Nat.succ_ne_zero _)
    replace h := mv_pL_inv h
    obtain ⟨y, r, rfl, h⟩ := h
    replace h := mv_pL_inv h
    obtain ⟨x, r, rfl, h⟩ := h
    exact W.lcmp hx hb hdd (hk _ _ _ _ _ _ _ _ h hP hS hL hn)
  | lshl =>
    obtain ⟨hdd, rfl⟩ := hd (Nat.succ_ne_zero _)
    replace h := mv_pI_inv h
    obtain ⟨y, r, rfl, h⟩ := h
    replace h := mv_pL_inv h
    obtain ⟨x, r, rfl, h⟩ := h
    exact lv_lshl hx hb hdd rfl (hk _ _ _ _ _ _ _ _ h hP hS hL hn)
  | lshr =>
    obtain ⟨hdd, rfl⟩ := hd (Nat.succ_ne_zero _)
    replace h := mv_pI_inv h
    obtain ⟨y, r, rfl, h⟩ := h
    replace h := mv_pL_inv h
    obtain ⟨x, r, rfl, h⟩ := h
    exact lv_lshr hx hb hdd rfl (hk _ _ _ _ _ _ _ _ h hP hS hL hn)
  | i2l =>
    obtain ⟨hdd, rfl⟩ := hd (Nat.succ_ne_zero _)
    replace h := mv_pI_inv h
    obtain ⟨x, r, rfl, h⟩ := h
    exact lv_i2l hx hb hdd rfl (hk _ _ _ _ _ _ _ _ h hP hS hL hn)
  | l2i =>
    obtain ⟨hdd, rfl⟩ := hd (Nat.succ_ne_zero _)
    replace h := mv_pL_inv h
    obtain ⟨x, r, rfl, h⟩ := h
    exact lv_l2i hx hb hdd rfl (hk _ _ _ _ _ _ _ _ h hP hS hL hn)
  | i2b =>
    obtain ⟨hdd, rfl⟩ := hd (Nat.succ_ne_zero _)
    replace h := mv_pI_inv h
    obtain ⟨x, r, rfl, h⟩ := h
    exact lv_i2b hx hb hdd rfl (hk _ _ _ _ _ _ _ _ h hP hS hL hn)
  | i2s =>
    obtain ⟨hdd, rfl⟩ := hd (Nat.succ_ne_zero _)
    replace h := mv_pI_inv h
    obtain ⟨x, r, rfl, h⟩ := h
    exact lv_i2s hx hb hdd rfl (hk _ _ _ _ _ _ _ _ h hP hS hL hn)
  | dup =>
    obtain ⟨hdd, rfl⟩ := hd (Nat.succ_ne_zero _)
    match st, h with
    | .inl x :: r, h => exact lv_dup hx hb hdd rfl (hk _ _ _ _ _ _ _ _ h hP hS hL hn)
    | .inr (.inr x) :: r, h => exact lv_dup hx hb hdd rfl (hk _ _ _ _ _ _ _ _ h hP hS hL hn)
    | .inr (.inl x) :: r, h => exact h.elim
    | [], h => exact h.elim
  | dup2 =>
    obtain ⟨hdd, rfl⟩ := hd (Nat.succ_ne_zero _)
    replace h := mv_pI_inv h
    obtain ⟨y, r, rfl, h⟩ := h
    replace h := mv_pA_inv h
    obtain ⟨x, r, rfl, h⟩ := h
    exact lv_dup2_11 hx hb hdd rfl rfl (hk _ _ _ _ _ _ _ _ h hP hS hL hn)
  | pop =>
    obtain ⟨hdd, rfl⟩ := hd (Nat.succ_ne_zero _)
    replace h := mv_pI_inv h
    obtain ⟨y, r, rfl, h⟩ := h
    exact lv_pop hx hb hdd rfl (hk _ _ _ _ _ _ _ _ h hP hS hL hn)
  | goto off =>
    obtain ⟨hdd, rfl⟩ := hd (Nat.succ_ne_zero _)
    exact lv_goto hx hb hdd (of_decide_eq_true hg) (hk _ _ _ _ _ _ _ _ h hP hS hL hn)
  | ifCond z off =>
    obtain ⟨hdd, rfl⟩ := hd (Nat.succ_ne_zero _)
    replace h := mv_pI_inv h
    obtain ⟨x, r, rfl, h⟩ := h
    cases z with
    | eq => exact lv_if_eq hx hb hdd (of_decide_eq_true hg) (fun q => hk _ _ _ _ _ _ _ _ (h.1 q) hP hS hL hn) (fun q => hk _ _ _ _ _ _ _ _ (h.2 q) hP hS hL hn)
    | ne => exact lv_if_ne hx hb hdd (of_decide_eq_true hg) (fun q => hk _ _ _ _ _ _ _ _ (h.1 q) hP hS hL hn) (fun q => hk _ _ _ _ _ _ _ _ (h.2 q) hP hS hL hn)
    | lt => exact lv_if_lt hx hb hdd (of_decide_eq_true hg) (fun q => hk _ _ _ _ _ _ _ _ (h.1 q) hP hS hL hn) (fun q => hk _ _ _ _ _ _ _ _ (h.2 q) hP hS hL hn)
    | ge => exact lv_if_ge hx hb hdd (of_decide_eq_true hg) (fun q => hk _ _ _ _ _ _ _ _ (h.1 q) hP hS hL hn) (fun q => hk _ _ _ _ _ _ _ _ (h.2 q) hP hS hL hn)
    | gt => exact lv_if_gt hx hb hdd (of_decide_eq_true hg) (fun q => hk _ _ _ _ _ _ _ _ (h.1 q) hP hS hL hn) (fun q => hk _ _ _ _ _ _ _ _ (h.2 q) hP hS hL hn)
    | le => exact lv_if_le hx hb hdd (of_decide_eq_true hg) (fun q => hk _ _ _ _ _ _ _ _ (h.1 q) hP hS hL hn) (fun q => hk _ _ _ _ _ _ _ _ (h.2 q) hP hS hL hn)
  | if_icmp z off =>
    obtain ⟨hdd, rfl⟩ := hd (Nat.succ_ne_zero _)
    replace h := mv_pI_inv h
    obtain ⟨y, r, rfl, h⟩ := h
    replace h := mv_pI_inv h
    obtain ⟨x, r, rfl, h⟩ := h
    cases z with
    | eq => exact lv_icmp_eq hx hb hdd (of_decide_eq_true hg) (fun q => hk _ _ _ _ _ _ _ _ (h.1 q) hP hS hL hn) (fun q => hk _ _ _ _ _ _ _ _ (h.2 q) hP hS hL hn)
    | ne => exact lv_icmp_ne hx hb hdd (of_decide_eq_true hg) (fun q => hk _ _ _ _ _ _ _ _ (h.1 q) hP hS hL hn) (fun q => hk _ _ _ _ _ _ _ _ (h.2 q) hP hS hL hn)
    | lt => exact lv_icmp_lt hx hb hdd (of_decide_eq_true hg) (fun q => hk _ _ _ _ _ _ _ _ (h.1 q) hP hS hL hn) (fun q => hk _ _ _ _ _ _ _ _ (h.2 q) hP hS hL hn)
    | ge => exact lv_icmp_ge hx hb hdd (of_decide_eq_true hg) (fun q => hk _ _ _ _ _ _ _ _ (h.1 q) hP hS hL hn) (fun q => hk _ _ _ _ _ _ _ _ (h.2 q) hP hS hL hn)
    | gt => exact lv_icmp_gt hx hb hdd (of_decide_eq_true hg) (fun q => hk _ _ _ _ _ _ _ _ (h.1 q) hP hS hL hn) (fun q => hk _ _ _ _ _ _ _ _ (h.2 q) hP hS hL hn)
    | le => exact lv_icmp_le hx hb hdd (of_decide_eq_true hg) (fun q => hk _ _ _ _ _ _ _ _ (h.1 q) hP hS hL hn) (fun q => hk _ _ _ _ _ _ _ _ (h.2 q) hP hS hL hn)
  | tableswitch d lo hi offs =>
    replace h := mv_pI_inv h
    obtain ⟨x, r, rfl, h⟩ := h
    have hg : (decide ((pc : Int) + d = (tg : Int)) && offs.toList.all (fun o => decide (0 ≤ (pc : Int) + o)) && decide (lo + (offs.toList.length : Int) = hi + 1)) = true := hg
    simp only [Bool.and_eq_true, decide_eq_true_eq, List.all_eq_true] at hg
    obtain ⟨⟨g1, g2⟩, g3⟩ := hg
    by_cases ho : x.toInt < lo ∨ hi < x.toInt
    · exact lv_tableOut hx hb hraw ho g1 (hk _ _ _ _ _ _ _ _ (h.1 ho) hP hS hL hn)
    · have h1 : ¬ x.toInt < lo := fun q => ho (Or.inl q)
      have h2 : ¬ hi < x.toInt := fun q => ho (Or.inr q)
      have hj : (x.toInt - lo).toNat < offs.toList.length := by omega
      have hj2 : offs.toList[(x.toInt - lo).toNat]? = some (offs.toList[(x.toInt - lo).toNat]) := List.getElem?_eq_getElem hj
      have hpos := g2 _ (List.getElem_mem hj)
      exact lv_tableIn hx hb hraw h1 h2 (by rw [← Array.getElem?_toList]; exact hj2) (by rw [Int.toNat_of_nonneg hpos]) (hk _ _ _ _ _ _ _ _ (mv_sw_at h.2 _ _ hj2 (by omega)) hP hS hL hn)
  | getfield idx =>
    obtain ⟨hdd, rfl⟩ := hd (Nat.succ_ne_zero _)
    replace h := mv_pA_inv h
    obtain ⟨a, r, rfl, h⟩ := h
    cases hf : fl idx with
    | none => simp only [hf] at h
    | some q =>
      obtain ⟨ci, fi⟩ := q
      simp only [hf] at h
      replace h := mv_at_inv h
      obtain ⟨o, he, h⟩ := h
      replace h := mv_obj_inv h
      obtain ⟨fs, rfl, h⟩ := h
      obtain ⟨C, T, N, ty0, c1, c2, c3, c4, c5, c6⟩ := hF idx ci fi hf
      rcases h with ⟨q, hq, h⟩ | ⟨hq, h⟩
      · exact va_get (D := (dC, dI)) (ci := ci) (v := .ref (ad q)) (C := C) (T := T) (N := N) hx hb hts c3 hown hK hP a (mv_ws_get he) c1 fi c2 (hts _ c4) (fun _ h9 => h9) (mv_fs_ref ad (I a) fs 0 fi q hq) hdd (hk _ _ _ _ _ _ _ _ h hP hS hL hn)
      · have hv := mv_fs_int ad (I a) fs 0 fi hq
        rw [Nat.zero_add] at hv
        exact va_get (D := (dC, dI)) (ci := ci) (v := .int (I a fi)) (C := C) (T := T) (N := N) hx hb hts c3 hown hK hP a (mv_ws_get he) c1 fi c2 (hts _ c4) (fun _ h9 => h9) hv hdd (hk _ _ _ _ _ _ _ _ h hP hS hL hn)
  | putfield idx =>
    obtain ⟨hdd, rfl⟩ := hd (Nat.succ_ne_zero _)
    replace h := mv_pI_inv h
    obtain ⟨v, r, rfl, h⟩ := h
    replace h := mv_pA_inv h
    obtain ⟨a, r, rfl, h⟩ := h
    cases hf : fl idx with
    | none => simp only [hf] at h
    | some q =>
      obtain ⟨ci, fi⟩ := q
      simp only [hf] at h
      replace h := mv_at_inv h
      obtain ⟨o, he, h⟩ := h
      replace h := mv_obj_inv h
      obtain ⟨fs, rfl, h⟩ := h
      obtain ⟨C, T, N, ty0, c1, c2, c3, c4, c5, c6⟩ := hF idx ci fi hf
      rcases h with ⟨q, hq, h⟩ | ⟨hq, h⟩
      · exact h.elim
      · obtain ⟨z1, z2⟩ := hSh a (ci, fs) fi he hq (C, T, N) c1
        have hlt : fi < (mv_fs ad (I a) 0 fs).length := (List.getElem?_eq_some_iff.mp (mv_fs_int ad (I a) fs 0 fi hq)).1
        cases hz : mv_isZ ci fi with
        | false =>
          simp only [hz, cond_false] at h z2
          exact va_put (D := (dC, dI)) (ci := ci) (v := .int v) (ty := .int) (C := C) (T := T) (N := N) hx hb hts c3 ty0 c5 c6 hown hK hP (hD I J) hS a (mv_ws_get he) c1 fi c2 (hts _ c4) (fun _ h9 => h9) z1 z2 rfl rfl hlt hdd (fun H1 locs1 hP1 _ hS1 => hk _ _ _ _ _ _ _ _ h (by rw [← mv_ws_put he hq]; exact hP1) hS1 hL hn)
        | true =>
          simp only [hz, cond_true] at h z2
          have hv : narrow .boolean (.int v) = .int v ∧ fits .boolean (.int v) = true := by rcases h.1 with rfl | rfl <;> exact ⟨rfl, rfl⟩
          exact va_put (D := (dC, dI)) (ci := ci) (v := .int v) (ty := .boolean) (C := C) (T := T) (N := N) hx hb hts c3 ty0 c5 c6 hown hK hP (hD I J) hS a (mv_ws_get he) c1 fi c2 (hts _ c4) (fun _ h9 => h9) z1 z2 hv.1 hv.2 hlt hdd (fun H1 locs1 hP1 _ hS1 => hk _ _ _ _ _ _ _ _ h.2 (by rw [← mv_ws_put he hq]; exact hP1) hS1 hL hn)
  | iaload =>
    obtain ⟨hdd, rfl⟩ := hd (Nat.succ_ne_zero _)
    replace h := mv_pI_inv h
    obtain ⟨j, r, rfl, h⟩ := h
    replace h := mv_pA_inv h
    obtain ⟨a, r, rfl, h⟩ := h
    cases he : mv_nth a sh with
    | none =>
      simp only [he] at h
      cases hX9 : X with
      | none => simp only [hX9] at h
      | some q =>
        obtain ⟨L, xs⟩ := q
        simp only [hX9] at h
        replace h := mv_bif h
        obtain ⟨h1, h⟩ := h
        have h1 := Nat.eq_of_beq_eq_true h1
        subst h1
        obtain ⟨x1, x2, x3⟩ := hX L xs hX9
        exact va_sld hx hb x1 x2 x3 hS h.1 hdd (hk _ _ _ _ _ _ _ _ h.2 hP hS hL hn)
    | some o =>
      simp only [he] at h
      replace h := mv_arr_inv h
      obtain ⟨ty, n, rfl, h⟩ := h
      replace h := mv_bif h
      obtain ⟨h1, h⟩ := h
      have h1 := Nat.eq_of_beq_eq_true h1
      subst h1
      exact va_iald hx hb hK hP a 0 (mv_ws_get he) rfl h.1 hdd (hk _ _ _ _ _ _ _ _ h.2 hP hS hL hn)
  | baload =>
    obtain ⟨hdd, rfl⟩ := hd (Nat.succ_ne_zero _)
    replace h := mv_pI_inv h
    obtain ⟨j, r, rfl, h⟩ := h
    replace h := mv_pA_inv h
    obtain ⟨a, r, rfl, h⟩ := h
    replace h := mv_at_inv h
    obtain ⟨o, he, h⟩ := h
    replace h := mv_arr_inv h
    obtain ⟨ty, n, rfl, h⟩ := h
    replace h := mv_bif h
    obtain ⟨h1, h⟩ := h
    rcases Bool.or_eq_true _ _ ▸ h1 with h1 | h1
    · have h1 := Nat.eq_of_beq_eq_true h1
      subst h1
      exact va_bald hx hb hK hP a 2 (mv_ws_get he) rfl h.1 hdd (hk _ _ _ _ _ _ _ _ h.2 hP hS hL hn)
    · have h1 := Nat.eq_of_beq_eq_true h1
      subst h1
      exact va_zald hx hb hK hP a 3 (mv_ws_get he) rfl h.1 hdd (hk _ _ _ _ _ _ _ _ h.2 hP hS hL hn)
  | laload =>
    obtain ⟨hdd, rfl⟩ := hd (Nat.succ_ne_zero _)
    replace h := mv_pI_inv h
    obtain ⟨j, r, rfl, h⟩ := h
    replace h := mv_pA_inv h
    obtain ⟨a, r, rfl, h⟩ := h
    replace h := mv_at_inv h
    obtain ⟨o, he, h⟩ := h
    replace h := mv_arr_inv h
    obtain ⟨ty, n, rfl, h⟩ := h
    replace h := mv_bif h
    obtain ⟨h1, h⟩ := h
    have h1 := Nat.eq_of_beq_eq_true h1
    subst h1
    exact va_lald hx hb hK hP a 1 (mv_ws_get he) rfl h.1 hdd (hk _ _ _ _ _ _ _ _ h.2 hP hS hL hn)
  | aaload =>
    obtain ⟨hdd, rfl⟩ := hd (Nat.succ_ne_zero _)
    replace h := mv_pI_inv h
    obtain ⟨j, r, rfl, h⟩ := h
    replace h := mv_pA_inv h
    obtain ⟨a, r, rfl, h⟩ := h
    replace h := mv_at_inv h
    obtain ⟨o, he, h⟩ := h
    replace h := mv_arr_inv h
    obtain ⟨ty, n, rfl, h⟩ := h
    replace h := mv_bif h
    obtain ⟨h1, h⟩ := h
    have h1 : Nat.beq ty 4 = true ∧ Nat.beq n 4 = true := by simpa only [Bool.and_eq_true] using h1
    obtain ⟨h1, h2⟩ := h1
    have h1 := Nat.eq_of_beq_eq_true h1
    have h2 := Nat.eq_of_beq_eq_true h2
    subst h1
    subst h2
    obtain ⟨h0, k0, k1, k2, k3⟩ := h
    refine va_aldq hx hb hK hP a 4 (mv_ws_get he) rfl h0 hdd ?_
    obtain ⟨z, hz, rfl⟩ := vp_in_of h0 (by decide)
    match z, hz with
    | 0, _ => exact hk _ _ _ _ _ _ _ _ (k0 (by decide)) hP hS hL hn
    | 1, _ => exact hk _ _ _ _ _ _ _ _ (k1 (by decide)) hP hS hL hn
    | 2, _ => exact hk _ _ _ _ _ _ _ _ (k2 (by decide)) hP hS hL hn
    | 3, _ => exact hk _ _ _ _ _ _ _ _ (k3 (by decide)) hP hS hL hn
    | z + 4, hz => omega
  | arraylength =>
    obtain ⟨hdd, rfl⟩ := hd (Nat.succ_ne_zero _)
    replace h := mv_pA_inv h
    obtain ⟨a, r, rfl, h⟩ := h
    cases he : mv_nth a sh with
    | none =>
      simp only [he] at h
      cases hX9 : X with
      | none => simp only [hX9] at h
      | some q =>
        obtain ⟨L, xs⟩ := q
        simp only [hX9] at h
        replace h := mv_bif h
        obtain ⟨h1, h⟩ := h
        have h1 := Nat.eq_of_beq_eq_true h1
        subst h1
        obtain ⟨x1, x2, x3⟩ := hX L xs hX9
        exact va_slen hx hb x1 x2 x3 hS hdd (hk _ _ _ _ _ _ _ _ h hP hS hL hn)
    | some o =>
      simp only [he] at h
      replace h := mv_arr_inv h
      obtain ⟨ty, n, rfl, h⟩ := h
      replace h := mv_bif h
      obtain ⟨h1, h⟩ := h
      have h1 : ty < 5 := Nat.le_of_ble_eq_true h1
      match ty, h1, he with
      | 0, _, he => exact va_alen hx hb hK hP a 0 (mv_ws_get he) rfl rfl hdd (hk _ _ _ _ _ _ _ _ h hP hS hL hn)
      | 1, _, he => exact va_alen hx hb hK hP a 1 (mv_ws_get he) rfl rfl hdd (hk _ _ _ _ _ _ _ _ h hP hS hL hn)
      | 2, _, he => exact va_alen hx hb hK hP a 2 (mv_ws_get he) rfl rfl hdd (hk _ _ _ _ _ _ _ _ h hP hS hL hn)
      | 3, _, he => exact va_alen hx hb hK hP a 3 (mv_ws_get he) rfl rfl hdd (hk _ _ _ _ _ _ _ _ h hP hS hL hn)
      | 4, _, he => exact va_alen hx hb hK hP a 4 (mv_ws_get he) rfl rfl hdd (hk _ _ _ _ _ _ _ _ h hP hS hL hn)
      | z + 5, h1, _ => omega
  | iastore =>
    obtain ⟨hdd, rfl⟩ := hd (Nat.succ_ne_zero _)
    replace h := mv_pI_inv h
    obtain ⟨v, r, rfl, h⟩ := h
    replace h := mv_pI_inv h
    obtain ⟨j, r, rfl, h⟩ := h
    replace h := mv_pA_inv h
    obtain ⟨a, r, rfl, h⟩ := h
    replace h := mv_at_inv h
    obtain ⟨o, he, h⟩ := h
    replace h := mv_arr_inv h
    obtain ⟨ty, n, rfl, h⟩ := h
    replace h := mv_bif h
    obtain ⟨h1, h⟩ := h
    have h1 := Nat.eq_of_beq_eq_true h1
    subst h1
    exact va_iast hx hb hK hP (hD I J) hS a 0 (mv_ws_get he) rfl h.1 hdd (fun H1 locs1 hP1 _ hS1 => hk _ _ _ _ _ _ _ _ h.2 (by rw [← mv_ws_row _ he (fun _ _ => rfl)]; exact hP1) hS1 hL hn)
  | bastore =>
    obtain ⟨hdd, rfl⟩ := hd (Nat.succ_ne_zero _)
    replace h := mv_pI_inv h
    obtain ⟨v, r, rfl, h⟩ := h
    replace h := mv_pI_inv h
    obtain ⟨j, r, rfl, h⟩ := h
    replace h := mv_pA_inv h
    obtain ⟨a, r, rfl, h⟩ := h
    replace h := mv_at_inv h
    obtain ⟨o, he, h⟩ := h
    replace h := mv_arr_inv h
    obtain ⟨ty, n, rfl, h⟩ := h
    cases h2 : Nat.beq ty 2 with
    | true =>
      have h1 := Nat.eq_of_beq_eq_true h2
      subst h1
      exact va_bast hx hb hK hP (hD I J) hS a 2 (mv_ws_get he) rfl h.1 hdd (fun H1 locs1 hP1 _ hS1 => hk _ _ _ _ _ _ _ _ h.2 (by rw [← mv_ws_row _ he (fun _ _ => rfl)]; exact hP1) hS1 hL hn)
    | false =>
      simp only [h2, cond_false] at h
      replace h := mv_bif h
      obtain ⟨h1, h⟩ := h
      have h1 := Nat.eq_of_beq_eq_true h1
      subst h1
      exact va_zast hx hb hK hP (hD I J) hS a 3 (mv_ws_get he) rfl h.1 hdd (fun H1 locs1 hP1 _ hS1 => hk _ _ _ _ _ _ _ _ h.2 (by rw [← mv_ws_row _ he (fun _ _ => rfl)]; exact hP1) hS1 hL hn)
  | lastore =>
    obtain ⟨hdd, rfl⟩ := hd (Nat.succ_ne_zero _)
    replace h := mv_pL_inv h
    obtain ⟨v, r, rfl, h⟩ := h
    replace h := mv_pI_inv h
    obtain ⟨j, r, rfl, h⟩ := h
    replace h := mv_pA_inv h
    obtain ⟨a, r, rfl, h⟩ := h
    replace h := mv_at_inv h
    obtain ⟨o, he, h⟩ := h
    replace h := mv_arr_inv h
    obtain ⟨ty, n, rfl, h⟩ := h
    replace h := mv_bif h
    obtain ⟨h1, h⟩ := h
    have h1 := Nat.eq_of_beq_eq_true h1
    subst h1
    exact va_last hx hb hK hP (hD I J) hS a 1 (mv_ws_get he) rfl h.1 hdd (fun H1 locs1 hP1 _ hS1 => hk _ _ _ _ _ _ _ _ h.2 (by rw [← mv_ws_rowL _ he]; exact hP1) hS1 hL hn)
  | invokestatic idx =>
    obtain ⟨hdd, rfl⟩ := hd (Nat.succ_ne_zero _)
    cases hf : cs idx with
    | none => simp only [mv_step, hf] at h
    | some q =>
      obtain ⟨mid, na, ci⟩ := q
      simp only [mv_step, hf] at h
      replace h := mv_bif h
      obtain ⟨hci, h⟩ := h
      have hsz : c.maxLocals = arr.size := by rw [hml, hL.1, hn]
      unfold mv_static at h
      split at h
      · replace h := mv_pI_inv h
        obtain ⟨y, r, rfl, h⟩ := h
        replace h := mv_pI_inv h
        obtain ⟨x, r, rfl, h⟩ := h
        replace h := mv_bif h
        obtain ⟨h8, h⟩ := h
        have h8 := Nat.le_of_ble_eq_true h8
        obtain ⟨j1, j2, j3, j4⟩ := hJ.1 idx na ci hf
        exact va_mmax hx hb hsz hown (hts _ j1) (hts _ j2) (hts _ j3) (hts _ j4) hR.1 (by rw [mv_cs_eq]; omega) hR.2.2.1 hR.2.2.2 hdd (hk _ _ _ _ _ _ _ _ h hP hS hL hn)
      · replace h := mv_pI_inv h
        obtain ⟨y, r, rfl, h⟩ := h
        replace h := mv_pI_inv h
        obtain ⟨x, r, rfl, h⟩ := h
        replace h := mv_bif h
        obtain ⟨h8, h⟩ := h
        have h8 := Nat.le_of_ble_eq_true h8
        obtain ⟨j1, j2, j3, j4⟩ := hJ.2.1 idx na ci hf
        exact va_mmin hx hb hsz hown (hts _ j1) (hts _ j2) (hts _ j3) (hts _ j4) hR.1 (by rw [mv_cs_eq]; omega) hR.2.2.1 hR.2.2.2 hdd (hk _ _ _ _ _ _ _ _ h hP hS hL hn)
      · replace h := mv_pI_inv h
        obtain ⟨n, r, rfl, h⟩ := h
        replace h := mv_pI_inv h
        obtain ⟨dp, r, rfl, h⟩ := h
        replace h := mv_pA_inv h
        obtain ⟨a, r, rfl, h⟩ := h
        replace h := mv_pI_inv h
        obtain ⟨sp, r, rfl, h⟩ := h
        replace h := mv_pA_inv h
        obtain ⟨a0, r, rfl, h⟩ := h
        replace h := mv_bif h
        obtain ⟨h8, h⟩ := h
        have h8 := Nat.le_of_ble_eq_true h8
        replace h := mv_at_inv h
        obtain ⟨o0, he0, h⟩ := h
        replace h := mv_arr_inv h
        obtain ⟨t0, n0, rfl, h⟩ := h
        replace h := mv_at_inv h
        obtain ⟨o, he, h⟩ := h
        replace h := mv_arr_inv h
        obtain ⟨t1, n1, rfl, h⟩ := h
        replace h := mv_bif h
        obtain ⟨h1, h⟩ := h
        have h1 : Nat.beq t0 0 = true ∧ Nat.beq t1 0 = true := by simpa only [Bool.and_eq_true] using h1
        obtain ⟨h1, h2⟩ := h1
        have h1 := Nat.eq_of_beq_eq_true h1
        have h2 := Nat.eq_of_beq_eq_true h2
        subst h1
        subst h2
        obtain ⟨y1, y2, y3, y4, y5, h⟩ := h
        obtain ⟨j1, j2, j3, j4⟩ := hJ.2.2 idx na ci hf
        exact va_copyi hx hb hsz hown (hts _ j1) (hts _ j2) (hts _ j3) (hts _ j4) hK hP (hD I J) hS a0 a 0 0 (ty := .int) (mv_ws_get he0) (mv_ws_get he) rfl rfl rfl y1 y2 y3 y4 y5 (fun _ _ => rfl) hR.1 (by rw [mv_cs_eq]; show mv_cs r + (7 + 11) ≤ R.locals; omega) hdd (fun H1 locs1 hP1 _ hS1 => hk _ _ _ _ _ _ _ _ h (by rw [← mv_ws_row _ he (fun _ _ => rfl)]; exact hP1) hS1 hL hn)
      · replace h := mv_pop_inv h
        obtain ⟨as, r, rfl, hlen, h⟩ := h
        rw [List.append_nil] at h
        replace h := mv_bif h
        obtain ⟨h8, h⟩ := h
        have h8 := Nat.le_of_ble_eq_true h8
        obtain ⟨y, bytes, maxL, ret, ws, ws', rm, ⟨e1, e2, e3, e4⟩, r1, r2, r3, r4, hM⟩ := hC idx _ na ci hf as I J _ hlen h
        simp only [hci, cond_true] at e4
        have hstk : (as.reverse ++ r).map (mv_val ad) = (as.map (mv_val ad)).reverse ++ r.map (mv_val ad) := by rw [List.map_append, List.map_reverse]
        cases hc2 : Nat.beq ci 100 with
        | true =>
          simp only [hc2, cond_true] at e4
          rcases hM H.size with hM | hM
          · exact va_calli (va_runS (As := as.map (mv_val ad)) (rest := r.map (mv_val ad)) ⟨hx, hb, hml, hown, hts⟩ hM (va_cwS na hts e4.1 e1 r1 r2 ⟨e2.1, e2.2, e4.2⟩ ⟨r3, by omega⟩) ⟨fun aa U g mk q => by obtain ⟨q0, q1, qP, qK, qD, qN⟩ := q; exact ⟨q0, q1, qP, va_K.moved (u := U) (U := U.calling g mk aa) (Vm.Alike.refl U.vm) qK, qD, mv_NW.same (u := U) (U := U.calling g mk aa) rfl qN⟩, fun U hU hW => ⟨rfl, by rw [hU], by rw [hU]; exact hP, va_K.moved hW.alike hK, (hD I J).weaken (fun _ _ _ _ => trivial), mv_NW.warm hW hNW⟩⟩ rfl (by rw [List.length_map]; exact hlen) (by rw [← hn]; exact hL.1) hstk (lv_room (by rw [mv_cs_eq]; exact h8)) hdd ⟨hR.2.2.1, hR.2.2.2⟩) hS (fun q _ h => hFc q h) hFc (fun r0 u t H1 locs1 ht hvm hw hB hz1 hk1 hS1 => hk _ _ _ _ _ _ _ _ hw (by rw [← ht]; exact hB) hS1 hL hn)
          · exact va_callv (va_runS (As := as.map (mv_val ad)) (rest := r.map (mv_val ad)) ⟨hx, hb, hml, hown, hts⟩ hM (va_cwS na hts e4.1 e1 r1 r2 ⟨e2.1, e2.2, e4.2⟩ ⟨r3, by omega⟩) ⟨fun aa U g mk q => by obtain ⟨q0, q1, qP, qK, qD, qN⟩ := q; exact ⟨q0, q1, qP, va_K.moved (u := U) (U := U.calling g mk aa) (Vm.Alike.refl U.vm) qK, qD, mv_NW.same (u := U) (U := U.calling g mk aa) rfl qN⟩, fun U hU hW => ⟨rfl, by rw [hU], by rw [hU]; exact hP, va_K.moved hW.alike hK, (hD I J).weaken (fun _ _ _ _ => trivial), mv_NW.warm hW hNW⟩⟩ rfl (by rw [List.length_map]; exact hlen) (by rw [← hn]; exact hL.1) hstk (lv_room (by rw [mv_cs_eq]; exact h8)) hdd ⟨hR.2.2.1, hR.2.2.2⟩) hS (fun q _ h => hFc q h) hFc (fun u t H1 locs1 ht hvm hw hB hz1 hk1 hS1 => hk _ _ _ _ _ _ _ _ hw (by rw [← ht]; exact hB) hS1 hL hn)
        | false =>
          simp only [hc2, cond_false] at e4
          obtain ⟨host, hh⟩ := e4.1.2.2.2
          rcases hM H.size with hM | hM
          · exact va_calli (va_runSN (As := as.map (mv_val ad)) (rest := r.map (mv_val ad)) ⟨hx, hb, hml, hown, hts⟩ hM ⟨va_cnB na hts e4.1.1 e1 r1 r2 (hNW _ hh) (hts _ e4.1.2.2.1) ⟨e2.1, e2.2, e4.2⟩ ⟨r3, by omega⟩, hts _ e4.1.2.1, trivial⟩ ⟨fun aa U g mk q => by obtain ⟨q0, q1, qP, qK, qD, qN⟩ := q; exact ⟨q0, q1, qP, va_K.moved (u := U) (U := U.calling g mk aa) (Vm.Alike.refl U.vm) qK, qD, mv_NW.same (u := U) (U := U.calling g mk aa) rfl qN⟩, fun U hU hW => ⟨rfl, by rw [hU], by rw [hU]; exact hP, va_K.moved hW.alike hK, (hD I J).weaken (fun _ _ _ _ => trivial), mv_NW.warm hW hNW⟩⟩ rfl (by rw [List.length_map]; exact hlen) (by rw [← hn]; exact hL.1) hstk (lv_room (by rw [mv_cs_eq]; exact h8)) hdd ⟨hR.2.2.1, hR.2.2.2⟩) hS (fun q _ h => hFc q h) hFc (fun r0 u t H1 locs1 ht hvm hw hB hz1 hk1 hS1 => hk _ _ _ _ _ _ _ _ hw (by rw [← ht]; exact hB) hS1 hL hn)
          · exact va_callv (va_runSN (As := as.map (mv_val ad)) (rest := r.map (mv_val ad)) ⟨hx, hb, hml, hown, hts⟩ hM ⟨va_cnB na hts e4.1.1 e1 r1 r2 (hNW _ hh) (hts _ e4.1.2.2.1) ⟨e2.1, e2.2, e4.2⟩ ⟨r3, by omega⟩, hts _ e4.1.2.1, trivial⟩ ⟨fun aa U g mk q => by obtain ⟨q0, q1, qP, qK, qD, qN⟩ := q; exact ⟨q0, q1, qP, va_K.moved (u := U) (U := U.calling g mk aa) (Vm.Alike.refl U.vm) qK, qD, mv_NW.same (u := U) (U := U.calling g mk aa) rfl qN⟩, fun U hU hW => ⟨rfl, by rw [hU], by rw [hU]; exact hP, va_K.moved hW.alike hK, (hD I J).weaken (fun _ _ _ _ => trivial), mv_NW.warm hW hNW⟩⟩ rfl (by rw [List.length_map]; exact hlen) (by rw [← hn]; exact hL.1) hstk (lv_room (by rw [mv_cs_eq]; exact h8)) hdd ⟨hR.2.2.1, hR.2.2.2⟩) hS (fun q _ h => hFc q h) hFc (fun u t H1 locs1 ht hvm hw hB hz1 hk1 hS1 => hk _ _ _ _ _ _ _ _ hw (by rw [← ht]; exact hB) hS1 hL hn)
  | invokevirtual idx =>
    obtain ⟨hdd, rfl⟩ := hd (Nat.succ_ne_zero _)
    cases hf : cs idx with
    | none => simp only [mv_step, hf] at h
    | some q =>
      obtain ⟨mid, na, ci⟩ := q
      simp only [mv_step, hf] at h
      cases hci : Nat.ble 100 ci with
      | true => simp only [hci, cond_true] at h
      | false =>
        simp only [hci, cond_false] at h
        replace h := mv_pop_inv h
        obtain ⟨as, r, rfl, hlen, h⟩ := h
        rw [List.append_nil] at h
        cases as with
        | nil => exact h.elim
        | cons v as =>
          replace h := mv_asA_inv h
          obtain ⟨a, rfl, h⟩ := h
          replace h := mv_at_inv h
          obtain ⟨o, he, h⟩ := h
          replace h := mv_is_inv h
          obtain ⟨fs, rfl, h⟩ := h
          replace h := mv_bif h
          obtain ⟨h8, h⟩ := h
          have h8 := Nat.le_of_ble_eq_true h8
          obtain ⟨y, bytes, maxL, ret, ws, ws', rm, ⟨e1, e2, e3, e4⟩, r1, r2, r3, r4, hM⟩ := hC idx _ na ci hf _ I J _ hlen h
          simp only [hci, cond_false] at e4
          obtain ⟨n, rfl, hnp⟩ := e4.2.1
          obtain ⟨qc, hqc, hqy⟩ := e4.2.2
          have hstk : ((.inr (.inr a) :: as).reverse ++ r).map (mv_val ad) = (as.map (mv_val ad)).reverse ++ .ref (ad a) :: r.map (mv_val ad) := by
            rw [List.map_append, List.map_reverse, List.map_cons, List.reverse_cons, List.append_assoc]
            rfl
          have hrcv := va_recv hK hP hqc (mv_ws_get he)
          rw [hqy] at hrcv
          rcases hM H.size with hM | hM
          · exact va_calli (va_runV (As := as.map (mv_val ad)) (rest := r.map (mv_val ad)) ⟨hx, hb, hml, hown, hts⟩ hM (cwV n hts e4.1 e1 r1 r2 ⟨rfl, e2.1, e2.2, hnp⟩ ⟨r3, by omega⟩) ⟨fun aa U g mk q => by obtain ⟨q0, q1, qP, qK, qD, qN⟩ := q; exact ⟨q0, q1, qP, va_K.moved (u := U) (U := U.calling g mk aa) (Vm.Alike.refl U.vm) qK, qD, mv_NW.same (u := U) (U := U.calling g mk aa) rfl qN⟩, hrcv, fun U hU hW => ⟨rfl, by rw [hU], by rw [hU]; exact hP, va_K.moved hW.alike hK, (hD I J).weaken (fun _ _ _ _ => trivial), mv_NW.warm hW hNW⟩⟩ rfl (by rw [List.length_map]; simpa using hlen) (by rw [← hn]; exact hL.1) hstk (lv_room (by rw [mv_cs_eq]; exact h8)) hdd ⟨hR.2.2.1, hR.2.2.2⟩) hS (fun q _ h => hFc q h) hFc (fun r0 u t H1 locs1 ht hvm hw hB hz1 hk1 hS1 => hk _ _ _ _ _ _ _ _ hw (by rw [← ht]; exact hB) hS1 hL hn)
          · exact va_callv (va_runV (As := as.map (mv_val ad)) (rest := r.map (mv_val ad)) ⟨hx, hb, hml, hown, hts⟩ hM (cwV n hts e4.1 e1 r1 r2 ⟨rfl, e2.1, e2.2, hnp⟩ ⟨r3, by omega⟩) ⟨fun aa U g mk q => by obtain ⟨q0, q1, qP, qK, qD, qN⟩ := q; exact ⟨q0, q1, qP, va_K.moved (u := U) (U := U.calling g mk aa) (Vm.Alike.refl U.vm) qK, qD, mv_NW.same (u := U) (U := U.calling g mk aa) rfl qN⟩, hrcv, fun U hU hW => ⟨rfl, by rw [hU], by rw [hU]; exact hP, va_K.moved hW.alike hK, (hD I J).weaken (fun _ _ _ _ => trivial), mv_NW.warm hW hNW⟩⟩ rfl (by rw [List.length_map]; simpa using hlen) (by rw [← hn]; exact hL.1) hstk (lv_room (by rw [mv_cs_eq]; exact h8)) hdd ⟨hR.2.2.1, hR.2.2.2⟩) hS (fun q _ h => hFc q h) hFc (fun u t H1 locs1 ht hvm hw hB hz1 hk1 hS1 => hk _ _ _ _ _ _ _ _ hw (by rw [← ht]; exact hB) hS1 hL hn)
  | ireturn =>
    obtain ⟨hdd, rfl⟩ := hd (Nat.succ_ne_zero _)
    replace h := mv_pI_inv h
    obtain ⟨x, r, rfl, h⟩ := h
    cases r with
    | nil => exact hret _ _ _ _ _ _ _ hdd h hP hS
    | cons _ _ => exact h.elim
  | return_ =>
    obtain ⟨hdd, rfl⟩ := hd (Nat.succ_ne_zero _)
    cases st with
    | nil => exact hvret _ _ _ _ _ _ hdd h hP hS
    | cons _ _ => exact h.elim
  | _ => exact False.elim h
end MVS
