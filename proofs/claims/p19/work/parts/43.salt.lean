theorem mv_P_l {D : va_G} {cl : List vw_C} {X Y : va_W} {H : Heap} (h : va_P D cl (X ++ Y) H) : va_P D cl X H := fun k q hk => h k q (by rw [List.getElem?_append_left (List.getElem?_eq_some_iff.mp hk).1]; exact hk)
theorem mv_P_r {D : va_G} {cl : List vw_C} {X Y : va_W} {H : Heap} (h : va_P D cl (X ++ Y) H) : va_P D cl Y H := fun k q hk => h (X.length + k) q (by rw [List.getElem?_append_right (by omega), show X.length + k - X.length = k by omega]; exact hk)
theorem mv_D_r {A : Nat → Prop} {X Y : va_W} (h : va_D A (X ++ Y)) : va_D A Y := by
  have e : ∀ (k : Nat) (q : Nat × va_E), Y[k]? = some q → (X ++ Y)[X.length + k]? = some q := fun k q hk => by rw [List.getElem?_append_right (by omega), show X.length + k - X.length = k by omega]; exact hk
  refine ⟨fun i j p q hp hq hpq => ?_, fun k q hk => h.2 _ q (e k q hk)⟩
  have := h.1 _ _ p q (e i p hp) (e j q hq) hpq
  omega
theorem mv_D_l {A : Nat → Prop} {X Y : va_W} (h : va_D A (X ++ Y)) : va_D A X := by
  have e : ∀ (k : Nat) (q : Nat × va_E), X[k]? = some q → (X ++ Y)[k]? = some q := fun k q hk => by rw [List.getElem?_append_left (List.getElem?_eq_some_iff.mp hk).1]; exact hk
  exact ⟨fun i j p q hp hq hpq => h.1 _ _ p q (e i p hp) (e j q hq) hpq, fun k q hk => h.2 _ q (e k q hk)⟩
theorem mv_join {A0 : Nat → Prop} {D : va_G} {cl : List vw_C} {X Y w1 : va_W} {H H1 : Heap} (hP : va_P D cl (X ++ Y) H) (hD : va_D A0 (X ++ Y)) (hk : ∀ q : Nat, q < H.size → ¬ va_A Y H.size q → H1[q]? = H[q]?) (hF : ∀ q, va_A Y H.size q → A0 q) (hP1 : va_P D cl w1 H1) (hD1 : va_D (va_A Y H.size) w1) : va_P D cl (X ++ w1) H1 ∧ va_D A0 (X ++ w1) := by
  have apart : ∀ (k : Nat) (q : Nat × va_E), X[k]? = some q → q.1 < H.size ∧ ¬ va_A Y H.size q.1 := by
    intro k q hq
    have hl := (List.getElem?_eq_some_iff.mp hq).1
    have h2 : (X ++ Y)[k]? = some q := by rw [List.getElem?_append_left hl]; exact hq
    have hlt := (hP k q h2).lt
    refine ⟨hlt, fun h => ?_⟩
    rcases h with ⟨k2, e, h⟩ | h
    · have h3 : (X ++ Y)[X.length + k2]? = some (q.1, e) := by rw [List.getElem?_append_right (by omega), show X.length + k2 - X.length = k2 by omega]; exact h
      have := hD.1 _ _ q (q.1, e) h2 h3 rfl
      omega
    · omega
  refine ⟨va_P.app (fun k q hq => ?_) hP1, va_D.app (mv_D_l hD) (hD1.weaken (fun k q _ h => hF q.1 h)) (fun i j x y hx hy hxy => ?_)⟩
  · obtain ⟨g1, g2⟩ := apart k q hq
    exact (mv_P_l hP k q hq).kept (hk q.1 g1 g2)
  · exact (apart i x hx).2 (by rw [hxy]; exact hD1.2 j y hy)
theorem mv_goodc {y : MethodName} {b : ByteArray} {n : Nat} {r : Option FieldType} (h : Jvm.Cond.code y b n r ∈ mv_TT) : GoodIn mv_TT (Jvm.Cond.code y b n r :: mv_TT) := by
  have hm : ∀ w ∈ Jvm.Cond.code y b n r :: mv_TT, w ∈ mv_TT := fun w hw => by
    rcases List.mem_cons.mp hw with rfl | hw
    · exact h
    · exact hw
  exact fun w hw => ⟨hm w hw, good_of_word (List.all_eq_true.mp mT_good w (hm w hw))⟩
def mv_nc : List (Nat × MethodName) := [(9, yX3_init), (18, yX6_init), (25, yX1_init), (32, yX0_init), (46, yX2_init), (57, yX5_init)]
def mv_NC (U : State) : Prop := (∀ q ∈ mv_nc, va_Nw (.methodLinkNest RX7 q.1 q.2 "SaltPool") U) ∧ va_AO "SaltPool$Sheet" U
def ws_Salt (cy : Nat → ClassId) (h0 : Nat) (z : (Nat → Nat) × (Nat → Nat → Nat)) : va_W := (h0, .inr (7, [.ref (z.1 0), .ref (z.1 1), .ref (z.1 2), .ref (z.1 3), .ref (z.1 4), .ref (z.1 5), .ref (z.1 6), .int 0])) :: ((z.1 6, .inl (cy 4, 4, .inr (.inr (.inr (.inr (va_up (va_up (va_up (va_up (fun _ => none) 0 (some (z.1 7))) 1 (some (z.1 8))) 2 (some (z.1 9))) 3 (some (z.1 10)))))))) :: ((((((((((([] : va_W) ++ ws_Pool cy (z.1 0) (z.2 0)) ++ ws_Tape cy (z.1 1) (z.2 1)) ++ ws_Lots cy (z.1 2) (z.2 2)) ++ ws_Fleet cy (z.1 3) (z.2 3)) ++ ws_Sea cy (z.1 4) (z.2 4)) ++ ws_Mole cy (z.1 5) (z.2 5)) ++ ws_Sheet cy (z.1 7) (z.2 7)) ++ ws_Sheet cy (z.1 8) (z.2 8)) ++ ws_Sheet cy (z.1 9) (z.2 9)) ++ ws_Sheet cy (z.1 10) (z.2 10)))
def w0_Salt (h0 : Nat) : va_W := [(h0, .inr (7, [.null, .null, .null, .null, .null, .null, .null, .int 0]))]
set_option maxHeartbeats 8000000 in
set_option maxRecDepth 100000 in
theorem k_Salt (l : Launch) (dC : Nat → ClassId) (dI : Nat → Nat → Nat) (cy : Nat → ClassId) (h0 sz : Nat) : Met l yX7_init (Jvm.Cond.code yX7_init cX7_init 2 none :: mv_TT) ({ frames := 6, cells := 49, slots := 1892, locals := 500 }) (va_Pc [.ref h0] (fun U => U.heap.size = sz ∧ va_P (dC, dI) vwCl (w0_Salt h0) U.heap ∧ va_K (dC, dI) vwCl (mv_tys cy) U ∧ va_D (fun _ => True) (w0_Salt h0) ∧ mv_NW U ∧ mv_NC U)) (va_Qv (fun _ : (Nat → Nat) × (Nat → Nat → Nat) => True) (fun z t => va_P (dC, dI) vwCl (ws_Salt cy h0 z) t.heap ∧ va_D (va_A (w0_Salt h0) sz) (ws_Salt cy h0 z)) (va_A (w0_Salt h0) sz)) 49 1892 (va_A (w0_Salt h0) sz) := by
  refine Met.ofW (cc := cX7_init) (maxL := 2) (ret := none) (by decide +kernel) rfl ?_
  intro p e s m args below meth c s₁ B hml hv
  obtain ⟨rfl, hsz, hP, hK, hD0, hNW, hNC⟩ := hv
  have hx := B.exec
  have hb := B.bytes
  have hr := B.returns
  have hts0 := atoms_spec (ws := Jvm.Cond.code yX7_init cX7_init 2 none :: mv_TT) B.pre
  have hts : ∀ w ∈ mv_TT, w.before _ s = true := fun w h => hts0 w (List.mem_cons_of_mem _ h)
  have hown : s.vm.findClass RX7 = some m.cls := findClass_of_methodNamed B.named
  have hlocks := B.notSynchronized
  have hin : meth.name = "<init>" := (name_of_methodNamed B.named B.method).1
  subst hsz
  have hD := hD0.self (sz := s.heap.size)
  generalize hAe : va_A (w0_Salt h0) s.heap.size = A at hD ⊢
  have hA : ∀ q : Nat, s.heap.size ≤ q → A q := fun q h => by rw [← hAe]; exact Or.inr h
  have hS : va_S A s.heap s.heap [] := va_S.rf
  have hP : va_P (dC, dI) vwCl ((h0, .inr (7, [.null, .null, .null, .null, .null, .null, .null, .int 0])) :: ([] : va_W)) s.heap := hP
  have hD : va_D A ((h0, .inr (7, [.null, .null, .null, .null, .null, .null, .null, .int 0])) :: ([] : va_W)) := hD
  have hl := lv_entry ([.ref h0]) (n := 2) (Nat.le_of_ble_eq_true rfl)
  rw [lg_entry_eq]
  generalize (lg_sl ([.ref h0]) ++ List.replicate (2 - (lg_sl ([.ref h0])).length) Slot.unset).toArray = ls at hl ⊢
  have hl : lv_has ls 2 [(0, .ref h0)] := hl
  refine lv_aload_n hx hb (show decode cX7_init 0 = .ok (.aload_n 0, 1) by decide +kernel) rfl (lv_at hl 0 rfl) ?_
  refine W.objInit hx hb hown (hts _ (mT1 _ (List.mem_of_getElem? (i := 19) rfl) rfl)) (hts _ (mT1 _ (List.mem_of_getElem? (i := 20) rfl) rfl)) (hts _ (mT1 _ (List.mem_of_getElem? (i := 21) rfl) rfl)) rfl (by rw [hml]; exact hl.1) rfl (show decode cX7_init 1 = .ok (.invokespecial 1, 3) by decide +kernel) (Nat.le_of_ble_eq_true rfl) (Nat.le_of_ble_eq_true rfl) ?_
  refine W.eq (g2 := F0 m 4 ls []) rfl ?_
  refine lv_aload_n hx hb (show decode cX7_init 4 = .ok (.aload_n 0, 1) by decide +kernel) rfl (lv_at hl 0 rfl) ?_
  refine va_new (ci := 3) (fs := [.null, .null, .int 0, .int 0, .null, .null, .null, .null, .null, .int 0, .null, .null, .null]) (C := RX3) (T := TX3) (N := 13) hx hb hts mu_X3 tyX3 tyX3_ok hown (hts _ (mT1 _ (List.mem_of_getElem? (i := 22) rfl) rfl)) (hts _ (mT1 _ (List.mem_of_getElem? (i := 23) rfl) rfl)) (hts _ (mT1 _ (List.mem_of_getElem? (i := 2) rfl) rfl)) hK hP hD hS hA rfl (fun j hj => by
    match j, hj with
    | 0, _ => rfl
    | 1, _ => rfl
    | 2, _ => rfl
    | 3, _ => rfl
    | 4, _ => rfl
    | 5, _ => rfl
    | 6, _ => rfl
    | 7, _ => rfl
    | 8, _ => rfl
    | 9, _ => rfl
    | 10, _ => rfl
    | 11, _ => rfl
    | 12, _ => rfl
    | j + 13, hj => omega) (Nat.le_of_ble_eq_true rfl) (Nat.le_of_ble_eq_true rfl) (show decode cX7_init 5 = .ok (.new 7, 3) by decide +kernel) (fun q0 H hP hD hS => ?_)
  refine W.widen (k := 1) (n := 13) (Nat.le_of_ble_eq_true rfl) (Nat.le_of_ble_eq_true rfl) ?_
  have hP : va_P (dC, dI) vwCl (((h0, .inr (7, [.null, .null, .null, .null, .null, .null, .null, .int 0])) :: ([] : va_W)) ++ w0_Pool q0) H := hP
  have hD : va_D A (((h0, .inr (7, [.null, .null, .null, .null, .null, .null, .null, .int 0])) :: ([] : va_W)) ++ w0_Pool q0) := hD
  refine lv_dup hx hb (show decode cX7_init 8 = .ok (.dup, 1) by decide +kernel) rfl ?_
  have hPc : va_P (dC, dI) vwCl (w0_Pool q0) H := mv_P_r hP
  have hDc : va_D A (w0_Pool q0) := mv_D_r hD
  have hFc : ∀ a, va_A (w0_Pool q0) H.size a → A a := fun a h => by
    rcases h with ⟨k9, e9, h⟩ | h
    · exact hDc.2 k9 _ h
    · exact hA a (Nat.le_trans hS.1 h)
  refine va_callv (va_runIN (As := []) (rest := [.ref q0, .ref h0]) ⟨hx, hb, hml, hown, hts⟩ (k_Pool l dC dI cy q0 H.size) ⟨va_cnB 0 hts (mv_goodc (mT1 _ (List.mem_of_getElem? (i := 26) rfl) rfl)) rfl rfl rfl (hNC.1 (9, yX3_init) (by simp [mv_nc])) (hts _ (mT1 _ (List.mem_of_getElem? (i := 2) rfl) rfl)) ⟨by decide +kernel, by decide +kernel, by decide +kernel⟩ ⟨Nat.le_of_ble_eq_true rfl, Nat.le_of_ble_eq_true rfl⟩, rfl, hts _ (mT1 _ (List.mem_of_getElem? (i := 25) rfl) rfl)⟩ ⟨fun a U g mk q => by obtain ⟨q0, q1, qP, qK, qD⟩ := q; exact ⟨q0, q1, qP, va_K.moved (u := U) (U := U.calling g mk a) (Vm.Alike.refl U.vm) qK, qD⟩, fun U hU hW => ⟨rfl, by rw [hU], by rw [hU]; exact hPc, va_K.moved hW.alike hK, hDc.weaken (fun _ _ _ _ => trivial)⟩⟩ rfl rfl hl.1 rfl (lv_room (Nat.le_of_ble_eq_true rfl)) (show decode cX7_init 9 = .ok (.invokespecial 9, 3) by decide +kernel) ⟨Nat.le_of_ble_eq_true rfl, Nat.le_of_ble_eq_true rfl⟩) hS (fun a _ h => hFc a h) hFc (fun u0 t H1 locs ht hvm hw hB hz1 hk1 hS => ?_)
  have hB1 := hB.1
  rw [ht] at hB1
  obtain ⟨hP, hD⟩ := mv_join hP hD hk1 hFc hB1 hB.2
  generalize H1 = H at hP hS ⊢
  have hP : va_P (dC, dI) vwCl ((h0, .inr (7, [.null, .null, .null, .null, .null, .null, .null, .int 0])) :: (([] : va_W) ++ ws_Pool cy q0 u0)) H := hP
  have hD : va_D A ((h0, .inr (7, [.null, .null, .null, .null, .null, .null, .null, .int 0])) :: (([] : va_W) ++ ws_Pool cy q0 u0)) := hD
  refine W.widen (k := 11) (n := 553) (Nat.le_of_ble_eq_true rfl) (Nat.le_of_ble_eq_true rfl) ?_
  refine va_putF (D := (dC, dI)) (ci := 7) (v := .ref q0) (ty := .object "SaltPool$Pool") (C := RX7) (T := TX7) (N := 8) hx hb hts mu_X7 tyX7 tyX7_ok nmX7 hown hK hP hD hS 0 rfl rfl 0 (by decide) (hts _ (mT2 _ (List.mem_of_getElem? (i := 11) rfl) rfl)) (fun _ h9 => h9) rfl hin rfl (by decide +kernel) rfl rfl (Nat.le_of_ble_eq_true rfl) (show decode cX7_init 12 = .ok (.putfield 10, 3) by decide +kernel) (fun H locs hP hD hS => ?_)
  have hP : va_P (dC, dI) vwCl ((h0, .inr (7, [.ref q0, .null, .null, .null, .null, .null, .null, .int 0])) :: (([] : va_W) ++ ws_Pool cy q0 u0)) H := hP
  have hD : va_D A ((h0, .inr (7, [.ref q0, .null, .null, .null, .null, .null, .null, .int 0])) :: (([] : va_W) ++ ws_Pool cy q0 u0)) := hD
  refine lv_aload_n hx hb (show decode cX7_init 15 = .ok (.aload_n 0, 1) by decide +kernel) rfl (lv_at hl 0 rfl) ?_
  refine va_new (ci := 6) (fs := [.null, .null, .int 0, .int 0]) (C := RX6) (T := TX6) (N := 4) hx hb hts mu_X6 tyX6 tyX6_ok hown (hts _ (mT1 _ (List.mem_of_getElem? (i := 74) rfl) rfl)) (hts _ (mT1 _ (List.mem_of_getElem? (i := 75) rfl) rfl)) (hts _ (mT1 _ (List.mem_of_getElem? (i := 3) rfl) rfl)) hK hP hD hS hA rfl (fun j hj => by
    match j, hj with
    | 0, _ => rfl
    | 1, _ => rfl
    | 2, _ => rfl
    | 3, _ => rfl
    | j + 4, hj => omega) (Nat.le_of_ble_eq_true rfl) (Nat.le_of_ble_eq_true rfl) (show decode cX7_init 16 = .ok (.new 16, 3) by decide +kernel) (fun q1 H hP hD hS => ?_)
  refine W.widen (k := 12) (n := 557) (Nat.le_of_ble_eq_true rfl) (Nat.le_of_ble_eq_true rfl) ?_
  have hP : va_P (dC, dI) vwCl (((h0, .inr (7, [.ref q0, .null, .null, .null, .null, .null, .null, .int 0])) :: (([] : va_W) ++ ws_Pool cy q0 u0)) ++ w0_Tape q1) H := hP
  have hD : va_D A (((h0, .inr (7, [.ref q0, .null, .null, .null, .null, .null, .null, .int 0])) :: (([] : va_W) ++ ws_Pool cy q0 u0)) ++ w0_Tape q1) := hD
  refine lv_dup hx hb (show decode cX7_init 19 = .ok (.dup, 1) by decide +kernel) rfl ?_
  have hPc : va_P (dC, dI) vwCl (w0_Tape q1) H := mv_P_r hP
  have hDc : va_D A (w0_Tape q1) := mv_D_r hD
  have hFc : ∀ a, va_A (w0_Tape q1) H.size a → A a := fun a h => by
    rcases h with ⟨k9, e9, h⟩ | h
    · exact hDc.2 k9 _ h
    · exact hA a (Nat.le_trans hS.1 h)
  refine va_callv (va_runIN (As := []) (rest := [.ref q1, .ref h0]) ⟨hx, hb, hml, hown, hts⟩ (k_Tape l dC dI cy q1 H.size) ⟨va_cnB 0 hts (mv_goodc (mT1 _ (List.mem_of_getElem? (i := 78) rfl) rfl)) rfl rfl rfl (hNC.1 (18, yX6_init) (by simp [mv_nc])) (hts _ (mT1 _ (List.mem_of_getElem? (i := 3) rfl) rfl)) ⟨by decide +kernel, by decide +kernel, by decide +kernel⟩ ⟨Nat.le_of_ble_eq_true rfl, Nat.le_of_ble_eq_true rfl⟩, rfl, hts _ (mT1 _ (List.mem_of_getElem? (i := 77) rfl) rfl)⟩ ⟨fun a U g mk q => by obtain ⟨q0, q1, qP, qK, qD⟩ := q; exact ⟨q0, q1, qP, va_K.moved (u := U) (U := U.calling g mk a) (Vm.Alike.refl U.vm) qK, qD⟩, fun U hU hW => ⟨rfl, by rw [hU], by rw [hU]; exact hPc, va_K.moved hW.alike hK, hDc.weaken (fun _ _ _ _ => trivial)⟩⟩ rfl rfl hl.1 rfl (lv_room (Nat.le_of_ble_eq_true rfl)) (show decode cX7_init 20 = .ok (.invokespecial 18, 3) by decide +kernel) ⟨Nat.le_of_ble_eq_true rfl, Nat.le_of_ble_eq_true rfl⟩) hS (fun a _ h => hFc a h) hFc (fun u1 t H1 locs ht hvm hw hB hz1 hk1 hS => ?_)
  have hB1 := hB.1
  rw [ht] at hB1
  obtain ⟨hP, hD⟩ := mv_join hP hD hk1 hFc hB1 hB.2
  generalize H1 = H at hP hS ⊢
  have hP : va_P (dC, dI) vwCl ((h0, .inr (7, [.ref q0, .null, .null, .null, .null, .null, .null, .int 0])) :: ((([] : va_W) ++ ws_Pool cy q0 u0) ++ ws_Tape cy q1 u1)) H := hP
  have hD : va_D A ((h0, .inr (7, [.ref q0, .null, .null, .null, .null, .null, .null, .int 0])) :: ((([] : va_W) ++ ws_Pool cy q0 u0) ++ ws_Tape cy q1 u1)) := hD
  refine W.widen (k := 14) (n := 635) (Nat.le_of_ble_eq_true rfl) (Nat.le_of_ble_eq_true rfl) ?_
  refine va_putF (D := (dC, dI)) (ci := 7) (v := .ref q1) (ty := .object "SaltPool$Tape") (C := RX7) (T := TX7) (N := 8) hx hb hts mu_X7 tyX7 tyX7_ok nmX7 hown hK hP hD hS 0 rfl rfl 1 (by decide) (hts _ (mT2 _ (List.mem_of_getElem? (i := 12) rfl) rfl)) (fun _ h9 => h9) rfl hin rfl (by decide +kernel) rfl rfl (Nat.le_of_ble_eq_true rfl) (show decode cX7_init 23 = .ok (.putfield 19, 3) by decide +kernel) (fun H locs hP hD hS => ?_)
  have hP : va_P (dC, dI) vwCl ((h0, .inr (7, [.ref q0, .ref q1, .null, .null, .null, .null, .null, .int 0])) :: ((([] : va_W) ++ ws_Pool cy q0 u0) ++ ws_Tape cy q1 u1)) H := hP
  have hD : va_D A ((h0, .inr (7, [.ref q0, .ref q1, .null, .null, .null, .null, .null, .int 0])) :: ((([] : va_W) ++ ws_Pool cy q0 u0) ++ ws_Tape cy q1 u1)) := hD
  refine lv_aload_n hx hb (show decode cX7_init 26 = .ok (.aload_n 0, 1) by decide +kernel) rfl (lv_at hl 0 rfl) ?_
  refine va_new (ci := 1) (fs := [.null, .null, .null, .null, .null, .null, .int 0]) (C := RX1) (T := TX1) (N := 7) hx hb hts mu_X1 tyX1 tyX1_ok hown (hts _ (mT1 _ (List.mem_of_getElem? (i := 96) rfl) rfl)) (hts _ (mT1 _ (List.mem_of_getElem? (i := 97) rfl) rfl)) (hts _ (mT1 _ (List.mem_of_getElem? (i := 4) rfl) rfl)) hK hP hD hS hA rfl (fun j hj => by
    match j, hj with
    | 0, _ => rfl
    | 1, _ => rfl
    | 2, _ => rfl
    | 3, _ => rfl
    | 4, _ => rfl
    | 5, _ => rfl
    | 6, _ => rfl
    | j + 7, hj => omega) (Nat.le_of_ble_eq_true rfl) (Nat.le_of_ble_eq_true rfl) (show decode cX7_init 27 = .ok (.new 23, 3) by decide +kernel) (fun q2 H hP hD hS => ?_)
  refine W.widen (k := 15) (n := 642) (Nat.le_of_ble_eq_true rfl) (Nat.le_of_ble_eq_true rfl) ?_
  have hP : va_P (dC, dI) vwCl (((h0, .inr (7, [.ref q0, .ref q1, .null, .null, .null, .null, .null, .int 0])) :: ((([] : va_W) ++ ws_Pool cy q0 u0) ++ ws_Tape cy q1 u1)) ++ w0_Lots q2) H := hP
  have hD : va_D A (((h0, .inr (7, [.ref q0, .ref q1, .null, .null, .null, .null, .null, .int 0])) :: ((([] : va_W) ++ ws_Pool cy q0 u0) ++ ws_Tape cy q1 u1)) ++ w0_Lots q2) := hD
  refine lv_dup hx hb (show decode cX7_init 30 = .ok (.dup, 1) by decide +kernel) rfl ?_
  have hPc : va_P (dC, dI) vwCl (w0_Lots q2) H := mv_P_r hP
  have hDc : va_D A (w0_Lots q2) := mv_D_r hD
  have hFc : ∀ a, va_A (w0_Lots q2) H.size a → A a := fun a h => by
    rcases h with ⟨k9, e9, h⟩ | h
    · exact hDc.2 k9 _ h
    · exact hA a (Nat.le_trans hS.1 h)
  refine va_callv (va_runIN (As := []) (rest := [.ref q2, .ref h0]) ⟨hx, hb, hml, hown, hts⟩ (k_Lots l dC dI cy q2 H.size) ⟨va_cnB 0 hts (mv_goodc (mT1 _ (List.mem_of_getElem? (i := 100) rfl) rfl)) rfl rfl rfl (hNC.1 (25, yX1_init) (by simp [mv_nc])) (hts _ (mT1 _ (List.mem_of_getElem? (i := 4) rfl) rfl)) ⟨by decide +kernel, by decide +kernel, by decide +kernel⟩ ⟨Nat.le_of_ble_eq_true rfl, Nat.le_of_ble_eq_true rfl⟩, rfl, hts _ (mT1 _ (List.mem_of_getElem? (i := 99) rfl) rfl)⟩ ⟨fun a U g mk q => by obtain ⟨q0, q1, qP, qK, qD⟩ := q; exact ⟨q0, q1, qP, va_K.moved (u := U) (U := U.calling g mk a) (Vm.Alike.refl U.vm) qK, qD⟩, fun U hU hW => ⟨rfl, by rw [hU], by rw [hU]; exact hPc, va_K.moved hW.alike hK, hDc.weaken (fun _ _ _ _ => trivial)⟩⟩ rfl rfl hl.1 rfl (lv_room (Nat.le_of_ble_eq_true rfl)) (show decode cX7_init 31 = .ok (.invokespecial 25, 3) by decide +kernel) ⟨Nat.le_of_ble_eq_true rfl, Nat.le_of_ble_eq_true rfl⟩) hS (fun a _ h => hFc a h) hFc (fun u2 t H1 locs ht hvm hw hB hz1 hk1 hS => ?_)
  have hB1 := hB.1
  rw [ht] at hB1
  obtain ⟨hP, hD⟩ := mv_join hP hD hk1 hFc hB1 hB.2
  generalize H1 = H at hP hS ⊢
  have hP : va_P (dC, dI) vwCl ((h0, .inr (7, [.ref q0, .ref q1, .null, .null, .null, .null, .null, .int 0])) :: (((([] : va_W) ++ ws_Pool cy q0 u0) ++ ws_Tape cy q1 u1) ++ ws_Lots cy q2 u2)) H := hP
  have hD : va_D A ((h0, .inr (7, [.ref q0, .ref q1, .null, .null, .null, .null, .null, .int 0])) :: (((([] : va_W) ++ ws_Pool cy q0 u0) ++ ws_Tape cy q1 u1) ++ ws_Lots cy q2 u2)) := hD
  refine W.widen (k := 21) (n := 1002) (Nat.le_of_ble_eq_true rfl) (Nat.le_of_ble_eq_true rfl) ?_
  refine va_putF (D := (dC, dI)) (ci := 7) (v := .ref q2) (ty := .object "SaltPool$Lots") (C := RX7) (T := TX7) (N := 8) hx hb hts mu_X7 tyX7 tyX7_ok nmX7 hown hK hP hD hS 0 rfl rfl 2 (by decide) (hts _ (mT2 _ (List.mem_of_getElem? (i := 13) rfl) rfl)) (fun _ h9 => h9) rfl hin rfl (by decide +kernel) rfl rfl (Nat.le_of_ble_eq_true rfl) (show decode cX7_init 34 = .ok (.putfield 26, 3) by decide +kernel) (fun H locs hP hD hS => ?_)
  have hP : va_P (dC, dI) vwCl ((h0, .inr (7, [.ref q0, .ref q1, .ref q2, .null, .null, .null, .null, .int 0])) :: (((([] : va_W) ++ ws_Pool cy q0 u0) ++ ws_Tape cy q1 u1) ++ ws_Lots cy q2 u2)) H := hP
  have hD : va_D A ((h0, .inr (7, [.ref q0, .ref q1, .ref q2, .null, .null, .null, .null, .int 0])) :: (((([] : va_W) ++ ws_Pool cy q0 u0) ++ ws_Tape cy q1 u1) ++ ws_Lots cy q2 u2)) := hD
  refine lv_aload_n hx hb (show decode cX7_init 37 = .ok (.aload_n 0, 1) by decide +kernel) rfl (lv_at hl 0 rfl) ?_
  refine va_new (ci := 0) (fs := [.null, .null, .null, .null, .null, .null, .null, .int 0]) (C := RX0) (T := TX0) (N := 8) hx hb hts mu_X0 tyX0 tyX0_ok hown (hts _ (mT1 _ (List.mem_of_getElem? (i := 131) rfl) rfl)) (hts _ (mT1 _ (List.mem_of_getElem? (i := 132) rfl) rfl)) (hts _ (mT1 _ (List.mem_of_getElem? (i := 5) rfl) rfl)) hK hP hD hS hA rfl (fun j hj => by
    match j, hj with
    | 0, _ => rfl
    | 1, _ => rfl
    | 2, _ => rfl
    | 3, _ => rfl
    | 4, _ => rfl
    | 5, _ => rfl
    | 6, _ => rfl
    | 7, _ => rfl
    | j + 8, hj => omega) (Nat.le_of_ble_eq_true rfl) (Nat.le_of_ble_eq_true rfl) (show decode cX7_init 38 = .ok (.new 30, 3) by decide +kernel) (fun q3 H hP hD hS => ?_)
  refine W.widen (k := 22) (n := 1010) (Nat.le_of_ble_eq_true rfl) (Nat.le_of_ble_eq_true rfl) ?_
  have hP : va_P (dC, dI) vwCl (((h0, .inr (7, [.ref q0, .ref q1, .ref q2, .null, .null, .null, .null, .int 0])) :: (((([] : va_W) ++ ws_Pool cy q0 u0) ++ ws_Tape cy q1 u1) ++ ws_Lots cy q2 u2)) ++ w0_Fleet q3) H := hP
  have hD : va_D A (((h0, .inr (7, [.ref q0, .ref q1, .ref q2, .null, .null, .null, .null, .int 0])) :: (((([] : va_W) ++ ws_Pool cy q0 u0) ++ ws_Tape cy q1 u1) ++ ws_Lots cy q2 u2)) ++ w0_Fleet q3) := hD
  refine lv_dup hx hb (show decode cX7_init 41 = .ok (.dup, 1) by decide +kernel) rfl ?_
  have hPc : va_P (dC, dI) vwCl (w0_Fleet q3) H := mv_P_r hP
  have hDc : va_D A (w0_Fleet q3) := mv_D_r hD
  have hFc : ∀ a, va_A (w0_Fleet q3) H.size a → A a := fun a h => by
    rcases h with ⟨k9, e9, h⟩ | h
    · exact hDc.2 k9 _ h
    · exact hA a (Nat.le_trans hS.1 h)
  refine va_callv (va_runIN (As := []) (rest := [.ref q3, .ref h0]) ⟨hx, hb, hml, hown, hts⟩ (k_Fleet l dC dI cy q3 H.size) ⟨va_cnB 0 hts (mv_goodc (mT1 _ (List.mem_of_getElem? (i := 135) rfl) rfl)) rfl rfl rfl (hNC.1 (32, yX0_init) (by simp [mv_nc])) (hts _ (mT1 _ (List.mem_of_getElem? (i := 5) rfl) rfl)) ⟨by decide +kernel, by decide +kernel, by decide +kernel⟩ ⟨Nat.le_of_ble_eq_true rfl, Nat.le_of_ble_eq_true rfl⟩, rfl, hts _ (mT1 _ (List.mem_of_getElem? (i := 134) rfl) rfl)⟩ ⟨fun a U g mk q => by obtain ⟨q0, q1, qP, qK, qD⟩ := q; exact ⟨q0, q1, qP, va_K.moved (u := U) (U := U.calling g mk a) (Vm.Alike.refl U.vm) qK, qD⟩, fun U hU hW => ⟨rfl, by rw [hU], by rw [hU]; exact hPc, va_K.moved hW.alike hK, hDc.weaken (fun _ _ _ _ => trivial)⟩⟩ rfl rfl hl.1 rfl (lv_room (Nat.le_of_ble_eq_true rfl)) (show decode cX7_init 42 = .ok (.invokespecial 32, 3) by decide +kernel) ⟨Nat.le_of_ble_eq_true rfl, Nat.le_of_ble_eq_true rfl⟩) hS (fun a _ h => hFc a h) hFc (fun u3 t H1 locs ht hvm hw hB hz1 hk1 hS => ?_)
  have hB1 := hB.1
  rw [ht] at hB1
  obtain ⟨hP, hD⟩ := mv_join hP hD hk1 hFc hB1 hB.2
  generalize H1 = H at hP hS ⊢
  have hP : va_P (dC, dI) vwCl ((h0, .inr (7, [.ref q0, .ref q1, .ref q2, .null, .null, .null, .null, .int 0])) :: ((((([] : va_W) ++ ws_Pool cy q0 u0) ++ ws_Tape cy q1 u1) ++ ws_Lots cy q2 u2) ++ ws_Fleet cy q3 u3)) H := hP
  have hD : va_D A ((h0, .inr (7, [.ref q0, .ref q1, .ref q2, .null, .null, .null, .null, .int 0])) :: ((((([] : va_W) ++ ws_Pool cy q0 u0) ++ ws_Tape cy q1 u1) ++ ws_Lots cy q2 u2) ++ ws_Fleet cy q3 u3)) := hD
  refine W.widen (k := 29) (n := 1406) (Nat.le_of_ble_eq_true rfl) (Nat.le_of_ble_eq_true rfl) ?_
  refine va_putF (D := (dC, dI)) (ci := 7) (v := .ref q3) (ty := .object "SaltPool$Fleet") (C := RX7) (T := TX7) (N := 8) hx hb hts mu_X7 tyX7 tyX7_ok nmX7 hown hK hP hD hS 0 rfl rfl 3 (by decide) (hts _ (mT2 _ (List.mem_of_getElem? (i := 14) rfl) rfl)) (fun _ h9 => h9) rfl hin rfl (by decide +kernel) rfl rfl (Nat.le_of_ble_eq_true rfl) (show decode cX7_init 45 = .ok (.putfield 33, 3) by decide +kernel) (fun H locs hP hD hS => ?_)
  have hP : va_P (dC, dI) vwCl ((h0, .inr (7, [.ref q0, .ref q1, .ref q2, .ref q3, .null, .null, .null, .int 0])) :: ((((([] : va_W) ++ ws_Pool cy q0 u0) ++ ws_Tape cy q1 u1) ++ ws_Lots cy q2 u2) ++ ws_Fleet cy q3 u3)) H := hP
  have hD : va_D A ((h0, .inr (7, [.ref q0, .ref q1, .ref q2, .ref q3, .null, .null, .null, .int 0])) :: ((((([] : va_W) ++ ws_Pool cy q0 u0) ++ ws_Tape cy q1 u1) ++ ws_Lots cy q2 u2) ++ ws_Fleet cy q3 u3)) := hD
  refine lv_aload_n hx hb (show decode cX7_init 48 = .ok (.aload_n 0, 1) by decide +kernel) rfl (lv_at hl 0 rfl) ?_
  refine va_new (ci := 4) (fs := [.null, .int 0, .null, .null, .int 0, .int 0]) (C := RX4) (T := TX4) (N := 6) hx hb hts mu_X4 tyX4 tyX4_ok hown (hts _ (mT1 _ (List.mem_of_getElem? (i := 165) rfl) rfl)) (hts _ (mT1 _ (List.mem_of_getElem? (i := 166) rfl) rfl)) (hts _ (mT1 _ (List.mem_of_getElem? (i := 6) rfl) rfl)) hK hP hD hS hA rfl (fun j hj => by
    match j, hj with
    | 0, _ => rfl
    | 1, _ => rfl
    | 2, _ => rfl
    | 3, _ => rfl
    | 4, _ => rfl
    | 5, _ => rfl
    | j + 6, hj => omega) (Nat.le_of_ble_eq_true rfl) (Nat.le_of_ble_eq_true rfl) (show decode cX7_init 49 = .ok (.new 37, 3) by decide +kernel) (fun q4 H hP hD hS => ?_)
  refine W.widen (k := 30) (n := 1412) (Nat.le_of_ble_eq_true rfl) (Nat.le_of_ble_eq_true rfl) ?_
  have hP : va_P (dC, dI) vwCl (((h0, .inr (7, [.ref q0, .ref q1, .ref q2, .ref q3, .null, .null, .null, .int 0])) :: ((((([] : va_W) ++ ws_Pool cy q0 u0) ++ ws_Tape cy q1 u1) ++ ws_Lots cy q2 u2) ++ ws_Fleet cy q3 u3)) ++ w0_Sea q4) H := hP
  have hD : va_D A (((h0, .inr (7, [.ref q0, .ref q1, .ref q2, .ref q3, .null, .null, .null, .int 0])) :: ((((([] : va_W) ++ ws_Pool cy q0 u0) ++ ws_Tape cy q1 u1) ++ ws_Lots cy q2 u2) ++ ws_Fleet cy q3 u3)) ++ w0_Sea q4) := hD
  refine lv_dup hx hb (show decode cX7_init 52 = .ok (.dup, 1) by decide +kernel) rfl ?_
  have hPc : va_P (dC, dI) vwCl (w0_Sea q4) H := mv_P_r hP
  have hDc : va_D A (w0_Sea q4) := mv_D_r hD
  have hFc : ∀ a, va_A (w0_Sea q4) H.size a → A a := fun a h => by
    rcases h with ⟨k9, e9, h⟩ | h
    · exact hDc.2 k9 _ h
    · exact hA a (Nat.le_trans hS.1 h)
  refine va_callv (va_runI (As := []) (rest := [.ref q4, .ref h0]) ⟨hx, hb, hml, hown, hts⟩ (k_Sea l dC dI cy q4 H.size) (cwI 0 hts (mv_goodc (mT1 _ (List.mem_of_getElem? (i := 169) rfl) rfl)) rfl rfl rfl (hts _ (mT1 _ (List.mem_of_getElem? (i := 6) rfl) rfl)) (hts _ (mT1 _ (List.mem_of_getElem? (i := 167) rfl) rfl)) (hts _ (mT1 _ (List.mem_of_getElem? (i := 168) rfl) rfl)) rfl ⟨by decide +kernel, by decide +kernel, by decide +kernel⟩ ⟨Nat.le_of_ble_eq_true rfl, Nat.le_of_ble_eq_true rfl⟩) ⟨fun a U g mk q => by obtain ⟨q0, q1, qP, qK, qD, qN⟩ := q; exact ⟨q0, q1, qP, va_K.moved (u := U) (U := U.calling g mk a) (Vm.Alike.refl U.vm) qK, qD, mv_NW.same (u := U) (U := U.calling g mk a) rfl qN⟩, fun U hU hW => ⟨rfl, by rw [hU], by rw [hU]; exact hPc, va_K.moved hW.alike hK, hDc.weaken (fun _ _ _ _ => trivial), mv_NW.warm hW hNW⟩⟩ rfl rfl hl.1 rfl (lv_room (Nat.le_of_ble_eq_true rfl)) (show decode cX7_init 53 = .ok (.invokespecial 39, 3) by decide +kernel) ⟨Nat.le_of_ble_eq_true rfl, Nat.le_of_ble_eq_true rfl⟩) hS (fun a _ h => hFc a h) hFc (fun u4 t H1 locs ht hvm hw hB hz1 hk1 hS => ?_)
  have hB1 := hB.1
  rw [ht] at hB1
  obtain ⟨hP, hD⟩ := mv_join hP hD hk1 hFc hB1 hB.2
  generalize H1 = H at hP hS ⊢
  have hP : va_P (dC, dI) vwCl ((h0, .inr (7, [.ref q0, .ref q1, .ref q2, .ref q3, .null, .null, .null, .int 0])) :: (((((([] : va_W) ++ ws_Pool cy q0 u0) ++ ws_Tape cy q1 u1) ++ ws_Lots cy q2 u2) ++ ws_Fleet cy q3 u3) ++ ws_Sea cy q4 u4)) H := hP
  have hD : va_D A ((h0, .inr (7, [.ref q0, .ref q1, .ref q2, .ref q3, .null, .null, .null, .int 0])) :: (((((([] : va_W) ++ ws_Pool cy q0 u0) ++ ws_Tape cy q1 u1) ++ ws_Lots cy q2 u2) ++ ws_Fleet cy q3 u3) ++ ws_Sea cy q4 u4)) := hD
  refine W.widen (k := 33) (n := 1592) (Nat.le_of_ble_eq_true rfl) (Nat.le_of_ble_eq_true rfl) ?_
  refine va_putF (D := (dC, dI)) (ci := 7) (v := .ref q4) (ty := .object "SaltPool$Sea") (C := RX7) (T := TX7) (N := 8) hx hb hts mu_X7 tyX7 tyX7_ok nmX7 hown hK hP hD hS 0 rfl rfl 4 (by decide) (hts _ (mT2 _ (List.mem_of_getElem? (i := 15) rfl) rfl)) (fun _ h9 => h9) rfl hin rfl (by decide +kernel) rfl rfl (Nat.le_of_ble_eq_true rfl) (show decode cX7_init 56 = .ok (.putfield 40, 3) by decide +kernel) (fun H locs hP hD hS => ?_)
  have hP : va_P (dC, dI) vwCl ((h0, .inr (7, [.ref q0, .ref q1, .ref q2, .ref q3, .ref q4, .null, .null, .int 0])) :: (((((([] : va_W) ++ ws_Pool cy q0 u0) ++ ws_Tape cy q1 u1) ++ ws_Lots cy q2 u2) ++ ws_Fleet cy q3 u3) ++ ws_Sea cy q4 u4)) H := hP
  have hD : va_D A ((h0, .inr (7, [.ref q0, .ref q1, .ref q2, .ref q3, .ref q4, .null, .null, .int 0])) :: (((((([] : va_W) ++ ws_Pool cy q0 u0) ++ ws_Tape cy q1 u1) ++ ws_Lots cy q2 u2) ++ ws_Fleet cy q3 u3) ++ ws_Sea cy q4 u4)) := hD
  refine lv_aload_n hx hb (show decode cX7_init 59 = .ok (.aload_n 0, 1) by decide +kernel) rfl (lv_at hl 0 rfl) ?_
  refine va_new (ci := 2) (fs := [.null, .null, .null, .null, .int 0, .null, .null, .int 0]) (C := RX2) (T := TX2) (N := 8) hx hb hts mu_X2 tyX2 tyX2_ok hown (hts _ (mT1 _ (List.mem_of_getElem? (i := 195) rfl) rfl)) (hts _ (mT1 _ (List.mem_of_getElem? (i := 196) rfl) rfl)) (hts _ (mT1 _ (List.mem_of_getElem? (i := 8) rfl) rfl)) hK hP hD hS hA rfl (fun j hj => by
    match j, hj with
    | 0, _ => rfl
    | 1, _ => rfl
    | 2, _ => rfl
    | 3, _ => rfl
    | 4, _ => rfl
    | 5, _ => rfl
    | 6, _ => rfl
    | 7, _ => rfl
    | j + 8, hj => omega) (Nat.le_of_ble_eq_true rfl) (Nat.le_of_ble_eq_true rfl) (show decode cX7_init 60 = .ok (.new 44, 3) by decide +kernel) (fun q5 H hP hD hS => ?_)
  refine W.widen (k := 34) (n := 1600) (Nat.le_of_ble_eq_true rfl) (Nat.le_of_ble_eq_true rfl) ?_
  have hP : va_P (dC, dI) vwCl (((h0, .inr (7, [.ref q0, .ref q1, .ref q2, .ref q3, .ref q4, .null, .null, .int 0])) :: (((((([] : va_W) ++ ws_Pool cy q0 u0) ++ ws_Tape cy q1 u1) ++ ws_Lots cy q2 u2) ++ ws_Fleet cy q3 u3) ++ ws_Sea cy q4 u4)) ++ w0_Mole q5) H := hP
  have hD : va_D A (((h0, .inr (7, [.ref q0, .ref q1, .ref q2, .ref q3, .ref q4, .null, .null, .int 0])) :: (((((([] : va_W) ++ ws_Pool cy q0 u0) ++ ws_Tape cy q1 u1) ++ ws_Lots cy q2 u2) ++ ws_Fleet cy q3 u3) ++ ws_Sea cy q4 u4)) ++ w0_Mole q5) := hD
  refine lv_dup hx hb (show decode cX7_init 63 = .ok (.dup, 1) by decide +kernel) rfl ?_
  have hPc : va_P (dC, dI) vwCl (w0_Mole q5) H := mv_P_r hP
  have hDc : va_D A (w0_Mole q5) := mv_D_r hD
  have hFc : ∀ a, va_A (w0_Mole q5) H.size a → A a := fun a h => by
    rcases h with ⟨k9, e9, h⟩ | h
    · exact hDc.2 k9 _ h
    · exact hA a (Nat.le_trans hS.1 h)
  refine va_callv (va_runIN (As := []) (rest := [.ref q5, .ref h0]) ⟨hx, hb, hml, hown, hts⟩ (k_Mole l dC dI cy q5 H.size) ⟨va_cnB 0 hts (mv_goodc (mT1 _ (List.mem_of_getElem? (i := 199) rfl) rfl)) rfl rfl rfl (hNC.1 (46, yX2_init) (by simp [mv_nc])) (hts _ (mT1 _ (List.mem_of_getElem? (i := 8) rfl) rfl)) ⟨by decide +kernel, by decide +kernel, by decide +kernel⟩ ⟨Nat.le_of_ble_eq_true rfl, Nat.le_of_ble_eq_true rfl⟩, rfl, hts _ (mT1 _ (List.mem_of_getElem? (i := 198) rfl) rfl)⟩ ⟨fun a U g mk q => by obtain ⟨q0, q1, qP, qK, qD⟩ := q; exact ⟨q0, q1, qP, va_K.moved (u := U) (U := U.calling g mk a) (Vm.Alike.refl U.vm) qK, qD⟩, fun U hU hW => ⟨rfl, by rw [hU], by rw [hU]; exact hPc, va_K.moved hW.alike hK, hDc.weaken (fun _ _ _ _ => trivial)⟩⟩ rfl rfl hl.1 rfl (lv_room (Nat.le_of_ble_eq_true rfl)) (show decode cX7_init 64 = .ok (.invokespecial 46, 3) by decide +kernel) ⟨Nat.le_of_ble_eq_true rfl, Nat.le_of_ble_eq_true rfl⟩) hS (fun a _ h => hFc a h) hFc (fun u5 t H1 locs ht hvm hw hB hz1 hk1 hS => ?_)
  have hB1 := hB.1
  rw [ht] at hB1
  obtain ⟨hP, hD⟩ := mv_join hP hD hk1 hFc hB1 hB.2
  generalize H1 = H at hP hS ⊢
  have hP : va_P (dC, dI) vwCl ((h0, .inr (7, [.ref q0, .ref q1, .ref q2, .ref q3, .ref q4, .null, .null, .int 0])) :: ((((((([] : va_W) ++ ws_Pool cy q0 u0) ++ ws_Tape cy q1 u1) ++ ws_Lots cy q2 u2) ++ ws_Fleet cy q3 u3) ++ ws_Sea cy q4 u4) ++ ws_Mole cy q5 u5)) H := hP
  have hD : va_D A ((h0, .inr (7, [.ref q0, .ref q1, .ref q2, .ref q3, .ref q4, .null, .null, .int 0])) :: ((((((([] : va_W) ++ ws_Pool cy q0 u0) ++ ws_Tape cy q1 u1) ++ ws_Lots cy q2 u2) ++ ws_Fleet cy q3 u3) ++ ws_Sea cy q4 u4) ++ ws_Mole cy q5 u5)) := hD
  refine W.widen (k := 40) (n := 1636) (Nat.le_of_ble_eq_true rfl) (Nat.le_of_ble_eq_true rfl) ?_
  refine va_putF (D := (dC, dI)) (ci := 7) (v := .ref q5) (ty := .object "SaltPool$Mole") (C := RX7) (T := TX7) (N := 8) hx hb hts mu_X7 tyX7 tyX7_ok nmX7 hown hK hP hD hS 0 rfl rfl 5 (by decide) (hts _ (mT2 _ (List.mem_of_getElem? (i := 16) rfl) rfl)) (fun _ h9 => h9) rfl hin rfl (by decide +kernel) rfl rfl (Nat.le_of_ble_eq_true rfl) (show decode cX7_init 67 = .ok (.putfield 47, 3) by decide +kernel) (fun H locs hP hD hS => ?_)
  have hP : va_P (dC, dI) vwCl ((h0, .inr (7, [.ref q0, .ref q1, .ref q2, .ref q3, .ref q4, .ref q5, .null, .int 0])) :: ((((((([] : va_W) ++ ws_Pool cy q0 u0) ++ ws_Tape cy q1 u1) ++ ws_Lots cy q2 u2) ++ ws_Fleet cy q3 u3) ++ ws_Sea cy q4 u4) ++ ws_Mole cy q5 u5)) H := hP
  have hD : va_D A ((h0, .inr (7, [.ref q0, .ref q1, .ref q2, .ref q3, .ref q4, .ref q5, .null, .int 0])) :: ((((((([] : va_W) ++ ws_Pool cy q0 u0) ++ ws_Tape cy q1 u1) ++ ws_Lots cy q2 u2) ++ ws_Fleet cy q3 u3) ++ ws_Sea cy q4 u4) ++ ws_Mole cy q5 u5)) := hD
  refine lv_aload_n hx hb (show decode cX7_init 70 = .ok (.aload_n 0, 1) by decide +kernel) rfl (lv_at hl 0 rfl) ?_
  refine lv_iconst (v := 4) hx hb (show decode cX7_init 71 = .ok (.iconst 4, 1) by decide +kernel) (by decide) ?_
  refine va_newq (N' := 4) hx hb hown (hts _ (mT1 _ (List.mem_of_getElem? (i := 231) rfl) rfl)) hNC.2 hK hP hD hS hA (by decide) (by decide) (by decide) (Nat.le_of_ble_eq_true rfl) (Nat.le_of_ble_eq_true rfl) (show decode cX7_init 72 = .ok (.anewarray 51, 3) by decide +kernel) (fun qr cA H hK1 hP hD hS => ?_)
  have hcA : cA = cy 4 := by
    obtain ⟨_, _, _, _, _, z1⟩ := (hK1.2 5 (cA, .object "SaltPool$Sheet") rfl).2
    obtain ⟨_, _, _, _, _, z2⟩ := (hK.2 4 (cy 4, .object "SaltPool$Sheet") rfl).2
    exact Option.some.inj (z1.symm.trans z2)
  subst hcA
  have hP : va_P (dC, dI) vwCl (((h0, .inr (7, [.ref q0, .ref q1, .ref q2, .ref q3, .ref q4, .ref q5, .null, .int 0])) :: ((((((([] : va_W) ++ ws_Pool cy q0 u0) ++ ws_Tape cy q1 u1) ++ ws_Lots cy q2 u2) ++ ws_Fleet cy q3 u3) ++ ws_Sea cy q4 u4) ++ ws_Mole cy q5 u5)) ++ [(qr, .inl (cy 4, 4, .inr (.inr (.inr (.inr (fun _ => none))))))]) H := hP
  have hD : va_D A (((h0, .inr (7, [.ref q0, .ref q1, .ref q2, .ref q3, .ref q4, .ref q5, .null, .int 0])) :: ((((((([] : va_W) ++ ws_Pool cy q0 u0) ++ ws_Tape cy q1 u1) ++ ws_Lots cy q2 u2) ++ ws_Fleet cy q3 u3) ++ ws_Sea cy q4 u4) ++ ws_Mole cy q5 u5)) ++ [(qr, .inl (cy 4, 4, .inr (.inr (.inr (.inr (fun _ => none))))))]) := hD
  have hP : va_P (dC, dI) vwCl ((h0, .inr (7, [.ref q0, .ref q1, .ref q2, .ref q3, .ref q4, .ref q5, .null, .int 0])) :: ((qr, .inl (cy 4, 4, .inr (.inr (.inr (.inr (fun _ => none)))))) :: ((((((([] : va_W) ++ ws_Pool cy q0 u0) ++ ws_Tape cy q1 u1) ++ ws_Lots cy q2 u2) ++ ws_Fleet cy q3 u3) ++ ws_Sea cy q4 u4) ++ ws_Mole cy q5 u5))) H := hP.sub [0, 41, 1, 2, 3, 4, 5, 6, 7, 8, 9, 10, 11, 12, 13, 14, 15, 16, 17, 18, 19, 20, 21, 22, 23, 24, 25, 26, 27, 28, 29, 30, 31, 32, 33, 34, 35, 36, 37, 38, 39, 40] rfl
  have hD : va_D A ((h0, .inr (7, [.ref q0, .ref q1, .ref q2, .ref q3, .ref q4, .ref q5, .null, .int 0])) :: ((qr, .inl (cy 4, 4, .inr (.inr (.inr (.inr (fun _ => none)))))) :: ((((((([] : va_W) ++ ws_Pool cy q0 u0) ++ ws_Tape cy q1 u1) ++ ws_Lots cy q2 u2) ++ ws_Fleet cy q3 u3) ++ ws_Sea cy q4 u4) ++ ws_Mole cy q5 u5))) := hD.sub [0, 41, 1, 2, 3, 4, 5, 6, 7, 8, 9, 10, 11, 12, 13, 14, 15, 16, 17, 18, 19, 20, 21, 22, 23, 24, 25, 26, 27, 28, 29, 30, 31, 32, 33, 34, 35, 36, 37, 38, 39, 40] (by decide) rfl
  refine W.widen (k := 41) (n := 1640) (Nat.le_of_ble_eq_true rfl) (Nat.le_of_ble_eq_true rfl) ?_
  refine va_putF (D := (dC, dI)) (ci := 7) (v := .ref qr) (ty := .array (.object "SaltPool$Sheet")) (C := RX7) (T := TX7) (N := 8) hx hb hts mu_X7 tyX7 tyX7_ok nmX7 hown hK hP hD hS 0 rfl rfl 6 (by decide) (hts _ (mT2 _ (List.mem_of_getElem? (i := 17) rfl) rfl)) (fun _ h9 => h9) rfl hin rfl (by decide +kernel) rfl rfl (Nat.le_of_ble_eq_true rfl) (show decode cX7_init 75 = .ok (.putfield 53, 3) by decide +kernel) (fun H locs hP hD hS => ?_)
  have hP : va_P (dC, dI) vwCl ((h0, .inr (7, [.ref q0, .ref q1, .ref q2, .ref q3, .ref q4, .ref q5, .ref qr, .int 0])) :: ((qr, .inl (cy 4, 4, .inr (.inr (.inr (.inr (fun _ => none)))))) :: ((((((([] : va_W) ++ ws_Pool cy q0 u0) ++ ws_Tape cy q1 u1) ++ ws_Lots cy q2 u2) ++ ws_Fleet cy q3 u3) ++ ws_Sea cy q4 u4) ++ ws_Mole cy q5 u5))) H := hP
  have hD : va_D A ((h0, .inr (7, [.ref q0, .ref q1, .ref q2, .ref q3, .ref q4, .ref q5, .ref qr, .int 0])) :: ((qr, .inl (cy 4, 4, .inr (.inr (.inr (.inr (fun _ => none)))))) :: ((((((([] : va_W) ++ ws_Pool cy q0 u0) ++ ws_Tape cy q1 u1) ++ ws_Lots cy q2 u2) ++ ws_Fleet cy q3 u3) ++ ws_Sea cy q4 u4) ++ ws_Mole cy q5 u5))) := hD
  refine lv_iconst (v := 0) hx hb (show decode cX7_init 78 = .ok (.iconst 0, 1) by decide +kernel) (by decide) ?_
  refine lv_istore_n (lv' := [(1, .int 0), (0, .ref h0)]) hx hb (show decode cX7_init 79 = .ok (.istore_n 1, 1) by decide +kernel) rfl hl (by decide) rfl (fun ls hl => ?_)
  refine lv_iload_n hx hb (show decode cX7_init 80 = .ok (.iload_n 1, 1) by decide +kernel) rfl (lv_at hl 0 rfl) ?_
  refine lv_iconst (v := 4) hx hb (show decode cX7_init 81 = .ok (.iconst 4, 1) by decide +kernel) (by decide) ?_
  refine lv_icmp_ge (tgt := 104) hx hb (show decode cX7_init 82 = .ok (.if_icmp .ge 22, 3) by decide +kernel) (by decide) (fun q => absurd q (by decide)) (fun _ => ?_)
  refine lv_aload_n hx hb (show decode cX7_init 85 = .ok (.aload_n 0, 1) by decide +kernel) rfl (lv_at hl 1 rfl) ?_
  refine va_get (D := (dC, dI)) (ci := 7) (v := .ref qr) (C := RX7) (T := TX7) (N := 8) hx hb hts mu_X7 hown hK hP 0 rfl rfl 6 (by decide) (hts _ (mT2 _ (List.mem_of_getElem? (i := 17) rfl) rfl)) (fun _ h9 => h9) rfl (show decode cX7_init 86 = .ok (.getfield 53, 3) by decide +kernel) ?_
  refine lv_iload_n hx hb (show decode cX7_init 89 = .ok (.iload_n 1, 1) by decide +kernel) rfl (lv_at hl 0 rfl) ?_
  refine va_new (ci := 5) (fs := [.null, .int 0, .int 0]) (C := RX5) (T := TX5) (N := 3) hx hb hts mu_X5 tyX5 tyX5_ok hown (hts _ (mT1 _ (List.mem_of_getElem? (i := 231) rfl) rfl)) (hts _ (mT1 _ (List.mem_of_getElem? (i := 233) rfl) rfl)) (hts _ (mT1 _ (List.mem_of_getElem? (i := 9) rfl) rfl)) hK hP hD hS hA rfl (fun j hj => by
    match j, hj with
    | 0, _ => rfl
    | 1, _ => rfl
    | 2, _ => rfl
    | j + 3, hj => omega) (Nat.le_of_ble_eq_true rfl) (Nat.le_of_ble_eq_true rfl) (show decode cX7_init 90 = .ok (.new 51, 3) by decide +kernel) (fun q10 H hP hD hS => ?_)
  refine W.widen (k := 42) (n := 1643) (Nat.le_of_ble_eq_true rfl) (Nat.le_of_ble_eq_true rfl) ?_
  have hP : va_P (dC, dI) vwCl (((h0, .inr (7, [.ref q0, .ref q1, .ref q2, .ref q3, .ref q4, .ref q5, .ref qr, .int 0])) :: ((qr, .inl (cy 4, 4, .inr (.inr (.inr (.inr (fun _ => none)))))) :: ((((((([] : va_W) ++ ws_Pool cy q0 u0) ++ ws_Tape cy q1 u1) ++ ws_Lots cy q2 u2) ++ ws_Fleet cy q3 u3) ++ ws_Sea cy q4 u4) ++ ws_Mole cy q5 u5))) ++ w0_Sheet q10) H := hP
  have hD : va_D A (((h0, .inr (7, [.ref q0, .ref q1, .ref q2, .ref q3, .ref q4, .ref q5, .ref qr, .int 0])) :: ((qr, .inl (cy 4, 4, .inr (.inr (.inr (.inr (fun _ => none)))))) :: ((((((([] : va_W) ++ ws_Pool cy q0 u0) ++ ws_Tape cy q1 u1) ++ ws_Lots cy q2 u2) ++ ws_Fleet cy q3 u3) ++ ws_Sea cy q4 u4) ++ ws_Mole cy q5 u5))) ++ w0_Sheet q10) := hD
  refine lv_dup hx hb (show decode cX7_init 93 = .ok (.dup, 1) by decide +kernel) rfl ?_
  have hPc : va_P (dC, dI) vwCl (w0_Sheet q10) H := mv_P_r hP
  have hDc : va_D A (w0_Sheet q10) := mv_D_r hD
  have hFc : ∀ a, va_A (w0_Sheet q10) H.size a → A a := fun a h => by
    rcases h with ⟨k9, e9, h⟩ | h
    · exact hDc.2 k9 _ h
    · exact hA a (Nat.le_trans hS.1 h)
  refine va_callv (va_runIN (As := []) (rest := [.ref q10, .int 0, .ref qr]) ⟨hx, hb, hml, hown, hts⟩ (k_Sheet l dC dI cy q10 H.size) ⟨va_cnB 0 hts (mv_goodc (mT1 _ (List.mem_of_getElem? (i := 236) rfl) rfl)) rfl rfl rfl (hNC.1 (57, yX5_init) (by simp [mv_nc])) (hts _ (mT1 _ (List.mem_of_getElem? (i := 9) rfl) rfl)) ⟨by decide +kernel, by decide +kernel, by decide +kernel⟩ ⟨Nat.le_of_ble_eq_true rfl, Nat.le_of_ble_eq_true rfl⟩, rfl, hts _ (mT1 _ (List.mem_of_getElem? (i := 235) rfl) rfl)⟩ ⟨fun a U g mk q => by obtain ⟨q0, q1, qP, qK, qD⟩ := q; exact ⟨q0, q1, qP, va_K.moved (u := U) (U := U.calling g mk a) (Vm.Alike.refl U.vm) qK, qD⟩, fun U hU hW => ⟨rfl, by rw [hU], by rw [hU]; exact hPc, va_K.moved hW.alike hK, hDc.weaken (fun _ _ _ _ => trivial)⟩⟩ rfl rfl hl.1 rfl (lv_room (Nat.le_of_ble_eq_true rfl)) (show decode cX7_init 94 = .ok (.invokespecial 57, 3) by decide +kernel) ⟨Nat.le_of_ble_eq_true rfl, Nat.le_of_ble_eq_true rfl⟩) hS (fun a _ h => hFc a h) hFc (fun u10 t H1 locs ht hvm hw hB hz1 hk1 hS => ?_)
  have hB1 := hB.1
  rw [ht] at hB1
  obtain ⟨hP, hD⟩ := mv_join hP hD hk1 hFc hB1 hB.2
  generalize H1 = H at hP hS ⊢
  have hP : va_P (dC, dI) vwCl ((h0, .inr (7, [.ref q0, .ref q1, .ref q2, .ref q3, .ref q4, .ref q5, .ref qr, .int 0])) :: (((qr, .inl (cy 4, 4, .inr (.inr (.inr (.inr (fun _ => none)))))) :: ((((((([] : va_W) ++ ws_Pool cy q0 u0) ++ ws_Tape cy q1 u1) ++ ws_Lots cy q2 u2) ++ ws_Fleet cy q3 u3) ++ ws_Sea cy q4 u4) ++ ws_Mole cy q5 u5)) ++ ws_Sheet cy q10 u10)) H := hP
  have hD : va_D A ((h0, .inr (7, [.ref q0, .ref q1, .ref q2, .ref q3, .ref q4, .ref q5, .ref qr, .int 0])) :: (((qr, .inl (cy 4, 4, .inr (.inr (.inr (.inr (fun _ => none)))))) :: ((((((([] : va_W) ++ ws_Pool cy q0 u0) ++ ws_Tape cy q1 u1) ++ ws_Lots cy q2 u2) ++ ws_Fleet cy q3 u3) ++ ws_Sea cy q4 u4) ++ ws_Mole cy q5 u5)) ++ ws_Sheet cy q10 u10)) := hD
  refine W.widen (k := 43) (n := 1703) (Nat.le_of_ble_eq_true rfl) (Nat.le_of_ble_eq_true rfl) ?_
  have hP : va_P (dC, dI) vwCl ((h0, .inr (7, [.ref q0, .ref q1, .ref q2, .ref q3, .ref q4, .ref q5, .ref qr, .int 0])) :: ((qr, .inl (cy 4, 4, .inr (.inr (.inr (.inr (fun _ => none)))))) :: (((((((([] : va_W) ++ ws_Pool cy q0 u0) ++ ws_Tape cy q1 u1) ++ ws_Lots cy q2 u2) ++ ws_Fleet cy q3 u3) ++ ws_Sea cy q4 u4) ++ ws_Mole cy q5 u5) ++ ws_Sheet cy q10 u10))) H := hP
  have hD : va_D A ((h0, .inr (7, [.ref q0, .ref q1, .ref q2, .ref q3, .ref q4, .ref q5, .ref qr, .int 0])) :: ((qr, .inl (cy 4, 4, .inr (.inr (.inr (.inr (fun _ => none)))))) :: (((((((([] : va_W) ++ ws_Pool cy q0 u0) ++ ws_Tape cy q1 u1) ++ ws_Lots cy q2 u2) ++ ws_Fleet cy q3 u3) ++ ws_Sea cy q4 u4) ++ ws_Mole cy q5 u5) ++ ws_Sheet cy q10 u10))) := hD
  refine va_astq (r := (RX5, TX5, 3)) (vs := [.ref (u10 0), .int (-1), .int 0]) hx hb hK hP hD hS 1 4 42 5 rfl rfl rfl rfl (by unfold vp_in; decide) (show decode cX7_init 97 = .ok (.aastore, 1) by decide +kernel) (fun H locs hP hD hS => ?_)
  have hP : va_P (dC, dI) vwCl ((h0, .inr (7, [.ref q0, .ref q1, .ref q2, .ref q3, .ref q4, .ref q5, .ref qr, .int 0])) :: ((qr, .inl (cy 4, 4, .inr (.inr (.inr (.inr (va_up (fun _ => none) 0 (some q10))))))) :: (((((((([] : va_W) ++ ws_Pool cy q0 u0) ++ ws_Tape cy q1 u1) ++ ws_Lots cy q2 u2) ++ ws_Fleet cy q3 u3) ++ ws_Sea cy q4 u4) ++ ws_Mole cy q5 u5) ++ ws_Sheet cy q10 u10))) H := hP
  have hD : va_D A ((h0, .inr (7, [.ref q0, .ref q1, .ref q2, .ref q3, .ref q4, .ref q5, .ref qr, .int 0])) :: ((qr, .inl (cy 4, 4, .inr (.inr (.inr (.inr (va_up (fun _ => none) 0 (some q10))))))) :: (((((((([] : va_W) ++ ws_Pool cy q0 u0) ++ ws_Tape cy q1 u1) ++ ws_Lots cy q2 u2) ++ ws_Fleet cy q3 u3) ++ ws_Sea cy q4 u4) ++ ws_Mole cy q5 u5) ++ ws_Sheet cy q10 u10))) := hD
  refine lv_iinc (v := 1) (lv' := [(1, .int 1), (0, .ref h0)]) hx hb (show decode cX7_init 98 = .ok (.iinc 1 1, 3) by decide +kernel) hl (k := 0) rfl (by decide) (by decide) rfl (fun ls hl => ?_)
  refine lv_goto (tgt := 80) hx hb (show decode cX7_init 101 = .ok (.goto (-21), 3) by decide +kernel) (by decide) ?_
  refine lv_iload_n hx hb (show decode cX7_init 80 = .ok (.iload_n 1, 1) by decide +kernel) rfl (lv_at hl 0 rfl) ?_
  refine lv_iconst (v := 4) hx hb (show decode cX7_init 81 = .ok (.iconst 4, 1) by decide +kernel) (by decide) ?_
  refine lv_icmp_ge (tgt := 104) hx hb (show decode cX7_init 82 = .ok (.if_icmp .ge 22, 3) by decide +kernel) (by decide) (fun q => absurd q (by decide)) (fun _ => ?_)
  refine lv_aload_n hx hb (show decode cX7_init 85 = .ok (.aload_n 0, 1) by decide +kernel) rfl (lv_at hl 1 rfl) ?_
  refine va_get (D := (dC, dI)) (ci := 7) (v := .ref qr) (C := RX7) (T := TX7) (N := 8) hx hb hts mu_X7 hown hK hP 0 rfl rfl 6 (by decide) (hts _ (mT2 _ (List.mem_of_getElem? (i := 17) rfl) rfl)) (fun _ h9 => h9) rfl (show decode cX7_init 86 = .ok (.getfield 53, 3) by decide +kernel) ?_
  refine lv_iload_n hx hb (show decode cX7_init 89 = .ok (.iload_n 1, 1) by decide +kernel) rfl (lv_at hl 0 rfl) ?_
  refine va_new (ci := 5) (fs := [.null, .int 0, .int 0]) (C := RX5) (T := TX5) (N := 3) hx hb hts mu_X5 tyX5 tyX5_ok hown (hts _ (mT1 _ (List.mem_of_getElem? (i := 231) rfl) rfl)) (hts _ (mT1 _ (List.mem_of_getElem? (i := 233) rfl) rfl)) (hts _ (mT1 _ (List.mem_of_getElem? (i := 9) rfl) rfl)) hK hP hD hS hA rfl (fun j hj => by
    match j, hj with
    | 0, _ => rfl
    | 1, _ => rfl
    | 2, _ => rfl
    | j + 3, hj => omega) (Nat.le_of_ble_eq_true rfl) (Nat.le_of_ble_eq_true rfl) (show decode cX7_init 90 = .ok (.new 51, 3) by decide +kernel) (fun q11 H hP hD hS => ?_)
  refine W.widen (k := 44) (n := 1706) (Nat.le_of_ble_eq_true rfl) (Nat.le_of_ble_eq_true rfl) ?_
  have hP : va_P (dC, dI) vwCl (((h0, .inr (7, [.ref q0, .ref q1, .ref q2, .ref q3, .ref q4, .ref q5, .ref qr, .int 0])) :: ((qr, .inl (cy 4, 4, .inr (.inr (.inr (.inr (va_up (fun _ => none) 0 (some q10))))))) :: (((((((([] : va_W) ++ ws_Pool cy q0 u0) ++ ws_Tape cy q1 u1) ++ ws_Lots cy q2 u2) ++ ws_Fleet cy q3 u3) ++ ws_Sea cy q4 u4) ++ ws_Mole cy q5 u5) ++ ws_Sheet cy q10 u10))) ++ w0_Sheet q11) H := hP
  have hD : va_D A (((h0, .inr (7, [.ref q0, .ref q1, .ref q2, .ref q3, .ref q4, .ref q5, .ref qr, .int 0])) :: ((qr, .inl (cy 4, 4, .inr (.inr (.inr (.inr (va_up (fun _ => none) 0 (some q10))))))) :: (((((((([] : va_W) ++ ws_Pool cy q0 u0) ++ ws_Tape cy q1 u1) ++ ws_Lots cy q2 u2) ++ ws_Fleet cy q3 u3) ++ ws_Sea cy q4 u4) ++ ws_Mole cy q5 u5) ++ ws_Sheet cy q10 u10))) ++ w0_Sheet q11) := hD
  refine lv_dup hx hb (show decode cX7_init 93 = .ok (.dup, 1) by decide +kernel) rfl ?_
  have hPc : va_P (dC, dI) vwCl (w0_Sheet q11) H := mv_P_r hP
  have hDc : va_D A (w0_Sheet q11) := mv_D_r hD
  have hFc : ∀ a, va_A (w0_Sheet q11) H.size a → A a := fun a h => by
    rcases h with ⟨k9, e9, h⟩ | h
    · exact hDc.2 k9 _ h
    · exact hA a (Nat.le_trans hS.1 h)
  refine va_callv (va_runIN (As := []) (rest := [.ref q11, .int 1, .ref qr]) ⟨hx, hb, hml, hown, hts⟩ (k_Sheet l dC dI cy q11 H.size) ⟨va_cnB 0 hts (mv_goodc (mT1 _ (List.mem_of_getElem? (i := 236) rfl) rfl)) rfl rfl rfl (hNC.1 (57, yX5_init) (by simp [mv_nc])) (hts _ (mT1 _ (List.mem_of_getElem? (i := 9) rfl) rfl)) ⟨by decide +kernel, by decide +kernel, by decide +kernel⟩ ⟨Nat.le_of_ble_eq_true rfl, Nat.le_of_ble_eq_true rfl⟩, rfl, hts _ (mT1 _ (List.mem_of_getElem? (i := 235) rfl) rfl)⟩ ⟨fun a U g mk q => by obtain ⟨q0, q1, qP, qK, qD⟩ := q; exact ⟨q0, q1, qP, va_K.moved (u := U) (U := U.calling g mk a) (Vm.Alike.refl U.vm) qK, qD⟩, fun U hU hW => ⟨rfl, by rw [hU], by rw [hU]; exact hPc, va_K.moved hW.alike hK, hDc.weaken (fun _ _ _ _ => trivial)⟩⟩ rfl rfl hl.1 rfl (lv_room (Nat.le_of_ble_eq_true rfl)) (show decode cX7_init 94 = .ok (.invokespecial 57, 3) by decide +kernel) ⟨Nat.le_of_ble_eq_true rfl, Nat.le_of_ble_eq_true rfl⟩) hS (fun a _ h => hFc a h) hFc (fun u11 t H1 locs ht hvm hw hB hz1 hk1 hS => ?_)
  have hB1 := hB.1
  rw [ht] at hB1
  obtain ⟨hP, hD⟩ := mv_join hP hD hk1 hFc hB1 hB.2
  generalize H1 = H at hP hS ⊢
  have hP : va_P (dC, dI) vwCl ((h0, .inr (7, [.ref q0, .ref q1, .ref q2, .ref q3, .ref q4, .ref q5, .ref qr, .int 0])) :: (((qr, .inl (cy 4, 4, .inr (.inr (.inr (.inr (va_up (fun _ => none) 0 (some q10))))))) :: (((((((([] : va_W) ++ ws_Pool cy q0 u0) ++ ws_Tape cy q1 u1) ++ ws_Lots cy q2 u2) ++ ws_Fleet cy q3 u3) ++ ws_Sea cy q4 u4) ++ ws_Mole cy q5 u5) ++ ws_Sheet cy q10 u10)) ++ ws_Sheet cy q11 u11)) H := hP
  have hD : va_D A ((h0, .inr (7, [.ref q0, .ref q1, .ref q2, .ref q3, .ref q4, .ref q5, .ref qr, .int 0])) :: (((qr, .inl (cy 4, 4, .inr (.inr (.inr (.inr (va_up (fun _ => none) 0 (some q10))))))) :: (((((((([] : va_W) ++ ws_Pool cy q0 u0) ++ ws_Tape cy q1 u1) ++ ws_Lots cy q2 u2) ++ ws_Fleet cy q3 u3) ++ ws_Sea cy q4 u4) ++ ws_Mole cy q5 u5) ++ ws_Sheet cy q10 u10)) ++ ws_Sheet cy q11 u11)) := hD
  refine W.widen (k := 45) (n := 1766) (Nat.le_of_ble_eq_true rfl) (Nat.le_of_ble_eq_true rfl) ?_
  have hP : va_P (dC, dI) vwCl ((h0, .inr (7, [.ref q0, .ref q1, .ref q2, .ref q3, .ref q4, .ref q5, .ref qr, .int 0])) :: ((qr, .inl (cy 4, 4, .inr (.inr (.inr (.inr (va_up (fun _ => none) 0 (some q10))))))) :: ((((((((([] : va_W) ++ ws_Pool cy q0 u0) ++ ws_Tape cy q1 u1) ++ ws_Lots cy q2 u2) ++ ws_Fleet cy q3 u3) ++ ws_Sea cy q4 u4) ++ ws_Mole cy q5 u5) ++ ws_Sheet cy q10 u10) ++ ws_Sheet cy q11 u11))) H := hP
  have hD : va_D A ((h0, .inr (7, [.ref q0, .ref q1, .ref q2, .ref q3, .ref q4, .ref q5, .ref qr, .int 0])) :: ((qr, .inl (cy 4, 4, .inr (.inr (.inr (.inr (va_up (fun _ => none) 0 (some q10))))))) :: ((((((((([] : va_W) ++ ws_Pool cy q0 u0) ++ ws_Tape cy q1 u1) ++ ws_Lots cy q2 u2) ++ ws_Fleet cy q3 u3) ++ ws_Sea cy q4 u4) ++ ws_Mole cy q5 u5) ++ ws_Sheet cy q10 u10) ++ ws_Sheet cy q11 u11))) := hD
  refine va_astq (r := (RX5, TX5, 3)) (vs := [.ref (u11 0), .int (-1), .int 0]) hx hb hK hP hD hS 1 4 44 5 rfl rfl rfl rfl (by unfold vp_in; decide) (show decode cX7_init 97 = .ok (.aastore, 1) by decide +kernel) (fun H locs hP hD hS => ?_)
  have hP : va_P (dC, dI) vwCl ((h0, .inr (7, [.ref q0, .ref q1, .ref q2, .ref q3, .ref q4, .ref q5, .ref qr, .int 0])) :: ((qr, .inl (cy 4, 4, .inr (.inr (.inr (.inr (va_up (va_up (fun _ => none) 0 (some q10)) 1 (some q11))))))) :: ((((((((([] : va_W) ++ ws_Pool cy q0 u0) ++ ws_Tape cy q1 u1) ++ ws_Lots cy q2 u2) ++ ws_Fleet cy q3 u3) ++ ws_Sea cy q4 u4) ++ ws_Mole cy q5 u5) ++ ws_Sheet cy q10 u10) ++ ws_Sheet cy q11 u11))) H := hP
  have hD : va_D A ((h0, .inr (7, [.ref q0, .ref q1, .ref q2, .ref q3, .ref q4, .ref q5, .ref qr, .int 0])) :: ((qr, .inl (cy 4, 4, .inr (.inr (.inr (.inr (va_up (va_up (fun _ => none) 0 (some q10)) 1 (some q11))))))) :: ((((((((([] : va_W) ++ ws_Pool cy q0 u0) ++ ws_Tape cy q1 u1) ++ ws_Lots cy q2 u2) ++ ws_Fleet cy q3 u3) ++ ws_Sea cy q4 u4) ++ ws_Mole cy q5 u5) ++ ws_Sheet cy q10 u10) ++ ws_Sheet cy q11 u11))) := hD
  refine lv_iinc (v := 2) (lv' := [(1, .int 2), (0, .ref h0)]) hx hb (show decode cX7_init 98 = .ok (.iinc 1 1, 3) by decide +kernel) hl (k := 0) rfl (by decide) (by decide) rfl (fun ls hl => ?_)
  refine lv_goto (tgt := 80) hx hb (show decode cX7_init 101 = .ok (.goto (-21), 3) by decide +kernel) (by decide) ?_
  refine lv_iload_n hx hb (show decode cX7_init 80 = .ok (.iload_n 1, 1) by decide +kernel) rfl (lv_at hl 0 rfl) ?_
  refine lv_iconst (v := 4) hx hb (show decode cX7_init 81 = .ok (.iconst 4, 1) by decide +kernel) (by decide) ?_
  refine lv_icmp_ge (tgt := 104) hx hb (show decode cX7_init 82 = .ok (.if_icmp .ge 22, 3) by decide +kernel) (by decide) (fun q => absurd q (by decide)) (fun _ => ?_)
  refine lv_aload_n hx hb (show decode cX7_init 85 = .ok (.aload_n 0, 1) by decide +kernel) rfl (lv_at hl 1 rfl) ?_
  refine va_get (D := (dC, dI)) (ci := 7) (v := .ref qr) (C := RX7) (T := TX7) (N := 8) hx hb hts mu_X7 hown hK hP 0 rfl rfl 6 (by decide) (hts _ (mT2 _ (List.mem_of_getElem? (i := 17) rfl) rfl)) (fun _ h9 => h9) rfl (show decode cX7_init 86 = .ok (.getfield 53, 3) by decide +kernel) ?_
  refine lv_iload_n hx hb (show decode cX7_init 89 = .ok (.iload_n 1, 1) by decide +kernel) rfl (lv_at hl 0 rfl) ?_
  refine va_new (ci := 5) (fs := [.null, .int 0, .int 0]) (C := RX5) (T := TX5) (N := 3) hx hb hts mu_X5 tyX5 tyX5_ok hown (hts _ (mT1 _ (List.mem_of_getElem? (i := 231) rfl) rfl)) (hts _ (mT1 _ (List.mem_of_getElem? (i := 233) rfl) rfl)) (hts _ (mT1 _ (List.mem_of_getElem? (i := 9) rfl) rfl)) hK hP hD hS hA rfl (fun j hj => by
    match j, hj with
    | 0, _ => rfl
    | 1, _ => rfl
    | 2, _ => rfl
    | j + 3, hj => omega) (Nat.le_of_ble_eq_true rfl) (Nat.le_of_ble_eq_true rfl) (show decode cX7_init 90 = .ok (.new 51, 3) by decide +kernel) (fun q12 H hP hD hS => ?_)
  refine W.widen (k := 46) (n := 1769) (Nat.le_of_ble_eq_true rfl) (Nat.le_of_ble_eq_true rfl) ?_
  have hP : va_P (dC, dI) vwCl (((h0, .inr (7, [.ref q0, .ref q1, .ref q2, .ref q3, .ref q4, .ref q5, .ref qr, .int 0])) :: ((qr, .inl (cy 4, 4, .inr (.inr (.inr (.inr (va_up (va_up (fun _ => none) 0 (some q10)) 1 (some q11))))))) :: ((((((((([] : va_W) ++ ws_Pool cy q0 u0) ++ ws_Tape cy q1 u1) ++ ws_Lots cy q2 u2) ++ ws_Fleet cy q3 u3) ++ ws_Sea cy q4 u4) ++ ws_Mole cy q5 u5) ++ ws_Sheet cy q10 u10) ++ ws_Sheet cy q11 u11))) ++ w0_Sheet q12) H := hP
  have hD : va_D A (((h0, .inr (7, [.ref q0, .ref q1, .ref q2, .ref q3, .ref q4, .ref q5, .ref qr, .int 0])) :: ((qr, .inl (cy 4, 4, .inr (.inr (.inr (.inr (va_up (va_up (fun _ => none) 0 (some q10)) 1 (some q11))))))) :: ((((((((([] : va_W) ++ ws_Pool cy q0 u0) ++ ws_Tape cy q1 u1) ++ ws_Lots cy q2 u2) ++ ws_Fleet cy q3 u3) ++ ws_Sea cy q4 u4) ++ ws_Mole cy q5 u5) ++ ws_Sheet cy q10 u10) ++ ws_Sheet cy q11 u11))) ++ w0_Sheet q12) := hD
  refine lv_dup hx hb (show decode cX7_init 93 = .ok (.dup, 1) by decide +kernel) rfl ?_
  have hPc : va_P (dC, dI) vwCl (w0_Sheet q12) H := mv_P_r hP
  have hDc : va_D A (w0_Sheet q12) := mv_D_r hD
  have hFc : ∀ a, va_A (w0_Sheet q12) H.size a → A a := fun a h => by
    rcases h with ⟨k9, e9, h⟩ | h
    · exact hDc.2 k9 _ h
    · exact hA a (Nat.le_trans hS.1 h)
  refine va_callv (va_runIN (As := []) (rest := [.ref q12, .int 2, .ref qr]) ⟨hx, hb, hml, hown, hts⟩ (k_Sheet l dC dI cy q12 H.size) ⟨va_cnB 0 hts (mv_goodc (mT1 _ (List.mem_of_getElem? (i := 236) rfl) rfl)) rfl rfl rfl (hNC.1 (57, yX5_init) (by simp [mv_nc])) (hts _ (mT1 _ (List.mem_of_getElem? (i := 9) rfl) rfl)) ⟨by decide +kernel, by decide +kernel, by decide +kernel⟩ ⟨Nat.le_of_ble_eq_true rfl, Nat.le_of_ble_eq_true rfl⟩, rfl, hts _ (mT1 _ (List.mem_of_getElem? (i := 235) rfl) rfl)⟩ ⟨fun a U g mk q => by obtain ⟨q0, q1, qP, qK, qD⟩ := q; exact ⟨q0, q1, qP, va_K.moved (u := U) (U := U.calling g mk a) (Vm.Alike.refl U.vm) qK, qD⟩, fun U hU hW => ⟨rfl, by rw [hU], by rw [hU]; exact hPc, va_K.moved hW.alike hK, hDc.weaken (fun _ _ _ _ => trivial)⟩⟩ rfl rfl hl.1 rfl (lv_room (Nat.le_of_ble_eq_true rfl)) (show decode cX7_init 94 = .ok (.invokespecial 57, 3) by decide +kernel) ⟨Nat.le_of_ble_eq_true rfl, Nat.le_of_ble_eq_true rfl⟩) hS (fun a _ h => hFc a h) hFc (fun u12 t H1 locs ht hvm hw hB hz1 hk1 hS => ?_)
  have hB1 := hB.1
  rw [ht] at hB1
  obtain ⟨hP, hD⟩ := mv_join hP hD hk1 hFc hB1 hB.2
  generalize H1 = H at hP hS ⊢
  have hP : va_P (dC, dI) vwCl ((h0, .inr (7, [.ref q0, .ref q1, .ref q2, .ref q3, .ref q4, .ref q5, .ref qr, .int 0])) :: (((qr, .inl (cy 4, 4, .inr (.inr (.inr (.inr (va_up (va_up (fun _ => none) 0 (some q10)) 1 (some q11))))))) :: ((((((((([] : va_W) ++ ws_Pool cy q0 u0) ++ ws_Tape cy q1 u1) ++ ws_Lots cy q2 u2) ++ ws_Fleet cy q3 u3) ++ ws_Sea cy q4 u4) ++ ws_Mole cy q5 u5) ++ ws_Sheet cy q10 u10) ++ ws_Sheet cy q11 u11)) ++ ws_Sheet cy q12 u12)) H := hP
  have hD : va_D A ((h0, .inr (7, [.ref q0, .ref q1, .ref q2, .ref q3, .ref q4, .ref q5, .ref qr, .int 0])) :: (((qr, .inl (cy 4, 4, .inr (.inr (.inr (.inr (va_up (va_up (fun _ => none) 0 (some q10)) 1 (some q11))))))) :: ((((((((([] : va_W) ++ ws_Pool cy q0 u0) ++ ws_Tape cy q1 u1) ++ ws_Lots cy q2 u2) ++ ws_Fleet cy q3 u3) ++ ws_Sea cy q4 u4) ++ ws_Mole cy q5 u5) ++ ws_Sheet cy q10 u10) ++ ws_Sheet cy q11 u11)) ++ ws_Sheet cy q12 u12)) := hD
  refine W.widen (k := 47) (n := 1829) (Nat.le_of_ble_eq_true rfl) (Nat.le_of_ble_eq_true rfl) ?_
  have hP : va_P (dC, dI) vwCl ((h0, .inr (7, [.ref q0, .ref q1, .ref q2, .ref q3, .ref q4, .ref q5, .ref qr, .int 0])) :: ((qr, .inl (cy 4, 4, .inr (.inr (.inr (.inr (va_up (va_up (fun _ => none) 0 (some q10)) 1 (some q11))))))) :: (((((((((([] : va_W) ++ ws_Pool cy q0 u0) ++ ws_Tape cy q1 u1) ++ ws_Lots cy q2 u2) ++ ws_Fleet cy q3 u3) ++ ws_Sea cy q4 u4) ++ ws_Mole cy q5 u5) ++ ws_Sheet cy q10 u10) ++ ws_Sheet cy q11 u11) ++ ws_Sheet cy q12 u12))) H := hP
  have hD : va_D A ((h0, .inr (7, [.ref q0, .ref q1, .ref q2, .ref q3, .ref q4, .ref q5, .ref qr, .int 0])) :: ((qr, .inl (cy 4, 4, .inr (.inr (.inr (.inr (va_up (va_up (fun _ => none) 0 (some q10)) 1 (some q11))))))) :: (((((((((([] : va_W) ++ ws_Pool cy q0 u0) ++ ws_Tape cy q1 u1) ++ ws_Lots cy q2 u2) ++ ws_Fleet cy q3 u3) ++ ws_Sea cy q4 u4) ++ ws_Mole cy q5 u5) ++ ws_Sheet cy q10 u10) ++ ws_Sheet cy q11 u11) ++ ws_Sheet cy q12 u12))) := hD
  refine va_astq (r := (RX5, TX5, 3)) (vs := [.ref (u12 0), .int (-1), .int 0]) hx hb hK hP hD hS 1 4 46 5 rfl rfl rfl rfl (by unfold vp_in; decide) (show decode cX7_init 97 = .ok (.aastore, 1) by decide +kernel) (fun H locs hP hD hS => ?_)
  have hP : va_P (dC, dI) vwCl ((h0, .inr (7, [.ref q0, .ref q1, .ref q2, .ref q3, .ref q4, .ref q5, .ref qr, .int 0])) :: ((qr, .inl (cy 4, 4, .inr (.inr (.inr (.inr (va_up (va_up (va_up (fun _ => none) 0 (some q10)) 1 (some q11)) 2 (some q12))))))) :: (((((((((([] : va_W) ++ ws_Pool cy q0 u0) ++ ws_Tape cy q1 u1) ++ ws_Lots cy q2 u2) ++ ws_Fleet cy q3 u3) ++ ws_Sea cy q4 u4) ++ ws_Mole cy q5 u5) ++ ws_Sheet cy q10 u10) ++ ws_Sheet cy q11 u11) ++ ws_Sheet cy q12 u12))) H := hP
  have hD : va_D A ((h0, .inr (7, [.ref q0, .ref q1, .ref q2, .ref q3, .ref q4, .ref q5, .ref qr, .int 0])) :: ((qr, .inl (cy 4, 4, .inr (.inr (.inr (.inr (va_up (va_up (va_up (fun _ => none) 0 (some q10)) 1 (some q11)) 2 (some q12))))))) :: (((((((((([] : va_W) ++ ws_Pool cy q0 u0) ++ ws_Tape cy q1 u1) ++ ws_Lots cy q2 u2) ++ ws_Fleet cy q3 u3) ++ ws_Sea cy q4 u4) ++ ws_Mole cy q5 u5) ++ ws_Sheet cy q10 u10) ++ ws_Sheet cy q11 u11) ++ ws_Sheet cy q12 u12))) := hD
  refine lv_iinc (v := 3) (lv' := [(1, .int 3), (0, .ref h0)]) hx hb (show decode cX7_init 98 = .ok (.iinc 1 1, 3) by decide +kernel) hl (k := 0) rfl (by decide) (by decide) rfl (fun ls hl => ?_)
  refine lv_goto (tgt := 80) hx hb (show decode cX7_init 101 = .ok (.goto (-21), 3) by decide +kernel) (by decide) ?_
  refine lv_iload_n hx hb (show decode cX7_init 80 = .ok (.iload_n 1, 1) by decide +kernel) rfl (lv_at hl 0 rfl) ?_
  refine lv_iconst (v := 4) hx hb (show decode cX7_init 81 = .ok (.iconst 4, 1) by decide +kernel) (by decide) ?_
  refine lv_icmp_ge (tgt := 104) hx hb (show decode cX7_init 82 = .ok (.if_icmp .ge 22, 3) by decide +kernel) (by decide) (fun q => absurd q (by decide)) (fun _ => ?_)
  refine lv_aload_n hx hb (show decode cX7_init 85 = .ok (.aload_n 0, 1) by decide +kernel) rfl (lv_at hl 1 rfl) ?_
  refine va_get (D := (dC, dI)) (ci := 7) (v := .ref qr) (C := RX7) (T := TX7) (N := 8) hx hb hts mu_X7 hown hK hP 0 rfl rfl 6 (by decide) (hts _ (mT2 _ (List.mem_of_getElem? (i := 17) rfl) rfl)) (fun _ h9 => h9) rfl (show decode cX7_init 86 = .ok (.getfield 53, 3) by decide +kernel) ?_
  refine lv_iload_n hx hb (show decode cX7_init 89 = .ok (.iload_n 1, 1) by decide +kernel) rfl (lv_at hl 0 rfl) ?_
  refine va_new (ci := 5) (fs := [.null, .int 0, .int 0]) (C := RX5) (T := TX5) (N := 3) hx hb hts mu_X5 tyX5 tyX5_ok hown (hts _ (mT1 _ (List.mem_of_getElem? (i := 231) rfl) rfl)) (hts _ (mT1 _ (List.mem_of_getElem? (i := 233) rfl) rfl)) (hts _ (mT1 _ (List.mem_of_getElem? (i := 9) rfl) rfl)) hK hP hD hS hA rfl (fun j hj => by
    match j, hj with
    | 0, _ => rfl
    | 1, _ => rfl
    | 2, _ => rfl
    | j + 3, hj => omega) (Nat.le_of_ble_eq_true rfl) (Nat.le_of_ble_eq_true rfl) (show decode cX7_init 90 = .ok (.new 51, 3) by decide +kernel) (fun q13 H hP hD hS => ?_)
  refine W.widen (k := 48) (n := 1832) (Nat.le_of_ble_eq_true rfl) (Nat.le_of_ble_eq_true rfl) ?_
  have hP : va_P (dC, dI) vwCl (((h0, .inr (7, [.ref q0, .ref q1, .ref q2, .ref q3, .ref q4, .ref q5, .ref qr, .int 0])) :: ((qr, .inl (cy 4, 4, .inr (.inr (.inr (.inr (va_up (va_up (va_up (fun _ => none) 0 (some q10)) 1 (some q11)) 2 (some q12))))))) :: (((((((((([] : va_W) ++ ws_Pool cy q0 u0) ++ ws_Tape cy q1 u1) ++ ws_Lots cy q2 u2) ++ ws_Fleet cy q3 u3) ++ ws_Sea cy q4 u4) ++ ws_Mole cy q5 u5) ++ ws_Sheet cy q10 u10) ++ ws_Sheet cy q11 u11) ++ ws_Sheet cy q12 u12))) ++ w0_Sheet q13) H := hP
  have hD : va_D A (((h0, .inr (7, [.ref q0, .ref q1, .ref q2, .ref q3, .ref q4, .ref q5, .ref qr, .int 0])) :: ((qr, .inl (cy 4, 4, .inr (.inr (.inr (.inr (va_up (va_up (va_up (fun _ => none) 0 (some q10)) 1 (some q11)) 2 (some q12))))))) :: (((((((((([] : va_W) ++ ws_Pool cy q0 u0) ++ ws_Tape cy q1 u1) ++ ws_Lots cy q2 u2) ++ ws_Fleet cy q3 u3) ++ ws_Sea cy q4 u4) ++ ws_Mole cy q5 u5) ++ ws_Sheet cy q10 u10) ++ ws_Sheet cy q11 u11) ++ ws_Sheet cy q12 u12))) ++ w0_Sheet q13) := hD
  refine lv_dup hx hb (show decode cX7_init 93 = .ok (.dup, 1) by decide +kernel) rfl ?_
  have hPc : va_P (dC, dI) vwCl (w0_Sheet q13) H := mv_P_r hP
  have hDc : va_D A (w0_Sheet q13) := mv_D_r hD
  have hFc : ∀ a, va_A (w0_Sheet q13) H.size a → A a := fun a h => by
    rcases h with ⟨k9, e9, h⟩ | h
    · exact hDc.2 k9 _ h
    · exact hA a (Nat.le_trans hS.1 h)
  refine va_callv (va_runIN (As := []) (rest := [.ref q13, .int 3, .ref qr]) ⟨hx, hb, hml, hown, hts⟩ (k_Sheet l dC dI cy q13 H.size) ⟨va_cnB 0 hts (mv_goodc (mT1 _ (List.mem_of_getElem? (i := 236) rfl) rfl)) rfl rfl rfl (hNC.1 (57, yX5_init) (by simp [mv_nc])) (hts _ (mT1 _ (List.mem_of_getElem? (i := 9) rfl) rfl)) ⟨by decide +kernel, by decide +kernel, by decide +kernel⟩ ⟨Nat.le_of_ble_eq_true rfl, Nat.le_of_ble_eq_true rfl⟩, rfl, hts _ (mT1 _ (List.mem_of_getElem? (i := 235) rfl) rfl)⟩ ⟨fun a U g mk q => by obtain ⟨q0, q1, qP, qK, qD⟩ := q; exact ⟨q0, q1, qP, va_K.moved (u := U) (U := U.calling g mk a) (Vm.Alike.refl U.vm) qK, qD⟩, fun U hU hW => ⟨rfl, by rw [hU], by rw [hU]; exact hPc, va_K.moved hW.alike hK, hDc.weaken (fun _ _ _ _ => trivial)⟩⟩ rfl rfl hl.1 rfl (lv_room (Nat.le_of_ble_eq_true rfl)) (show decode cX7_init 94 = .ok (.invokespecial 57, 3) by decide +kernel) ⟨Nat.le_of_ble_eq_true rfl, Nat.le_of_ble_eq_true rfl⟩) hS (fun a _ h => hFc a h) hFc (fun u13 t H1 locs ht hvm hw hB hz1 hk1 hS => ?_)
  have hB1 := hB.1
  rw [ht] at hB1
  obtain ⟨hP, hD⟩ := mv_join hP hD hk1 hFc hB1 hB.2
  generalize H1 = H at hP hS ⊢
  have hP : va_P (dC, dI) vwCl ((h0, .inr (7, [.ref q0, .ref q1, .ref q2, .ref q3, .ref q4, .ref q5, .ref qr, .int 0])) :: (((qr, .inl (cy 4, 4, .inr (.inr (.inr (.inr (va_up (va_up (va_up (fun _ => none) 0 (some q10)) 1 (some q11)) 2 (some q12))))))) :: (((((((((([] : va_W) ++ ws_Pool cy q0 u0) ++ ws_Tape cy q1 u1) ++ ws_Lots cy q2 u2) ++ ws_Fleet cy q3 u3) ++ ws_Sea cy q4 u4) ++ ws_Mole cy q5 u5) ++ ws_Sheet cy q10 u10) ++ ws_Sheet cy q11 u11) ++ ws_Sheet cy q12 u12)) ++ ws_Sheet cy q13 u13)) H := hP
  have hD : va_D A ((h0, .inr (7, [.ref q0, .ref q1, .ref q2, .ref q3, .ref q4, .ref q5, .ref qr, .int 0])) :: (((qr, .inl (cy 4, 4, .inr (.inr (.inr (.inr (va_up (va_up (va_up (fun _ => none) 0 (some q10)) 1 (some q11)) 2 (some q12))))))) :: (((((((((([] : va_W) ++ ws_Pool cy q0 u0) ++ ws_Tape cy q1 u1) ++ ws_Lots cy q2 u2) ++ ws_Fleet cy q3 u3) ++ ws_Sea cy q4 u4) ++ ws_Mole cy q5 u5) ++ ws_Sheet cy q10 u10) ++ ws_Sheet cy q11 u11) ++ ws_Sheet cy q12 u12)) ++ ws_Sheet cy q13 u13)) := hD
  refine W.widen (k := 49) (n := 1892) (Nat.le_of_ble_eq_true rfl) (Nat.le_of_ble_eq_true rfl) ?_
  have hP : va_P (dC, dI) vwCl ((h0, .inr (7, [.ref q0, .ref q1, .ref q2, .ref q3, .ref q4, .ref q5, .ref qr, .int 0])) :: ((qr, .inl (cy 4, 4, .inr (.inr (.inr (.inr (va_up (va_up (va_up (fun _ => none) 0 (some q10)) 1 (some q11)) 2 (some q12))))))) :: ((((((((((([] : va_W) ++ ws_Pool cy q0 u0) ++ ws_Tape cy q1 u1) ++ ws_Lots cy q2 u2) ++ ws_Fleet cy q3 u3) ++ ws_Sea cy q4 u4) ++ ws_Mole cy q5 u5) ++ ws_Sheet cy q10 u10) ++ ws_Sheet cy q11 u11) ++ ws_Sheet cy q12 u12) ++ ws_Sheet cy q13 u13))) H := hP
  have hD : va_D A ((h0, .inr (7, [.ref q0, .ref q1, .ref q2, .ref q3, .ref q4, .ref q5, .ref qr, .int 0])) :: ((qr, .inl (cy 4, 4, .inr (.inr (.inr (.inr (va_up (va_up (va_up (fun _ => none) 0 (some q10)) 1 (some q11)) 2 (some q12))))))) :: ((((((((((([] : va_W) ++ ws_Pool cy q0 u0) ++ ws_Tape cy q1 u1) ++ ws_Lots cy q2 u2) ++ ws_Fleet cy q3 u3) ++ ws_Sea cy q4 u4) ++ ws_Mole cy q5 u5) ++ ws_Sheet cy q10 u10) ++ ws_Sheet cy q11 u11) ++ ws_Sheet cy q12 u12) ++ ws_Sheet cy q13 u13))) := hD
  refine va_astq (r := (RX5, TX5, 3)) (vs := [.ref (u13 0), .int (-1), .int 0]) hx hb hK hP hD hS 1 4 48 5 rfl rfl rfl rfl (by unfold vp_in; decide) (show decode cX7_init 97 = .ok (.aastore, 1) by decide +kernel) (fun H locs hP hD hS => ?_)
  have hP : va_P (dC, dI) vwCl ((h0, .inr (7, [.ref q0, .ref q1, .ref q2, .ref q3, .ref q4, .ref q5, .ref qr, .int 0])) :: ((qr, .inl (cy 4, 4, .inr (.inr (.inr (.inr (va_up (va_up (va_up (va_up (fun _ => none) 0 (some q10)) 1 (some q11)) 2 (some q12)) 3 (some q13))))))) :: ((((((((((([] : va_W) ++ ws_Pool cy q0 u0) ++ ws_Tape cy q1 u1) ++ ws_Lots cy q2 u2) ++ ws_Fleet cy q3 u3) ++ ws_Sea cy q4 u4) ++ ws_Mole cy q5 u5) ++ ws_Sheet cy q10 u10) ++ ws_Sheet cy q11 u11) ++ ws_Sheet cy q12 u12) ++ ws_Sheet cy q13 u13))) H := hP
  have hD : va_D A ((h0, .inr (7, [.ref q0, .ref q1, .ref q2, .ref q3, .ref q4, .ref q5, .ref qr, .int 0])) :: ((qr, .inl (cy 4, 4, .inr (.inr (.inr (.inr (va_up (va_up (va_up (va_up (fun _ => none) 0 (some q10)) 1 (some q11)) 2 (some q12)) 3 (some q13))))))) :: ((((((((((([] : va_W) ++ ws_Pool cy q0 u0) ++ ws_Tape cy q1 u1) ++ ws_Lots cy q2 u2) ++ ws_Fleet cy q3 u3) ++ ws_Sea cy q4 u4) ++ ws_Mole cy q5 u5) ++ ws_Sheet cy q10 u10) ++ ws_Sheet cy q11 u11) ++ ws_Sheet cy q12 u12) ++ ws_Sheet cy q13 u13))) := hD
  refine lv_iinc (v := 4) (lv' := [(1, .int 4), (0, .ref h0)]) hx hb (show decode cX7_init 98 = .ok (.iinc 1 1, 3) by decide +kernel) hl (k := 0) rfl (by decide) (by decide) rfl (fun ls hl => ?_)
  refine lv_goto (tgt := 80) hx hb (show decode cX7_init 101 = .ok (.goto (-21), 3) by decide +kernel) (by decide) ?_
  refine lv_iload_n hx hb (show decode cX7_init 80 = .ok (.iload_n 1, 1) by decide +kernel) rfl (lv_at hl 0 rfl) ?_
  refine lv_iconst (v := 4) hx hb (show decode cX7_init 81 = .ok (.iconst 4, 1) by decide +kernel) (by decide) ?_
  refine lv_icmp_ge (tgt := 104) hx hb (show decode cX7_init 82 = .ok (.if_icmp .ge 22, 3) by decide +kernel) (by decide) (fun _ => ?_) (fun q => absurd (by decide) q)
  refine W.widen (k := 49) (n := 1892) (Nat.le_of_ble_eq_true rfl) (Nat.le_of_ble_eq_true rfl) ?_
  exact W.vret hx hb hr (fun t ht hW => ⟨⟨((fun k => match k with | 0 => q0 | 1 => q1 | 2 => q2 | 3 => q3 | 4 => q4 | 5 => q5 | 6 => qr | 7 => q10 | 8 => q11 | 9 => q12 | 10 => q13 | _ => 0), (fun k => match k with | 0 => u0 | 1 => u1 | 2 => u2 | 3 => u3 | 4 => u4 | 5 => u5 | 6 => u0 | 7 => u10 | 8 => u11 | 9 => u12 | 10 => u13 | _ => fun _ => 0)), rfl, trivial, by rw [ht]; exact hP, hD⟩, hS.F ht⟩) hS.2.2 (show decode cX7_init 104 = .ok (.return_, 1) by decide +kernel) hlocks
