set_option maxHeartbeats 8000000 in
set_option maxRecDepth 100000 in
theorem whole_start {p : Program} {e : Env} {s : State} {m : MethodId} {below : List Frame} {meth : Method} {c : Code} (l : Launch) {b L : Nat} {xs : Nat → Int32} (hL : L ≤ 3072) (C0 : lw_At p s m meth c b L xs) : W p l e room_1 s m #[Value.ref b] below meth c s.heap [] 0 0 (lw_Z below #[Value.ref b] s) (entryFrame m ([Value.ref b] : List Value).toArray 4) := by
  obtain ⟨hx, hb, hr, hml, hown, hts9, hX, hbl, hlocks, hgv⟩ := id C0
  have hts : ∀ w ∈ mv_TT, w.before #[Value.ref b] s = true := fun w h => hts9 w (mT_tbl w h)
  have hA : ∀ q : Nat, s.heap.size ≤ q → (fun q : Nat => s.heap.size ≤ q) q := fun _ h => h
  have hbA : ¬ (fun q : Nat => s.heap.size ≤ q) b := Nat.not_le.mpr hbl
  obtain ⟨cX0, iX0, hKnX0⟩ := u_known (C := RX0) (T := TX0) (N := 8) (n := 8) hts mu_X0 (hts (.instantiable RX0 8) (mT1 _ (List.mem_of_getElem? (i := 132) rfl) rfl))
  obtain ⟨cX1, iX1, hKnX1⟩ := u_known (C := RX1) (T := TX1) (N := 7) (n := 7) hts mu_X1 (hts (.instantiable RX1 7) (mT1 _ (List.mem_of_getElem? (i := 97) rfl) rfl))
  obtain ⟨cX2, iX2, hKnX2⟩ := u_known (C := RX2) (T := TX2) (N := 8) (n := 8) hts mu_X2 (hts (.instantiable RX2 8) (mT1 _ (List.mem_of_getElem? (i := 196) rfl) rfl))
  obtain ⟨cX3, iX3, hKnX3⟩ := u_known (C := RX3) (T := TX3) (N := 13) (n := 13) hts mu_X3 (hts (.instantiable RX3 13) (mT1 _ (List.mem_of_getElem? (i := 23) rfl) rfl))
  obtain ⟨cX4, iX4, hKnX4⟩ := u_known (C := RX4) (T := TX4) (N := 6) (n := 6) hts mu_X4 (hts (.instantiable RX4 6) (mT1 _ (List.mem_of_getElem? (i := 166) rfl) rfl))
  obtain ⟨cX5, iX5, hKnX5⟩ := u_known (C := RX5) (T := TX5) (N := 3) (n := 3) hts mu_X5 (hts (.instantiable RX5 3) (mT1 _ (List.mem_of_getElem? (i := 233) rfl) rfl))
  obtain ⟨cX6, iX6, hKnX6⟩ := u_known (C := RX6) (T := TX6) (N := 4) (n := 4) hts mu_X6 (hts (.instantiable RX6 4) (mT1 _ (List.mem_of_getElem? (i := 75) rfl) rfl))
  obtain ⟨cX7, iX7, hKnX7⟩ := u_known (C := RX7) (T := TX7) (N := 8) (n := 8) hts mu_X7 (hts (.instantiable RX7 8) (mT1 _ (List.mem_of_getElem? (i := 15) rfl) rfl))
  obtain ⟨cX8, iX8, hKnX8⟩ := u_known (C := RX8) (T := TX8) (N := 46) (n := 46) hts mu_X8 (hts (.instantiable RX8 46) (mT3 _ (List.mem_of_getElem? (i := 131) rfl) rfl))
  obtain ⟨dC, dI, hKc⟩ : ∃ (dC : Nat → ClassId) (dI : Nat → Nat → Nat), ∀ (k : Nat) (q : vw_C), vwCl[k]? = some q → u_Kn s q.1 q.2.1 q.2.2 (dC k) (dI k) := by
    refine ⟨fun k => match k with | 0 => cX0 | 1 => cX1 | 2 => cX2 | 3 => cX3 | 4 => cX4 | 5 => cX5 | 6 => cX6 | 7 => cX7 | _ => cX8, fun k => match k with | 0 => iX0 | 1 => iX1 | 2 => iX2 | 3 => iX3 | 4 => iX4 | 5 => iX5 | 6 => iX6 | 7 => iX7 | _ => iX8, ?_⟩
    intro k q hq
    match k, hq with
    | 0, hq => cases hq; exact hKnX0
    | 1, hq => cases hq; exact hKnX1
    | 2, hq => cases hq; exact hKnX2
    | 3, hq => cases hq; exact hKnX3
    | 4, hq => cases hq; exact hKnX4
    | 5, hq => cases hq; exact hKnX5
    | 6, hq => cases hq; exact hKnX6
    | 7, hq => cases hq; exact hKnX7
    | 8, hq => cases hq; exact hKnX8
    | k + 9, hq => simp [vwCl] at hq
  obtain ⟨yI, kI, pI, aI1, aI2, aI3⟩ := Cond.arrayClass_spec (type := .int) (hts (.arrayClass .int) (mT1 _ (List.mem_of_getElem? (i := 72) rfl) rfl))
  obtain ⟨yJ, kJ, pJ, aJ1, aJ2, aJ3⟩ := Cond.arrayClass_spec (type := .long) (hts (.arrayClass .long) (mT4 _ (List.mem_of_getElem? (i := 35) rfl) rfl))
  obtain ⟨yB, kB, pB, aB1, aB2, aB3⟩ := Cond.arrayClass_spec (type := .byte) (hts (.arrayClass .byte) (mT1 _ (List.mem_of_getElem? (i := 95) rfl) rfl))
  obtain ⟨yZ, kZ, pZ, aZ1, aZ2, aZ3⟩ := Cond.arrayClass_spec (type := .boolean) (hts (.arrayClass .boolean) (mT1 _ (List.mem_of_getElem? (i := 73) rfl) rfl))
  have hAO : va_AO "SaltPool$Sheet" s := va_AO.of (hts9 (.arrayOver (.object "SaltPool$Sheet")) (mL1 _ (List.mem_of_getElem? (i := 232) rfl)))
  obtain ⟨pS, yS, kS, aS1, -, aS2, aS3, aS4⟩ := Cond.arrayOver_spec (va_AO.use (A := #[]) hAO)
  obtain ⟨cy, hcy⟩ : ∃ cy : Nat → ClassId, cy = fun k => match k with | 0 => yI | 1 => yJ | 2 => yB | 3 => yZ | _ => yS := ⟨_, rfl⟩
  have hK : va_K (dC, dI) vwCl (mv_tys cy) s := by
    subst hcy
    refine ⟨hKc, fun k q h => ?_⟩
    match k, h with
    | 0, h => cases h; exact ⟨fun n z => ⟨fun k h => (by cases h), kI, aI2, pI, aI3⟩, aI1⟩
    | 1, h => cases h; exact ⟨fun n z => ⟨fun k h => (by cases h), kJ, aJ2, pJ, aJ3⟩, aJ1⟩
    | 2, h => cases h; exact ⟨fun n z => ⟨fun k h => (by cases h), kB, aB2, pB, aB3⟩, aB1⟩
    | 3, h => cases h; exact ⟨fun n z => ⟨fun k h => (by cases h), kZ, aZ2, pZ, aZ3⟩, aZ1⟩
    | 4, h => cases h; exact ⟨fun n z => ⟨fun k h => (by cases h), kS, aS2, pS, aS3⟩, kS, pS, aS2, aS3, aS1, aS4⟩
    | k + 5, h => simp [mv_tys] at h
  have hNW : mv_NW s := fun q hq => by
    rcases List.mem_cons.mp hq with rfl | hq
    · exact va_Nw.of rfl (hts9 _ (mL2 _ (List.mem_of_getElem? (i := 161) rfl)))
    · exact absurd hq List.not_mem_nil
  have hNC : mv_NC s := ⟨fun q hq => by
    rcases List.mem_cons.mp hq with rfl | hq
    · exact va_Nw.of rfl (hts9 _ (mL1 _ (List.mem_of_getElem? (i := 24) rfl)))
    rcases List.mem_cons.mp hq with rfl | hq
    · exact va_Nw.of rfl (hts9 _ (mL1 _ (List.mem_of_getElem? (i := 76) rfl)))
    rcases List.mem_cons.mp hq with rfl | hq
    · exact va_Nw.of rfl (hts9 _ (mL1 _ (List.mem_of_getElem? (i := 98) rfl)))
    rcases List.mem_cons.mp hq with rfl | hq
    · exact va_Nw.of rfl (hts9 _ (mL1 _ (List.mem_of_getElem? (i := 133) rfl)))
    rcases List.mem_cons.mp hq with rfl | hq
    · exact va_Nw.of rfl (hts9 _ (mL1 _ (List.mem_of_getElem? (i := 197) rfl)))
    rcases List.mem_cons.mp hq with rfl | hq
    · exact va_Nw.of rfl (hts9 _ (mL1 _ (List.mem_of_getElem? (i := 234) rfl)))
    exact absurd hq List.not_mem_nil, hAO⟩
  have hS : va_S (fun q : Nat => s.heap.size ≤ q) s.heap s.heap [] := va_S.rf
  have hP : va_P (dC, dI) vwCl [] s.heap := fun k q h => by simp at h
  have hD : va_D (fun q : Nat => s.heap.size ≤ q) [] := ⟨fun i j p q h => by simp at h, fun k q h => by simp at h⟩
  generalize hAe : (fun q : Nat => s.heap.size ≤ q) = A at *
  have hl := lv_entry ([.ref b]) (n := 4) (Nat.le_of_ble_eq_true rfl)
  rw [lg_entry_eq]
  generalize (lg_sl ([.ref b]) ++ List.replicate (4 - (lg_sl ([.ref b])).length) Slot.unset).toArray = ls at hl ⊢
  have hl : lv_has ls 4 [(0, .ref b)] := hl
  refine va_new (ci := 7) (fs := [.null, .null, .null, .null, .null, .null, .null, .int 0]) (C := RX7) (T := TX7) (N := 8) hx hb hts mu_X7 tyX7 tyX7_ok hown (hts _ (mT1 _ (List.mem_of_getElem? (i := 14) rfl) rfl)) (hts _ (mT1 _ (List.mem_of_getElem? (i := 15) rfl) rfl)) (hts _ (mT1 _ (List.mem_of_getElem? (i := 1) rfl) rfl)) hK hP hD hS hA rfl (fun j hj => by
    match j, hj with
    | 0, _ => rfl
    | 1, _ => rfl
    | 2, _ => rfl
    | 3, _ => rfl
    | 4, _ => rfl
    | 5, _ => rfl
    | 6, _ => rfl
    | 7, _ => rfl
    | j + 8, hj => omega) (Nat.le_of_ble_eq_true rfl) (Nat.le_of_ble_eq_true rfl) (show decode cL_law 0 = .ok (.new 7, 3) by decide +kernel) (fun q0 H hP hD hS => ?_)
  refine W.widen (k := 1) (n := 8) (Nat.le_of_ble_eq_true rfl) (Nat.le_of_ble_eq_true rfl) ?_
  have hP : va_P (dC, dI) vwCl (([] : va_W) ++ w0_Salt q0) H := hP
  have hD : va_D A (([] : va_W) ++ w0_Salt q0) := hD
  refine lv_dup hx hb (show decode cL_law 3 = .ok (.dup, 1) by decide +kernel) rfl ?_
  have hPc : va_P (dC, dI) vwCl (w0_Salt q0) H := mv_P_r hP
  have hDc : va_D A (w0_Salt q0) := mv_D_r hD
  have hFc : ∀ a, va_A (w0_Salt q0) H.size a → A a := fun a h => by
    rcases h with ⟨k9, e9, h⟩ | h
    · exact hDc.2 k9 _ h
    · exact hA a (Nat.le_trans hS.1 h)
  refine va_callv (va_runI (As := []) (rest := [.ref q0]) ⟨hx, hb, hml, hown, hts⟩ (k_Salt l dC dI cy q0 H.size) (cwI 0 hts (mv_goodc (mT1 _ (List.mem_of_getElem? (i := 18) rfl) rfl)) rfl rfl rfl (hts _ (mT1 _ (List.mem_of_getElem? (i := 1) rfl) rfl)) (hts _ (mT1 _ (List.mem_of_getElem? (i := 16) rfl) rfl)) (hts _ (mT1 _ (List.mem_of_getElem? (i := 17) rfl) rfl)) rfl ⟨by decide +kernel, by decide +kernel, by decide +kernel⟩ ⟨Nat.le_of_ble_eq_true rfl, Nat.le_of_ble_eq_true rfl⟩) ⟨fun a U g mk q => by obtain ⟨q0, q1, qP, qK, qD, qN, qC⟩ := q; exact ⟨q0, q1, qP, va_K.moved (u := U) (U := U.calling g mk a) (Vm.Alike.refl U.vm) qK, qD, mv_NW.same (u := U) (U := U.calling g mk a) rfl qN, fun q hq => va_Nw.same rfl rfl (qC.1 q hq), va_AO.moved (Vm.Alike.refl U.vm) qC.2⟩, fun U hU hW => ⟨rfl, by rw [hU], by rw [hU]; exact hPc, va_K.moved hW.alike hK, hDc.weaken (fun _ _ _ _ => trivial), mv_NW.warm hW hNW, fun q hq => va_Nw.warmM hW (hNC.1 q hq), va_AO.moved hW.alike hNC.2⟩⟩ rfl rfl hl.1 rfl (lv_room (Nat.le_of_ble_eq_true rfl)) (show decode cL_law 4 = .ok (.invokespecial 9, 3) by decide +kernel) ⟨Nat.le_of_ble_eq_true rfl, Nat.le_of_ble_eq_true rfl⟩) hS (fun a _ h => hFc a h) hFc (fun z t H1 locs ht hvm hw hB hz1 hk1 hS => ?_)
  have hB1 := hB.1
  rw [ht] at hB1
  obtain ⟨hP, hD⟩ := mv_join hP hD hk1 hFc hB1 hB.2
  generalize H1 = H at hP hS ⊢
  refine W.widen (k := 50) (n := 1900) (Nat.le_of_ble_eq_true rfl) (Nat.le_of_ble_eq_true rfl) ?_
  have hP : va_P (dC, dI) vwCl (ws_Salt cy q0 z) H := hP
  have hD : va_D A (ws_Salt cy q0 z) := hD
  refine lv_astore_n (lv' := [(1, .ref q0), (0, .ref b)]) hx hb (show decode cL_law 7 = .ok (.astore_n 1, 1) by decide +kernel) rfl hl (by decide) rfl (fun ls hl => ?_)
  refine va_new (ci := 8) (fs := [.int 0, .null, .null, .int 0, .int 0, .null, .null, .null, .null, .null, .int 0, .int 0, .null, .null, .null, .null, .null, .null, .null, .null, .int 0, .int 0, .int 0, .null, .int 0, .null, .null, .null, .null, .null, .null, .null, .int 0, .null, .null, .null, .null, .int 0, .null, .null, .null, .null, .null, .null, .null, .null]) (C := RX8) (T := TX8) (N := 46) hx hb hts mu_X8 tyX8 tyX8_ok hown (hts _ (mT3 _ (List.mem_of_getElem? (i := 130) rfl) rfl)) (hts _ (mT3 _ (List.mem_of_getElem? (i := 131) rfl) rfl)) (hts _ (mT1 _ (List.mem_of_getElem? (i := 10) rfl) rfl)) hK hP hD hS hA rfl (fun j hj => by
    match j, hj with
    | 0, _ => rfl
    | 1, _ => rfl
    | 2, _ => rfl
    | 3, _ => rfl
    | 4, _ => rfl
    | 5, _ => rfl
    | 6, _ => rfl
    | 7, _ => rfl
    | 8, _ => rfl
    | 9, _ => rfl
    | 10, _ => rfl
    | 11, _ => rfl
    | 12, _ => rfl
    | 13, _ => rfl
    | 14, _ => rfl
    | 15, _ => rfl
    | 16, _ => rfl
    | 17, _ => rfl
    | 18, _ => rfl
    | 19, _ => rfl
    | 20, _ => rfl
    | 21, _ => rfl
    | 22, _ => rfl
    | 23, _ => rfl
    | 24, _ => rfl
    | 25, _ => rfl
    | 26, _ => rfl
    | 27, _ => rfl
    | 28, _ => rfl
    | 29, _ => rfl
    | 30, _ => rfl
    | 31, _ => rfl
    | 32, _ => rfl
    | 33, _ => rfl
    | 34, _ => rfl
    | 35, _ => rfl
    | 36, _ => rfl
    | 37, _ => rfl
    | 38, _ => rfl
    | 39, _ => rfl
    | 40, _ => rfl
    | 41, _ => rfl
    | 42, _ => rfl
    | 43, _ => rfl
    | 44, _ => rfl
    | 45, _ => rfl
    | j + 46, hj => omega) (Nat.le_of_ble_eq_true rfl) (Nat.le_of_ble_eq_true rfl) (show decode cL_law 8 = .ok (.new 10, 3) by decide +kernel) (fun q1 H hP hD hS => ?_)
  refine W.widen (k := 51) (n := 1946) (Nat.le_of_ble_eq_true rfl) (Nat.le_of_ble_eq_true rfl) ?_
  have hP : va_P (dC, dI) vwCl (ws_Salt cy q0 z ++ w0_Model q1) H := hP
  have hD : va_D A (ws_Salt cy q0 z ++ w0_Model q1) := hD
  refine lv_dup hx hb (show decode cL_law 11 = .ok (.dup, 1) by decide +kernel) rfl ?_
  have hPc : va_P (dC, dI) vwCl (w0_Model q1) H := mv_P_r hP
  have hDc : va_D A (w0_Model q1) := mv_D_r hD
  have hFc : ∀ a, va_A (w0_Model q1) H.size a → A a := fun a h => by
    rcases h with ⟨k9, e9, h⟩ | h
    · exact hDc.2 k9 _ h
    · exact hA a (Nat.le_trans hS.1 h)
  refine va_callv (va_runI (As := []) (rest := [.ref q1]) ⟨hx, hb, hml, hown, hts⟩ (k_Model l dC dI cy q1 H.size) (cwI 0 hts (mv_goodc (mT3 _ (List.mem_of_getElem? (i := 134) rfl) rfl)) rfl rfl rfl (hts _ (mT1 _ (List.mem_of_getElem? (i := 10) rfl) rfl)) (hts _ (mT3 _ (List.mem_of_getElem? (i := 132) rfl) rfl)) (hts _ (mT3 _ (List.mem_of_getElem? (i := 133) rfl) rfl)) rfl ⟨by decide +kernel, by decide +kernel, by decide +kernel⟩ ⟨Nat.le_of_ble_eq_true rfl, Nat.le_of_ble_eq_true rfl⟩) ⟨fun a U g mk q => by obtain ⟨q0, q1, qP, qK, qD, qN⟩ := q; exact ⟨q0, q1, qP, va_K.moved (u := U) (U := U.calling g mk a) (Vm.Alike.refl U.vm) qK, qD, mv_NW.same (u := U) (U := U.calling g mk a) rfl qN⟩, fun U hU hW => ⟨rfl, by rw [hU], by rw [hU]; exact hPc, va_K.moved hW.alike hK, hDc.weaken (fun _ _ _ _ => trivial), mv_NW.warm hW hNW⟩⟩ rfl rfl hl.1 rfl (lv_room (Nat.le_of_ble_eq_true rfl)) (show decode cL_law 12 = .ok (.invokespecial 12, 3) by decide +kernel) ⟨Nat.le_of_ble_eq_true rfl, Nat.le_of_ble_eq_true rfl⟩) hS (fun a _ h => hFc a h) hFc (fun u t H1 locs ht hvm hw hB hz1 hk1 hS => ?_)
  have hB1 := hB.1
  rw [ht] at hB1
  obtain ⟨hP, hD⟩ := mv_join hP hD hk1 hFc hB1 hB.2
  generalize H1 = H at hP hS ⊢
  refine W.widen (k := 86) (n := 3662) (Nat.le_of_ble_eq_true rfl) (Nat.le_of_ble_eq_true rfl) ?_
  refine lv_astore_n (lv' := [(2, .ref q1), (1, .ref q0), (0, .ref b)]) hx hb (show decode cL_law 15 = .ok (.astore_n 2, 1) by decide +kernel) rfl hl (by decide) rfl (fun ls hl => ?_)
  refine lv_iconst (v := 0) hx hb (show decode cL_law 16 = .ok (.iconst 0, 1) by decide +kernel) (by decide) ?_
  refine lv_istore_n (lv' := [(3, .int 0), (2, .ref q1), (1, .ref q0), (0, .ref b)]) hx hb (show decode cL_law 17 = .ok (.istore_n 3, 1) by decide +kernel) rfl hl (by decide) rfl (fun ls hl => ?_)
  have hP : va_P (dC, dI) vwCl (mv_ws cy (ad_new b q0 q1 z u) mv_sh I_new mv_J0) H := P_new hP
  have hD : va_D A (mv_ws cy (ad_new b q0 q1 z u) mv_sh I_new mv_J0) := D_new hD
  have hLS : mv_LS (ad_new b q0 q1 z u) [some (.inr (.inr 999)), some (.inr (.inr 0)), some (.inr (.inr 12)), some (.inl 0)] ls := ⟨hl.1, hl.2.1, fun j w hj => by
    match j, hj with
    | 0, hj => cases hj; exact hl.2.2 (0, .ref b) (by simp)
    | 1, hj => cases hj; exact hl.2.2 (1, .ref q0) (by simp)
    | 2, hj => cases hj; exact hl.2.2 (2, .ref q1) (by simp)
    | 3, hj => cases hj; exact hl.2.2 (3, .int 0) (by simp)
    | j + 4, hj => simp [mv_nth] at hj⟩
  have hCs : mv_csB l room_1 vwCl dC dI cy (ad_new b q0 q1 z u) mv_sh RL mv_TT csL (mv_wpM mv_tab mv_sh 12) := by
    intro idx mid2 na ci hf as2 I2 J2 Q2 _ hc
    obtain ⟨y2, cc2, maxL2, ret2, z2, t1, t2⟩ := mv_met l (dC := dC) (dI := dI) (cy := cy) (ad := ad_new b q0 q1 z u) mv_tab_ok mv_sh_ok 12 mid2 as2 I2 J2 Q2 hc
    exact ⟨y2, cc2, maxL2, ret2, _, mv_TT, mv_room 12, csL_ok idx mid2 na ci hf y2 cc2 maxL2 ret2 z2 t1, rfl, rfl, Nat.le_of_ble_eq_true rfl, Nat.le_of_ble_eq_true rfl, t2⟩
  have SND := fun (tb : Nat → Option mv_R) (stop : mv_K) (hT : mv_tbB cL_law RL mv_TT tb) (hstop : ∀ (pc : Nat) (ls : mv_L) (st : List mv_V) (I : mv_I) (J : mv_J) (H : Heap) (locs : List Loc) (arr : Array Slot), stop pc ls st I J → va_P (dC, dI) vwCl (mv_ws cy (ad_new b q0 q1 z u) mv_sh I J) H → va_S A s.heap H locs → mv_LS (ad_new b q0 q1 z u) ls arr → ls.length = 4 → W p l e room_1 s m #[Value.ref b] below meth c H locs 86 3662 (lw_Z below #[Value.ref b] s) (F0 m pc arr (st.map (mv_val (ad_new b q0 q1 z u))))) => mv_wp_sound (A := A) (H0 := s.heap) (rb := 1) (Q := fun r _ _ => r = some (.inl 1)) (stop := stop) hx hb hml hown hts hK (fun I2 J2 => mv_D_any hD) hA ⟨Nat.le_of_ble_eq_true rfl, Nat.le_of_ble_eq_true rfl, Nat.le_of_ble_eq_true rfl, Nat.le_of_ble_eq_true rfl⟩ (X := some (L, xs)) (fun L2 xs2 h => by cases h; exact ⟨hX, hbl, hbA⟩) hNW hT flL_ok mv_sh_ok hCs jdL_ok (fun pc x I2 J2 H locs arr hd h hP hS => by
    have h1 : x = 1 := by have h9 : (some (.inl x) : Option mv_V) = some (.inl 1) := h; cases h9; rfl
    subst h1
    refine va_forget (fun q hq => by have h8 := hS.2.2 q hq; rw [← hAe] at h8; exact h8) ?_
    refine W.widen (k := 600000) (n := 7302250) (Nat.le_of_ble_eq_true rfl) (Nat.le_of_ble_eq_true rfl) ?_
    exact lw_ret hx hb hr hlocks hd) (fun _ _ _ _ _ _ _ h => h.elim) hstop
  have LOOP : ∀ (k : Nat) (x : Int32) (I : mv_I) (J : mv_J) (H : Heap) (locs : List Loc) (arr : Array Slot), 0 ≤ x.toInt → x.toInt ≤ 4000 → ((L : Int) - x.toInt).toNat < k → SC I → SM I → LR I → va_P (dC, dI) vwCl (mv_ws cy (ad_new b q0 q1 z u) mv_sh I J) H → va_S A s.heap H locs → mv_LS (ad_new b q0 q1 z u) [some (.inr (.inr 999)), some (.inr (.inr 0)), some (.inr (.inr 12)), some (.inl x)] arr → W p l e room_1 s m #[Value.ref b] below meth c H locs 86 3662 (lw_Z below #[Value.ref b] s) (F0 m 18 arr []) := by
    intro k
    induction k with
    | zero => intro x I J H locs arr h0 hx hk; omega
    | succ k ih =>
      intro x I J H locs arr h0 hx hk sc sm hR hP hS hLS
      have NXT : ∀ (pc : Nat) (ls2 : mv_L) (st : List mv_V) (I2 : mv_I) (J2 : mv_J) (H2 : Heap) (locs2 : List Loc) (arr2 : Array Slot), x.toInt + 6 ≤ L → lw_s x pc ls2 st I2 J2 → va_P (dC, dI) vwCl (mv_ws cy (ad_new b q0 q1 z u) mv_sh I2 J2) H2 → va_S A s.heap H2 locs2 → mv_LS (ad_new b q0 q1 z u) ls2 arr2 → ls2.length = 4 → W p l e room_1 s m #[Value.ref b] below meth c H2 locs2 86 3662 (lw_Z below #[Value.ref b] s) (F0 m pc arr2 (st.map (mv_val (ad_new b q0 q1 z u)))) := by
        intro pc ls2 st I2 J2 H2 locs2 arr2 hx6 h9 hP2 hS2 hLS2 hn2
        obtain ⟨rfl, rfl, rfl, sc2, sm2, r2⟩ := h9
        have c6 : (6 : Int32).toInt = 6 := by decide
        have e6 : (x + 6).toInt = x.toInt + 6 := by rw [mi_add (by rw [c6]; omega) (by rw [c6]; omega), c6]
        exact ih (x + 6) I2 J2 H2 locs2 arr2 (by omega) (by omega) (by omega) sc2 sm2 r2 hP2 hS2 hLS2
      refine SND tbL_h (lw_sh L x I J) tbL_h_ok (fun pc ls2 st I2 J2 H2 locs2 arr2 h9 hP2 hS2 hLS2 hn2 => ?_) 60 18 _ [] I J _ _ arr (lc_h h0 hL) hP hS hLS rfl
      obtain ⟨hpc, rfl, rfl, rfl, rfl⟩ := h9
      rcases hpc with rfl | ⟨hpc, hx6⟩
      · exact SND tbL_e (fun _ _ _ _ _ => False) tbL_e_ok (fun _ _ _ _ _ _ _ _ h => h.elim) 60 1159 _ [] _ _ _ _ arr2 lc_ex hP2 hS2 hLS2 rfl
      · simp only [lw_th, List.mem_cons, List.not_mem_nil, or_false] at hpc
        rcases hpc with rfl | rfl | rfl | rfl | rfl | rfl | rfl | rfl | rfl | rfl | rfl | rfl | rfl | rfl | rfl | rfl | rfl | rfl | rfl | rfl | rfl | rfl | rfl | rfl | rfl | rfl | rfl | rfl
        · exact SND (mv_or tbL_0 tbL_e) (lw_s x) (mv_tbB_or tbL_0_ok tbL_e_ok) (fun pc ls2 st I3 J3 H3 locs3 arr3 h9 g1 g2 g3 g4 => NXT pc ls2 st I3 J3 H3 locs3 arr3 hx6 h9 g1 g2 g3 g4) 200 156 _ [] _ _ _ _ arr2 (lc_0 (Nat.le_of_ble_eq_true rfl) h0 hx6 hL sc sm hR) hP2 hS2 hLS2 rfl
        · exact SND (mv_or tbL_1 tbL_e) (lw_s x) (mv_tbB_or tbL_1_ok tbL_e_ok) (fun pc ls2 st I3 J3 H3 locs3 arr3 h9 g1 g2 g3 g4 => NXT pc ls2 st I3 J3 H3 locs3 arr3 hx6 h9 g1 g2 g3 g4) 200 179 _ [] _ _ _ _ arr2 (lc_1 (Nat.le_of_ble_eq_true rfl) h0 hx6 hL sc sm hR) hP2 hS2 hLS2 rfl
        · exact SND (mv_or tbL_2 tbL_e) (lw_s x) (mv_tbB_or tbL_2_ok tbL_e_ok) (fun pc ls2 st I3 J3 H3 locs3 arr3 h9 g1 g2 g3 g4 => NXT pc ls2 st I3 J3 H3 locs3 arr3 hx6 h9 g1 g2 g3 g4) 200 202 _ [] _ _ _ _ arr2 (lc_2 (Nat.le_of_ble_eq_true rfl) h0 hx6 hL sc sm hR) hP2 hS2 hLS2 rfl
        · exact SND (mv_or tbL_3 tbL_e) (lw_s x) (mv_tbB_or tbL_3_ok tbL_e_ok) (fun pc ls2 st I3 J3 H3 locs3 arr3 h9 g1 g2 g3 g4 => NXT pc ls2 st I3 J3 H3 locs3 arr3 hx6 h9 g1 g2 g3 g4) 200 245 _ [] _ _ _ _ arr2 (lc_3 (Nat.le_of_ble_eq_true rfl) h0 hx6 hL sc sm hR) hP2 hS2 hLS2 rfl
        · exact SND (mv_or tbL_4 tbL_e) (lw_s x) (mv_tbB_or tbL_4_ok tbL_e_ok) (fun pc ls2 st I3 J3 H3 locs3 arr3 h9 g1 g2 g3 g4 => NXT pc ls2 st I3 J3 H3 locs3 arr3 hx6 h9 g1 g2 g3 g4) 200 278 _ [] _ _ _ _ arr2 (lc_4 (Nat.le_of_ble_eq_true rfl) h0 hx6 hL sc sm hR) hP2 hS2 hLS2 rfl
        · exact SND (mv_or tbL_5 tbL_e) (lw_s x) (mv_tbB_or tbL_5_ok tbL_e_ok) (fun pc ls2 st I3 J3 H3 locs3 arr3 h9 g1 g2 g3 g4 => NXT pc ls2 st I3 J3 H3 locs3 arr3 hx6 h9 g1 g2 g3 g4) 200 311 _ [] _ _ _ _ arr2 (lc_5 (Nat.le_of_ble_eq_true rfl) h0 hx6 hL sc sm hR) hP2 hS2 hLS2 rfl
        · exact SND (mv_or tbL_6 tbL_e) (lw_s x) (mv_tbB_or tbL_6_ok tbL_e_ok) (fun pc ls2 st I3 J3 H3 locs3 arr3 h9 g1 g2 g3 g4 => NXT pc ls2 st I3 J3 H3 locs3 arr3 hx6 h9 g1 g2 g3 g4) 200 334 _ [] _ _ _ _ arr2 (lc_6 (Nat.le_of_ble_eq_true rfl) h0 hx6 hL sc sm hR) hP2 hS2 hLS2 rfl
        · exact SND (mv_or tbL_7 tbL_e) (lw_s x) (mv_tbB_or tbL_7_ok tbL_e_ok) (fun pc ls2 st I3 J3 H3 locs3 arr3 h9 g1 g2 g3 g4 => NXT pc ls2 st I3 J3 H3 locs3 arr3 hx6 h9 g1 g2 g3 g4) 200 377 _ [] _ _ _ _ arr2 (lc_7 (Nat.le_of_ble_eq_true rfl) h0 hx6 hL sc sm hR) hP2 hS2 hLS2 rfl
        · exact SND (mv_or tbL_8 tbL_e) (lw_s x) (mv_tbB_or tbL_8_ok tbL_e_ok) (fun pc ls2 st I3 J3 H3 locs3 arr3 h9 g1 g2 g3 g4 => NXT pc ls2 st I3 J3 H3 locs3 arr3 hx6 h9 g1 g2 g3 g4) 200 436 _ [] _ _ _ _ arr2 (lc_8 (Nat.le_of_ble_eq_true rfl) h0 hx6 hL sc sm hR) hP2 hS2 hLS2 rfl
        · exact SND (mv_or tbL_9 tbL_e) (lw_s x) (mv_tbB_or tbL_9_ok tbL_e_ok) (fun pc ls2 st I3 J3 H3 locs3 arr3 h9 g1 g2 g3 g4 => NXT pc ls2 st I3 J3 H3 locs3 arr3 hx6 h9 g1 g2 g3 g4) 200 479 _ [] _ _ _ _ arr2 (lc_9 (Nat.le_of_ble_eq_true rfl) h0 hx6 hL sc sm hR) hP2 hS2 hLS2 rfl
        · exact SND (mv_or tbL_10 tbL_e) (lw_s x) (mv_tbB_or tbL_10_ok tbL_e_ok) (fun pc ls2 st I3 J3 H3 locs3 arr3 h9 g1 g2 g3 g4 => NXT pc ls2 st I3 J3 H3 locs3 arr3 hx6 h9 g1 g2 g3 g4) 200 522 _ [] _ _ _ _ arr2 (lc_10 (Nat.le_of_ble_eq_true rfl) h0 hx6 hL sc sm hR) hP2 hS2 hLS2 rfl
        · exact SND (mv_or tbL_11 tbL_e) (lw_s x) (mv_tbB_or tbL_11_ok tbL_e_ok) (fun pc ls2 st I3 J3 H3 locs3 arr3 h9 g1 g2 g3 g4 => NXT pc ls2 st I3 J3 H3 locs3 arr3 hx6 h9 g1 g2 g3 g4) 200 545 _ [] _ _ _ _ arr2 (lc_11 (Nat.le_of_ble_eq_true rfl) h0 hx6 hL sc sm hR) hP2 hS2 hLS2 rfl
        · exact SND (mv_or tbL_12 tbL_e) (lw_s x) (mv_tbB_or tbL_12_ok tbL_e_ok) (fun pc ls2 st I3 J3 H3 locs3 arr3 h9 g1 g2 g3 g4 => NXT pc ls2 st I3 J3 H3 locs3 arr3 hx6 h9 g1 g2 g3 g4) 200 608 _ [] _ _ _ _ arr2 (lc_12 (Nat.le_of_ble_eq_true rfl) h0 hx6 hL sc sm hR) hP2 hS2 hLS2 rfl
        · exact SND (mv_or tbL_13 tbL_e) (lw_s x) (mv_tbB_or tbL_13_ok tbL_e_ok) (fun pc ls2 st I3 J3 H3 locs3 arr3 h9 g1 g2 g3 g4 => NXT pc ls2 st I3 J3 H3 locs3 arr3 hx6 h9 g1 g2 g3 g4) 200 621 _ [] _ _ _ _ arr2 (lc_13 (Nat.le_of_ble_eq_true rfl) h0 hx6 hL sc sm hR) hP2 hS2 hLS2 rfl
        · exact SND (mv_or tbL_14 tbL_e) (lw_s x) (mv_tbB_or tbL_14_ok tbL_e_ok) (fun pc ls2 st I3 J3 H3 locs3 arr3 h9 g1 g2 g3 g4 => NXT pc ls2 st I3 J3 H3 locs3 arr3 hx6 h9 g1 g2 g3 g4) 200 684 _ [] _ _ _ _ arr2 (lc_14 (Nat.le_of_ble_eq_true rfl) h0 hx6 hL sc sm hR) hP2 hS2 hLS2 rfl
        · exact SND (mv_or tbL_15 tbL_e) (lw_s x) (mv_tbB_or tbL_15_ok tbL_e_ok) (fun pc ls2 st I3 J3 H3 locs3 arr3 h9 g1 g2 g3 g4 => NXT pc ls2 st I3 J3 H3 locs3 arr3 hx6 h9 g1 g2 g3 g4) 200 727 _ [] _ _ _ _ arr2 (lc_15 (Nat.le_of_ble_eq_true rfl) h0 hx6 hL sc sm hR) hP2 hS2 hLS2 rfl
        · exact SND (mv_or tbL_16 tbL_e) (lw_s x) (mv_tbB_or tbL_16_ok tbL_e_ok) (fun pc ls2 st I3 J3 H3 locs3 arr3 h9 g1 g2 g3 g4 => NXT pc ls2 st I3 J3 H3 locs3 arr3 hx6 h9 g1 g2 g3 g4) 200 760 _ [] _ _ _ _ arr2 (lc_16 (Nat.le_of_ble_eq_true rfl) h0 hx6 hL sc sm hR) hP2 hS2 hLS2 rfl
        · exact SND (mv_or tbL_17 tbL_e) (lw_s x) (mv_tbB_or tbL_17_ok tbL_e_ok) (fun pc ls2 st I3 J3 H3 locs3 arr3 h9 g1 g2 g3 g4 => NXT pc ls2 st I3 J3 H3 locs3 arr3 hx6 h9 g1 g2 g3 g4) 200 783 _ [] _ _ _ _ arr2 (lc_17 (Nat.le_of_ble_eq_true rfl) h0 hx6 hL sc sm hR) hP2 hS2 hLS2 rfl
        · exact SND (mv_or tbL_18 tbL_e) (lw_s x) (mv_tbB_or tbL_18_ok tbL_e_ok) (fun pc ls2 st I3 J3 H3 locs3 arr3 h9 g1 g2 g3 g4 => NXT pc ls2 st I3 J3 H3 locs3 arr3 hx6 h9 g1 g2 g3 g4) 200 846 _ [] _ _ _ _ arr2 (lc_18 (Nat.le_of_ble_eq_true rfl) h0 hx6 hL sc sm hR) hP2 hS2 hLS2 rfl
        · exact SND (mv_or tbL_19 tbL_e) (lw_s x) (mv_tbB_or tbL_19_ok tbL_e_ok) (fun pc ls2 st I3 J3 H3 locs3 arr3 h9 g1 g2 g3 g4 => NXT pc ls2 st I3 J3 H3 locs3 arr3 hx6 h9 g1 g2 g3 g4) 200 869 _ [] _ _ _ _ arr2 (lc_19 (Nat.le_of_ble_eq_true rfl) h0 hx6 hL sc sm hR) hP2 hS2 hLS2 rfl
        · exact SND (mv_or tbL_20 tbL_e) (lw_s x) (mv_tbB_or tbL_20_ok tbL_e_ok) (fun pc ls2 st I3 J3 H3 locs3 arr3 h9 g1 g2 g3 g4 => NXT pc ls2 st I3 J3 H3 locs3 arr3 hx6 h9 g1 g2 g3 g4) 200 892 _ [] _ _ _ _ arr2 (lc_20 (Nat.le_of_ble_eq_true rfl) h0 hx6 hL sc sm hR) hP2 hS2 hLS2 rfl
        · exact SND (mv_or tbL_21 tbL_e) (lw_s x) (mv_tbB_or tbL_21_ok tbL_e_ok) (fun pc ls2 st I3 J3 H3 locs3 arr3 h9 g1 g2 g3 g4 => NXT pc ls2 st I3 J3 H3 locs3 arr3 hx6 h9 g1 g2 g3 g4) 200 915 _ [] _ _ _ _ arr2 (lc_21 (Nat.le_of_ble_eq_true rfl) h0 hx6 hL sc sm hR) hP2 hS2 hLS2 rfl
        · exact SND (mv_or tbL_22 tbL_e) (lw_s x) (mv_tbB_or tbL_22_ok tbL_e_ok) (fun pc ls2 st I3 J3 H3 locs3 arr3 h9 g1 g2 g3 g4 => NXT pc ls2 st I3 J3 H3 locs3 arr3 hx6 h9 g1 g2 g3 g4) 200 948 _ [] _ _ _ _ arr2 (lc_22 (Nat.le_of_ble_eq_true rfl) h0 hx6 hL sc sm hR) hP2 hS2 hLS2 rfl
        · exact SND (mv_or tbL_23 tbL_e) (lw_s x) (mv_tbB_or tbL_23_ok tbL_e_ok) (fun pc ls2 st I3 J3 H3 locs3 arr3 h9 g1 g2 g3 g4 => NXT pc ls2 st I3 J3 H3 locs3 arr3 hx6 h9 g1 g2 g3 g4) 200 971 _ [] _ _ _ _ arr2 (lc_23 (Nat.le_of_ble_eq_true rfl) h0 hx6 hL sc sm hR) hP2 hS2 hLS2 rfl
        · exact SND (mv_or tbL_24 tbL_e) (lw_s x) (mv_tbB_or tbL_24_ok tbL_e_ok) (fun pc ls2 st I3 J3 H3 locs3 arr3 h9 g1 g2 g3 g4 => NXT pc ls2 st I3 J3 H3 locs3 arr3 hx6 h9 g1 g2 g3 g4) 200 1014 _ [] _ _ _ _ arr2 (lc_24 (Nat.le_of_ble_eq_true rfl) h0 hx6 hL sc sm hR) hP2 hS2 hLS2 rfl
        · exact SND (mv_or tbL_25 tbL_e) (lw_s x) (mv_tbB_or tbL_25_ok tbL_e_ok) (fun pc ls2 st I3 J3 H3 locs3 arr3 h9 g1 g2 g3 g4 => NXT pc ls2 st I3 J3 H3 locs3 arr3 hx6 h9 g1 g2 g3 g4) 200 1037 _ [] _ _ _ _ arr2 (lc_25 (Nat.le_of_ble_eq_true rfl) h0 hx6 hL sc sm hR) hP2 hS2 hLS2 rfl
        · exact SND (mv_or tbL_26 tbL_e) (lw_s x) (mv_tbB_or tbL_26_ok tbL_e_ok) (fun pc ls2 st I3 J3 H3 locs3 arr3 h9 g1 g2 g3 g4 => NXT pc ls2 st I3 J3 H3 locs3 arr3 hx6 h9 g1 g2 g3 g4) 200 1090 _ [] _ _ _ _ arr2 (lc_26 (Nat.le_of_ble_eq_true rfl) h0 hx6 hL sc sm hR) hP2 hS2 hLS2 rfl
        · exact SND tbL_e (lw_s x) tbL_e_ok (fun pc ls2 st I3 J3 H3 locs3 arr3 h9 g1 g2 g3 g4 => NXT pc ls2 st I3 J3 H3 locs3 arr3 hx6 h9 g1 g2 g3 g4) 60 1153 _ [] _ _ _ _ arr2 (lc_df sc sm hR) hP2 hS2 hLS2 rfl
  exact LOOP (L + 1) 0 I_new mv_J0 _ _ ls (by decide) (by decide) (by have : (0 : Int32).toInt = 0 := (by decide); omega) SC_new SM_new LR_new hP hS hLS
