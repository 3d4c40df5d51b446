def lw_tg : List Nat := [156, 179, 202, 245, 278, 311, 334, 377, 436, 479, 522, 545, 608, 621, 684, 727, 760, 783, 846, 869, 892, 915, 948, 971, 1014, 1037, 1090]
def lw_stop : mv_K := fun pc ls st I J => pc ∈ lw_tg ∧ ls = [some (.inr (.inr 999)), some (.inr (.inr 0)), some (.inr (.inr 12)), some (.inl 0)] ∧ st = [] ∧ I = I_new ∧ J = mv_J0
theorem lc_lt {d L : Nat} (hL : L < 6) {xs : Nat → Int32} {I : mv_I} {J : mv_J} : mv_wp (mv_wpM mv_tab mv_sh d) mv_sh (some (L, xs)) tbC_d flL csL 1 (fun _ _ _ _ _ => False) (fun r _ _ => r = some (.inl 1)) 60 18 [some (.inr (.inr 999)), some (.inr (.inr 0)), some (.inr (.inr 12)), some (.inl 0)] [] I J := by
  refine And.intro (fun q => rfl) (fun q => absurd (show nI L - nI 6 < 0 from pk_sneg (by decide) hL) q)
set_option maxHeartbeats 1000000 in
theorem lc_h6 {d : Nat} {xs : Nat → Int32} : mv_wp (mv_wpM mv_tab mv_sh d) mv_sh (some (6, xs)) tbC_d flL csL 1 lw_stop (fun r _ _ => r = some (.inl 1)) 60 18 [some (.inr (.inr 999)), some (.inr (.inr 0)), some (.inr (.inr 12)), some (.inl 0)] [] I_new mv_J0 := by
  obtain ⟨s0, s1, s2, s3, s4, s5⟩ := mi_sc
  refine And.intro (fun q => absurd q (by decide)) (fun q => ?_)
  refine And.intro s0 ?_
  refine And.intro (fun q => ?_) ?_
  · refine And.intro (fun q => ?_) (fun q => absurd (show (nI 6 - 6 : Int32) < 0 + 6 by decide) q)
    exact rfl
  refine And.intro (fun q => ?_) ?_
  · exact ⟨by decide, rfl, rfl, rfl, rfl⟩
  refine And.intro (fun q => ?_) ?_
  · exact ⟨by decide, rfl, rfl, rfl, rfl⟩
  refine And.intro (fun q => ?_) ?_
  · exact ⟨by decide, rfl, rfl, rfl, rfl⟩
  refine And.intro (fun q => ?_) ?_
  · exact ⟨by decide, rfl, rfl, rfl, rfl⟩
  refine And.intro (fun q => ?_) ?_
  · exact ⟨by decide, rfl, rfl, rfl, rfl⟩
  refine And.intro (fun q => ?_) ?_
  · exact ⟨by decide, rfl, rfl, rfl, rfl⟩
  refine And.intro (fun q => ?_) ?_
  · exact ⟨by decide, rfl, rfl, rfl, rfl⟩
  refine And.intro (fun q => ?_) ?_
  · exact ⟨by decide, rfl, rfl, rfl, rfl⟩
  refine And.intro (fun q => ?_) ?_
  · exact ⟨by decide, rfl, rfl, rfl, rfl⟩
  refine And.intro (fun q => ?_) ?_
  · exact ⟨by decide, rfl, rfl, rfl, rfl⟩
  refine And.intro (fun q => ?_) ?_
  · exact ⟨by decide, rfl, rfl, rfl, rfl⟩
  refine And.intro (fun q => ?_) ?_
  · exact ⟨by decide, rfl, rfl, rfl, rfl⟩
  refine And.intro (fun q => ?_) ?_
  · exact ⟨by decide, rfl, rfl, rfl, rfl⟩
  refine And.intro (fun q => ?_) ?_
  · exact ⟨by decide, rfl, rfl, rfl, rfl⟩
  refine And.intro (fun q => ?_) ?_
  · exact ⟨by decide, rfl, rfl, rfl, rfl⟩
  refine And.intro (fun q => ?_) ?_
  · exact ⟨by decide, rfl, rfl, rfl, rfl⟩
  refine And.intro (fun q => ?_) ?_
  · exact ⟨by decide, rfl, rfl, rfl, rfl⟩
  refine And.intro (fun q => ?_) ?_
  · exact ⟨by decide, rfl, rfl, rfl, rfl⟩
  refine And.intro (fun q => ?_) ?_
  · exact ⟨by decide, rfl, rfl, rfl, rfl⟩
  refine And.intro (fun q => ?_) ?_
  · exact ⟨by decide, rfl, rfl, rfl, rfl⟩
  refine And.intro (fun q => ?_) ?_
  · exact ⟨by decide, rfl, rfl, rfl, rfl⟩
  refine And.intro (fun q => ?_) ?_
  · exact ⟨by decide, rfl, rfl, rfl, rfl⟩
  refine And.intro (fun q => ?_) ?_
  · exact ⟨by decide, rfl, rfl, rfl, rfl⟩
  refine And.intro (fun q => ?_) ?_
  · exact ⟨by decide, rfl, rfl, rfl, rfl⟩
  refine And.intro (fun q => ?_) ?_
  · exact ⟨by decide, rfl, rfl, rfl, rfl⟩
  refine And.intro (fun q => ?_) ?_
  · exact ⟨by decide, rfl, rfl, rfl, rfl⟩
  refine And.intro (fun q => ?_) ?_
  · exact ⟨by decide, rfl, rfl, rfl, rfl⟩
  trivial
theorem tbC_0_ok : mv_tbB cL_law RL mv_TT tbC_0 := mv_tbB_or tbL_0_ok (mv_tbB_or tbL_e_ok tbL_h_ok)
theorem tbC_1_ok : mv_tbB cL_law RL mv_TT tbC_1 := mv_tbB_or tbL_1_ok (mv_tbB_or tbL_e_ok tbL_h_ok)
theorem tbC_2_ok : mv_tbB cL_law RL mv_TT tbC_2 := mv_tbB_or tbL_2_ok (mv_tbB_or tbL_e_ok tbL_h_ok)
theorem tbC_3_ok : mv_tbB cL_law RL mv_TT tbC_3 := mv_tbB_or tbL_3_ok (mv_tbB_or tbL_e_ok tbL_h_ok)
theorem tbC_4_ok : mv_tbB cL_law RL mv_TT tbC_4 := mv_tbB_or tbL_4_ok (mv_tbB_or tbL_e_ok tbL_h_ok)
theorem tbC_5_ok : mv_tbB cL_law RL mv_TT tbC_5 := mv_tbB_or tbL_5_ok (mv_tbB_or tbL_e_ok tbL_h_ok)
theorem tbC_6_ok : mv_tbB cL_law RL mv_TT tbC_6 := mv_tbB_or tbL_6_ok (mv_tbB_or tbL_e_ok tbL_h_ok)
theorem tbC_7_ok : mv_tbB cL_law RL mv_TT tbC_7 := mv_tbB_or tbL_7_ok (mv_tbB_or tbL_e_ok tbL_h_ok)
theorem tbC_8_ok : mv_tbB cL_law RL mv_TT tbC_8 := mv_tbB_or tbL_8_ok (mv_tbB_or tbL_e_ok tbL_h_ok)
theorem tbC_9_ok : mv_tbB cL_law RL mv_TT tbC_9 := mv_tbB_or tbL_9_ok (mv_tbB_or tbL_e_ok tbL_h_ok)
theorem tbC_10_ok : mv_tbB cL_law RL mv_TT tbC_10 := mv_tbB_or tbL_10_ok (mv_tbB_or tbL_e_ok tbL_h_ok)
theorem tbC_11_ok : mv_tbB cL_law RL mv_TT tbC_11 := mv_tbB_or tbL_11_ok (mv_tbB_or tbL_e_ok tbL_h_ok)
theorem tbC_12_ok : mv_tbB cL_law RL mv_TT tbC_12 := mv_tbB_or tbL_12_ok (mv_tbB_or tbL_e_ok tbL_h_ok)
theorem tbC_13_ok : mv_tbB cL_law RL mv_TT tbC_13 := mv_tbB_or tbL_13_ok (mv_tbB_or tbL_e_ok tbL_h_ok)
theorem tbC_14_ok : mv_tbB cL_law RL mv_TT tbC_14 := mv_tbB_or tbL_14_ok (mv_tbB_or tbL_e_ok tbL_h_ok)
theorem tbC_15_ok : mv_tbB cL_law RL mv_TT tbC_15 := mv_tbB_or tbL_15_ok (mv_tbB_or tbL_e_ok tbL_h_ok)
theorem tbC_16_ok : mv_tbB cL_law RL mv_TT tbC_16 := mv_tbB_or tbL_16_ok (mv_tbB_or tbL_e_ok tbL_h_ok)
theorem tbC_17_ok : mv_tbB cL_law RL mv_TT tbC_17 := mv_tbB_or tbL_17_ok (mv_tbB_or tbL_e_ok tbL_h_ok)
theorem tbC_18_ok : mv_tbB cL_law RL mv_TT tbC_18 := mv_tbB_or tbL_18_ok (mv_tbB_or tbL_e_ok tbL_h_ok)
theorem tbC_19_ok : mv_tbB cL_law RL mv_TT tbC_19 := mv_tbB_or tbL_19_ok (mv_tbB_or tbL_e_ok tbL_h_ok)
theorem tbC_20_ok : mv_tbB cL_law RL mv_TT tbC_20 := mv_tbB_or tbL_20_ok (mv_tbB_or tbL_e_ok tbL_h_ok)
theorem tbC_21_ok : mv_tbB cL_law RL mv_TT tbC_21 := mv_tbB_or tbL_21_ok (mv_tbB_or tbL_e_ok tbL_h_ok)
theorem tbC_22_ok : mv_tbB cL_law RL mv_TT tbC_22 := mv_tbB_or tbL_22_ok (mv_tbB_or tbL_e_ok tbL_h_ok)
theorem tbC_23_ok : mv_tbB cL_law RL mv_TT tbC_23 := mv_tbB_or tbL_23_ok (mv_tbB_or tbL_e_ok tbL_h_ok)
theorem tbC_24_ok : mv_tbB cL_law RL mv_TT tbC_24 := mv_tbB_or tbL_24_ok (mv_tbB_or tbL_e_ok tbL_h_ok)
theorem tbC_25_ok : mv_tbB cL_law RL mv_TT tbC_25 := mv_tbB_or tbL_25_ok (mv_tbB_or tbL_e_ok tbL_h_ok)
theorem tbC_26_ok : mv_tbB cL_law RL mv_TT tbC_26 := mv_tbB_or tbL_26_ok (mv_tbB_or tbL_e_ok tbL_h_ok)
theorem tbC_d_ok : mv_tbB cL_law RL mv_TT tbC_d := mv_tbB_or tbL_h_ok tbL_e_ok
set_option maxHeartbeats 8000000 in
set_option maxRecDepth 100000 in
theorem whole_start {p : Program} {e : Env} {s : State} {m : MethodId} {below : List Frame} {meth : Method} {c : Code} (l : Launch) {b L : Nat} {xs : Nat → Int32} (hL : L ≤ 6) (C0 : lw_At p s m meth c b L xs) : W p l e room_1 s m #[Value.ref b] below meth c s.heap [] 0 0 (lw_Z below #[Value.ref b] s) (entryFrame m ([Value.ref b] : List Value).toArray 4) := by
  obtain ⟨hx, hb, hr, hml, hown, hts9, hX, hbl, hlocks, hgv⟩ := id C0
  have hts : ∀ w ∈ mv_TT, w.before #[Value.ref b] s = true := fun w h => hts9 w (mT_tbl w h)
  have hA : ∀ q : Nat, s.heap.size ≤ q → (fun q : Nat => s.heap.size ≤ q) q := fun _ h => h
  have hbA : ¬ (fun q : Nat => s.heap.size ≤ q) b := Nat.not_le.mpr hbl
  obtain ⟨cX0, iX0, hKnX0⟩ := u_known (C := RX0) (T := TX0) (N := 8) (n := 8) hts mu_X0 (hts (.instantiable RX0 8) (mT1 _ (List.mem_of_getElem? (i := 132) rfl) rfl))
  obtain ⟨cX1, iX1, hKnX1⟩ := u_known (C := RX1) (T := TX1) (N := 7) (n := 7) hts mu_X1 (hts (.instantiable RX1 7) (mT1 _ (List.mem_of_getElem? (i := 97) rfl) rfl))
  obtain ⟨cX2, iX2, hKnX2⟩ := u_known (C := RX2) (T := TX2) (N := 8) (n := 8) hts mu_X2 (hts (.instantiable RX2 8) (mT1 _ (List.mem_of_getElem? (i := 196) rfl) rfl))
  obtain ⟨cX3, iX3, hKnX3⟩ := u_known (C := RX3) (T := TX3) (N := 13) (n := 13) hts mu_X3 (hts (.instantiable RX3 13) (mT1 _ (List.mem_of_getElem? (i := 23) rfl) rfl))
  obtain ⟨cX4, iX4, hKnX4⟩ := u_known (C := RX4) (T := TX4) (N := 6) (n := 6) hts mu_X4 (hts (.instantiable RX4 6) (mT1 _ (List.mem_of_getElem? (i := 166) rfl) rfl))
  obtain ⟨cX5, iX5, hKnX5⟩ := u_known (C := RX5) (T := TX5) (N := 3) (n := 3) hts mu_X5 (hts (.instantiable RX5 3) (mT1 _ (List.mem_of_getElem? (i := 233) rfl) rfl))
  obtain ⟨cX6, iX6, hKnX6⟩ := u_known (C := RX6) (T := TX6) (N := 4) (n := 4) hts mu_X6 (hts (.instantiable RX6 4) (mT1 _ (List.mem_of_getElem? (i := 75) rfl) rfl))
  obtain ⟨cX7, iX7, hKnX7⟩ := u_known (C := RX7) (T := TX7) (N := 8) (n := 8) hts mu_X7 (hts (.instantiable RX7 8) (mT1 _ (List.mem_of_getElem? (i := 15) rfl) rfl))
  obtain ⟨cX8, iX8, hKnX8⟩ := u_known (C := RX8) (T := TX8) (N := 46) (n := 46) hts mu_X8 (hts (.instantiable RX8 46) (mT3 _ (List.mem_of_getElem? (i := 131) rfl) rfl))
  obtain ⟨dC, dI, hKc⟩ : ∃ (dC : Nat → ClassId) (dI : Nat → Nat → Nat), ∀ (k : Nat) (q : vw_C), vwCl[k]? = some q → u_Kn s q.1 q.2.1 q.2.2 (dC k) (dI k) := by
    refine ⟨fun k => match k with | 0 => cX0 | 1 => cX1 | 2 => cX2 | 3 => cX3 | 4 => cX4 | 5 => cX5 | 6 => cX6 | 7 => cX7 | _ => cX8, fun k => match k with | 0 => iX0 | 1 => iX1 | 2 => iX2 | 3 => iX3 | 4 => iX4 | 5 => iX5 | 6 => iX6 | 7 => iX7 | _ => iX8, ?_⟩
    intro k q hq
    match k, hq with
    | 0, hq => cases hq; exact hKnX0
    | 1, hq => cases hq; exact hKnX1
    | 2, hq => cases hq; exact hKnX2
    | 3, hq => cases hq; exact hKnX3
    | 4, hq => cases hq; exact hKnX4
    | 5, hq => cases hq; exact hKnX5
    | 6, hq => cases hq; exact hKnX6
    | 7, hq => cases hq; exact hKnX7
    | 8, hq => cases hq; exact hKnX8
    | k + 9, hq => simp [vwCl] at hq
  obtain ⟨yI, kI, pI, aI1, aI2, aI3⟩ := Cond.arrayClass_spec (type := .int) (hts (.arrayClass .int) (mT1 _ (List.mem_of_getElem? (i := 72) rfl) rfl))
  obtain ⟨yJ, kJ, pJ, aJ1, aJ2, aJ3⟩ := Cond.arrayClass_spec (type := .long) (hts (.arrayClass .long) (mT4 _ (List.mem_of_getElem? (i := 35) rfl) rfl))
  obtain ⟨yB, kB, pB, aB1, aB2, aB3⟩ := Cond.arrayClass_spec (type := .byte) (hts (.arrayClass .byte) (mT1 _ (List.mem_of_getElem? (i := 95) rfl) rfl))
  obtain ⟨yZ, kZ, pZ, aZ1, aZ2, aZ3⟩ := Cond.arrayClass_spec (type := .boolean) (hts (.arrayClass .boolean) (mT1 _ (List.mem_of_getElem? (i := 73) rfl) rfl))
  have hAO : va_AO "SaltPool$Sheet" s := va_AO.of (hts9 (.arrayOver (.object "SaltPool$Sheet")) (mL1 _ (List.mem_of_getElem? (i := 232) rfl)))
  obtain ⟨pS, yS, kS, aS1, -, aS2, aS3, aS4⟩ := Cond.arrayOver_spec (va_AO.use (A := #[]) hAO)
  obtain ⟨cy, hcy⟩ : ∃ cy : Nat → ClassId, cy = fun k => match k with | 0 => yI | 1 => yJ | 2 => yB | 3 => yZ | _ => yS := ⟨_, rfl⟩
  have hK : va_K (dC, dI) vwCl (mv_tys cy) s := by
    subst hcy
    refine ⟨hKc, fun k q h => ?_⟩
    match k, h with
    | 0, h => cases h; exact ⟨fun n z => ⟨fun k h => (by cases h), kI, aI2, pI, aI3⟩, aI1⟩
    | 1, h => cases h; exact ⟨fun n z => ⟨fun k h => (by cases h), kJ, aJ2, pJ, aJ3⟩, aJ1⟩
    | 2, h => cases h; exact ⟨fun n z => ⟨fun k h => (by cases h), kB, aB2, pB, aB3⟩, aB1⟩
    | 3, h => cases h; exact ⟨fun n z => ⟨fun k h => (by cases h), kZ, aZ2, pZ, aZ3⟩, aZ1⟩
    | 4, h => cases h; exact ⟨fun n z => ⟨fun k h => (by cases h), kS, aS2, pS, aS3⟩, kS, pS, aS2, aS3, aS1, aS4⟩
    | k + 5, h => simp [mv_tys] at h
  have hNW : mv_NW s := fun q hq => by
    rcases List.mem_cons.mp hq with rfl | hq
    · exact va_Nw.of rfl (hts9 _ (mL2 _ (List.mem_of_getElem? (i := 161) rfl)))
    · exact absurd hq List.not_mem_nil
  have hNC : mv_NC s := ⟨fun q hq => by
    rcases List.mem_cons.mp hq with rfl | hq
    · exact va_Nw.of rfl (hts9 _ (mL1 _ (List.mem_of_getElem? (i := 24) rfl)))
    rcases List.mem_cons.mp hq with rfl | hq
    · exact va_Nw.of rfl (hts9 _ (mL1 _ (List.mem_of_getElem? (i := 76) rfl)))
    rcases List.mem_cons.mp hq with rfl | hq
    · exact va_Nw.of rfl (hts9 _ (mL1 _ (List.mem_of_getElem? (i := 98) rfl)))
    rcases List.mem_cons.mp hq with rfl | hq
    · exact va_Nw.of rfl (hts9 _ (mL1 _ (List.mem_of_getElem? (i := 133) rfl)))
    rcases List.mem_cons.mp hq with rfl | hq
    · exact va_Nw.of rfl (hts9 _ (mL1 _ (List.mem_of_getElem? (i := 197) rfl)))
    rcases List.mem_cons.mp hq with rfl | hq
    · exact va_Nw.of rfl (hts9 _ (mL1 _ (List.mem_of_getElem? (i := 234) rfl)))
    exact absurd hq List.not_mem_nil, hAO⟩
  have hS : va_S (fun q : Nat => s.heap.size ≤ q) s.heap s.heap [] := va_S.rf
  have hP : va_P (dC, dI) vwCl [] s.heap := fun k q h => by simp at h
  have hD : va_D (fun q : Nat => s.heap.size ≤ q) [] := ⟨fun i j p q h => by simp at h, fun k q h => by simp at h⟩
  generalize hAe : (fun q : Nat => s.heap.size ≤ q) = A at *
  have hl := lv_entry ([.ref b]) (n := 4) (Nat.le_of_ble_eq_true rfl)
  rw [lg_entry_eq]
  generalize (lg_sl ([.ref b]) ++ List.replicate (4 - (lg_sl ([.ref b])).length) Slot.unset).toArray = ls at hl ⊢
  have hl : lv_has ls 4 [(0, .ref b)] := hl
  refine va_new (ci := 7) (fs := [.null, .null, .null, .null, .null, .null, .null, .int 0]) (C := RX7) (T := TX7) (N := 8) hx hb hts mu_X7 tyX7 tyX7_ok hown (hts _ (mT1 _ (List.mem_of_getElem? (i := 14) rfl) rfl)) (hts _ (mT1 _ (List.mem_of_getElem? (i := 15) rfl) rfl)) (hts _ (mT1 _ (List.mem_of_getElem? (i := 1) rfl) rfl)) hK hP hD hS hA rfl (fun j hj => by
    match j, hj with
    | 0, _ => rfl
    | 1, _ => rfl
    | 2, _ => rfl
    | 3, _ => rfl
    | 4, _ => rfl
    | 5, _ => rfl
    | 6, _ => rfl
    | 7, _ => rfl
    | j + 8, hj => omega) (Nat.le_of_ble_eq_true rfl) (Nat.le_of_ble_eq_true rfl) (show decode cL_law 0 = .ok (.new 7, 3) by decide +kernel) (fun q0 H hP hD hS => ?_)
  refine W.widen (k := 1) (n := 8) (Nat.le_of_ble_eq_true rfl) (Nat.le_of_ble_eq_true rfl) ?_
  have hP : va_P (dC, dI) vwCl (([] : va_W) ++ w0_Salt q0) H := hP
  have hD : va_D A (([] : va_W) ++ w0_Salt q0) := hD
  refine lv_dup hx hb (show decode cL_law 3 = .ok (.dup, 1) by decide +kernel) rfl ?_
  have hPc : va_P (dC, dI) vwCl (w0_Salt q0) H := mv_P_r hP
  have hDc : va_D A (w0_Salt q0) := mv_D_r hD
  have hFc : ∀ a, va_A (w0_Salt q0) H.size a → A a := fun a h => by
    rcases h with ⟨k9, e9, h⟩ | h
    · exact hDc.2 k9 _ h
    · exact hA a (Nat.le_trans hS.1 h)
  refine va_callv (va_runI (As := []) (rest := [.ref q0]) ⟨hx, hb, hml, hown, hts⟩ (k_Salt l dC dI cy q0 H.size) (cwI 0 hts (mv_goodc (mT1 _ (List.mem_of_getElem? (i := 18) rfl) rfl)) rfl rfl rfl (hts _ (mT1 _ (List.mem_of_getElem? (i := 1) rfl) rfl)) (hts _ (mT1 _ (List.mem_of_getElem? (i := 16) rfl) rfl)) (hts _ (mT1 _ (List.mem_of_getElem? (i := 17) rfl) rfl)) rfl ⟨by decide +kernel, by decide +kernel, by decide +kernel⟩ ⟨Nat.le_of_ble_eq_true rfl, Nat.le_of_ble_eq_true rfl⟩) ⟨fun a U g mk q => by obtain ⟨q0, q1, qP, qK, qD, qN, qC⟩ := q; exact ⟨q0, q1, qP, va_K.moved (u := U) (U := U.calling g mk a) (Vm.Alike.refl U.vm) qK, qD, mv_NW.same (u := U) (U := U.calling g mk a) rfl qN, fun q hq => va_Nw.same rfl rfl (qC.1 q hq), va_AO.moved (Vm.Alike.refl U.vm) qC.2⟩, fun U hU hW => ⟨rfl, by rw [hU], by rw [hU]; exact hPc, va_K.moved hW.alike hK, hDc.weaken (fun _ _ _ _ => trivial), mv_NW.warm hW hNW, fun q hq => va_Nw.warmM hW (hNC.1 q hq), va_AO.moved hW.alike hNC.2⟩⟩ rfl rfl hl.1 rfl (lv_room (Nat.le_of_ble_eq_true rfl)) (show decode cL_law 4 = .ok (.invokespecial 9, 3) by decide +kernel) ⟨Nat.le_of_ble_eq_true rfl, Nat.le_of_ble_eq_true rfl⟩) hS (fun a _ h => hFc a h) hFc (fun z t H1 locs ht hvm hw hB hz1 hk1 hS => ?_)
  have hB1 := hB.1
  rw [ht] at hB1
  obtain ⟨hP, hD⟩ := mv_join hP hD hk1 hFc hB1 hB.2
  generalize H1 = H at hP hS ⊢
  refine W.widen (k := 50) (n := 1900) (Nat.le_of_ble_eq_true rfl) (Nat.le_of_ble_eq_true rfl) ?_
  have hP : va_P (dC, dI) vwCl (ws_Salt cy q0 z) H := hP
  have hD : va_D A (ws_Salt cy q0 z) := hD
  refine lv_astore_n (lv' := [(1, .ref q0), (0, .ref b)]) hx hb (show decode cL_law 7 = .ok (.astore_n 1, 1) by decide +kernel) rfl hl (by decide) rfl (fun ls hl => ?_)
  refine va_new (ci := 8) (fs := [.int 0, .null, .null, .int 0, .int 0, .null, .null, .null, .null, .null, .int 0, .int 0, .null, .null, .null, .null, .null, .null, .null, .null, .int 0, .int 0, .int 0, .null, .int 0, .null, .null, .null, .null, .null, .null, .null, .int 0, .null, .null, .null, .null, .int 0, .null, .null, .null, .null, .null, .null, .null, .null]) (C := RX8) (T := TX8) (N := 46) hx hb hts mu_X8 tyX8 tyX8_ok hown (hts _ (mT3 _ (List.mem_of_getElem? (i := 130) rfl) rfl)) (hts _ (mT3 _ (List.mem_of_getElem? (i := 131) rfl) rfl)) (hts _ (mT1 _ (List.mem_of_getElem? (i := 10) rfl) rfl)) hK hP hD hS hA rfl (fun j hj => by
    match j, hj with
    | 0, _ => rfl
    | 1, _ => rfl
    | 2, _ => rfl
    | 3, _ => rfl
    | 4, _ => rfl
    | 5, _ => rfl
    | 6, _ => rfl
    | 7, _ => rfl
    | 8, _ => rfl
    | 9, _ => rfl
    | 10, _ => rfl
    | 11, _ => rfl
    | 12, _ => rfl
    | 13, _ => rfl
    | 14, _ => rfl
    | 15, _ => rfl
    | 16, _ => rfl
    | 17, _ => rfl
    | 18, _ => rfl
    | 19, _ => rfl
    | 20, _ => rfl
    | 21, _ => rfl
    | 22, _ => rfl
    | 23, _ => rfl
    | 24, _ => rfl
    | 25, _ => rfl
    | 26, _ => rfl
    | 27, _ => rfl
    | 28, _ => rfl
    | 29, _ => rfl
    | 30, _ => rfl
    | 31, _ => rfl
    | 32, _ => rfl
    | 33, _ => rfl
    | 34, _ => rfl
    | 35, _ => rfl
    | 36, _ => rfl
    | 37, _ => rfl
    | 38, _ => rfl
    | 39, _ => rfl
    | 40, _ => rfl
    | 41, _ => rfl
    | 42, _ => rfl
    | 43, _ => rfl
    | 44, _ => rfl
    | 45, _ => rfl
    | j + 46, hj => omega) (Nat.le_of_ble_eq_true rfl) (Nat.le_of_ble_eq_true rfl) (show decode cL_law 8 = .ok (.new 10, 3) by decide +kernel) (fun q1 H hP hD hS => ?_)
  refine W.widen (k := 51) (n := 1946) (Nat.le_of_ble_eq_true rfl) (Nat.le_of_ble_eq_true rfl) ?_
  have hP : va_P (dC, dI) vwCl (ws_Salt cy q0 z ++ w0_Model q1) H := hP
  have hD : va_D A (ws_Salt cy q0 z ++ w0_Model q1) := hD
  refine lv_dup hx hb (show decode cL_law 11 = .ok (.dup, 1) by decide +kernel) rfl ?_
  have hPc : va_P (dC, dI) vwCl (w0_Model q1) H := mv_P_r hP
  have hDc : va_D A (w0_Model q1) := mv_D_r hD
  have hFc : ∀ a, va_A (w0_Model q1) H.size a → A a := fun a h => by
    rcases h with ⟨k9, e9, h⟩ | h
    · exact hDc.2 k9 _ h
    · exact hA a (Nat.le_trans hS.1 h)
  refine va_callv (va_runI (As := []) (rest := [.ref q1]) ⟨hx, hb, hml, hown, hts⟩ (k_Model l dC dI cy q1 H.size) (cwI 0 hts (mv_goodc (mT3 _ (List.mem_of_getElem? (i := 134) rfl) rfl)) rfl rfl rfl (hts _ (mT1 _ (List.mem_of_getElem? (i := 10) rfl) rfl)) (hts _ (mT3 _ (List.mem_of_getElem? (i := 132) rfl) rfl)) (hts _ (mT3 _ (List.mem_of_getElem? (i := 133) rfl) rfl)) rfl ⟨by decide +kernel, by decide +kernel, by decide +kernel⟩ ⟨Nat.le_of_ble_eq_true rfl, Nat.le_of_ble_eq_true rfl⟩) ⟨fun a U g mk q => by obtain ⟨q0, q1, qP, qK, qD, qN⟩ := q; exact ⟨q0, q1, qP, va_K.moved (u := U) (U := U.calling g mk a) (Vm.Alike.refl U.vm) qK, qD, mv_NW.same (u := U) (U := U.calling g mk a) rfl qN⟩, fun U hU hW => ⟨rfl, by rw [hU], by rw [hU]; exact hPc, va_K.moved hW.alike hK, hDc.weaken (fun _ _ _ _ => trivial), mv_NW.warm hW hNW⟩⟩ rfl rfl hl.1 rfl (lv_room (Nat.le_of_ble_eq_true rfl)) (show decode cL_law 12 = .ok (.invokespecial 12, 3) by decide +kernel) ⟨Nat.le_of_ble_eq_true rfl, Nat.le_of_ble_eq_true rfl⟩) hS (fun a _ h => hFc a h) hFc (fun u t H1 locs ht hvm hw hB hz1 hk1 hS => ?_)
  have hB1 := hB.1
  rw [ht] at hB1
  obtain ⟨hP, hD⟩ := mv_join hP hD hk1 hFc hB1 hB.2
  generalize H1 = H at hP hS ⊢
  refine W.widen (k := 86) (n := 3662) (Nat.le_of_ble_eq_true rfl) (Nat.le_of_ble_eq_true rfl) ?_
  refine lv_astore_n (lv' := [(2, .ref q1), (1, .ref q0), (0, .ref b)]) hx hb (show decode cL_law 15 = .ok (.astore_n 2, 1) by decide +kernel) rfl hl (by decide) rfl (fun ls hl => ?_)
  refine lv_iconst (v := 0) hx hb (show decode cL_law 16 = .ok (.iconst 0, 1) by decide +kernel) (by decide) ?_
  refine lv_istore_n (lv' := [(3, .int 0), (2, .ref q1), (1, .ref q0), (0, .ref b)]) hx hb (show decode cL_law 17 = .ok (.istore_n 3, 1) by decide +kernel) rfl hl (by decide) rfl (fun ls hl => ?_)
  have hP : va_P (dC, dI) vwCl (mv_ws cy (ad_new b q0 q1 z u) mv_sh I_new mv_J0) H := P_new hP
  have hD : va_D A (mv_ws cy (ad_new b q0 q1 z u) mv_sh I_new mv_J0) := D_new hD
  have hLS : mv_LS (ad_new b q0 q1 z u) [some (.inr (.inr 999)), some (.inr (.inr 0)), some (.inr (.inr 12)), some (.inl 0)] ls := ⟨hl.1, hl.2.1, fun j w hj => by
    match j, hj with
    | 0, hj => cases hj; exact hl.2.2 (0, .ref b) (by simp)
    | 1, hj => cases hj; exact hl.2.2 (1, .ref q0) (by simp)
    | 2, hj => cases hj; exact hl.2.2 (2, .ref q1) (by simp)
    | 3, hj => cases hj; exact hl.2.2 (3, .int 0) (by simp)
    | j + 4, hj => simp [mv_nth] at hj⟩
  have hCs : mv_csB l room_1 vwCl dC dI cy (ad_new b q0 q1 z u) mv_sh RL mv_TT csL (mv_wpM mv_tab mv_sh 12) := by
    intro idx mid2 na ci hf as2 I2 J2 Q2 _ hc
    obtain ⟨y2, cc2, maxL2, ret2, z2, t1, t2⟩ := mv_met l (dC := dC) (dI := dI) (cy := cy) (ad := ad_new b q0 q1 z u) mv_tab_ok mv_sh_ok 12 mid2 as2 I2 J2 Q2 hc
    exact ⟨y2, cc2, maxL2, ret2, _, mv_TT, mv_room 12, csL_ok idx mid2 na ci hf y2 cc2 maxL2 ret2 z2 t1, rfl, rfl, Nat.le_of_ble_eq_true rfl, Nat.le_of_ble_eq_true rfl, t2⟩
  have SND := fun (tb : Nat → Option mv_R) (stop : mv_K) (hT : mv_tbB cL_law RL mv_TT tb) (hstop : ∀ (pc : Nat) (ls : mv_L) (st : List mv_V) (I : mv_I) (J : mv_J) (H : Heap) (locs : List Loc) (arr : Array Slot), stop pc ls st I J → va_P (dC, dI) vwCl (mv_ws cy (ad_new b q0 q1 z u) mv_sh I J) H → va_S A s.heap H locs → mv_LS (ad_new b q0 q1 z u) ls arr → ls.length = 4 → W p l e room_1 s m #[Value.ref b] below meth c H locs 86 3662 (lw_Z below #[Value.ref b] s) (F0 m pc arr (st.map (mv_val (ad_new b q0 q1 z u))))) => mv_wp_sound (A := A) (H0 := s.heap) (rb := 1) (Q := fun r _ _ => r = some (.inl 1)) (stop := stop) hx hb hml hown hts hK (fun I2 J2 => mv_D_any hD) hA ⟨Nat.le_of_ble_eq_true rfl, Nat.le_of_ble_eq_true rfl, Nat.le_of_ble_eq_true rfl, Nat.le_of_ble_eq_true rfl⟩ (X := some (L, xs)) (fun L2 xs2 h => by cases h; exact ⟨hX, hbl, hbA⟩) hNW hT flL_ok mv_sh_ok hCs jdL_ok (fun pc x I2 J2 H locs arr hd h hP hS => by
    have h1 : x = 1 := by have h9 : (some (.inl x) : Option mv_V) = some (.inl 1) := h; cases h9; rfl
    subst h1
    refine va_forget (fun q hq => by have h8 := hS.2.2 q hq; rw [← hAe] at h8; exact h8) ?_
    refine W.widen (k := 600000) (n := 7302250) (Nat.le_of_ble_eq_true rfl) (Nat.le_of_ble_eq_true rfl) ?_
    exact lw_ret hx hb hr hlocks hd) (fun _ _ _ _ _ _ _ h => h.elim) hstop
  by_cases hL6 : L < 6
  · exact SND tbC_d (fun _ _ _ _ _ => False) tbC_d_ok (fun _ _ _ _ _ _ _ _ h => h.elim) 60 18 _ [] I_new mv_J0 _ _ ls (lc_lt hL6) hP hS hLS rfl
  · have hL7 : L = 6 := by omega
    subst hL7
    refine SND tbC_d lw_stop tbC_d_ok (fun pc ls2 st I2 J2 H2 locs2 arr h hP2 hS2 hLS2 hn2 => ?_) 60 18 _ [] I_new mv_J0 _ _ ls lc_h6 hP hS hLS rfl
    obtain ⟨hpc, rfl, rfl, rfl, rfl⟩ := h
    simp only [lw_tg, List.mem_cons, List.not_mem_nil, or_false] at hpc
    rcases hpc with rfl | rfl | rfl | rfl | rfl | rfl | rfl | rfl | rfl | rfl | rfl | rfl | rfl | rfl | rfl | rfl | rfl | rfl | rfl | rfl | rfl | rfl | rfl | rfl | rfl | rfl | rfl
    · exact SND tbC_0 (fun _ _ _ _ _ => False) tbC_0_ok (fun _ _ _ _ _ _ _ _ h => h.elim) 200 156 _ [] I_new mv_J0 _ _ arr (lc_0 (Nat.le_of_ble_eq_true rfl) fr_new fm_new) hP2 hS2 hLS2 rfl
    · exact SND tbC_1 (fun _ _ _ _ _ => False) tbC_1_ok (fun _ _ _ _ _ _ _ _ h => h.elim) 200 179 _ [] I_new mv_J0 _ _ arr (lc_1 (Nat.le_of_ble_eq_true rfl) fr_new fm_new) hP2 hS2 hLS2 rfl
    · exact SND tbC_2 (fun _ _ _ _ _ => False) tbC_2_ok (fun _ _ _ _ _ _ _ _ h => h.elim) 200 202 _ [] I_new mv_J0 _ _ arr (lc_2 (Nat.le_of_ble_eq_true rfl) fr_new fm_new) hP2 hS2 hLS2 rfl
    · exact SND tbC_3 (fun _ _ _ _ _ => False) tbC_3_ok (fun _ _ _ _ _ _ _ _ h => h.elim) 200 245 _ [] I_new mv_J0 _ _ arr (lc_3 (Nat.le_of_ble_eq_true rfl) fr_new fm_new) hP2 hS2 hLS2 rfl
    · exact SND tbC_4 (fun _ _ _ _ _ => False) tbC_4_ok (fun _ _ _ _ _ _ _ _ h => h.elim) 200 278 _ [] I_new mv_J0 _ _ arr (lc_4 (Nat.le_of_ble_eq_true rfl) fr_new fm_new) hP2 hS2 hLS2 rfl
    · exact SND tbC_5 (fun _ _ _ _ _ => False) tbC_5_ok (fun _ _ _ _ _ _ _ _ h => h.elim) 200 311 _ [] I_new mv_J0 _ _ arr (lc_5 (Nat.le_of_ble_eq_true rfl) fr_new fm_new) hP2 hS2 hLS2 rfl
    · exact SND tbC_6 (fun _ _ _ _ _ => False) tbC_6_ok (fun _ _ _ _ _ _ _ _ h => h.elim) 200 334 _ [] I_new mv_J0 _ _ arr (lc_6 (Nat.le_of_ble_eq_true rfl) fr_new fm_new) hP2 hS2 hLS2 rfl
    · exact SND tbC_7 (fun _ _ _ _ _ => False) tbC_7_ok (fun _ _ _ _ _ _ _ _ h => h.elim) 200 377 _ [] I_new mv_J0 _ _ arr (lc_7 (Nat.le_of_ble_eq_true rfl) fr_new fm_new) hP2 hS2 hLS2 rfl
    · exact SND tbC_8 (fun _ _ _ _ _ => False) tbC_8_ok (fun _ _ _ _ _ _ _ _ h => h.elim) 200 436 _ [] I_new mv_J0 _ _ arr (lc_8 (Nat.le_of_ble_eq_true rfl) fr_new fm_new) hP2 hS2 hLS2 rfl
    · exact SND tbC_9 (fun _ _ _ _ _ => False) tbC_9_ok (fun _ _ _ _ _ _ _ _ h => h.elim) 200 479 _ [] I_new mv_J0 _ _ arr (lc_9 (Nat.le_of_ble_eq_true rfl) fr_new fm_new) hP2 hS2 hLS2 rfl
    · exact SND tbC_10 (fun _ _ _ _ _ => False) tbC_10_ok (fun _ _ _ _ _ _ _ _ h => h.elim) 200 522 _ [] I_new mv_J0 _ _ arr (lc_10 (Nat.le_of_ble_eq_true rfl) fr_new fm_new) hP2 hS2 hLS2 rfl
    · exact SND tbC_11 (fun _ _ _ _ _ => False) tbC_11_ok (fun _ _ _ _ _ _ _ _ h => h.elim) 200 545 _ [] I_new mv_J0 _ _ arr (lc_11 (Nat.le_of_ble_eq_true rfl) fr_new fm_new) hP2 hS2 hLS2 rfl
    · exact SND tbC_12 (fun _ _ _ _ _ => False) tbC_12_ok (fun _ _ _ _ _ _ _ _ h => h.elim) 200 608 _ [] I_new mv_J0 _ _ arr (lc_12 (Nat.le_of_ble_eq_true rfl) fr_new fm_new) hP2 hS2 hLS2 rfl
    · exact SND tbC_13 (fun _ _ _ _ _ => False) tbC_13_ok (fun _ _ _ _ _ _ _ _ h => h.elim) 200 621 _ [] I_new mv_J0 _ _ arr (lc_13 (Nat.le_of_ble_eq_true rfl) fr_new fm_new) hP2 hS2 hLS2 rfl
    · exact SND tbC_14 (fun _ _ _ _ _ => False) tbC_14_ok (fun _ _ _ _ _ _ _ _ h => h.elim) 200 684 _ [] I_new mv_J0 _ _ arr (lc_14 (Nat.le_of_ble_eq_true rfl) fr_new fm_new) hP2 hS2 hLS2 rfl
    · exact SND tbC_15 (fun _ _ _ _ _ => False) tbC_15_ok (fun _ _ _ _ _ _ _ _ h => h.elim) 200 727 _ [] I_new mv_J0 _ _ arr (lc_15 (Nat.le_of_ble_eq_true rfl) fr_new fm_new) hP2 hS2 hLS2 rfl
    · exact SND tbC_16 (fun _ _ _ _ _ => False) tbC_16_ok (fun _ _ _ _ _ _ _ _ h => h.elim) 200 760 _ [] I_new mv_J0 _ _ arr (lc_16 (Nat.le_of_ble_eq_true rfl) fr_new fm_new) hP2 hS2 hLS2 rfl
    · exact SND tbC_17 (fun _ _ _ _ _ => False) tbC_17_ok (fun _ _ _ _ _ _ _ _ h => h.elim) 200 783 _ [] I_new mv_J0 _ _ arr (lc_17 (Nat.le_of_ble_eq_true rfl) fr_new fm_new) hP2 hS2 hLS2 rfl
    · exact SND tbC_18 (fun _ _ _ _ _ => False) tbC_18_ok (fun _ _ _ _ _ _ _ _ h => h.elim) 200 846 _ [] I_new mv_J0 _ _ arr (lc_18 (Nat.le_of_ble_eq_true rfl) fr_new fm_new) hP2 hS2 hLS2 rfl
    · exact SND tbC_19 (fun _ _ _ _ _ => False) tbC_19_ok (fun _ _ _ _ _ _ _ _ h => h.elim) 200 869 _ [] I_new mv_J0 _ _ arr (lc_19 (Nat.le_of_ble_eq_true rfl) fr_new fm_new) hP2 hS2 hLS2 rfl
    · exact SND tbC_20 (fun _ _ _ _ _ => False) tbC_20_ok (fun _ _ _ _ _ _ _ _ h => h.elim) 200 892 _ [] I_new mv_J0 _ _ arr (lc_20 (Nat.le_of_ble_eq_true rfl) fr_new fm_new) hP2 hS2 hLS2 rfl
    · exact SND tbC_21 (fun _ _ _ _ _ => False) tbC_21_ok (fun _ _ _ _ _ _ _ _ h => h.elim) 200 915 _ [] I_new mv_J0 _ _ arr (lc_21 (Nat.le_of_ble_eq_true rfl) fr_new fm_new) hP2 hS2 hLS2 rfl
    · exact SND tbC_22 (fun _ _ _ _ _ => False) tbC_22_ok (fun _ _ _ _ _ _ _ _ h => h.elim) 200 948 _ [] I_new mv_J0 _ _ arr (lc_22 (Nat.le_of_ble_eq_true rfl) fr_new fm_new) hP2 hS2 hLS2 rfl
    · exact SND tbC_23 (fun _ _ _ _ _ => False) tbC_23_ok (fun _ _ _ _ _ _ _ _ h => h.elim) 200 971 _ [] I_new mv_J0 _ _ arr (lc_23 (Nat.le_of_ble_eq_true rfl) fr_new fm_new) hP2 hS2 hLS2 rfl
    · exact SND tbC_24 (fun _ _ _ _ _ => False) tbC_24_ok (fun _ _ _ _ _ _ _ _ h => h.elim) 200 1014 _ [] I_new mv_J0 _ _ arr (lc_24 (Nat.le_of_ble_eq_true rfl) fr_new fm_new) hP2 hS2 hLS2 rfl
    · exact SND tbC_25 (fun _ _ _ _ _ => False) tbC_25_ok (fun _ _ _ _ _ _ _ _ h => h.elim) 200 1037 _ [] I_new mv_J0 _ _ arr (lc_25 (Nat.le_of_ble_eq_true rfl) fr_new fm_new) hP2 hS2 hLS2 rfl
    · exact SND tbC_26 (fun _ _ _ _ _ => False) tbC_26_ok (fun _ _ _ _ _ _ _ _ h => h.elim) 200 1090 _ [] I_new mv_J0 _ _ arr (lc_26 (Nat.le_of_ble_eq_true rfl) fr_new fm_new) hP2 hS2 hLS2 rfl
