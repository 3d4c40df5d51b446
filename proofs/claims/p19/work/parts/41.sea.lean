theorem mv_LS1 {ad : Nat → Nat} {h0 : Nat} {ls : Array Slot} (h : lv_has ls 1 [(0, .ref h0)]) (e : ad 0 = h0) : mv_LS ad [some (.inr (.inr 0))] ls := ⟨h.1, h.2.1, fun j w hj => by
  cases j with
  | zero =>
    have : (.inr (.inr 0) : mv_V) = w := Option.some.inj (Option.some.inj hj)
    subst this
    show ls[0]? = some (.val (.ref (ad 0)))
    rw [e]
    exact h.2.2 (0, .ref h0) List.mem_cons_self
  | succ j => simp [mv_nth] at hj⟩
theorem mv_LS2 {ad : Nat → Nat} {h0 : Nat} {ls : Array Slot} (h : lv_has ls 2 [(0, .ref h0)]) (e : ad 0 = h0) : mv_LS ad [some (.inr (.inr 0)), none] ls := ⟨h.1, h.2.1, fun j w hj => by
  match j, hj with
  | 0, hj =>
    have : (.inr (.inr 0) : mv_V) = w := Option.some.inj (Option.some.inj hj)
    subst this
    show ls[0]? = some (.val (.ref (ad 0)))
    rw [e]
    exact h.2.2 (0, .ref h0) List.mem_cons_self
  | 1, hj => simp [mv_nth] at hj
  | j + 2, hj => simp [mv_nth] at hj⟩
def mv_ad (h0 : Nat) (u : Nat → Nat) : Nat → Nat := fun k => match k with
  | 0 => h0
  | k + 1 => u k
def mv_J0 : mv_J := fun _ _ => 0
def sh_Sea : List mv_E := [.inl (4, [some 1, none, some 2, some 3, none, none]), .inr (0, 60), .inr (0, 60), .inr (0, 60)]
theorem sh_Sea_ok : mv_shB vwCl sh_Sea := mv_shB_of (by decide +kernel)
def I0_Sea : mv_I := fun c k => bif Nat.beq c 0 then (bif Nat.beq k 1 then 5 else 0) else 0
def If_Sea : mv_I := va_up I0_Sea 1 (fun j => if 0 ≤ j ∧ j < 60 then -1 else I0_Sea 1 j)
def tbi_Sea : Nat → Option mv_R := mv_seg 33 42 (fun pc => (bif Nat.blt pc 37 then (bif Nat.blt pc 34 then (bif Nat.beq pc 33 then some (.aload_n 0, 34, 0, 0, 0) else none) else (bif Nat.beq pc 34 then some (.getfield 9, 37, 0, 0, 0) else none)) else (bif Nat.blt pc 38 then (bif Nat.beq pc 37 then some (.iconst (-1), 38, 0, (-1), 0) else none) else (bif Nat.blt pc 41 then (bif Nat.beq pc 38 then some (.invokestatic 25, 41, 0, 0, 0) else none) else (bif Nat.beq pc 41 then some (.return_, 42, 0, 0, 0) else none)))))
set_option maxRecDepth 100000 in
theorem tbi_Sea_ok : mv_tbB cX4_init RX4 mv_TT tbi_Sea := mv_tbB_seg (by decide +kernel)
theorem l_fillS {d : Nat} {v : Int32} {J : mv_J} {Q : mv_Q} : ∀ (k i fu : Nat) (x : Int32) (I : mv_I), x = nI i → i + k = 60 → 20 * k + 20 ≤ fu → Q none (va_up I 1 (fun j => if i ≤ j ∧ j < 60 then v else I 1 j)) J → mv_wp (mv_wpM mv_tab sh_Sea d) sh_Sea none tbJ7_fill_53178 flJ7 csJ7 0 (fun _ _ _ _ _ => False) Q (fu) 5 [some (.inr (.inr 1)), some (.inl v), some (.inl x), some (.inl (nI 60))] [] I J := by
  intro k
  induction k with
  | zero =>
    intro i fu x I ex hi hf h
    subst ex
    obtain ⟨fu, rfl⟩ : ∃ z, fu = z + 20 := ⟨fu - 20, by omega⟩
    have e : i = 60 := by omega
    subst e
    refine And.intro (fun q => ?_) (fun q => absurd (Int32.le_refl _) q)
    have e : va_up I 1 (fun j => if 60 ≤ j ∧ j < 60 then v else I 1 j) = I := by
      funext c
      by_cases hc : c = 1
      · subst hc
        rw [va_up_self]
        funext j
        rw [if_neg (by omega)]
      · rw [va_up_ne _ _ hc]
    rw [e] at h
    exact h
  | succ k ih =>
    intro i fu x I ex hi hf h
    subst ex
    obtain ⟨fu, rfl⟩ : ∃ z, fu = z + 20 := ⟨fu - 20, by omega⟩
    refine And.intro (fun q => absurd q (nI_ge (by omega) (by decide))) (fun q => ?_)
    refine And.intro (vp_in_nI (by omega) (by decide)) ?_
    refine And.intro ?_ trivial
    refine ih (i + 1) _ _ _ (nI_1 i) (by omega) (by omega) ?_
    rw [nI_clamp (show i < 2 ^ 31 by omega)]
    have e : va_up (va_up I 1 (upd (I 1) i v)) 1 (fun j => if i + 1 ≤ j ∧ j < 60 then v else va_up I 1 (upd (I 1) i v) 1 j) = va_up I 1 (fun j => if i ≤ j ∧ j < 60 then v else I 1 j) := by
      rw [bx_uu]
      congr 1
      funext j
      rw [va_up_self]
      unfold upd
      by_cases h1 : j = i
      · subst h1
        rw [if_neg (by omega), if_pos rfl, if_pos (by omega)]
      · by_cases h2 : i + 1 ≤ j ∧ j < 60
        · rw [if_pos h2, if_pos (by omega)]
        · rw [if_neg h2, if_neg h1, if_neg (by omega)]
    rw [e]
    exact h
set_option maxHeartbeats 1000000 in
theorem c_fillS {d : Nat} (hd : 1 ≤ d) (v : Int32) {I : mv_I} {J : mv_J} {Q : mv_Q} (h : Q none (va_up I 1 (fun j => if 0 ≤ j ∧ j < 60 then v else I 1 j)) J) : mv_wpM mv_tab sh_Sea d 18 [.inr (.inr 1), .inl v] I J Q := by
  obtain ⟨d, rfl⟩ : ∃ e, d = e + 1 := ⟨d - 1, by omega⟩
  refine (show ∃ fu9, mv_wp (mv_wpM mv_tab sh_Sea d) sh_Sea none tbJ7_fill_53178 flJ7 csJ7 0 (fun _ _ _ _ _ => False) Q fu9 0 [some (.inr (.inr 1)), some (.inl v), none, none] [] I J from ?_)
  refine ⟨1265, ?_⟩
  refine And.intro ?_ trivial
  exact l_fillS 60 0 _ _ _ nI_0.symm (by omega) (Nat.le_of_ble_eq_true rfl) h
theorem wi_Sea {d : Nat} (hd : 1 ≤ d) : mv_wp (mv_wpM mv_tab sh_Sea d) sh_Sea none tbi_Sea flX4 csX4 0 (fun _ _ _ _ _ => False) (fun r I J => r = none ∧ I = If_Sea ∧ J = mv_J0) 40 33 [some (.inr (.inr 0))] [] I0_Sea mv_J0 := by
  refine c_fillS (by omega) (-1) ?_
  exact ⟨rfl, rfl, rfl⟩
def w0_Sea (h0 : Nat) : va_W := [(h0, .inr (4, [.null, .int 0, .null, .null, .int 0, .int 0]))]
abbrev ws_Sea (cy : Nat → ClassId) (h0 : Nat) (u : Nat → Nat) : va_W := mv_ws cy (mv_ad h0 u) sh_Sea If_Sea mv_J0
set_option maxHeartbeats 4000000 in
set_option maxRecDepth 100000 in
theorem k_Sea (l : Launch) (dC : Nat → ClassId) (dI : Nat → Nat → Nat) (cy : Nat → ClassId) (h0 sz : Nat) : Met l yX4_init (Jvm.Cond.code yX4_init cX4_init 1 none :: mv_TT) ({ frames := 3, cells := 3, slots := 180, locals := 200 }) (va_Pc [.ref h0] (fun U => U.heap.size = sz ∧ va_P (dC, dI) vwCl (w0_Sea h0) U.heap ∧ va_K (dC, dI) vwCl (mv_tys cy) U ∧ va_D (fun _ => True) (w0_Sea h0) ∧ mv_NW U)) (va_Qv (fun _ : Nat → Nat => True) (fun u t => va_P (dC, dI) vwCl (ws_Sea cy h0 u) t.heap ∧ va_D (va_A (w0_Sea h0) sz) (ws_Sea cy h0 u)) (va_A (w0_Sea h0) sz)) 3 180 (va_A (w0_Sea h0) sz) := by
  refine Met.ofW (cc := cX4_init) (maxL := 1) (ret := none) (by decide +kernel) rfl ?_
  intro p e s m args below meth c s₁ B hml hv
  obtain ⟨rfl, hsz, hP, hK, hD0, hNW⟩ := hv
  have hx := B.exec
  have hb := B.bytes
  have hr := B.returns
  have hts0 := atoms_spec (ws := Jvm.Cond.code yX4_init cX4_init 1 none :: mv_TT) B.pre
  have hts : ∀ w ∈ mv_TT, w.before _ s = true := fun w h => hts0 w (List.mem_cons_of_mem _ h)
  have hown : s.vm.findClass RX4 = some m.cls := findClass_of_methodNamed B.named
  have hlocks := B.notSynchronized
  have hin : meth.name = "<init>" := (name_of_methodNamed B.named B.method).1
  subst hsz
  have hD := hD0.self (sz := s.heap.size)
  generalize hAe : va_A (w0_Sea h0) s.heap.size = A at hD ⊢
  have hA : ∀ q : Nat, s.heap.size ≤ q → A q := fun q h => by rw [← hAe]; exact Or.inr h
  have hS : va_S A s.heap s.heap [] := va_S.rf
  have hP : va_P (dC, dI) vwCl [(h0, .inr (4, [.null, .int 0, .null, .null, .int 0, .int 0]))] s.heap := hP
  have hD : va_D A [(h0, .inr (4, [.null, .int 0, .null, .null, .int 0, .int 0]))] := hD
  have hl := lv_entry ([.ref h0]) (n := 1) (Nat.le_of_ble_eq_true rfl)
  rw [lg_entry_eq]
  generalize (lg_sl ([.ref h0]) ++ List.replicate (1 - (lg_sl ([.ref h0])).length) Slot.unset).toArray = ls at hl ⊢
  have hl : lv_has ls 1 [(0, .ref h0)] := hl
  refine lv_aload_n hx hb (show decode cX4_init 0 = .ok (.aload_n 0, 1) by decide +kernel) rfl (lv_at hl 0 rfl) ?_
  refine W.objInit hx hb hown (hts _ (mT1 _ (List.mem_of_getElem? (i := 170) rfl) rfl)) (hts _ (mT1 _ (List.mem_of_getElem? (i := 20) rfl) rfl)) (hts _ (mT1 _ (List.mem_of_getElem? (i := 21) rfl) rfl)) rfl (by rw [hml]; exact hl.1) rfl (show decode cX4_init 1 = .ok (.invokespecial 3, 3) by decide +kernel) (Nat.le_of_ble_eq_true rfl) (Nat.le_of_ble_eq_true rfl) ?_
  refine W.eq (g2 := F0 m 4 ls []) rfl ?_
  refine lv_aload_n hx hb (show decode cX4_init 4 = .ok (.aload_n 0, 1) by decide +kernel) rfl (lv_at hl 0 rfl) ?_
  refine lv_bipush (v := 60) hx hb (show decode cX4_init 5 = .ok (.bipush 60, 2) by decide +kernel) (by decide) ?_
  refine mv_newa (atype := .int) (ty := .int) (a0 := (60, .inl (fun _ => (0 : Int32)))) (N' := 60) hx hb (hts _ (mT1 _ (List.mem_of_getElem? (i := 72) rfl) rfl)) rfl hK 0 rfl (fun _ h => h) hP hD hS hA (fun cA => by rw [vp_cell_i]; rfl) (by decide) (by decide) (by decide) (Nat.le_of_ble_eq_true rfl) (Nat.le_of_ble_eq_true rfl) (show decode cX4_init 7 = .ok (.newarray .int, 2) by decide +kernel) (fun q0 H hP hD hS => ?_)
  have hP : va_P (dC, dI) vwCl [(h0, .inr (4, [.null, .int 0, .null, .null, .int 0, .int 0])), (q0, .inl (cy 0, 60, .inl (fun _ => (0 : Int32))))] H := hP
  have hD : va_D A [(h0, .inr (4, [.null, .int 0, .null, .null, .int 0, .int 0])), (q0, .inl (cy 0, 60, .inl (fun _ => (0 : Int32))))] := hD
  refine va_putF (D := (dC, dI)) (ci := 4) (v := .ref q0) (ty := .array .int) (C := RX4) (T := TX4) (N := 6) hx hb hts mu_X4 tyX4 tyX4_ok nmX4 hown hK hP hD hS 0 rfl rfl 0 (by decide) (hts _ (mT1 _ (List.mem_of_getElem? (i := 174) rfl) rfl)) (fun _ h9 => h9) rfl hin rfl (by decide +kernel) rfl rfl (Nat.le_of_ble_eq_true rfl) (show decode cX4_init 9 = .ok (.putfield 9, 3) by decide +kernel) (fun H locs hP hD hS => ?_)
  have hP : va_P (dC, dI) vwCl [(h0, .inr (4, [.ref q0, .int 0, .null, .null, .int 0, .int 0])), (q0, .inl (cy 0, 60, .inl (fun _ => (0 : Int32))))] H := hP
  have hD : va_D A [(h0, .inr (4, [.ref q0, .int 0, .null, .null, .int 0, .int 0])), (q0, .inl (cy 0, 60, .inl (fun _ => (0 : Int32))))] := hD
  refine lv_aload_n hx hb (show decode cX4_init 12 = .ok (.aload_n 0, 1) by decide +kernel) rfl (lv_at hl 0 rfl) ?_
  refine lv_iconst (v := 5) hx hb (show decode cX4_init 13 = .ok (.iconst 5, 1) by decide +kernel) (by decide) ?_
  refine va_put (D := (dC, dI)) (ci := 4) (v := .int 5) (ty := .int) (C := RX4) (T := TX4) (N := 6) hx hb hts mu_X4 tyX4 tyX4_ok nmX4 hown hK hP hD hS 0 rfl rfl 1 (by decide) (hts _ (mT1 _ (List.mem_of_getElem? (i := 176) rfl) rfl)) (fun _ h9 => h9) rfl (by decide +kernel) rfl rfl (Nat.le_of_ble_eq_true rfl) (show decode cX4_init 14 = .ok (.putfield 15, 3) by decide +kernel) (fun H locs hP hD hS => ?_)
  have hP : va_P (dC, dI) vwCl [(h0, .inr (4, [.ref q0, .int 5, .null, .null, .int 0, .int 0])), (q0, .inl (cy 0, 60, .inl (fun _ => (0 : Int32))))] H := hP
  have hD : va_D A [(h0, .inr (4, [.ref q0, .int 5, .null, .null, .int 0, .int 0])), (q0, .inl (cy 0, 60, .inl (fun _ => (0 : Int32))))] := hD
  refine lv_aload_n hx hb (show decode cX4_init 17 = .ok (.aload_n 0, 1) by decide +kernel) rfl (lv_at hl 0 rfl) ?_
  refine lv_bipush (v := 60) hx hb (show decode cX4_init 18 = .ok (.bipush 60, 2) by decide +kernel) (by decide) ?_
  refine mv_newa (atype := .int) (ty := .int) (a0 := (60, .inl (fun _ => (0 : Int32)))) (N' := 60) hx hb (hts _ (mT1 _ (List.mem_of_getElem? (i := 72) rfl) rfl)) rfl hK 0 rfl (fun _ h => h) hP hD hS hA (fun cA => by rw [vp_cell_i]; rfl) (by decide) (by decide) (by decide) (Nat.le_of_ble_eq_true rfl) (Nat.le_of_ble_eq_true rfl) (show decode cX4_init 20 = .ok (.newarray .int, 2) by decide +kernel) (fun q1 H hP hD hS => ?_)
  have hP : va_P (dC, dI) vwCl [(h0, .inr (4, [.ref q0, .int 5, .null, .null, .int 0, .int 0])), (q0, .inl (cy 0, 60, .inl (fun _ => (0 : Int32)))), (q1, .inl (cy 0, 60, .inl (fun _ => (0 : Int32))))] H := hP
  have hD : va_D A [(h0, .inr (4, [.ref q0, .int 5, .null, .null, .int 0, .int 0])), (q0, .inl (cy 0, 60, .inl (fun _ => (0 : Int32)))), (q1, .inl (cy 0, 60, .inl (fun _ => (0 : Int32))))] := hD
  refine va_putF (D := (dC, dI)) (ci := 4) (v := .ref q1) (ty := .array .int) (C := RX4) (T := TX4) (N := 6) hx hb hts mu_X4 tyX4 tyX4_ok nmX4 hown hK hP hD hS 0 rfl rfl 2 (by decide) (hts _ (mT1 _ (List.mem_of_getElem? (i := 178) rfl) rfl)) (fun _ h9 => h9) rfl hin rfl (by decide +kernel) rfl rfl (Nat.le_of_ble_eq_true rfl) (show decode cX4_init 22 = .ok (.putfield 19, 3) by decide +kernel) (fun H locs hP hD hS => ?_)
  have hP : va_P (dC, dI) vwCl [(h0, .inr (4, [.ref q0, .int 5, .ref q1, .null, .int 0, .int 0])), (q0, .inl (cy 0, 60, .inl (fun _ => (0 : Int32)))), (q1, .inl (cy 0, 60, .inl (fun _ => (0 : Int32))))] H := hP
  have hD : va_D A [(h0, .inr (4, [.ref q0, .int 5, .ref q1, .null, .int 0, .int 0])), (q0, .inl (cy 0, 60, .inl (fun _ => (0 : Int32)))), (q1, .inl (cy 0, 60, .inl (fun _ => (0 : Int32))))] := hD
  refine lv_aload_n hx hb (show decode cX4_init 25 = .ok (.aload_n 0, 1) by decide +kernel) rfl (lv_at hl 0 rfl) ?_
  refine lv_bipush (v := 60) hx hb (show decode cX4_init 26 = .ok (.bipush 60, 2) by decide +kernel) (by decide) ?_
  refine mv_newa (atype := .int) (ty := .int) (a0 := (60, .inl (fun _ => (0 : Int32)))) (N' := 60) hx hb (hts _ (mT1 _ (List.mem_of_getElem? (i := 72) rfl) rfl)) rfl hK 0 rfl (fun _ h => h) hP hD hS hA (fun cA => by rw [vp_cell_i]; rfl) (by decide) (by decide) (by decide) (Nat.le_of_ble_eq_true rfl) (Nat.le_of_ble_eq_true rfl) (show decode cX4_init 28 = .ok (.newarray .int, 2) by decide +kernel) (fun q2 H hP hD hS => ?_)
  have hP : va_P (dC, dI) vwCl [(h0, .inr (4, [.ref q0, .int 5, .ref q1, .null, .int 0, .int 0])), (q0, .inl (cy 0, 60, .inl (fun _ => (0 : Int32)))), (q1, .inl (cy 0, 60, .inl (fun _ => (0 : Int32)))), (q2, .inl (cy 0, 60, .inl (fun _ => (0 : Int32))))] H := hP
  have hD : va_D A [(h0, .inr (4, [.ref q0, .int 5, .ref q1, .null, .int 0, .int 0])), (q0, .inl (cy 0, 60, .inl (fun _ => (0 : Int32)))), (q1, .inl (cy 0, 60, .inl (fun _ => (0 : Int32)))), (q2, .inl (cy 0, 60, .inl (fun _ => (0 : Int32))))] := hD
  refine va_putF (D := (dC, dI)) (ci := 4) (v := .ref q2) (ty := .array .int) (C := RX4) (T := TX4) (N := 6) hx hb hts mu_X4 tyX4 tyX4_ok nmX4 hown hK hP hD hS 0 rfl rfl 3 (by decide) (hts _ (mT1 _ (List.mem_of_getElem? (i := 179) rfl) rfl)) (fun _ h9 => h9) rfl hin rfl (by decide +kernel) rfl rfl (Nat.le_of_ble_eq_true rfl) (show decode cX4_init 30 = .ok (.putfield 22, 3) by decide +kernel) (fun H locs hP hD hS => ?_)
  have hP : va_P (dC, dI) vwCl [(h0, .inr (4, [.ref q0, .int 5, .ref q1, .ref q2, .int 0, .int 0])), (q0, .inl (cy 0, 60, .inl (fun _ => (0 : Int32)))), (q1, .inl (cy 0, 60, .inl (fun _ => (0 : Int32)))), (q2, .inl (cy 0, 60, .inl (fun _ => (0 : Int32))))] H := hP
  have hD : va_D A [(h0, .inr (4, [.ref q0, .int 5, .ref q1, .ref q2, .int 0, .int 0])), (q0, .inl (cy 0, 60, .inl (fun _ => (0 : Int32)))), (q1, .inl (cy 0, 60, .inl (fun _ => (0 : Int32)))), (q2, .inl (cy 0, 60, .inl (fun _ => (0 : Int32))))] := hD
  obtain ⟨u, hu⟩ : ∃ u : Nat → Nat, u = (fun k => match k with | 0 => q0 | 1 => q1 | 2 => q2 | _ => 0) := ⟨_, rfl⟩
  have hP : va_P (dC, dI) vwCl (mv_ws cy (mv_ad h0 u) sh_Sea I0_Sea mv_J0) H := by rw [hu]; exact hP
  have hD : va_D A (mv_ws cy (mv_ad h0 u) sh_Sea I0_Sea mv_J0) := by rw [hu]; exact hD
  refine W.widen (k := 3) (n := 180) (Nat.le_of_ble_eq_true rfl) (Nat.le_of_ble_eq_true rfl) ?_
  have hCs : mv_csB l ({ frames := 3, cells := 3, slots := 180, locals := 200 }) vwCl dC dI cy (mv_ad h0 u) sh_Sea RX4 mv_TT csX4 (mv_wpM mv_tab sh_Sea 1) := by
    intro idx mid2 na ci hf as2 I2 J2 Q2 _ hc
    obtain ⟨y2, cc2, maxL2, ret2, z2, t1, t2⟩ := mv_met l (dC := dC) (dI := dI) (cy := cy) (ad := mv_ad h0 u) mv_tab_ok sh_Sea_ok 1 mid2 as2 I2 J2 Q2 hc
    exact ⟨y2, cc2, maxL2, ret2, _, mv_TT, mv_room 1, csX4_ok idx mid2 na ci hf y2 cc2 maxL2 ret2 z2 t1, rfl, rfl, Nat.le_of_ble_eq_true rfl, Nat.le_of_ble_eq_true rfl, t2⟩
  exact mv_wp_sound (A := A) (H0 := s.heap) (rb := 0) (Q := fun r I J => r = none ∧ I = If_Sea ∧ J = mv_J0) (stop := fun _ _ _ _ _ => False) hx hb hml hown hts hK (fun I2 J2 => mv_D_any hD) hA ⟨Nat.le_of_ble_eq_true rfl, Nat.le_of_ble_eq_true rfl, Nat.le_of_ble_eq_true rfl, Nat.le_of_ble_eq_true rfl⟩ (X := none) (fun L xs h => by cases h) hNW tbi_Sea_ok flX4_ok sh_Sea_ok hCs jdX4_ok (fun _ _ _ _ _ _ _ _ h => h.elim) (fun pc I2 J2 H locs arr hd h hP hS => by
    obtain ⟨-, rfl, rfl⟩ := h
    exact W.vret hx hb hr (fun t ht hW => ⟨⟨u, rfl, trivial, by rw [ht]; exact hP, mv_D_any hD⟩, hS.F ht⟩) hS.2.2 hd hlocks) (fun _ _ _ _ _ _ _ _ h => h.elim) _ 33 _ [] I0_Sea mv_J0 _ _ ls (wi_Sea (d := 1) (Nat.le_refl 1)) hP hS (mv_LS1 hl rfl) rfl
