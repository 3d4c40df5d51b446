theorem mv_nn_inv : ∀ {n : Nat} {f : mv_L → Prop}, mv_nn n f → ∃ ls, f ls ∧ ls.length = n ∧ ∀ j w, ¬ mv_nth j ls = some (some w)
  | 0, f, h => ⟨[], h, rfl, fun j w q => by simp [mv_nth] at q⟩
  | n + 1, f, h => by
    obtain ⟨ls, h1, h2, h3⟩ := mv_nn_inv (n := n) h
    refine ⟨_, h1, by simp [h2], fun j w q => ?_⟩
    cases j with
    | zero => cases q
    | succ j => exact h3 j w q
theorem mv_ini_inv (ad : Nat → Nat) : ∀ {as : List mv_V} {n : Nat} {f : mv_L → Prop}, mv_ini as n f → ∃ ls, f ls ∧ ls.length = n ∧ (lg_sl (as.map (mv_val ad))).length ≤ n ∧ ∀ k j w, mv_nth j ls = some (some w) → (k + j, mv_val ad w) ∈ lv_args k (as.map (mv_val ad))
  | [], n, f, h => by
    obtain ⟨ls, h1, h2, h3⟩ := mv_nn_inv h
    exact ⟨ls, h1, h2, by simp [lg_sl], fun k j w q => absurd q (h3 j w)⟩
  | .inl x :: t, 0, f, h => by simp [mv_ini] at h
  | .inl x :: t, n + 1, f, h => by
    obtain ⟨ls, h1, h2, h3, h4⟩ := mv_ini_inv ad (as := t) (n := n) h
    refine ⟨_, h1, by simp [h2], ?_, fun k j w q => ?_⟩
    · simp only [lg_sl, List.map_cons, List.flatMap_cons, List.length_append] at h3 ⊢
      simp only [mv_val, Value.category] at h3 ⊢
      simp at h3 ⊢
      omega
    · cases j with
      | zero =>
        have : (.inl x : mv_V) = w := Option.some.inj (Option.some.inj q)
        subst this
        exact List.mem_cons_self
      | succ j =>
        have := h4 (k + 1) j w q
        rw [show k + (j + 1) = k + 1 + j by omega]
        exact List.mem_cons_of_mem _ this
  | .inr (.inr x) :: t, 0, f, h => by simp [mv_ini] at h
  | .inr (.inr x) :: t, n + 1, f, h => by
    obtain ⟨ls, h1, h2, h3, h4⟩ := mv_ini_inv ad (as := t) (n := n) h
    refine ⟨_, h1, by simp [h2], ?_, fun k j w q => ?_⟩
    · simp only [lg_sl, List.map_cons, List.flatMap_cons, List.length_append] at h3 ⊢
      simp only [mv_val, Value.category] at h3 ⊢
      simp at h3 ⊢
      omega
    · cases j with
      | zero =>
        have : (.inr (.inr x) : mv_V) = w := Option.some.inj (Option.some.inj q)
        subst this
        exact List.mem_cons_self
      | succ j =>
        have := h4 (k + 1) j w q
        rw [show k + (j + 1) = k + 1 + j by omega]
        exact List.mem_cons_of_mem _ this
  | .inr (.inl x) :: t, 0, f, h => by simp [mv_ini] at h
  | .inr (.inl x) :: t, 1, f, h => by simp [mv_ini] at h
  | .inr (.inl x) :: t, n + 2, f, h => by
    obtain ⟨ls, h1, h2, h3, h4⟩ := mv_ini_inv ad (as := t) (n := n) h
    refine ⟨_, h1, by simp [h2], ?_, fun k j w q => ?_⟩
    · simp only [lg_sl, List.map_cons, List.flatMap_cons, List.length_append] at h3 ⊢
      simp only [mv_val, Value.category] at h3 ⊢
      simp at h3 ⊢
      omega
    · match j, q with
      | 0, q =>
        have : (.inr (.inl x) : mv_V) = w := Option.some.inj (Option.some.inj q)
        subst this
        exact List.mem_cons_self
      | 1, q => cases q
      | j + 2, q =>
        have := h4 (k + 2) j w q
        rw [show k + (j + 2) = k + 2 + j by omega]
        exact List.mem_cons_of_mem _ this
section MVW
variable {p : Program} {l : Launch} {e : Env} {R : Room} {s : State} {m : MethodId} {args : Array Value} {below : List Frame} {meth : Method} {c : Code} {cells slots : Nat} {Qf : State → Prop}
variable {cc : ByteArray} {own : String} {Ts : List Jvm.Cond} {nL : Nat} {dC : Nat → ClassId} {dI : Nat → Nat → Nat} {cl0 : List vw_C} {cy : Nat → ClassId} {ad : Nat → Nat} {sh : List mv_E} {A : Nat → Prop} {H0 : Heap}
theorem mv_wp_sound (hx : p.tables.exec = Jvm.exec) (hb : c.code = cc) (hml : c.maxLocals = nL) (hown : s.vm.findClass own = some m.cls) (hts : ∀ w ∈ Ts, w.before args s = true) (hK : va_K (dC, dI) cl0 (mv_tys cy) s) (hD : ∀ I J, va_D A (mv_ws cy ad sh I J)) (hA : ∀ q : Nat, H0.size ≤ q → A q) (hR : 1 ≤ R.frames ∧ 60 ≤ R.locals ∧ cells ≤ R.cells ∧ slots ≤ R.slots)
    {X : Option (Nat × (Nat → Int32))} (hX : ∀ L xs, X = some (L, xs) → va_X (ad 999) L xs s H0 ∧ ad 999 < H0.size ∧ ¬ A (ad 999)) {tb : Nat → Option mv_R} {fl : Nat → Option (Nat × Nat)} {cs : Nat → Option (Nat × Nat × Nat)} {call : Nat → List mv_V → mv_I → mv_J → mv_Q → Prop} {rb : Nat} {stop : mv_K} {Q : mv_Q}
    (hNW : mv_NW s) (hT : mv_tbB cc own Ts tb) (hF : mv_flB cl0 own Ts fl) (hSh : mv_shB cl0 sh) (hC : mv_csB l R cl0 dC dI cy ad sh own Ts cs call) (hJ : mv_jdB own Ts cs)
    (hret : ∀ (pc : Nat) (x : Int32) (I : mv_I) (J : mv_J) (H : Heap) (locs : List Loc) (arr : Array Slot), decode cc pc = .ok (.ireturn, 1) → mv_rq rb x (Q (some (.inl x)) I J) → va_P (dC, dI) cl0 (mv_ws cy ad sh I J) H → va_S A H0 H locs → W p l e R s m args below meth c H locs cells slots Qf (F0 m pc arr [.int x]))
    (hvret : ∀ (pc : Nat) (I : mv_I) (J : mv_J) (H : Heap) (locs : List Loc) (arr : Array Slot), decode cc pc = .ok (.return_, 1) → mv_rv rb (Q none I J) → va_P (dC, dI) cl0 (mv_ws cy ad sh I J) H → va_S A H0 H locs → W p l e R s m args below meth c H locs cells slots Qf (F0 m pc arr []))
    (hstop : ∀ (pc : Nat) (ls : mv_L) (st : List mv_V) (I : mv_I) (J : mv_J) (H : Heap) (locs : List Loc) (arr : Array Slot), stop pc ls st I J → va_P (dC, dI) cl0 (mv_ws cy ad sh I J) H → va_S A H0 H locs → mv_LS ad ls arr → ls.length = nL → W p l e R s m args below meth c H locs cells slots Qf (F0 m pc arr (st.map (mv_val ad)))) :
    ∀ (n pc : Nat) (ls : mv_L) (st : List mv_V) (I : mv_I) (J : mv_J) (H : Heap) (locs : List Loc) (arr : Array Slot), mv_wp call sh X tb fl cs rb stop Q n pc ls st I J → va_P (dC, dI) cl0 (mv_ws cy ad sh I J) H → va_S A H0 H locs → mv_LS ad ls arr → ls.length = nL → W p l e R s m args below meth c H locs cells slots Qf (F0 m pc arr (st.map (mv_val ad))) := by
  intro n
  induction n with
  | zero => intro pc ls st I J H locs arr h; exact h.elim
  | succ n ih =>
    intro pc ls st I J H locs arr h hP hS hL hn
    cases ht : tb pc with
    | none =>
      simp only [mv_wp, ht] at h
      exact hstop pc ls st I J H locs arr h hP hS hL hn
    | some r =>
      obtain ⟨i, nx, tg, cst, cl⟩ := r
      simp only [mv_wp, ht] at h
      obtain ⟨h1, h2, h3⟩ := mv_tb_at hT ht
      exact mv_step_sound hx hb hml hown hts hK hD hA hR hX hNW hF hSh hC hJ hret hvret (fun pc ls st I J H locs arr hk => ih pc ls st I J H locs arr (mv_cut_inv hk)) h1 h2 h3 h hP hS hL hn
end MVW
def mv_room (d : Nat) : Room := { frames := d, cells := 0, slots := 0, locals := 60 * d }
/-- what the tables must say of a method -/
def mv_ok (cl0 : List vw_C) (TT : List Jvm.Cond) (tab : List mv_N) (q : mv_N) : Prop := match q with
  | (y, cc, maxL, ret, own, tb, fl, cs) => plainName y.cls = true ∧ y.cls = own ∧ mv_rk ret < 3 ∧ mv_tbB cc own TT tb ∧ mv_flB cl0 own TT fl ∧ mv_jdB own TT cs ∧
    ∀ idx mid na ci, cs idx = some (mid, na, ci) → ∀ y' cc' maxL' ret' z, mv_nth mid tab = some (y', cc', maxL', ret', z) → mv_site cl0 own TT idx na ci y' cc' maxL' ret' (Jvm.Cond.code y' cc' maxL' ret' :: TT) TT
set_option maxHeartbeats 4000000 in
theorem mv_met (l : Launch) {cl0 : List vw_C} {dC : Nat → ClassId} {dI : Nat → Nat → Nat} {cy : Nat → ClassId} {ad : Nat → Nat} {sh : List mv_E} {TT : List Jvm.Cond} {tab : List mv_N} (hok : ∀ mid q, mv_nth mid tab = some q → mv_ok cl0 TT tab q) (hSh : mv_shB cl0 sh) :
    ∀ (d mid : Nat) (as : List mv_V) (I : mv_I) (J : mv_J) (Q : mv_Q), mv_wpM tab sh d mid as I J Q → ∃ y cc maxL ret z, mv_nth mid tab = some (y, cc, maxL, ret, z) ∧ mv_Mt l cl0 dC dI cy ad sh y (Jvm.Cond.code y cc maxL ret :: TT) (mv_room d) as I J Q := by
  intro d
  induction d with
  | zero => intro mid as I J Q h; exact h.elim
  | succ d ih =>
    intro mid as I J Q h
    cases ht : mv_nth mid tab with
    | none => simp only [mv_wpM, ht] at h
    | some q =>
      obtain ⟨y, cc, maxL, ret, own, tb, fl, cs⟩ := q
      simp only [mv_wpM, ht] at h
      refine ⟨y, cc, maxL, ret, (own, tb, fl, cs), rfl, fun sz => ?_⟩
      obtain ⟨ls, ⟨n, hw⟩, hl1, hl2, hl3⟩ := mv_ini_inv ad h
      obtain ⟨o1, o2, o3, o4, o5, o6, o7⟩ := hok mid _ ht
      have hCs : mv_csB l (mv_room (d + 1)) cl0 dC dI cy ad sh own TT cs (mv_wpM tab sh d) := by
        intro idx mid2 na ci hf as2 I2 J2 Q2 _ hc
        obtain ⟨y2, cc2, maxL2, ret2, z2, t1, t2⟩ := ih mid2 as2 I2 J2 Q2 hc
        exact ⟨y2, cc2, maxL2, ret2, _, TT, mv_room d, o7 idx mid2 na ci hf y2 cc2 maxL2 ret2 z2 t1, rfl, rfl, Nat.le_refl _, by show 40 + 60 * d ≤ 60 * (d + 1); omega, t2⟩
      have body : ∀ (Qc : Array Value → State → Outcome → State → Prop), (∀ (p : Program) (e : Env) (s : State) (m : MethodId) (args : Array Value) (below : List Frame) (meth : Method) (c : Code), p.tables.exec = Jvm.exec → c.code = cc → meth.sig.returnType = ret → meth.locks = false → ∀ (pc : Nat) (x : Int32) (I2 : mv_I) (J2 : mv_J) (H : Heap) (locs : List Loc) (arr : Array Slot), decode cc pc = .ok (.ireturn, 1) → mv_rq (mv_rk ret) x (Q (some (.inl x)) I2 J2) → va_P (dC, dI) cl0 (mv_ws cy ad sh I2 J2) H → va_S (va_A (mv_ws cy ad sh I J) s.heap.size) s.heap H locs → s.heap.size = sz → W p l e (mv_room (d + 1)) s m args below meth c H locs 0 0 (MQ below Qc args s 0 0 (va_A (mv_ws cy ad sh I J) sz)) (F0 m pc arr [.int x])) → (∀ (p : Program) (e : Env) (s : State) (m : MethodId) (args : Array Value) (below : List Frame) (meth : Method) (c : Code), p.tables.exec = Jvm.exec → c.code = cc → meth.sig.returnType = ret → meth.locks = false → ∀ (pc : Nat) (I2 : mv_I) (J2 : mv_J) (H : Heap) (locs : List Loc) (arr : Array Slot), decode cc pc = .ok (.return_, 1) → mv_rv (mv_rk ret) (Q none I2 J2) → va_P (dC, dI) cl0 (mv_ws cy ad sh I2 J2) H → va_S (va_A (mv_ws cy ad sh I J) s.heap.size) s.heap H locs → s.heap.size = sz → W p l e (mv_room (d + 1)) s m args below meth c H locs 0 0 (MQ below Qc args s 0 0 (va_A (mv_ws cy ad sh I J) sz)) (F0 m pc arr [])) → Met l y (Jvm.Cond.code y cc maxL ret :: TT) (mv_room (d + 1)) (mv_Pc cl0 dC dI cy ad sh sz as I J) Qc 0 0 (va_A (mv_ws cy ad sh I J) sz) := by
        intro Qc q1 q2
        refine Met.ofW (cc := cc) (maxL := maxL) (ret := ret) o1 rfl ?_
        intro p e s m args below meth c s₁ B hml hv
        obtain ⟨rfl, hsz, hP, hK, hD0, hNW⟩ := hv
        have hts := atoms_spec (ws := Jvm.Cond.code y cc maxL ret :: TT) B.pre
        have hown : s.vm.findClass own = some m.cls := by rw [← o2]; exact findClass_of_methodNamed B.named
        subst hsz
        have hD := hD0.self (sz := s.heap.size)
        have hl := lv_entry (as.map (mv_val ad)) (n := maxL) hl2
        rw [lg_entry_eq]
        generalize (lg_sl (as.map (mv_val ad)) ++ List.replicate (maxL - (lg_sl (as.map (mv_val ad))).length) Slot.unset).toArray = arr at hl ⊢
        have hLS : mv_LS ad ls arr := ⟨by rw [hl1]; exact hl.1, hl.2.1, fun j w hj => by
          have := hl.2.2 _ (hl3 0 j w hj)
          rwa [Nat.zero_add] at this⟩
        exact mv_wp_sound (A := va_A (mv_ws cy ad sh I J) s.heap.size) (H0 := s.heap) (R := mv_room (d + 1)) B.exec B.bytes hml hown (fun w h => hts w (List.mem_cons_of_mem _ h)) hK (fun I2 J2 => mv_D_any hD) (fun q h => Or.inr h) ⟨Nat.succ_le_succ (Nat.zero_le _), by show 60 ≤ 60 * (d + 1); omega, Nat.le_refl _, Nat.le_refl _⟩ (X := none) (fun L xs h => by cases h) hNW o4 o5 hSh hCs o6 (fun pc x I2 J2 H locs arr h1 h2 h3 h4 => q1 p e s m _ below meth c B.exec B.bytes B.returns B.notSynchronized pc x I2 J2 H locs arr h1 h2 h3 h4 rfl) (fun pc I2 J2 H locs arr h1 h2 h3 h4 => q2 p e s m _ below meth c B.exec B.bytes B.returns B.notSynchronized pc I2 J2 H locs arr h1 h2 h3 h4 rfl) (fun _ _ _ _ _ _ _ _ h => h.elim) n 0 ls [] I J s.heap [] arr hw hP va_S.rf hLS hl1
      match ret, o3, body with
      | none, _, body =>
        refine Or.inr (body _ (fun p e s m args below meth c _ _ _ _ pc x I2 J2 H locs arr _ h => h.elim) (fun p e s m args below meth c hx hb hr hlocks pc I2 J2 H locs arr hd h hP hS hsz => ?_))
        subst hsz
        exact W.vret hx hb hr (fun t ht hW => ⟨⟨(I2, J2), rfl, h, by show va_P _ _ _ t.heap; rw [ht]; exact hP⟩, hS.F ht⟩) hS.2.2 hd hlocks
      | some .int, _, body =>
        refine Or.inl (body _ (fun p e s m args below meth c hx hb hr hlocks pc x I2 J2 H locs arr hd h hP hS hsz => ?_) (fun p e s m args below meth c _ _ _ _ pc I2 J2 H locs arr _ h => h.elim))
        subst hsz
        exact W.iret (v := x) hx hb hr (fun t ht hW => ⟨⟨x, (I2, J2), rfl, h, by show va_P _ _ _ t.heap; rw [ht]; exact hP⟩, hS.F ht⟩) hS.2.2 hd hlocks
      | some .boolean, _, body =>
        refine Or.inl (body _ (fun p e s m args below meth c hx hb hr hlocks pc x I2 J2 H locs arr hd h hP hS hsz => ?_) (fun p e s m args below meth c _ _ _ _ pc I2 J2 H locs arr _ h => h.elim))
        subst hsz
        exact W.zret (v := x) hx hb hr (by rcases h.1 with rfl | rfl <;> rfl) (fun t ht hW => ⟨⟨x, (I2, J2), rfl, h.2, by show va_P _ _ _ t.heap; rw [ht]; exact hP⟩, hS.F ht⟩) hS.2.2 hd hlocks
      | some .byte, o3, _ => exact absurd o3 (by decide)
      | some .char, o3, _ => exact absurd o3 (by decide)
      | some .short, o3, _ => exact absurd o3 (by decide)
      | some .long, o3, _ => exact absurd o3 (by decide)
      | some .float, o3, _ => exact absurd o3 (by decide)
      | some .double, o3, _ => exact absurd o3 (by decide)
      | some (.object _), o3, _ => exact absurd o3 (by simp [mv_rk])
      | some (.array _), o3, _ => exact absurd o3 (by simp [mv_rk])
