set_option maxHeartbeats 1000000 in
theorem x_lets {d : Nat} (hd : 2 ≤ d) (a : Int32) {I : mv_I} {J : mv_J} {Q : mv_Q} (ha : 0 ≤ a.toInt) (h : Q (some (.inl (if yl_L (I 73) (I 12 32) a.toNatClampNeg = true then 1 else 0))) I J) : mv_wpM mv_tab mv_sh d 114 [.inr (.inr 12), .inl a] I J Q := by
  obtain ⟨d, rfl⟩ : ∃ e, d = e + 1 := ⟨d - 1, by omega⟩
  refine (show ∃ fu9, mv_wp (mv_wpM mv_tab mv_sh d) mv_sh none tbX8_lets flX8 csX8 2 (fun _ _ _ _ _ => False) Q fu9 0 [some (.inr (.inr 12)), some (.inl a)] [] I J from ?_)
  refine ⟨60, ?_⟩
  have ka := mi_cl ha
  have c59 : (59 : Int32).toInt = 59 := by decide
  refine And.intro (fun q => ?_) (fun q => ?_)
  · have qa : a.toNatClampNeg < 60 := by (try simp only [mi_le, mi_lt, mi_eq] at q); omega
    refine e_rtaken (by omega) _ (D := a.toNatClampNeg) qa (mi_nI ha).symm ?_
    refine And.intro (fun q2 => ?_) (fun q2 => ?_)
    · rw [if_neg (yl_Lf qa (fun z => by rw [mi_lt] at q2; rw [mi_le] at z; omega))] at h
      exact And.intro (Or.inl rfl) h
    · rw [if_pos (yl_Lt qa (by rw [mi_lt] at q2; rw [mi_le]; omega))] at h
      exact And.intro (Or.inr rfl) h
  · have qa : 59 < a.toNatClampNeg := by (try simp only [mi_le, mi_lt, mi_eq] at q); omega
    have e9 : yl_L (I 73) (I 12 32) a.toNatClampNeg = yl_L (I 73) (I 12 32) 59 := by
      unfold yl_L
      rw [Nat.min_eq_right (by omega)]
      rfl
    rw [e9] at h
    refine e_rtaken (by omega) _ (D := 59) (by decide) (by decide) ?_
    refine And.intro (fun q2 => ?_) (fun q2 => ?_)
    · rw [if_neg (yl_Lf (by decide) (fun z => by rw [mi_lt] at q2; rw [mi_le] at z; omega))] at h
      exact And.intro (Or.inl rfl) h
    · rw [if_pos (yl_Lt (by decide) (by rw [mi_lt] at q2; rw [mi_le]; omega))] at h
      exact And.intro (Or.inr rfl) h
set_option maxHeartbeats 1000000 in
theorem x_en1 {d : Nat} (hd : 2 ≤ d) {a b : Int32} {I : mv_I} {J : mv_J} {Q : mv_Q} : ∀ (k fu D l : Nat) (m x : Int32), 60 - D = k → D ≤ 200000 → l + 1 ≤ 20000 → x = nI D → m = nI (l + 1) → (∀ r : Int32, r.toInt = yl_enG (yl_L (I 73) (I 12 32)) k D (l + 1) → Q (some (.inl r)) I J) → 60 * (k + 1) ≤ fu → mv_wp (mv_wpM mv_tab mv_sh d) mv_sh none tbX8_endOf flX8 csX8 1 (fun _ _ _ _ _ => False) Q fu 5 [some (.inr (.inr 12)), some (.inl a), some (.inl b), some (.inl m), some (.inl x)] [] I J := by
  have c60 : (60 : Int32).toInt = 60 := by decide
  have c1 : (1 : Int32).toInt = 1 := by decide
  have c0 : (0 : Int32).toInt = 0 := by decide
  have cm : (-1 : Int32).toInt = -1 := by decide
  have n10 : ¬ (1 : Int32) = 0 := by decide
  have z59 : (59 : Int32).toNatClampNeg = 59 := by decide
  intro k
  induction k with
  | zero =>
    intro fu D l m x eD hD hl ex em h hf
    obtain ⟨fu, rfl⟩ : ∃ z, fu = z + 60 := ⟨fu - 60, by omega⟩
    have tx : x.toInt = D := by rw [ex]; exact nI_toInt (by omega)
    have tm : m.toInt = ((l + 1 : Nat) : Int) := by rw [em]; exact nI_toInt (by omega)
    have h : ∀ r : Int32, r.toInt = (if yl_L (I 73) (I 12 32) 59 = true then (D : Int) + ((l + 1 : Nat) : Int) - 1 else -1) → Q (some (.inl r)) I J := h
    refine And.intro (fun q => ?_) (fun q => absurd (mi_le.mpr (by rw [c60, tx]; omega)) q)
    refine x_lets (by omega) _ (by decide) ?_
    rw [z59]
    by_cases c : yl_L (I 73) (I 12 32) 59 = true
    · rw [if_pos c]
      rw [if_pos c] at h
      refine And.intro (fun q => absurd q n10) (fun _ => ?_)
      refine h _ ?_
      have e1 : (x + m).toInt = x.toInt + m.toInt := mi_add (by omega) (by omega)
      rw [mi_sub (by rw [e1, c1]; omega) (by rw [e1, c1]; omega), e1, c1]
      omega
    · rw [if_neg c]
      rw [if_neg c] at h
      refine And.intro (fun _ => ?_) (fun q => absurd rfl q)
      exact h _ cm
  | succ k ih =>
    intro fu D l m x eD hD hl ex em h hf
    obtain ⟨fu, rfl⟩ : ∃ z, fu = z + 60 := ⟨fu - 60, by omega⟩
    have tx : x.toInt = D := by rw [ex]; exact nI_toInt (by omega)
    have cx : x.toNatClampNeg = D := by rw [ex]; exact nI_clamp (by omega)
    have tm : m.toInt = ((l + 1 : Nat) : Int) := by rw [em]; exact nI_toInt (by omega)
    refine And.intro (fun q => ?_) (fun q => ?_)
    · rw [mi_le, c60, tx] at q
      omega
    · refine x_lets (by omega) x (by omega) ?_
      rw [cx]
      by_cases c : yl_L (I 73) (I 12 32) D = true
      · rw [if_pos c]
        refine And.intro (fun q => absurd q n10) (fun _ => ?_)
        have e1 : (m - 1).toInt = (l : Int) := by rw [mi_sub (by rw [c1]; omega) (by rw [c1]; omega), c1]; omega
        refine And.intro (fun q3 => ?_) (fun q3 => ?_)
        · have l0 : ¬ l = 0 := fun z => q3 (mi_eq.mpr (by rw [e1, c0]; omega))
          obtain ⟨l, rfl⟩ : ∃ z, l = z + 1 := ⟨l - 1, by omega⟩
          refine And.intro ?_ trivial
          refine ih _ (D + 1) l _ _ (by omega) (by omega) (by omega) (by rw [ex]; exact nI_1 D) (mi_eq.mpr (by rw [e1, nI_toInt (by omega)])) (fun r hr => h r ?_) (by omega)
          rw [hr]
          show _ = (if yl_L (I 73) (I 12 32) D = true then (if l + 1 + 1 = 1 then (D : Int) else yl_enG (yl_L (I 73) (I 12 32)) k (D + 1) (l + 1 + 1 - 1)) else _)
          rw [if_pos c, if_neg (by omega)]
          rfl
        · have l0 : l = 0 := by rw [mi_eq, e1, c0] at q3; omega
          subst l0
          refine h _ ?_
          show _ = (if yl_L (I 73) (I 12 32) D = true then (if 0 + 1 = 1 then (D : Int) else yl_enG (yl_L (I 73) (I 12 32)) k (D + 1) (0 + 1 - 1)) else _)
          rw [if_pos c, if_pos rfl]
          exact tx
      · rw [if_neg c]
        refine And.intro (fun _ => ?_) (fun q => absurd rfl q)
        have e1 : m - 0 = m := by
          refine mi_eq.mpr ?_
          rw [mi_sub (by rw [c0]; omega) (by rw [c0]; omega), c0]
          omega
        refine And.intro (fun q3 => ?_) (fun q3 => ?_)
        · refine And.intro ?_ trivial
          refine ih _ (D + 1) l _ _ (by omega) (by omega) hl (by rw [ex]; exact nI_1 D) (e1.trans em) (fun r hr => h r ?_) (by omega)
          rw [hr]
          exact (if_neg c).symm
        · have q4 : m = 0 := e1.symm.trans q3
          rw [mi_eq, tm, c0] at q4
          omega
set_option maxHeartbeats 1000000 in
theorem x_endOf {d : Nat} (hd : 3 ≤ d) (a b : Int32) {I : mv_I} {J : mv_J} {Q : mv_Q} {D : Nat} (ha : a.toInt = D) (hD : D ≤ 200000) (hb : rg b 1 20000) (h : ∀ r : Int32, r.toInt = yl_enG (yl_L (I 73) (I 12 32)) (60 - D) D b.toNatClampNeg → Q (some (.inl r)) I J) : mv_wpM mv_tab mv_sh d 115 [.inr (.inr 12), .inl a, .inl b] I J Q := by
  obtain ⟨d, rfl⟩ : ∃ e, d = e + 1 := ⟨d - 1, by omega⟩
  refine (show ∃ fu9, mv_wp (mv_wpM mv_tab mv_sh d) mv_sh none tbX8_endOf flX8 csX8 1 (fun _ _ _ _ _ => False) Q fu9 0 [some (.inr (.inr 12)), some (.inl a), some (.inl b), none, none] [] I J from ?_)
  refine ⟨3800, ?_⟩
  obtain ⟨b0, b1⟩ := hb
  have kb := mi_cl (x := b) (by omega)
  obtain ⟨l, el⟩ : ∃ l, b.toNatClampNeg = l + 1 := ⟨b.toNatClampNeg - 1, by omega⟩
  rw [el] at h
  have eb : b = nI (l + 1) := by rw [← el]; exact (mi_nI (by omega)).symm
  have ea : a = nI D := mi_eq.mpr (by rw [ha, nI_toInt (by omega)])
  refine And.intro ?_ trivial
  exact x_en1 (by omega) (60 - D) _ D l _ _ rfl hD (by omega) ea eb h (Nat.le_trans (show 60 * (60 - D + 1) ≤ 3660 by omega) (Nat.le_of_ble_eq_true rfl))
/-! what a row costs -/
def yl_rv2 (c : Int) : Option Int → Int
  | none => -1
  | some t => c + t
def yl_RW (f : Nat → Int32) (w : List Nat) : Prop := ∀ z, z < w.length → f z = nI (yl_at w z)
def yl_W6 (w : List Nat) (cn : Nat) : Prop := w.length ≤ 6 ∧ ∀ z, z < w.length → yl_at w z < cn
def yl_M (A R B Y U : Nat → Int32) (f : Nat → Int32) (b : Int32) (I : mv_I) : Prop := I 67 = A ∧ I 68 = R ∧ I 69 = B ∧ I 70 = Y ∧ I 71 = U ∧ I 73 = f ∧ I 12 32 = b
theorem yl_upd (f : Nat → Int32) (n : Nat) (v : Int32) : upd f n v n = v := by
  unfold upd
  rw [if_pos rfl]
theorem yl_vu (I : mv_I) (c : Nat) (f : Nat → Int32) (n : Nat) (v : Int32) : va_up I c (upd f n v) c n = v := by
  rw [va_up_self]
  exact yl_upd f n v
theorem yl_rv2_z {E C : Nat → Int → Int} {s : Nat} {o : List Nat} {e c : Int} (h : ¬ E s e < 0) (z : C s (E s e) = 0) : yl_rv2 c (yl_oc E C o (E s e)) = yl_rv2 c (yl_oc E C (s :: o) e) := by
  cases hy : yl_oc E C o (E s e) with
  | none => rw [yl_oc_0 h hy]
  | some y =>
    rw [yl_oc_c h hy, z]
    show c + y = c + (0 + y)
    omega
theorem yl_rv2_s {E C : Nat → Int → Int} {s : Nat} {o : List Nat} {e c : Int} (h : ¬ E s e < 0) : yl_rv2 (c + C s (E s e)) (yl_oc E C o (E s e)) = yl_rv2 c (yl_oc E C (s :: o) e) := by
  cases hy : yl_oc E C o (E s e) with
  | none => rw [yl_oc_0 h hy]; rfl
  | some y =>
    rw [yl_oc_c h hy]
    show c + C s (E s e) + y = c + (C s (E s e) + y)
    omega
set_option maxHeartbeats 1000000 in
theorem x_rc1 {A R B Y U f : Nat → Int32} {b : Int32} {cn : Nat} (hD : yl_D A R B Y U cn) {d : Nat} (hd : 3 ≤ d) {w : List Nat} (hw : yl_W6 w cn) {n : Int32} (en : n = nI w.length) {J : mv_J} {Q : mv_Q} {I0 : mv_I} (hM : yl_M A R B Y U f b I0) (hR : yl_RW (I0 74) w) : ∀ (k fu i : Nat) (e c : Int) (fr sm x : Int32) (y z : Option mv_V) (I : mv_I), i + k = w.length → x = nI i → fr.toInt = e + 1 → sm.toInt = c → -1 ≤ e → e ≤ 59 + 20000 * (i : Int) → 0 ≤ c → c ≤ 12006000 * (i : Int) → mg_f2 [75, 76, 77] [] I0 I → (∀ (r : Int32) (I' : mv_I), mg_f2 [75, 76, 77] [] I0 I' → r.toInt = yl_rv2 c (yl_oc (yl_E (yl_L f b) A R B) (yl_C A Y U) (w.drop i) e) → Q (some (.inl r)) I' J) → 140 * (k + 1) ≤ fu → mv_wp (mv_wpM mv_tab mv_sh d) mv_sh none tbX8_costOf flX8 csX8 1 (fun _ _ _ _ _ => False) Q fu 7 [some (.inr (.inr 12)), some (.inl n), some (.inl fr), some (.inl sm), some (.inl x), y, z] [] I J := by
  have BD := hD.bd (L := yl_L f b)
  obtain ⟨hcn, hA, hN, hY, hU⟩ := id hD
  obtain ⟨w6, wv⟩ := hw
  have c0 : (0 : Int32).toInt = 0 := by decide
  have c1 : (1 : Int32).toInt = 1 := by decide
  have cm : (-1 : Int32).toInt = -1 := by decide
  intro k
  induction k with
  | zero =>
    intro fu i e c fr sm x y z I hi ex efr esm he1 he2 hc0 hc1 h1 h hf
    obtain ⟨fu, rfl⟩ : ∃ z, fu = z + 140 := ⟨fu - 140, by omega⟩
    refine And.intro (fun q => ?_) (fun q => absurd (mi_le.mpr (by rw [en, ex, nI_toInt (by omega), nI_toInt (by omega)]; omega)) q)
    refine h _ _ h1 ?_
    have ed : w.drop i = [] := List.drop_eq_nil_of_le (by omega)
    rw [ed, esm]
    show c = c + 0
    omega
  | succ k ih =>
    intro fu i e c fr sm x y z I hi ex efr esm he1 he2 hc0 hc1 h1 h hf
    obtain ⟨fu, rfl⟩ : ∃ z, fu = z + 140 := ⟨fu - 140, by omega⟩
    have tx : x.toInt = i := by rw [ex]; exact nI_toInt (by omega)
    have cx : x.toNatClampNeg = i := by rw [ex]; exact nI_clamp (by omega)
    have Bx : vp_in x 6 := by rw [ex]; exact vp_in_nI (by omega) (by decide)
    obtain ⟨m1, m2, m3, m4, m5, m6, m7⟩ := id hM
    have k1 : I 67 = A := (f2_fn (c := 67) h1 rfl (fun _ => rfl)).trans m1
    have k2 : I 68 = R := (f2_fn (c := 68) h1 rfl (fun _ => rfl)).trans m2
    have k3 : I 69 = B := (f2_fn (c := 69) h1 rfl (fun _ => rfl)).trans m3
    have k4 : I 70 = Y := (f2_fn (c := 70) h1 rfl (fun _ => rfl)).trans m4
    have k5 : I 71 = U := (f2_fn (c := 71) h1 rfl (fun _ => rfl)).trans m5
    have k6 : I 73 = f := (f2_fn (c := 73) h1 rfl (fun _ => rfl)).trans m6
    have k7 : I 12 32 = b := (h1 12 32 rfl rfl).trans m7
    have erow : I 74 x.toNatClampNeg = nI (yl_at w i) := by rw [h1 74 _ rfl rfl, cx]; exact hR i (by omega)
    have DR0 := yl_drop w i (by omega)
    have ws := wv i (by omega)
    refine And.intro (fun q => ?_) (fun q => ?_)
    · rw [mi_le, en, ex, nI_toInt (by omega), nI_toInt (by omega)] at q
      omega
    · refine And.intro Bx ?_
      rw [erow]
      generalize hs : yl_at w i = s at *
      have DR : w.drop i = s :: w.drop (i + 1) := DR0
      have cs : (nI s).toNatClampNeg = s := nI_clamp (by omega)
      have Bs : vp_in (nI s) 6 := vp_in_nI (by omega) (by decide)
      have bd := BD s ws i e (by omega) he1 he2
      obtain ⟨a0, a1⟩ := hA s
      obtain ⟨y0, y1⟩ := hY s
      obtain ⟨u0, u1⟩ := hU s
      have nz : ¬ I 69 (nI s).toNatClampNeg = 0 := by
        rw [cs, k3]
        intro z
        have := (hN s ws).2.1
        rw [z] at this
        exact absurd this (by decide)
      have DN := mg_days (hN s ws).1 (hN s ws).2
      have hr0 : ((max (A s).toInt (e + 1)).toNat : Int) = max (A s).toInt (e + 1) := Int.toNat_of_nonneg (by omega)
      have INC : ∀ r : Int32, r.toInt ≤ 200000 → r.toInt = yl_E (yl_L f b) A R B s e → (r + 1).toInt = yl_E (yl_L f b) A R B s e + 1 := fun r h9 h8 => by rw [mi_inc (n := 200001) (by omega) (by omega), h8]
      have beyond : ∀ r : Int32, 0 ≤ r.toInt → r.toInt ≤ 120059 → (r - A (nI s).toNatClampNeg + 1 - Y (nI s).toNatClampNeg ≤ 0 → yl_C A Y U s r.toInt = 0) ∧ (¬ r - A (nI s).toNatClampNeg + 1 - Y (nI s).toNatClampNeg ≤ 0 → (U (nI s).toNatClampNeg * (r - A (nI s).toNatClampNeg + 1 - Y (nI s).toNatClampNeg)).toInt = yl_C A Y U s r.toInt) := by
        intro r r0 r1
        rw [cs]
        have e1 : (r - A s).toInt = r.toInt - (A s).toInt := mi_sub (by omega) (by omega)
        have e2 : (r - A s + 1).toInt = r.toInt - (A s).toInt + 1 := by rw [mi_add (by rw [e1, c1]; omega) (by rw [e1, c1]; omega), e1, c1]
        have e3 : (r - A s + 1 - Y s).toInt = r.toInt - (A s).toInt + 1 - (Y s).toInt := by rw [mi_sub (by rw [e2]; omega) (by rw [e2]; omega), e2]
        refine ⟨fun q => ?_, fun q => ?_⟩
        · rw [mi_le, e3, c0] at q
          unfold yl_C
          rw [show max 0 (r.toInt - (A s).toInt + 1 - (Y s).toInt) = 0 by omega, Int.mul_zero]
        · rw [mi_le, e3, c0] at q
          have x0 : 0 ≤ r.toInt - (A s).toInt + 1 - (Y s).toInt := by omega
          have x1 : r.toInt - (A s).toInt + 1 - (Y s).toInt ≤ 120060 := by omega
          have p0 := Int.mul_nonneg u0 x0
          have p1 := Int.mul_le_mul u1 x1 x0 (show (0 : Int) ≤ 100 by omega)
          unfold yl_C
          rw [mi_mul (by rw [e3]; exact Int.le_trans (by decide) p0) (by rw [e3]; exact Int.le_trans p1 (by decide)), e3, show max 0 (r.toInt - (A s).toInt + 1 - (Y s).toInt) = r.toInt - (A s).toInt + 1 - (Y s).toInt by omega]
      refine And.intro Bs ?_
      refine And.intro (fun q2 => ?_) (fun q2 => ?_)
      · rw [k1, cs, mi_le, efr] at q2
        refine And.intro Bx ?_
        refine And.intro Bx ?_
        refine And.intro Bs ?_
        refine And.intro Bs ?_
        refine And.intro Bs ?_
        refine And.intro nz ?_
        refine x_endOf (by omega) _ _ (D := (max (A s).toInt (e + 1)).toNat) (by rw [yl_vu, efr, hr0]; omega) (by omega) (show rg ((I 68 (nI s).toNatClampNeg + I 69 (nI s).toNatClampNeg - 1) / I 69 (nI s).toNatClampNeg) 1 20000 by rw [cs, k2, k3]; exact DN) (fun r hr => ?_)
        have hr : r.toInt = yl_enG (yl_L (I 73) (I 12 32)) (60 - (max (A s).toInt (e + 1)).toNat) (max (A s).toInt (e + 1)).toNat ((I 68 (nI s).toNatClampNeg + I 69 (nI s).toNatClampNeg - 1) / I 69 (nI s).toNatClampNeg).toNatClampNeg := hr
        rw [cs, k2, k3, k6, k7] at hr
        have hr : r.toInt = yl_E (yl_L f b) A R B s e := hr
        have SUM : ¬ yl_E (yl_L f b) A R B s e < 0 → ∀ v : Int32, v.toInt = yl_C A Y U s r.toInt → (sm + v).toInt = c + yl_C A Y U s (yl_E (yl_L f b) A R B s e) := fun zE v hv => by
          rw [hr] at hv
          obtain ⟨b1, b2, b3, b4⟩ := bd.resolve_left zE
          rw [mi_add (by rw [hv]; omega) (by rw [hv]; omega), hv, esm]
        refine And.intro Bx ?_
        refine And.intro Bx ?_
        refine And.intro (fun q5 => ?_) (fun q5 => ?_)
        · rw [yl_vu, mi_le, c0] at q5
          have nE : ¬ yl_E (yl_L f b) A R B s e < 0 := by omega
          obtain ⟨b1, b2, b3, b4⟩ := bd.resolve_left nE
          have BY := beyond r (by omega) (by omega)
          refine And.intro Bx ?_
          refine And.intro Bx ?_
          refine And.intro Bs ?_
          refine And.intro Bs ?_
          refine And.intro (fun q6 => ?_) (fun q6 => ?_)
          · refine And.intro Bx ?_
            refine And.intro Bx ?_
            refine And.intro ?_ trivial
            refine ih _ (i + 1) (yl_E (yl_L f b) A R B s e) c _ _ _ _ _ _ (by omega) (by rw [ex]; exact nI_1 i) (by rw [yl_vu]; exact INC r (by omega) hr) (by rw [yl_vu, mi_add (by rw [c0]; omega) (by rw [c0]; omega), c0]; omega) (by omega) (by omega) hc0 (by omega) (by repeat (first | exact mg_f2.rf | assumption | refine mg_f2.up ?_ rfl | refine mg_f2.uf ?_ rfl)) (fun r9 I9 f9 e9 => h _ _ f9 ?_) (by omega)
            rw [e9, DR]
            have z0 : yl_C A Y U s (yl_E (yl_L f b) A R B s e) = 0 := by
              rw [yl_vu] at q6
              have q7 : r - I 67 (nI s).toNatClampNeg + 1 - I 70 (nI s).toNatClampNeg ≤ 0 := q6
              rw [k1, k4] at q7
              rw [← hr]
              exact BY.1 q7
            exact yl_rv2_z nE z0
          · refine And.intro Bs ?_
            refine And.intro Bx ?_
            refine And.intro Bx ?_
            refine And.intro ?_ trivial
            rw [yl_vu] at q6
            have q7 : ¬ r - I 67 (nI s).toNatClampNeg + 1 - I 70 (nI s).toNatClampNeg ≤ 0 := q6
            rw [k1, k4] at q7
            have CV := BY.2 q7
            refine ih _ (i + 1) (yl_E (yl_L f b) A R B s e) (c + yl_C A Y U s (yl_E (yl_L f b) A R B s e)) _ _ _ _ _ _ (by omega) (by rw [ex]; exact nI_1 i) (by rw [yl_vu]; exact INC r (by omega) hr) (by simp only [yl_vu]; show (sm + I 71 (nI s).toNatClampNeg * (r - I 67 (nI s).toNatClampNeg + 1 - I 70 (nI s).toNatClampNeg)).toInt = _; rw [k1, k4, k5]; exact SUM nE _ CV) (by omega) (by omega) (by omega) (by omega) (by repeat (first | exact mg_f2.rf | assumption | refine mg_f2.up ?_ rfl | refine mg_f2.uf ?_ rfl)) (fun r9 I9 f9 e9 => h _ _ f9 ?_) (by omega)
            rw [e9, DR]
            exact yl_rv2_s nE
        · rw [yl_vu, mi_le, c0] at q5
          refine h _ _ (by repeat (first | exact mg_f2.rf | assumption | refine mg_f2.up ?_ rfl | refine mg_f2.uf ?_ rfl)) ?_
          rw [DR, yl_oc_n (show yl_E (yl_L f b) A R B s e < 0 by omega)]
          exact cm
      · rw [k1, cs, mi_le, efr] at q2
        refine And.intro Bs ?_
        refine And.intro Bx ?_
        refine And.intro Bx ?_
        refine And.intro Bs ?_
        refine And.intro Bs ?_
        refine And.intro Bs ?_
        refine And.intro nz ?_
        refine x_endOf (by omega) _ _ (D := (max (A s).toInt (e + 1)).toNat) (by rw [yl_vu, k1, cs, hr0]; omega) (by omega) (show rg ((I 68 (nI s).toNatClampNeg + I 69 (nI s).toNatClampNeg - 1) / I 69 (nI s).toNatClampNeg) 1 20000 by rw [cs, k2, k3]; exact DN) (fun r hr => ?_)
        have hr : r.toInt = yl_enG (yl_L (I 73) (I 12 32)) (60 - (max (A s).toInt (e + 1)).toNat) (max (A s).toInt (e + 1)).toNat ((I 68 (nI s).toNatClampNeg + I 69 (nI s).toNatClampNeg - 1) / I 69 (nI s).toNatClampNeg).toNatClampNeg := hr
        rw [cs, k2, k3, k6, k7] at hr
        have hr : r.toInt = yl_E (yl_L f b) A R B s e := hr
        have SUM : ¬ yl_E (yl_L f b) A R B s e < 0 → ∀ v : Int32, v.toInt = yl_C A Y U s r.toInt → (sm + v).toInt = c + yl_C A Y U s (yl_E (yl_L f b) A R B s e) := fun zE v hv => by
          rw [hr] at hv
          obtain ⟨b1, b2, b3, b4⟩ := bd.resolve_left zE
          rw [mi_add (by rw [hv]; omega) (by rw [hv]; omega), hv, esm]
        refine And.intro Bx ?_
        refine And.intro Bx ?_
        refine And.intro (fun q5 => ?_) (fun q5 => ?_)
        · rw [yl_vu, mi_le, c0] at q5
          have nE : ¬ yl_E (yl_L f b) A R B s e < 0 := by omega
          obtain ⟨b1, b2, b3, b4⟩ := bd.resolve_left nE
          have BY := beyond r (by omega) (by omega)
          refine And.intro Bx ?_
          refine And.intro Bx ?_
          refine And.intro Bs ?_
          refine And.intro Bs ?_
          refine And.intro (fun q6 => ?_) (fun q6 => ?_)
          · refine And.intro Bx ?_
            refine And.intro Bx ?_
            refine And.intro ?_ trivial
            refine ih _ (i + 1) (yl_E (yl_L f b) A R B s e) c _ _ _ _ _ _ (by omega) (by rw [ex]; exact nI_1 i) (by rw [yl_vu]; exact INC r (by omega) hr) (by rw [yl_vu, mi_add (by rw [c0]; omega) (by rw [c0]; omega), c0]; omega) (by omega) (by omega) hc0 (by omega) (by repeat (first | exact mg_f2.rf | assumption | refine mg_f2.up ?_ rfl | refine mg_f2.uf ?_ rfl)) (fun r9 I9 f9 e9 => h _ _ f9 ?_) (by omega)
            rw [e9, DR]
            have z0 : yl_C A Y U s (yl_E (yl_L f b) A R B s e) = 0 := by
              rw [yl_vu] at q6
              have q7 : r - I 67 (nI s).toNatClampNeg + 1 - I 70 (nI s).toNatClampNeg ≤ 0 := q6
              rw [k1, k4] at q7
              rw [← hr]
              exact BY.1 q7
            exact yl_rv2_z nE z0
          · refine And.intro Bs ?_
            refine And.intro Bx ?_
            refine And.intro Bx ?_
            refine And.intro ?_ trivial
            rw [yl_vu] at q6
            have q7 : ¬ r - I 67 (nI s).toNatClampNeg + 1 - I 70 (nI s).toNatClampNeg ≤ 0 := q6
            rw [k1, k4] at q7
            have CV := BY.2 q7
            refine ih _ (i + 1) (yl_E (yl_L f b) A R B s e) (c + yl_C A Y U s (yl_E (yl_L f b) A R B s e)) _ _ _ _ _ _ (by omega) (by rw [ex]; exact nI_1 i) (by rw [yl_vu]; exact INC r (by omega) hr) (by simp only [yl_vu]; show (sm + I 71 (nI s).toNatClampNeg * (r - I 67 (nI s).toNatClampNeg + 1 - I 70 (nI s).toNatClampNeg)).toInt = _; rw [k1, k4, k5]; exact SUM nE _ CV) (by omega) (by omega) (by omega) (by omega) (by repeat (first | exact mg_f2.rf | assumption | refine mg_f2.up ?_ rfl | refine mg_f2.uf ?_ rfl)) (fun r9 I9 f9 e9 => h _ _ f9 ?_) (by omega)
            rw [e9, DR]
            exact yl_rv2_s nE
        · rw [yl_vu, mi_le, c0] at q5
          refine h _ _ (by repeat (first | exact mg_f2.rf | assumption | refine mg_f2.up ?_ rfl | refine mg_f2.uf ?_ rfl)) ?_
          rw [DR, yl_oc_n (show yl_E (yl_L f b) A R B s e < 0 by omega)]
          exact cm
set_option maxHeartbeats 1000000 in
theorem x_rcost {A R B Y U f : Nat → Int32} {b : Int32} {cn : Nat} (hD : yl_D A R B Y U cn) {d : Nat} (hd : 4 ≤ d) {w : List Nat} (hw : yl_W6 w cn) (n : Int32) (en : n = nI w.length) {I : mv_I} {J : mv_J} {Q : mv_Q} (hM : yl_M A R B Y U f b I) (hR : yl_RW (I 74) w) (h : ∀ (r : Int32) (I' : mv_I), mg_f2 [75, 76, 77] [] I I' → r.toInt = yl_rv2 0 (yl_oc (yl_E (yl_L f b) A R B) (yl_C A Y U) w (-1)) → Q (some (.inl r)) I' J) : mv_wpM mv_tab mv_sh d 116 [.inr (.inr 12), .inl n] I J Q := by
  obtain ⟨d, rfl⟩ : ∃ e, d = e + 1 := ⟨d - 1, by omega⟩
  refine (show ∃ fu9, mv_wp (mv_wpM mv_tab mv_sh d) mv_sh none tbX8_costOf flX8 csX8 1 (fun _ _ _ _ _ => False) Q fu9 0 [some (.inr (.inr 12)), some (.inl n), none, none, none, none, none] [] I J from ?_)
  refine ⟨1000, ?_⟩
  refine And.intro ?_ trivial
  have h6 := hw.1
  exact x_rc1 hD (by omega) hw en hM hR w.length _ 0 (-1) 0 _ _ _ _ _ _ (by omega) rfl (by decide) (by decide) (by omega) (by omega) (by omega) (by omega) mg_f2.rf h (Nat.le_trans (show 140 * (w.length + 1) ≤ 980 by omega) (Nat.le_of_ble_eq_true rfl))
theorem yl_sw_len (w : List Nat) (a b : Nat) : (yl_sw w a b).length = w.length := by
  unfold yl_sw
  rw [yl_st_len, yl_st_len]
theorem yl_sw_at {w : List Nat} {a b : Nat} (ha : a < w.length) (hb : b < w.length) (z : Nat) : yl_at (yl_sw w a b) z = yl_at w (if z = b then a else if z = a then b else z) := by
  unfold yl_sw
  rw [yl_at_st _ _ _ _ (by rw [yl_st_len]; exact hb), yl_at_st _ _ _ _ ha]
  by_cases c1 : z = b
  · rw [if_pos c1, if_pos c1]
  · rw [if_neg c1, if_neg c1]
    by_cases c2 : z = a
    · rw [if_pos c2, if_pos c2]
    · rw [if_neg c2, if_neg c2]
theorem yl_ix {a b n z : Nat} (ha : a < n) (hb : b < n) (hz : z < n) : (if z = b then a else if z = a then b else z) < n := by
  by_cases c1 : z = b
  · rw [if_pos c1]; exact ha
  · rw [if_neg c1]
    by_cases c2 : z = a
    · rw [if_pos c2]; exact hb
    · rw [if_neg c2]; exact hz
theorem yl_RW.sw {f : Nat → Int32} {w : List Nat} {a b : Nat} (h : yl_RW f w) (ha : a < w.length) (hb : b < w.length) : yl_RW (mr_sw f a b) (yl_sw w a b) := by
  intro z hz
  rw [yl_sw_len] at hz
  rw [mr_sw_at, yl_sw_at ha hb]
  exact h _ (yl_ix ha hb hz)
theorem yl_W6.sw {w : List Nat} {a b cn : Nat} (h : yl_W6 w cn) (ha : a < w.length) (hb : b < w.length) : yl_W6 (yl_sw w a b) cn := by
  unfold yl_W6
  rw [yl_sw_len]
  exact ⟨h.1, fun z hz => by rw [yl_sw_at ha hb]; exact h.2 _ (yl_ix ha hb hz)⟩
theorem nI_dec {b : Nat} (h : 1 ≤ b) (h2 : b < 100) : nI b + -1 = nI (b - 1) := by
  refine mi_eq.mpr ?_
  have t : (nI b).toInt = b := nI_toInt (by omega)
  rw [mi_dec (by omega), t, nI_toInt (by omega)]
  omega
set_option maxHeartbeats 1000000 in
theorem x_cu3 {d : Nat} (hd : 1 ≤ d) {n i j : Int32} {J : mv_J} {Q : mv_Q} {I0 : mv_I} {N : Nat} {W : List Nat} (H1 : ∀ (I' : mv_I), mg_f2 [74] [] I0 I' → yl_RW (I' 74) W → W.length = N → Q (some (.inl 1)) I' J) : ∀ (k fu a b : Nat) (w : List Nat) (I : mv_I), w.length = N → N ≤ 6 → 1 ≤ a → a ≤ N → b < N → b < a + 2 * k → yl_rv k a b w = W → mg_f2 [74] [] I0 I → yl_RW (I 74) w → 60 * (k + 1) ≤ fu → mv_wp (mv_wpM mv_tab mv_sh d) mv_sh none tbX8_countsUp flX8 csX8 2 (fun _ _ _ _ _ => False) Q fu 78 [some (.inr (.inr 12)), some (.inl n), some (.inl i), some (.inl j), some (.inl (nI a)), some (.inl (nI b))] [] I J := by
  intro k
  induction k with
  | zero =>
    intro fu a b w I hl h6 ha ha2 hb hk hW h3 h4 hf
    obtain ⟨fu, rfl⟩ : ∃ z, fu = z + 60 := ⟨fu - 60, by omega⟩
    refine And.intro (fun q => ?_) (fun q => absurd (mi_le.mpr (by rw [nI_toInt (by omega), nI_toInt (by omega)]; omega)) q)
    have hW : w = W := hW
    subst hW
    exact And.intro (Or.inr rfl) (H1 _ h3 h4 hl)
  | succ k ih =>
    intro fu a b w I hl h6 ha ha2 hb hk hW h3 h4 hf
    obtain ⟨fu, rfl⟩ : ∃ z, fu = z + 60 := ⟨fu - 60, by omega⟩
    have hW : (if a < b then yl_rv k (a + 1) (b - 1) (yl_sw w a b) else w) = W := hW
    have ta : (nI a).toInt = a := nI_toInt (by omega)
    have tb : (nI b).toInt = b := nI_toInt (by omega)
    refine And.intro (fun q => ?_) (fun q => ?_)
    · rw [mi_le, ta, tb] at q
      rw [if_neg (by omega)] at hW
      subst hW
      exact And.intro (Or.inr rfl) (H1 _ h3 h4 hl)
    · rw [mi_le, ta, tb] at q
      rw [if_pos (by omega)] at hW
      refine r_swap (by omega) (nI a) (nI b) ⟨by omega, by omega⟩ ⟨by omega, by omega⟩ (fun I2 f2 g2 => ?_)
      rw [nI_clamp (by omega), nI_clamp (by omega)] at g2
      refine And.intro ?_ trivial
      rw [nI_1, nI_dec (by omega) (by omega)]
      exact ih _ (a + 1) (b - 1) (yl_sw w a b) I2 (by rw [yl_sw_len]; exact hl) h6 (by omega) (by omega) (by omega) (by omega) hW (h3.tr f2) (by rw [g2]; exact h4.sw (by omega) (by omega)) (by omega)
set_option maxHeartbeats 1000000 in
theorem x_cu2 {d : Nat} (hd : 1 ≤ d) {n : Int32} {J : mv_J} {Q : mv_Q} {I0 : mv_I} {w : List Nat} {i cn : Nat} (en : n = nI w.length) (h6 : yl_W6 w cn) (hcn : cn ≤ 6) (hi : i + 1 < w.length) (hle : ¬ yl_at w (i + 1) < yl_at w i) (hR : yl_RW (I0 74) w) (H1 : ∀ (I' : mv_I), mg_f2 [74] [] I0 I' → yl_RW (I' 74) (yl_rv 6 (i + 1) (w.length - 1) (yl_sw w i (yl_fj w i (w.length - 1)))) → (yl_rv 6 (i + 1) (w.length - 1) (yl_sw w i (yl_fj w i (w.length - 1)))).length = w.length → Q (some (.inl 1)) I' J) : ∀ (k fu : Nat), i < k → k < w.length → yl_fj w i (w.length - 1) = yl_fj w i k → 60 * (k + 1) + 500 ≤ fu → mv_wp (mv_wpM mv_tab mv_sh d) mv_sh none tbX8_countsUp flX8 csX8 2 (fun _ _ _ _ _ => False) Q fu 41 [some (.inr (.inr 12)), some (.inl n), some (.inl (nI i)), some (.inl (nI k)), none, none] [] I0 J := by
  obtain ⟨l6, wv⟩ := id h6
  intro k
  induction k with
  | zero => intro fu h0; omega
  | succ k ih =>
    intro fu h0 h1 hj hf
    obtain ⟨fu, rfl⟩ : ∃ z, fu = z + 60 := ⟨fu - 60, by omega⟩
    have ti : (nI i).toInt = i := nI_toInt (by omega)
    have tk : (nI (k + 1)).toInt = ((k + 1 : Nat) : Int) := nI_toInt (by omega)
    have ci : (nI i).toNatClampNeg = i := nI_clamp (by omega)
    have ck : (nI (k + 1)).toNatClampNeg = k + 1 := nI_clamp (by omega)
    have vi := hR i (by omega)
    have vk := hR (k + 1) (by omega)
    have bi := wv i (by omega)
    have bk := wv (k + 1) (by omega)
    have hj : yl_fj w i (w.length - 1) = (if yl_at w (k + 1) < yl_at w i then yl_fj w i k else k + 1) := hj
    refine And.intro (vp_in_nI (by omega) (by decide)) ?_
    refine And.intro (vp_in_nI (by omega) (by decide)) ?_
    rw [ci, ck, vi, vk]
    refine And.intro (fun q => ?_) (fun q => ?_)
    · rw [mi_le, nI_toInt (by omega), nI_toInt (by omega)] at q
      rw [if_neg (by omega)] at hj
      rw [hj] at H1
      refine r_swap (by omega) (nI i) (nI (k + 1)) ⟨by omega, by omega⟩ ⟨by omega, by omega⟩ (fun I2 f2 g2 => ?_)
      rw [ci, ck] at g2
      refine And.intro ?_ trivial
      have e1 : n - 1 = nI (w.length - 1) := by
        rw [en]
        refine mi_eq.mpr ?_
        have t : (nI w.length).toInt = w.length := nI_toInt (by omega)
        have c1 : (1 : Int32).toInt = 1 := by decide
        rw [mi_sub (by rw [t, c1]; omega) (by rw [t, c1]; omega), t, c1, nI_toInt (by omega)]
        omega
      rw [nI_1, e1]
      exact x_cu3 (by omega) (W := yl_rv 6 (i + 1) (w.length - 1) (yl_sw w i (k + 1))) (N := w.length) H1 6 _ (i + 1) (w.length - 1) (yl_sw w i (k + 1)) I2 (yl_sw_len _ _ _) l6 (by omega) (by omega) (by omega) (by omega) rfl f2 (by rw [g2]; exact hR.sw (by omega) (by omega)) (by omega)
    · rw [mi_le, nI_toInt (by omega), nI_toInt (by omega)] at q
      rw [if_pos (by omega)] at hj
      have nk : ¬ i = k := fun z => by subst z; omega
      refine And.intro ?_ trivial
      rw [nI_dec (by omega) (by omega)]
      exact ih _ (by omega) (by omega) hj (by omega)
set_option maxHeartbeats 1000000 in
theorem x_cu1 {d : Nat} (hd : 1 ≤ d) {n : Int32} {J : mv_J} {Q : mv_Q} {I0 : mv_I} {w : List Nat} {cn : Nat} (en : n = nI w.length) (h6 : yl_W6 w cn) (hcn : cn ≤ 6) (hR : yl_RW (I0 74) w) (H0 : yl_nx w = none → Q (some (.inl 0)) I0 J) (H1 : ∀ (I' : mv_I) (w' : List Nat), yl_nx w = some w' → mg_f2 [74] [] I0 I' → yl_RW (I' 74) w' → w'.length = w.length → Q (some (.inl 1)) I' J) : ∀ (k fu : Nat) (i : Int32), i.toInt + 1 = k → k < w.length → yl_fi w (w.length - 1) = yl_fi w k → 60 * (k + 1) + 1100 ≤ fu → mv_wp (mv_wpM mv_tab mv_sh d) mv_sh none tbX8_countsUp flX8 csX8 2 (fun _ _ _ _ _ => False) Q fu 4 [some (.inr (.inr 12)), some (.inl n), some (.inl i), none, none, none] [] I0 J := by
  obtain ⟨l6, wv⟩ := id h6
  have c0 : (0 : Int32).toInt = 0 := by decide
  intro k
  induction k with
  | zero =>
    intro fu i hi hk hj hf
    obtain ⟨fu, rfl⟩ : ∃ z, fu = z + 60 := ⟨fu - 60, by omega⟩
    refine And.intro (fun q => ?_) (fun q => absurd (mi_lt.mpr (by rw [c0]; omega)) q)
    refine And.intro (fun q2 => absurd q (fun z => by (try simp only [mi_le, mi_lt, mi_eq] at *); have := mi_l; omega)) (fun q2 => ?_)
    refine And.intro (Or.inl rfl) (H0 ?_)
    unfold yl_nx
    rw [hj]
    rfl
  | succ k ih =>
    intro fu i hi hk hj hf
    obtain ⟨fu, rfl⟩ : ∃ z, fu = z + 60 := ⟨fu - 60, by omega⟩
    have ei : i = nI k := mi_eq.mpr (by rw [nI_toInt (by omega)]; omega)
    subst ei
    have tk : (nI k).toInt = k := nI_toInt (by omega)
    have ck : (nI k).toNatClampNeg = k := nI_clamp (by omega)
    have ck1 : (nI (k + 1)).toNatClampNeg = k + 1 := nI_clamp (by omega)
    have vi := hR k (by omega)
    have vk := hR (k + 1) (by omega)
    have bi := wv k (by omega)
    have bk := wv (k + 1) (by omega)
    have hj : yl_fi w (w.length - 1) = (if yl_at w (k + 1) < yl_at w k then yl_fi w k else some k) := hj
    refine And.intro (fun q => ?_) (fun q => ?_)
    · rw [mi_lt, c0, tk] at q
      omega
    · refine And.intro (vp_in_nI (by omega) (by decide)) ?_
      refine And.intro (by rw [nI_1]; exact vp_in_nI (by omega) (by decide)) ?_
      rw [nI_1, ck, ck1, vi, vk]
      refine And.intro (fun q2 => ?_) (fun q2 => ?_)
      · rw [mi_le, nI_toInt (by omega), nI_toInt (by omega)] at q2
        have hle : ¬ yl_at w (k + 1) < yl_at w k := by omega
        rw [if_neg hle] at hj
        refine And.intro (fun q3 => ?_) (fun q3 => absurd (mi_le.mpr (by rw [c0, tk]; omega)) q3)
        refine And.intro ?_ trivial
        have e1 : n - 1 = nI (w.length - 1) := by
          rw [en]
          refine mi_eq.mpr ?_
          have t : (nI w.length).toInt = w.length := nI_toInt (by omega)
          have c1 : (1 : Int32).toInt = 1 := by decide
          rw [mi_sub (by rw [t, c1]; omega) (by rw [t, c1]; omega), t, c1, nI_toInt (by omega)]
          omega
        rw [e1]
        have hn : yl_nx w = some (yl_rv 6 (k + 1) (w.length - 1) (yl_sw w k (yl_fj w k (w.length - 1)))) := by
          unfold yl_nx
          rw [hj]
        exact x_cu2 (by omega) en h6 hcn (by omega) hle hR (fun I' f1 g1 g2 => H1 I' _ hn f1 g1 g2) (w.length - 1) _ (by omega) (by omega) rfl (by omega)
      · rw [mi_le, nI_toInt (by omega), nI_toInt (by omega)] at q2
        rw [if_pos (by omega)] at hj
        refine And.intro ?_ trivial
        exact ih _ _ (by rw [mi_dec (by omega), tk]; omega) (by omega) hj (by omega)
set_option maxHeartbeats 1000000 in
theorem x_cUp {d : Nat} (hd : 2 ≤ d) (n : Int32) {I : mv_I} {J : mv_J} {Q : mv_Q} {w : List Nat} {cn : Nat} (en : n = nI w.length) (w1 : 1 ≤ w.length) (h6 : yl_W6 w cn) (hcn : cn ≤ 6) (hR : yl_RW (I 74) w) (H0 : yl_nx w = none → Q (some (.inl 0)) I J) (H1 : ∀ (I' : mv_I) (w' : List Nat), yl_nx w = some w' → mg_f2 [74] [] I I' → yl_RW (I' 74) w' → w'.length = w.length → Q (some (.inl 1)) I' J) : mv_wpM mv_tab mv_sh d 119 [.inr (.inr 12), .inl n] I J Q := by
  obtain ⟨d, rfl⟩ : ∃ e, d = e + 1 := ⟨d - 1, by omega⟩
  refine (show ∃ fu9, mv_wp (mv_wpM mv_tab mv_sh d) mv_sh none tbX8_countsUp flX8 csX8 2 (fun _ _ _ _ _ => False) Q fu9 0 [some (.inr (.inr 12)), some (.inl n), none, none, none, none] [] I J from ?_)
  refine ⟨1800, ?_⟩
  have l6 := h6.1
  have c2 : (2 : Int32).toInt = 2 := by decide
  have t : n.toInt = w.length := by rw [en]; exact nI_toInt (by omega)
  have e2 : (n - 2).toInt = n.toInt - 2 := by rw [mi_sub (by omega) (by omega), c2]
  refine And.intro ?_ trivial
  exact x_cu1 (by omega) en h6 hcn hR H0 H1 (w.length - 1) _ _ (by omega) (by omega) rfl (Nat.le_trans (show 60 * (w.length - 1 + 1) + 1100 ≤ 1460 by omega) (Nat.le_of_ble_eq_true rfl))
theorem yl_chn_t {w : List Nat} {t : List (List Nat)} (h : yl_chn (w :: t) = true) : yl_chn t = true := (Bool.and_eq_true_iff.mp h).2
theorem yl_chn_n {w : List Nat} {t : List (List Nat)} (h : yl_chn (w :: t) = true) (hn : yl_nx w = none) : t = [] := by
  have h1 := (Bool.and_eq_true_iff.mp h).1
  cases t with
  | nil => rfl
  | cons w' t =>
    have h2 : yl_nx w = some w' := of_decide_eq_true h1
    rw [hn] at h2
    cases h2
theorem yl_chn_s {w w' : List Nat} {t : List (List Nat)} (h : yl_chn (w :: t) = true) (hn : yl_nx w = some w') : ∃ t', t = w' :: t' := by
  have h1 := (Bool.and_eq_true_iff.mp h).1
  cases t with
  | nil =>
    have h2 : yl_nx w = none := of_decide_eq_true h1
    rw [hn] at h2
    cases h2
  | cons w2 t =>
    have h2 : yl_nx w = some w2 := of_decide_eq_true h1
    rw [hn] at h2
    cases h2
    exact ⟨t, rfl⟩
def yl_ds : List Nat → Bool
  | [] => true
  | a :: t => t.all (fun v => decide (¬ v = a)) && yl_ds t
theorem yl_ds_at : ∀ (w : List Nat), yl_ds w = true → ∀ y z, y < w.length → z < w.length → yl_at w y = yl_at w z → y = z
  | [], _, y, _, hy, _, _ => absurd hy (Nat.not_lt_zero y)
  | a :: t, h, y, z, hy, hz, e => by
    have h1 := (Bool.and_eq_true_iff.mp h).1
    have h2 := (Bool.and_eq_true_iff.mp h).2
    have h3 : ∀ v, v ∈ t → ¬ v = a := fun v hv => of_decide_eq_true (List.all_eq_true.mp h1 v hv)
    cases y with
    | zero =>
      cases z with
      | zero => rfl
      | succ z => exact absurd e.symm (h3 _ (yl_at_mem t z (Nat.lt_of_succ_lt_succ hz)))
    | succ y =>
      cases z with
      | zero => exact absurd e (h3 _ (yl_at_mem t y (Nat.lt_of_succ_lt_succ hy)))
      | succ z => rw [yl_ds_at t h2 y z (Nat.lt_of_succ_lt_succ hy) (Nat.lt_of_succ_lt_succ hz) e]
set_option maxRecDepth 100000 in
set_option maxHeartbeats 4000000 in
theorem yl_chk2 : ∀ m : Nat, m < 64 → (yl_ap 6 m).all (fun w => yl_ds w) = true := by decide +kernel
theorem yl_RW.rw {f : Nat → Int32} {w : List Nat} {cn : Nat} (h : yl_RW f w) (h6 : yl_W6 w cn) (hcn : cn ≤ 6) (hd : yl_ds w = true) : mr_rw f (nI cn) w.length := by
  refine ⟨fun z hz => ?_, fun y z hy hz e => ?_⟩
  · have b := h6.2 z hz
    rw [h z hz, nI_toInt (by omega), nI_toInt (by omega)]
    exact ⟨by omega, by omega⟩
  · have b1 := h6.2 y hy
    have b2 := h6.2 z hz
    rw [h y hy, h z hz, mi_eq, nI_toInt (by omega), nI_toInt (by omega)] at e
    exact yl_ds_at w hd y z hy hz (by omega)
set_option maxHeartbeats 1000000 in
theorem x_rl2 {A R B Y U f : Nat → Int32} {b : Int32} {cn : Nat} (hD : yl_D A R B Y U cn) {d : Nat} (hd : 4 ≤ d) {a n : Int32} {nw : Nat} (en0 : n = nI nw) (w1 : 1 ≤ nw) (nw6 : nw ≤ 6) {J : mv_J} {Q : mv_Q} {I0 : mv_I} (hM : yl_M A R B Y U f b I0) (ecn : I0 12 24 = nI cn) {S : List (List Nat)} (hbd : ∀ o x, o ∈ S → yl_oc (yl_E (yl_L f b) A R B) (yl_C A Y U) o (-1) = some x → 0 ≤ x) (h : ∀ (r : Int32) (I' : mv_I) (l : Int), yl_LE (yl_E (yl_L f b) A R B) (yl_C A Y U) S l → r.toInt = (if l < 0 then -2 else l) → Q (some (.inl r)) I' J) : ∀ (Rm dn : List (List Nat)) (fu : Nat) (le mo : Int32) (y : Option mv_V) (I : mv_I), mg_f2 [74, 75, 76, 77, 78, 79, 80, 81] [(12, 37)] I0 I → (Rm = [] → mo = 0) → (∀ w t, Rm = w :: t → mo = 1 ∧ yl_RW (I 74) w) → yl_chn Rm = true → dn ++ Rm = S → yl_LE (yl_E (yl_L f b) A R B) (yl_C A Y U) dn le.toInt → (∀ w, w ∈ Rm → w.length = nw ∧ yl_W6 w cn ∧ yl_ds w = true) → 60 * Rm.length + 60 ≤ fu → mv_wp (mv_wpM mv_tab mv_sh d) mv_sh none tbX8_lay flX8 csX8 1 (fun _ _ _ _ _ => False) Q fu 60 [some (.inr (.inr 12)), some (.inl a), some (.inl n), some (.inl le), some (.inl mo), y] [] I J := by
  have hcn := hD.1
  have c0 : (0 : Int32).toInt = 0 := by decide
  have cm : (-2 : Int32).toInt = -2 := by decide
  intro Rm
  induction Rm with
  | nil =>
    intro dn fu le mo y I h0 h1 h2 hch hS hL hv hf
    obtain ⟨fu, rfl⟩ : ∃ z, fu = z + 60 := ⟨fu - 60, by omega⟩
    have e0 := h1 rfl
    subst e0
    have eS : dn = S := by rw [← hS, List.append_nil]
    subst eS
    refine And.intro (fun q => ?_) (fun q => absurd rfl q)
    refine And.intro (fun q => ?_) (fun q => ?_)
    · refine h _ _ le.toInt hL ?_
      rw [mi_le, c0] at q
      rw [if_neg (by omega)]
    · refine h _ _ le.toInt hL ?_
      rw [mi_le, c0] at q
      rw [if_pos (by omega)]
      exact cm
  | cons w t ih =>
    intro dn fu le mo y I h0 h1 h2 hch hS hL hv hf
    have hf : 60 * (t.length + 1) + 60 ≤ fu := hf
    obtain ⟨fu, rfl⟩ : ∃ z, fu = z + 60 := ⟨fu - 60, by omega⟩
    obtain ⟨em, hw⟩ := h2 w t rfl
    subst em
    obtain ⟨lw, h6, hds⟩ := hv w List.mem_cons_self
    have en : n = nI w.length := by rw [lw]; exact en0
    have w1 : 1 ≤ w.length := by omega
    have hn6 : rg n 0 6 := by rw [en0]; unfold rg; rw [nI_toInt (by omega)]; exact ⟨by omega, by omega⟩
    have hs6 : (I0 12 24).toInt ≤ 6 := by rw [ecn, nI_toInt (by omega)]; omega
    have RWm : mr_rw (I 74) (I0 12 24) n.toNatClampNeg := by rw [ecn, en, nI_clamp (by omega)]; exact hw.rw h6 hcn hds
    have hMI : yl_M A R B Y U f b I := by
      unfold yl_M at *
      rw [f2_fn (c := 67) h0 rfl (fun _ => rfl), f2_fn (c := 68) h0 rfl (fun _ => rfl), f2_fn (c := 69) h0 rfl (fun _ => rfl), f2_fn (c := 70) h0 rfl (fun _ => rfl), f2_fn (c := 71) h0 rfl (fun _ => rfl), f2_fn (c := 73) h0 rfl (fun _ => rfl), h0 12 32 rfl rfl]
      exact hM
    have wS : w ∈ S := by rw [← hS]; exact List.mem_append_right _ List.mem_cons_self
    refine And.intro (fun q => absurd q (by decide)) (fun q => ?_)
    refine x_rcost hD (by omega) h6 n en hMI hw (fun r I2 f2 hr => ?_)
    have F2 : mg_f2 [74, 75, 76, 77, 78, 79, 80, 81] [(12, 37)] I0 I2 := h0.tr (f2.mono rfl rfl)
    have e74 : I2 74 = I 74 := f2_fn f2 rfl (fun _ => rfl)
    refine And.intro (fun q2 => ?_) (fun q2 => ?_)
    · rw [mi_lt, c0] at q2
      have L2 : yl_LE (yl_E (yl_L f b) A R B) (yl_C A Y U) (dn ++ [w]) le.toInt := by
        cases ho : yl_oc (yl_E (yl_L f b) A R B) (yl_C A Y U) w (-1) with
        | none => exact yl_LE_n hL ho
        | some x =>
          rw [ho] at hr
          have hr : r.toInt = 0 + x := hr
          have := hbd w x wS ho
          omega
      refine x_cUp (by omega) n en w1 h6 hcn (by rw [e74]; exact hw) (fun hn => ?_) (fun I4 w' hn f4 g4 l4 => ?_)
      · have tn := yl_chn_n hch hn
        subst tn
        refine And.intro ?_ trivial
        refine ih (dn ++ [w]) _ _ _ _ _ F2 (fun _ => rfl) (fun w t z => by cases z) rfl (by rw [← hS, List.append_assoc]; rfl) L2 (fun z hz => by cases hz) (by omega)
      · obtain ⟨t', et⟩ := yl_chn_s hch hn
        subst et
        have F5 := F2.tr (f4.mono (S := [74, 75, 76, 77, 78, 79, 80, 81]) (T := [(12, 37)]) rfl rfl)
        refine And.intro ?_ trivial
        refine ih (dn ++ [w]) _ _ _ _ _ F5 (fun z => by cases z) (fun w2 t2 z => by cases z; exact ⟨rfl, g4⟩) (yl_chn_t hch) (by rw [← hS, List.append_assoc]; rfl) L2 (fun z hz => hv z (List.mem_cons_of_mem _ hz)) (by omega)
    · rw [mi_lt, c0] at q2
      obtain ⟨x, ho, ex⟩ : ∃ x, yl_oc (yl_E (yl_L f b) A R B) (yl_C A Y U) w (-1) = some x ∧ r.toInt = x := by
        cases ho : yl_oc (yl_E (yl_L f b) A R B) (yl_C A Y U) w (-1) with
        | none => rw [ho] at hr; have hr : r.toInt = -1 := hr; omega
        | some x => rw [ho] at hr; have hr : r.toInt = 0 + x := hr; exact ⟨x, rfl, by omega⟩
      refine And.intro (fun q3 => ?_) (fun q3 => ?_)
      · rw [mi_lt, c0] at q3
        have L2 : yl_LE (yl_E (yl_L f b) A R B) (yl_C A Y U) (dn ++ [w]) r.toInt := by rw [ex]; exact yl_LE_t hL ho (by omega) (Or.inl q3)
        refine r_keep (by omega) n hn6 (by rw [F2 12 24 rfl rfl]; exact hs6) (by rw [F2 12 24 rfl rfl, e74]; exact RWm) (fun I3 f3 => ?_)
        have F3 := F2.tr (f3.mono (S := [74, 75, 76, 77, 78, 79, 80, 81]) (T := [(12, 37)]) rfl rfl)
        have e3 : I3 74 = I 74 := (f2_fn (c := 74) f3 rfl (fun _ => rfl)).trans e74
        refine x_cUp (by omega) n en w1 h6 hcn (by rw [e3]; exact hw) (fun hn => ?_) (fun I4 w' hn f4 g4 l4 => ?_)
        · have tn := yl_chn_n hch hn
          subst tn
          refine And.intro ?_ trivial
          refine ih (dn ++ [w]) _ _ _ _ _ F3 (fun _ => rfl) (fun w t z => by cases z) rfl (by rw [← hS, List.append_assoc]; rfl) L2 (fun z hz => by cases hz) (by omega)
        · obtain ⟨t', et⟩ := yl_chn_s hch hn
          subst et
          have F5 := F3.tr (f4.mono (S := [74, 75, 76, 77, 78, 79, 80, 81]) (T := [(12, 37)]) rfl rfl)
          refine And.intro ?_ trivial
          refine ih (dn ++ [w]) _ _ _ _ _ F5 (fun z => by cases z) (fun w2 t2 z => by cases z; exact ⟨rfl, g4⟩) (yl_chn_t hch) (by rw [← hS, List.append_assoc]; rfl) L2 (fun z hz => hv z (List.mem_cons_of_mem _ hz)) (by omega)
      · rw [mi_lt, c0] at q3
        refine And.intro (fun q4 => ?_) (fun q4 => ?_)
        · rw [mi_le] at q4
          have L2 : yl_LE (yl_E (yl_L f b) A R B) (yl_C A Y U) (dn ++ [w]) le.toInt := yl_LE_k hL ho (by omega) (by omega)
          refine x_cUp (by omega) n en w1 h6 hcn (by rw [e74]; exact hw) (fun hn => ?_) (fun I4 w' hn f4 g4 l4 => ?_)
          · have tn := yl_chn_n hch hn
            subst tn
            refine And.intro ?_ trivial
            refine ih (dn ++ [w]) _ _ _ _ _ F2 (fun _ => rfl) (fun w t z => by cases z) rfl (by rw [← hS, List.append_assoc]; rfl) L2 (fun z hz => by cases hz) (by omega)
          · obtain ⟨t', et⟩ := yl_chn_s hch hn
            subst et
            have F5 := F2.tr (f4.mono (S := [74, 75, 76, 77, 78, 79, 80, 81]) (T := [(12, 37)]) rfl rfl)
            refine And.intro ?_ trivial
            refine ih (dn ++ [w]) _ _ _ _ _ F5 (fun z => by cases z) (fun w2 t2 z => by cases z; exact ⟨rfl, g4⟩) (yl_chn_t hch) (by rw [← hS, List.append_assoc]; rfl) L2 (fun z hz => hv z (List.mem_cons_of_mem _ hz)) (by omega)
        · rw [mi_le] at q4
          have L2 : yl_LE (yl_E (yl_L f b) A R B) (yl_C A Y U) (dn ++ [w]) r.toInt := by rw [ex]; exact yl_LE_t hL ho (by omega) (Or.inr (by omega))
          refine r_keep (by omega) n hn6 (by rw [F2 12 24 rfl rfl]; exact hs6) (by rw [F2 12 24 rfl rfl, e74]; exact RWm) (fun I3 f3 => ?_)
          have F3 := F2.tr (f3.mono (S := [74, 75, 76, 77, 78, 79, 80, 81]) (T := [(12, 37)]) rfl rfl)
          have e3 : I3 74 = I 74 := (f2_fn (c := 74) f3 rfl (fun _ => rfl)).trans e74
          refine x_cUp (by omega) n en w1 h6 hcn (by rw [e3]; exact hw) (fun hn => ?_) (fun I4 w' hn f4 g4 l4 => ?_)
          · have tn := yl_chn_n hch hn
            subst tn
            refine And.intro ?_ trivial
            refine ih (dn ++ [w]) _ _ _ _ _ F3 (fun _ => rfl) (fun w t z => by cases z) rfl (by rw [← hS, List.append_assoc]; rfl) L2 (fun z hz => by cases hz) (by omega)
          · obtain ⟨t', et⟩ := yl_chn_s hch hn
            subst et
            have F5 := F3.tr (f4.mono (S := [74, 75, 76, 77, 78, 79, 80, 81]) (T := [(12, 37)]) rfl rfl)
            refine And.intro ?_ trivial
            refine ih (dn ++ [w]) _ _ _ _ _ F5 (fun z => by cases z) (fun w2 t2 z => by cases z; exact ⟨rfl, g4⟩) (yl_chn_t hch) (by rw [← hS, List.append_assoc]; rfl) L2 (fun z hz => hv z (List.mem_cons_of_mem _ hz)) (by omega)
theorem yl_ap_lt {c : Nat} : ∀ (k m : Nat) (w : List Nat), w ∈ yl_ap k m → m < 2 ^ c → ∀ s, s ∈ w → s < c := by
  have NIL : ∀ (w : List Nat), w ∈ [([] : List Nat)] → ∀ s, s ∈ w → s < c := by
    intro w hw s hs
    cases hw with
    | head => cases hs
    | tail _ z => cases z
  intro k
  induction k with
  | zero =>
    intro m w hw hc
    by_cases c0 : m = 0
    · rw [c0, yl_ap0] at hw; exact NIL w hw
    · rw [yl_ap_n c0] at hw; cases hw
  | succ k ih =>
    intro m w hw hc
    by_cases c0 : m = 0
    · rw [c0, yl_ap0] at hw; exact NIL w hw
    · obtain ⟨s, o', hs, hb, ho, rfl⟩ := (yl_ap_mem c0).mp hw
      intro v hv
      cases hv with
      | head => exact yl_tb hb hc
      | tail _ hv => exact ih (m - 2 ^ s) o' ho (Nat.lt_of_le_of_lt (Nat.sub_le _ _) hc) v hv
def lyM (I : mv_I) (a r : Int32) : Prop := (¬ (1 ≤ a ∧ a ≤ 1 <<< (I 12 24 &&& 31) - 1) ∧ r = -1) ∨ ((1 ≤ a ∧ a ≤ 1 <<< (I 12 24 &&& 31) - 1) ∧ ∃ l : Int, yl_LE (yl_E (yl_L (I 73) (I 12 32)) (I 67) (I 68) (I 69)) (yl_C (I 67) (I 70) (I 71)) (yl_ap 6 a.toNatClampNeg) l ∧ r.toInt = if l < 0 then -2 else l)
set_option maxHeartbeats 1000000 in
theorem x_rl1 {A R B Y U f : Nat → Int32} {b : Int32} {cn m : Nat} (hD : yl_D A R B Y U cn) {d : Nat} (hd : 4 ≤ d) {J : mv_J} {Q : mv_Q} {I0 : mv_I} (hM : yl_M A R B Y U f b I0) (ecn : I0 12 24 = nI cn) (hm : m < 64) (m0 : ¬ m = 0) (hc : m < 2 ^ cn) (h : ∀ (r : Int32) (I' : mv_I) (l : Int), yl_LE (yl_E (yl_L f b) A R B) (yl_C A Y U) (yl_ap 6 m) l → r.toInt = (if l < 0 then -2 else l) → Q (some (.inl r)) I' J) : ∀ (k fu i : Nat) (I : mv_I), i + k = cn → mg_f2 [74, 75, 76, 77, 78, 79, 80, 81] [(12, 37)] I0 I → yl_RW (I 74) (yl_bu m i) → 60 * (k + 1) + 43500 ≤ fu → mv_wp (mv_wpM mv_tab mv_sh d) mv_sh none tbX8_lay flX8 csX8 1 (fun _ _ _ _ _ => False) Q fu 22 [some (.inr (.inr 12)), some (.inl (nI m)), some (.inl (nI (yl_bu m i).length)), some (.inl (nI i)), none, none] [] I J := by
  have hcn := hD.1
  have BD := hD.bd (L := yl_L f b)
  have bl := yl_bu_len m
  intro k
  induction k with
  | zero =>
    intro fu i I hi h3 h4 hf
    obtain ⟨fu, rfl⟩ : ∃ z, fu = z + 60 := ⟨fu - 60, by omega⟩
    have ei : i = cn := by omega
    subst ei
    have ec : I 12 24 = nI i := (h3 12 24 rfl rfl).trans ecn
    obtain ⟨q1, q2, q3, q4⟩ := yl_chk m hm m0
    have e6 := yl_bu6 i (by omega) m hm hc
    have b6 := bl 6
    refine And.intro (fun q => ?_) (fun q => absurd (mi_le.mpr (by rw [ec]; exact Int.le_refl _)) q)
    rw [e6]
    rw [e6] at h4
    cases hap : yl_ap 6 m with
    | nil => rw [hap] at q2; cases q2
    | cons w t =>
      rw [hap] at q1 q2 q3 q4 h
      have ew : w = yl_bu m 6 := Option.some.inj q2
      have V : ∀ w', w' ∈ w :: t → w'.length = (yl_bu m 6).length ∧ yl_W6 w' i ∧ yl_ds w' = true := by
        intro w' hw'
        have a1 := Bool.and_eq_true_iff.mp (List.all_eq_true.mp q4 w' hw')
        have a2 : w'.length = (yl_bu m 6).length := of_decide_eq_true a1.1
        have mem : w' ∈ yl_ap 6 m := by rw [hap]; exact hw'
        exact ⟨a2, ⟨by omega, fun z hz => yl_ap_lt 6 m w' mem hc _ (yl_at_mem w' z hz)⟩, List.all_eq_true.mp (yl_chk2 m hm) w' mem⟩
      have w1 : 1 ≤ (yl_bu m 6).length := by
        by_cases z : (yl_bu m 6).length = 0
        · exfalso
          have mem : w ∈ yl_ap 6 m := by rw [hap]; exact List.mem_cons_self
          have lw := (V w List.mem_cons_self).1
          obtain ⟨s, o', _, _, _, eo⟩ := (yl_ap_mem m0).mp mem
          rw [eo] at lw
          have lw : o'.length + 1 = (yl_bu m 6).length := lw
          omega
        · omega
      refine And.intro ?_ trivial
      have q3 : t.length + 1 ≤ 720 := q3
      exact x_rl2 hD hd rfl w1 (by omega) hM ecn (S := w :: t) (fun o x ho hx => (yl_oc_b BD 6 m 0 o (-1) x rfl hc (by rw [hap]; exact ho) (by omega) (by omega) hx).1) h (w :: t) [] _ _ _ _ _ h3 (fun z => by cases z) (fun w2 t2 z => by cases z; exact ⟨rfl, by rw [ew]; exact h4⟩) q1 rfl yl_LE_0 V (show 60 * (t.length + 1) + 60 ≤ _ by omega)
  | succ k ih =>
    intro fu i I hi h3 h4 hf
    obtain ⟨fu, rfl⟩ : ∃ z, fu = z + 60 := ⟨fu - 60, by omega⟩
    have ec : I 12 24 = nI cn := (h3 12 24 rfl rfl).trans ecn
    have ti : (nI i).toInt = i := nI_toInt (by omega)
    obtain ⟨w1, w2, w3⟩ := yl_bit m hm i (by omega)
    have bi := bl i
    refine And.intro (fun q => ?_) (fun q => ?_)
    · rw [mi_le, ec, ti, nI_toInt (by omega)] at q
      omega
    · refine And.intro (fun qb => ?_) (fun qb => ?_)
      · have nb : ¬ Nat.testBit m i = true := fun z => qb (w1.mp z)
        have eb : yl_bu m (i + 1) = yl_bu m i := if_neg nb
        refine And.intro ?_ trivial
        rw [nI_1, ← eb]
        exact ih _ (i + 1) _ (by omega) h3 (by rw [eb]; exact h4) (by omega)
      · have nb : Nat.testBit m i = true := w1.mpr qb
        have eb : yl_bu m (i + 1) = yl_bu m i ++ [i] := if_pos nb
        have el : (yl_bu m (i + 1)).length = (yl_bu m i).length + 1 := by rw [eb, List.length_append]; rfl
        have cl : (nI (yl_bu m i).length).toNatClampNeg = (yl_bu m i).length := nI_clamp (by omega)
        refine And.intro (vp_in_nI (by omega) (by decide)) ?_
        rw [cl]
        refine And.intro ?_ trivial
        rw [nI_1, nI_1, ← el]
        refine ih _ (i + 1) _ (by omega) (mg_f2.up h3 rfl) (fun z hz => ?_) (by omega)
        rw [el] at hz
        rw [eb]
        show upd (I 74) (yl_bu m i).length (nI i) z = _
        unfold upd
        by_cases c : z = (yl_bu m i).length
        · rw [if_pos c, c, yl_at_app2]
        · rw [if_neg c, yl_at_app _ _ _ (by omega)]
          exact h4 z (by omega)
set_option maxHeartbeats 1000000 in
theorem E2_lay {d : Nat} (hd : 6 ≤ d) (a : Int32) {I : mv_I} {J : mv_J} {Q : mv_Q} (sm : SM I) (hY : ∀ j, rg (I 70 j) 0 30) (hU : ∀ j, rg (I 71 j) 0 100) (h : ∀ (r : Int32) (I' : mv_I), lyM I a r → Q (some (.inl r)) I' J) : mv_wpM mv_tab mv_sh d 120 [.inr (.inr 12), .inl a] I J Q := by
  obtain ⟨d, rfl⟩ : ∃ e, d = e + 1 := ⟨d - 1, by omega⟩
  refine (show ∃ fu9, mv_wp (mv_wpM mv_tab mv_sh d) mv_sh none tbX8_lay flX8 csX8 1 (fun _ _ _ _ _ => False) Q fu9 0 [some (.inr (.inr 12)), some (.inl a), none, none, none, none] [] I J from ?_)
  refine ⟨44200, ?_⟩
  obtain ⟨t1, t2, t3, t4, t5, t6, t7, t8, t9, t10⟩ := id sm
  refine c_in (by omega) a 1 _ (fun p => ?_) (fun p => ?_)
  · first | refine And.intro (fun z => absurd z (by decide)) (fun _ => ?_) | refine And.intro (fun _ => ?_) (fun z => absurd z (by decide))
    obtain ⟨y1, y2, y3, y4, y5, y6⟩ := yl_cn t7.1 p
    have yD : yl_D (I 67) (I 68) (I 69) (I 70) (I 71) (I 12 24).toNatClampNeg := by
      obtain ⟨f1, f2, f3, f4⟩ := t7
      obtain ⟨n0, n1⟩ := f1
      have kn := mi_cl n0
      refine ⟨by omega, f2, fun s hs => ?_, hY, hU⟩
      have h4 := f4 s (by omega)
      have h3 := f3 s
      exact ⟨⟨h4.1, h3.1.2⟩, ⟨h4.2, h3.2.2⟩⟩
    have h : ∀ (r : Int32) (I' : mv_I) (l : Int), yl_LE (yl_E (yl_L (I 73) (I 12 32)) (I 67) (I 68) (I 69)) (yl_C (I 67) (I 70) (I 71)) (yl_ap 6 a.toNatClampNeg) l → r.toInt = (if l < 0 then -2 else l) → Q (some (.inl r)) I' J := fun r I' l hl hr => h r I' (Or.inr ⟨p, l, hl, hr⟩)
    have K : ∀ fu, 44000 ≤ fu → mv_wp (mv_wpM mv_tab mv_sh d) mv_sh none tbX8_lay flX8 csX8 1 (fun _ _ _ _ _ => False) Q fu 22 [some (.inr (.inr 12)), some (.inl (nI a.toNatClampNeg)), some (.inl (nI (yl_bu a.toNatClampNeg 0).length)), some (.inl (nI 0)), none, none] [] I J := fun fu hfu => x_rl1 yD (by omega) ⟨rfl, rfl, rfl, rfl, rfl, rfl, rfl⟩ y1 y4 y5 y6 h (I 12 24).toNatClampNeg fu 0 I (by omega) mg_f2.rf (fun z hz => absurd hz (Nat.not_lt_zero z)) (by omega)
    rw [← y3] at K
    refine And.intro ?_ trivial
    exact K _ (Nat.le_of_ble_eq_true rfl)
  · first | refine And.intro (fun z => absurd z (by decide)) (fun _ => ?_) | refine And.intro (fun _ => ?_) (fun z => absurd z (by decide))
    exact h _ _ (Or.inl ⟨p, rfl⟩)
theorem yl_L_eq {f g : Nat → Int32} {b : Int32} (h : ∀ j, mcl (f j) = g j) : yl_L f b = yl_L g b := funext fun d => by
  unfold yl_L
  rw [tkn_eq h (show min d 59 < 60 by omega)]
theorem eq_lay {a r1 r2 : Int32} {I : mv_I} (sc : SC I) (hR : LR I) (hB : LB I) (p1 : lyC I a r1) (p2 : lyM I a r2) : r1 = r2 := by
  obtain ⟨hw, hn, ht, hb, hk, hs, hl_, hh_, hi, hf⟩ := hR
  obtain ⟨q1, q2, q3, q4, q5, q6⟩ := hs
  have hb : I 5 1 = I 12 32 := hb
  obtain ⟨s1, s2, s3, s4, s5, s6, s7, s8, s9, s10, s11, s12⟩ := sc
  unfold lyM at p2
  rw [← q1, ← q2, ← q3, ← q4, ← q5, ← q6, ← hb, ← yl_L_eq hf] at p2
  rcases p1 with ⟨n1, e1⟩ | ⟨o1, l', g1, e1⟩
  · rcases p2 with ⟨n2, e2⟩ | ⟨o2, l, g2, e2⟩
    · exact e1.trans e2.symm
    · exact absurd o2 n1
  · rcases p2 with ⟨n2, e2⟩ | ⟨o2, l, g2, e2⟩
    · exact absurd o1 n2
    · obtain ⟨y1, y2, y3, y4, y5, y6⟩ := yl_cn s7.1 o1
      exact yl_same (s7.yd hB).bd y6 g1 g2 e1 e2
