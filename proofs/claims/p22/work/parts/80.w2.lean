def yl_L (f : Nat → Int32) (b : Int32) (d : Nat) : Bool := decide (tkn f (min d 59) ≤ b)
theorem yl_Lt {f : Nat → Int32} {b : Int32} {d : Nat} (hd : d < 60) (h : tkn f d ≤ b) : yl_L f b d = true := decide_eq_true (by rw [Nat.min_eq_left (by omega)]; exact h)
theorem yl_Lf {f : Nat → Int32} {b : Int32} {d : Nat} (hd : d < 60) (h : ¬ tkn f d ≤ b) : ¬ yl_L f b d = true := fun z => h (by
  have z2 : tkn f (min d 59) ≤ b := of_decide_eq_true z
  rw [Nat.min_eq_left (by omega)] at z2
  exact z2)
def yl_N (R B : Nat → Int32) (s : Nat) : Int32 := (R s + B s - 1) / B s
def yl_E (L : Nat → Bool) (A R B : Nat → Int32) (s : Nat) (e : Int) : Int := yl_enG L (60 - (max (A s).toInt (e + 1)).toNat) (max (A s).toInt (e + 1)).toNat (yl_N R B s).toNatClampNeg
def yl_C (A Y U : Nat → Int32) (s : Nat) (e : Int) : Int := (U s).toInt * max 0 (e - (A s).toInt + 1 - (Y s).toInt)
def yl_D (A R B Y U : Nat → Int32) (cn : Nat) : Prop := cn ≤ 6 ∧ (∀ s, rg (A s) 0 59) ∧ (∀ s, s < cn → rg (R s) 1 20000 ∧ rg (B s) 1 2000) ∧ (∀ s, rg (Y s) 0 30) ∧ (∀ s, rg (U s) 0 100)
theorem yl_D.bd {L : Nat → Bool} {A R B Y U : Nat → Int32} {c : Nat} (h : yl_D A R B Y U c) : yl_bd (yl_E L A R B) (yl_C A Y U) c := by
  intro s hs d e hd he1 he2
  obtain ⟨_, hA, hN, hY, hU⟩ := h
  obtain ⟨a0, a1⟩ := hA s
  obtain ⟨n0, n1⟩ := mg_days (hN s hs).1 (hN s hs).2
  obtain ⟨y0, y1⟩ := hY s
  obtain ⟨u0, u1⟩ := hU s
  have n0 : 1 ≤ (yl_N R B s).toInt := n0
  have n1 : (yl_N R B s).toInt ≤ 20000 := n1
  have kn := mi_cl (x := yl_N R B s) (by omega)
  have hD : ((max (A s).toInt (e + 1)).toNat : Int) = max (A s).toInt (e + 1) := Int.toNat_of_nonneg (by omega)
  have hD2 : max (A s).toInt (e + 1) ≤ 60 + 20000 * (d : Int) := by omega
  have hb : yl_E L A R B s e = -1 ∨ (((max (A s).toInt (e + 1)).toNat : Int) ≤ yl_E L A R B s e ∧ yl_E L A R B s e ≤ ((max (A s).toInt (e + 1)).toNat : Int) + ((60 - (max (A s).toInt (e + 1)).toNat : Nat) : Int) + (yl_N R B s).toNatClampNeg - 1) := yl_en_b _ _ _ (by omega)
  revert hb
  generalize yl_E L A R B s e = r
  generalize (max (A s).toInt (e + 1)).toNat = D at hD
  intro hb
  rcases hb with hb | ⟨hb1, hb2⟩
  · left; omega
  · right
    have r0 : 0 ≤ r := by omega
    have r1 : r ≤ 59 + 20000 * ((d : Int) + 1) := by omega
    have x0 : 0 ≤ max 0 (r - (A s).toInt + 1 - (Y s).toInt) := by omega
    have x1 : max 0 (r - (A s).toInt + 1 - (Y s).toInt) ≤ 120060 := by omega
    have p0 := Int.mul_nonneg u0 x0
    have p1 := Int.mul_le_mul u1 x1 x0 (show (0 : Int) ≤ 100 by omega)
    exact ⟨r0, r1, p0, Int.le_trans p1 (by decide)⟩
set_option maxHeartbeats 1000000 in
theorem x_turn {d : Nat} (hd : 1 ≤ d) (a b : Int32) {I : mv_I} {J : mv_J} {Q : mv_Q} (ha : rg a 0 5) (hb : rg b (-1) 1000000) (h : ∀ r : Int32, r.toInt = max (I 31 a.toNatClampNeg).toInt (b.toInt + 1) → Q (some (.inl r)) I J) : mv_wpM mv_tab mv_sh d 5 [.inr (.inr 4), .inl a, .inl b] I J Q := by
  obtain ⟨d, rfl⟩ : ∃ e, d = e + 1 := ⟨d - 1, by omega⟩
  refine (show ∃ fu9, mv_wp (mv_wpM mv_tab mv_sh d) mv_sh none tbX0_turnBehind flX0 csX0 1 (fun _ _ _ _ _ => False) Q fu9 0 [some (.inr (.inr 4)), some (.inl a), some (.inl b)] [] I J from ?_)
  refine ⟨60, ?_⟩
  have B : vp_in a 6 := vp_in_iff.mpr ⟨ha.1, by have := ha.2; omega⟩
  refine And.intro B ?_
  refine h _ ?_
  obtain ⟨b0, b1⟩ := hb
  have e1 : (b + 1).toInt = b.toInt + 1 := mi_inc (n := 1000001) (by omega) (by omega)
  by_cases q : I 31 a.toNatClampNeg < b + 1
  · rw [if_pos q]
    rw [mi_lt] at q
    omega
  · rw [if_neg q]
    rw [mi_lt] at q
    omega
set_option maxHeartbeats 1000000 in
theorem x_days {d : Nat} (hd : 1 ≤ d) (a : Int32) {I : mv_I} {J : mv_J} {Q : mv_Q} (ha : rg a 0 5) (hR : rg (I 32 a.toNatClampNeg) 1 20000) (hr : rg (I 33 a.toNatClampNeg) 1 2000) (h : Q (some (.inl (yl_N (I 32) (I 33) a.toNatClampNeg))) I J) : mv_wpM mv_tab mv_sh d 6 [.inr (.inr 4), .inl a] I J Q := by
  obtain ⟨d, rfl⟩ : ∃ e, d = e + 1 := ⟨d - 1, by omega⟩
  refine (show ∃ fu9, mv_wp (mv_wpM mv_tab mv_sh d) mv_sh none tbX0_loadingDays flX0 csX0 1 (fun _ _ _ _ _ => False) Q fu9 0 [some (.inr (.inr 4)), some (.inl a), none] [] I J from ?_)
  refine ⟨60, ?_⟩
  have B : vp_in a 6 := vp_in_iff.mpr ⟨ha.1, by have := ha.2; omega⟩
  obtain ⟨r0, r1⟩ := id hr
  refine And.intro B ?_
  refine And.intro (fun q => absurd q (fun q => by (try simp only [mi_le, mi_lt, mi_eq] at *); have := mi_l; omega)) (fun q => ?_)
  refine And.intro B ?_
  refine And.intro (by intro z; rw [z] at r0; exact absurd r0 (by decide)) ?_
  exact h
set_option maxHeartbeats 1000000 in
theorem x_cost {d : Nat} (hd : 1 ≤ d) (a b : Int32) {I : mv_I} {J : mv_J} {Q : mv_Q} (ha : rg a 0 5) (hb : rg b 0 120059) (hA : rg (I 31 a.toNatClampNeg) 0 59) (hY : rg (I 34 a.toNatClampNeg) 0 30) (hU : rg (I 35 a.toNatClampNeg) 0 100) (h : ∀ r : Int32, r.toInt = yl_C (I 31) (I 34) (I 35) a.toNatClampNeg b.toInt → Q (some (.inl r)) I J) : mv_wpM mv_tab mv_sh d 7 [.inr (.inr 4), .inl a, .inl b] I J Q := by
  obtain ⟨d, rfl⟩ : ∃ e, d = e + 1 := ⟨d - 1, by omega⟩
  refine (show ∃ fu9, mv_wp (mv_wpM mv_tab mv_sh d) mv_sh none tbX0_costOf flX0 csX0 1 (fun _ _ _ _ _ => False) Q fu9 0 [some (.inr (.inr 4)), some (.inl a), some (.inl b), none] [] I J from ?_)
  refine ⟨60, ?_⟩
  have B : vp_in a 6 := vp_in_iff.mpr ⟨ha.1, by have := ha.2; omega⟩
  refine And.intro B ?_
  refine And.intro B ?_
  refine And.intro B ?_
  obtain ⟨b0, b1⟩ := hb
  obtain ⟨a0, a1⟩ := hA
  obtain ⟨y0, y1⟩ := hY
  obtain ⟨u0, u1⟩ := hU
  have c0 : (0 : Int32).toInt = 0 := by decide
  have c1 : (1 : Int32).toInt = 1 := by decide
  have e1 : (b - I 31 a.toNatClampNeg).toInt = b.toInt - (I 31 a.toNatClampNeg).toInt := mi_sub (by omega) (by omega)
  have e2 : (b - I 31 a.toNatClampNeg + 1).toInt = b.toInt - (I 31 a.toNatClampNeg).toInt + 1 := by rw [mi_add (by rw [e1, c1]; omega) (by rw [e1, c1]; omega), e1, c1]
  have e3 : (b - I 31 a.toNatClampNeg + 1 - I 34 a.toNatClampNeg).toInt = b.toInt - (I 31 a.toNatClampNeg).toInt + 1 - (I 34 a.toNatClampNeg).toInt := by rw [mi_sub (by rw [e2]; omega) (by rw [e2]; omega), e2]
  have hv : ∀ z : Int32, z.toInt = max 0 (b.toInt - (I 31 a.toNatClampNeg).toInt + 1 - (I 34 a.toNatClampNeg).toInt) → (I 35 a.toNatClampNeg * z).toInt = yl_C (I 31) (I 34) (I 35) a.toNatClampNeg b.toInt := by
    intro z hz
    have x0 : 0 ≤ z.toInt := by omega
    have x1 : z.toInt ≤ 120060 := by omega
    have p0 := Int.mul_nonneg u0 x0
    have p1 := Int.mul_le_mul u1 x1 x0 (show (0 : Int) ≤ 100 by omega)
    rw [mi_mul (Int.le_trans (by decide) p0) (Int.le_trans p1 (by decide)), hz]
    rfl
  refine h _ (hv _ ?_)
  by_cases q : (0 : Int32) < b - I 31 a.toNatClampNeg + 1 - I 34 a.toNatClampNeg
  · rw [if_pos q, e3]
    rw [mi_lt, e3, c0] at q
    omega
  · rw [if_neg q, c0]
    rw [mi_lt, e3, c0] at q
    omega
def yl_LD (L : Nat → Bool) (I : mv_I) : Prop := I 5 4 = nI (yl_ct L 60) ∧ (∀ j : Nat, j < 60 → I 40 j = nI (yl_ct L j)) ∧ (∀ j : Nat, j < 60 → L j = true → I 39 (yl_ct L j) = nI j) ∧ I 5 5 = (if L 59 = true then 1 else 0)
theorem yl_LD.ld {L : Nat → Bool} {I : mv_I} (h : yl_LD L I) : mg_ld I := by
  refine ⟨?_, fun j hj => ?_⟩
  · have := yl_ct_le L 60
    rw [h.1]
    unfold rg
    rw [nI_toInt (by omega)]
    exact ⟨by omega, by omega⟩
  · have := yl_ct_le L j
    rw [h.2.1 j hj]
    unfold rg
    rw [nI_toInt (by omega)]
    exact ⟨by omega, by omega⟩
set_option maxHeartbeats 1000000 in
theorem x_cld1 {d : Nat} (hd : 1 ≤ d) {J : mv_J} {Q : mv_Q} {I0 : mv_I} {L : Nat → Bool} (hL : L = yl_L (I0 38) (I0 5 1)) (h : ∀ (I' : mv_I), mg_sea I0 I' → yl_LD L I' → Q none I' J) : ∀ (k fu n : Nat) (x : Int32) (I : mv_I), n + k = 60 → x = nI n → mg_sea I0 I → I 5 4 = nI (yl_ct L n) → (∀ j : Nat, j < n → I 40 j = nI (yl_ct L j)) → (∀ j : Nat, j < n → L j = true → I 39 (yl_ct L j) = nI j) → 60 * (k + 1) ≤ fu → mv_wp (mv_wpM mv_tab mv_sh d) mv_sh none tbX4_countLoadableDays flX4 csX4 0 (fun _ _ _ _ _ => False) Q fu 7 [some (.inr (.inr 5)), some (.inl x)] [] I J := by
  have c60 : (60 : Int32).toInt = 60 := by decide
  intro k
  induction k with
  | zero =>
    intro fu n x I hn ex h1 g1 g2 g3 hf
    obtain ⟨fu, rfl⟩ : ∃ z, fu = z + 60 := ⟨fu - 60, by omega⟩
    have n6 : n = 60 := by omega
    subst n6
    have e38 : I 38 = I0 38 := f2_fn (c := 38) h1 rfl (fun _ => rfl)
    have e51 : I 5 1 = I0 5 1 := h1 5 1 rfl rfl
    refine And.intro (fun q => ?_) (fun q => absurd (mi_le.mpr (by rw [c60, ex, nI_toInt (by omega)]; omega)) q)
    refine e_taken (by omega) _ (D := 59) (by decide) (by decide) ?_
    refine And.intro (fun q => ?_) (fun q => ?_)
    · refine And.intro (Or.inl rfl) ?_
      have nl : ¬ L 59 = true := by
        rw [hL, ← e38, ← e51]
        exact yl_Lf (by decide) (fun z => by rw [mi_lt] at q; rw [mi_le] at z; omega)
      exact h _ (mg_f2.uf h1 rfl) ⟨g1, g2, g3, (if_neg nl).symm⟩
    · refine And.intro (Or.inr rfl) ?_
      have nl : L 59 = true := by
        rw [hL, ← e38, ← e51]
        exact yl_Lt (by decide) (by rw [mi_lt] at q; rw [mi_le]; omega)
      exact h _ (mg_f2.uf h1 rfl) ⟨g1, g2, g3, (if_pos nl).symm⟩
  | succ k ih =>
    intro fu n x I hn ex h1 g1 g2 g3 hf
    obtain ⟨fu, rfl⟩ : ∃ z, fu = z + 60 := ⟨fu - 60, by omega⟩
    have e38 : I 38 = I0 38 := f2_fn (c := 38) h1 rfl (fun _ => rfl)
    have e51 : I 5 1 = I0 5 1 := h1 5 1 rfl rfl
    have tx : x.toInt = n := by rw [ex]; exact nI_toInt (by omega)
    have cx : x.toNatClampNeg = n := by rw [ex]; exact nI_clamp (by omega)
    have cl := yl_ct_le L n
    have cc : (I 5 4).toNatClampNeg = yl_ct L n := by rw [g1]; exact nI_clamp (by omega)
    have G2 : ∀ j : Nat, j < n + 1 → upd (I 40) x.toNatClampNeg (I 5 4) j = nI (yl_ct L j) := by
      intro j hj
      unfold upd
      rw [cx]
      by_cases c : j = n
      · rw [if_pos c, g1, c]
      · rw [if_neg c]; exact g2 j (by omega)
    refine And.intro (fun q => ?_) (fun q => ?_)
    · rw [mi_le, c60, tx] at q
      omega
    · refine And.intro (by rw [ex]; exact vp_in_nI (by omega) (by decide)) ?_
      refine e_taken (by omega) _ (D := n) (by omega) ex ?_
      refine And.intro (fun q => ?_) (fun q => ?_)
      · have nl : ¬ L n = true := by
          rw [hL, ← e38, ← e51]
          exact yl_Lf (by omega) (fun z => by rw [mi_lt] at q; rw [mi_le] at z; exact absurd z (by have q2 : (I 5 1).toInt < (tkn (I 38) n).toInt := q; omega))
        have ec : yl_ct L (n + 1) = yl_ct L n := if_neg nl
        refine And.intro ?_ trivial
        refine ih _ (n + 1) _ _ (by omega) (by rw [ex]; exact nI_1 n) (mg_f2.up h1 rfl) (by rw [ec]; exact g1) G2 (fun j hj hl => ?_) (by omega)
        have nj : ¬ j = n := fun z => nl (by rw [← z]; exact hl)
        exact g3 j (by omega) hl
      · have nl : L n = true := by
          rw [hL, ← e38, ← e51]
          exact yl_Lt (by omega) (by rw [mi_lt] at q; rw [mi_le]; have q2 : ¬ (I 5 1).toInt < (tkn (I 38) n).toInt := q; omega)
        have ec : yl_ct L (n + 1) = yl_ct L n + 1 := if_pos nl
        refine And.intro (show vp_in (I 5 4) 60 by rw [g1]; exact vp_in_nI (by omega) (by decide)) ?_
        refine And.intro ?_ trivial
        refine ih _ (n + 1) _ _ (by omega) (by rw [ex]; exact nI_1 n) (mg_f2.uf (mg_f2.up (mg_f2.up h1 rfl) rfl) rfl) (show I 5 4 + 1 = _ by rw [ec, g1]; exact nI_1 _) G2 (fun j hj hl => ?_) (by omega)
        show upd (I 39) (I 5 4).toNatClampNeg x (yl_ct L j) = nI j
        unfold upd
        rw [cc]
        by_cases c : j = n
        · rw [c, if_pos rfl]; exact ex
        · have e9 : yl_ct L (j + 1) = yl_ct L j + 1 := if_pos hl
          have m9 := yl_ct_mono L (show j + 1 ≤ n by omega)
          rw [if_neg (by omega)]
          exact g3 j (by omega) hl
set_option maxHeartbeats 1000000 in
theorem x_cld {d : Nat} (hd : 2 ≤ d) {I : mv_I} {J : mv_J} {Q : mv_Q} (h : ∀ (I' : mv_I), mg_sea I I' → yl_LD (yl_L (I 38) (I 5 1)) I' → Q none I' J) : mv_wpM mv_tab mv_sh d 14 [.inr (.inr 5)] I J Q := by
  obtain ⟨d, rfl⟩ : ∃ e, d = e + 1 := ⟨d - 1, by omega⟩
  refine (show ∃ fu9, mv_wp (mv_wpM mv_tab mv_sh d) mv_sh none tbX4_countLoadableDays flX4 csX4 0 (fun _ _ _ _ _ => False) Q fu9 0 [some (.inr (.inr 5)), none] [] I J from ?_)
  refine ⟨3800, ?_⟩
  refine And.intro ?_ trivial
  exact x_cld1 (by omega) (L := yl_L (I 38) (I 5 1)) rfl h 60 _ 0 _ _ (by omega) rfl (mg_f2.uf mg_f2.rf rfl) rfl (fun j hj => absurd hj (by omega)) (fun j hj => absurd hj (by omega)) (Nat.le_of_ble_eq_true rfl)
set_option maxHeartbeats 1000000 in
theorem x_endF {d : Nat} (hd : 1 ≤ d) (a b : Int32) {I : mv_I} {J : mv_J} {Q : mv_Q} {L : Nat → Bool} {D : Nat} (ha : a.toInt = D) (hD : D ≤ 200000) (hb : rg b 1 20000) (hL : yl_LD L I) (h : ∀ r : Int32, r.toInt = yl_enG L (60 - D) D b.toNatClampNeg → Q (some (.inl r)) I J) : mv_wpM mv_tab mv_sh d 15 [.inr (.inr 5), .inl a, .inl b] I J Q := by
  obtain ⟨d, rfl⟩ : ∃ e, d = e + 1 := ⟨d - 1, by omega⟩
  refine (show ∃ fu9, mv_wp (mv_wpM mv_tab mv_sh d) mv_sh none tbX4_endFrom flX4 csX4 1 (fun _ _ _ _ _ => False) Q fu9 0 [some (.inr (.inr 5)), some (.inl a), some (.inl b), none] [] I J from ?_)
  refine ⟨60, ?_⟩
  obtain ⟨b0, b1⟩ := hb
  obtain ⟨l1, l2, l3, l4⟩ := hL
  have kb := mi_cl (x := b) (by omega)
  obtain ⟨l, el⟩ : ∃ l, b.toNatClampNeg = l + 1 := ⟨b.toNatClampNeg - 1, by omega⟩
  rw [el] at h
  have ea : a.toNatClampNeg = D := by have := mi_cl (x := a) (by omega); omega
  have c1 : (1 : Int32).toInt = 1 := by decide
  have c0 : (0 : Int32).toInt = 0 := by decide
  have cm : (-1 : Int32).toInt = -1 := by decide
  have c60 : (60 : Int32).toInt = 60 := by decide
  have n10 : ¬ (1 : Int32) = 0 := by decide
  refine And.intro (fun q => ?_) (fun q => ?_)
  · have qx : D < 60 := by rw [mi_lt, c60, ha] at q; omega
    have K := yl_en_ct (L := L) (lo := fun j => (I 39 j).toInt) (fun d hd hl => by show (I 39 _).toInt = _; rw [l3 d hd hl]; exact nI_toInt (by omega)) (60 - D) D l (by omega)
    rw [K] at h
    have t60 := yl_ct_le L 60
    have tD := yl_ct_le L D
    have z1 : (I 40 a.toNatClampNeg).toInt = yl_ct L D := by rw [ea, l2 D qx]; exact nI_toInt (by omega)
    have z2 : (I 5 4).toInt = yl_ct L 60 := by rw [l1]; exact nI_toInt (by omega)
    have e1 : (I 40 a.toNatClampNeg + b).toInt = (I 40 a.toNatClampNeg).toInt + b.toInt := mi_add (by omega) (by omega)
    have e2 : (I 40 a.toNatClampNeg + b - 1).toInt = ((yl_ct L D + l : Nat) : Int) := by rw [mi_sub (by rw [e1, c1]; omega) (by rw [e1, c1]; omega), e1, c1]; omega
    refine And.intro (vp_in_iff.mpr ⟨by omega, by omega⟩) ?_
    refine And.intro (fun q => ?_) (fun q => ?_)
    · rw [mi_le, e2, z2] at q
      rw [if_neg (show ¬ yl_ct L D + l < yl_ct L 60 by omega)] at h
      refine And.intro (fun q3 => ?_) (fun q3 => ?_)
      · refine h _ ?_
        by_cases c : L 59 = true
        · rw [l4, if_pos c] at q3
          exact absurd q3 n10
        · rw [if_neg c]; exact cm
      · refine h _ ?_
        by_cases c : L 59 = true
        · rw [if_pos c]
          have e5 : (60 + (I 40 a.toNatClampNeg + b - 1)).toInt = 60 + ((yl_ct L D + l : Nat) : Int) := by rw [mi_add (by rw [c60, e2]; omega) (by rw [c60, e2]; omega), c60, e2]
          rw [mi_sub (by rw [e5, z2]; omega) (by rw [e5, z2]; omega), e5, z2]
        · rw [l4, if_neg c] at q3
          exact absurd rfl q3
    · rw [mi_le, e2, z2] at q
      have q2 : yl_ct L D + l < yl_ct L 60 := by omega
      rw [if_pos q2] at h
      have kz := mi_cl (x := I 40 a.toNatClampNeg + b - 1) (by omega)
      refine And.intro (vp_in_iff.mpr ⟨by omega, by omega⟩) ?_
      refine h _ ?_
      rw [show (I 40 a.toNatClampNeg + b - 1).toNatClampNeg = yl_ct L D + l by omega]
  · have qx : 60 ≤ D := by rw [mi_lt, c60, ha] at q; omega
    rw [show 60 - D = 0 by omega] at h
    have h : ∀ r : Int32, r.toInt = (if L 59 = true then (D : Int) + ((l + 1 : Nat) : Int) - 1 else -1) → Q (some (.inl r)) I J := h
    refine And.intro (fun q3 => ?_) (fun q3 => ?_)
    · refine h _ ?_
      by_cases c : L 59 = true
      · rw [l4, if_pos c] at q3
        exact absurd q3 n10
      · rw [if_neg c]; exact cm
    · refine h _ ?_
      by_cases c : L 59 = true
      · rw [if_pos c]
        have e5 : (a + b).toInt = a.toInt + b.toInt := mi_add (by omega) (by omega)
        rw [mi_sub (by rw [e5, c1]; omega) (by rw [e5, c1]; omega), e5, c1]
        omega
      · rw [l4, if_neg c] at q3
        exact absurd rfl q3
def yl_K (L : Nat → Bool) (A R B Y U : Nat → Int32) (cn : Nat) (I : mv_I) : Prop := I 31 = A ∧ I 32 = R ∧ I 33 = B ∧ I 34 = Y ∧ I 35 = U ∧ I 4 7 = nI cn ∧ yl_LD L I
theorem yl_K.kp {L : Nat → Bool} {A R B Y U : Nat → Int32} {cn : Nat} {I I' : mv_I} (h : yl_K L A R B Y U cn I) (f : mg_f2 [45, 46] [(6, 7)] I I') : yl_K L A R B Y U cn I' := by
  unfold yl_K yl_LD at *
  rw [f2_fn (c := 31) f rfl (fun _ => rfl), f2_fn (c := 32) f rfl (fun _ => rfl), f2_fn (c := 33) f rfl (fun _ => rfl), f2_fn (c := 34) f rfl (fun _ => rfl), f2_fn (c := 35) f rfl (fun _ => rfl), f2_fn (c := 39) f rfl (fun _ => rfl), f2_fn (c := 40) f rfl (fun _ => rfl), f 4 7 rfl rfl, f 5 4 rfl rfl, f 5 5 rfl rfl]
  exact h
set_option maxHeartbeats 1000000 in
theorem x_sk1 {L : Nat → Bool} {A R B Y U : Nat → Int32} {cn : Nat} (hD : yl_D A R B Y U cn) {d : Nat} (hd : 1 ≤ d) {k : Nat} (IH : ∀ (m dep : Nat) (e c : Int) (wt dp le sp : Int32) (I : mv_I) (J : mv_J) (Q : mv_Q), dep + k = 6 → m < 64 → m < 2 ^ cn → wt = nI m → dp = nI dep → le.toInt = e → sp.toInt = c → -1 ≤ e → e ≤ 59 + 20000 * (dep : Int) → 0 ≤ c → c ≤ 12006000 * (dep : Int) → yl_K L A R B Y U cn I → c ≤ (I 6 7).toInt → (I 6 7).toInt ≤ 1000000000 → (∀ I', mg_f2 [45, 46] [(6, 7)] I I' → yl_SK (yl_E L A R B) (yl_C A Y U) (yl_ap k m) e c (I 6 7).toInt (I' 6 7).toInt → Q none I' J) → mv_wpM mv_tab mv_sh d 16 [.inr (.inr 6), .inr (.inr 4), .inr (.inr 5), .inl wt, .inl dp, .inl le, .inl sp] I J Q) {m dep : Nat} {e c : Int} {dp le sp : Int32} {J : mv_J} {Q : mv_Q} {I0 : mv_I} (hk : dep + (k + 1) = 6) (hm : m < 64) (hc : m < 2 ^ cn) (m0 : ¬ m = 0) (edp : dp = nI dep) (ele : le.toInt = e) (esp : sp.toInt = c) (he1 : -1 ≤ e) (he2 : e ≤ 59 + 20000 * (dep : Int)) (hc0 : 0 ≤ c) (hc1 : c ≤ 12006000 * (dep : Int)) (hK : yl_K L A R B Y U cn I0) (hl : (I0 6 7).toInt ≤ 1000000000) (h : ∀ I', mg_f2 [45, 46] [(6, 7)] I0 I' → yl_SK (yl_E L A R B) (yl_C A Y U) (yl_ap (k + 1) m) e c (I0 6 7).toInt (I' 6 7).toInt → Q none I' J) : ∀ (j fu n : Nat) (y z : Option mv_V) (I : mv_I), n + j = cn → mg_f2 [45, 46] [(6, 7)] I0 I → yl_SL (yl_E L A R B) (yl_C A Y U) k m e c (I0 6 7).toInt (I 6 7).toInt n → 100 * (j + 1) ≤ fu → mv_wp (mv_wpM mv_tab mv_sh d) mv_sh none tbX2_seek flX2 csX2 0 (fun _ _ _ _ _ => False) Q fu 37 [some (.inr (.inr 6)), some (.inr (.inr 4)), some (.inr (.inr 5)), some (.inl (nI m)), some (.inl dp), some (.inl le), some (.inl sp), some (.inl (nI n)), y, z] [] I J := by
  have BD := hD.bd (L := L)
  obtain ⟨hcn, hA, hN, hY, hU⟩ := id hD
  intro j
  induction j with
  | zero =>
    intro fu n y z I hn h1 g1 hf
    obtain ⟨fu, rfl⟩ : ∃ z, fu = z + 100 := ⟨fu - 100, by omega⟩
    obtain ⟨_, _, _, _, _, k6, _⟩ := hK.kp h1
    refine And.intro (fun q => ?_) (fun q => absurd (mi_le.mpr (by rw [k6, nI_toInt (by omega), nI_toInt (by omega)]; omega)) q)
    exact h _ h1 (yl_SL_end g1 m0 hc (by omega))
  | succ j ih =>
    intro fu n y z I hn h1 g1 hf
    obtain ⟨fu, rfl⟩ : ∃ z, fu = z + 100 := ⟨fu - 100, by omega⟩
    have hKI := hK.kp h1
    obtain ⟨k1, k2, k3, k4, k5, k6, k7⟩ := id hKI
    have n6 : n < 6 := by omega
    have tn : (nI n).toInt = n := nI_toInt (by omega)
    have cx : (nI n).toNatClampNeg = n := nI_clamp (by omega)
    have o1 : rg (nI n) 0 5 := ⟨by omega, by omega⟩
    have N : ∀ (fu : Nat) (y z : Option mv_V) (I2 : mv_I), 100 * (j + 1) ≤ fu → mg_f2 [45, 46] [(6, 7)] I0 I2 → yl_SL (yl_E L A R B) (yl_C A Y U) k m e c (I0 6 7).toInt (I2 6 7).toInt (n + 1) → mv_wp (mv_wpM mv_tab mv_sh d) mv_sh none tbX2_seek flX2 csX2 0 (fun _ _ _ _ _ => False) Q fu 37 [some (.inr (.inr 6)), some (.inr (.inr 4)), some (.inr (.inr 5)), some (.inl (nI m)), some (.inl dp), some (.inl le), some (.inl sp), some (.inl (nI n + 1)), y, z] [] I2 J := fun fu y z I2 a1 a2 a3 => by
      rw [nI_1]
      exact ih _ (n + 1) _ _ _ (by omega) a2 a3 a1
    obtain ⟨w1, w2, w3⟩ := yl_bit m hm n n6
    refine And.intro (fun q => ?_) (fun q => ?_)
    · rw [mi_le, k6, nI_toInt (by omega), tn] at q
      omega
    · refine And.intro (fun qb => ?_) (fun qb => ?_)
      · have hb : Nat.testBit m n = true := by
          by_cases z : Nat.testBit m n = true
          · exact z
          · exact absurd (w2.mp z) qb
        refine x_turn (by omega) _ _ o1 ⟨by omega, by omega⟩ (fun r hr => ?_)
        refine x_days (by omega) _ o1 (by rw [cx, k2]; exact (hN n (by omega)).1) (by rw [cx, k3]; exact (hN n (by omega)).2) ?_
        rw [cx, k1, ele] at hr
        have hr0 : ((max (A n).toInt (e + 1)).toNat : Int) = max (A n).toInt (e + 1) := Int.toNat_of_nonneg (by omega)
        have a59 := hA n
        obtain ⟨a0, a1⟩ := a59
        refine x_endF (by omega) _ _ (D := (max (A n).toInt (e + 1)).toNat) (hr.trans hr0.symm) (by omega) (by rw [cx, k2, k3]; exact mg_days (hN n (by omega)).1 (hN n (by omega)).2) k7 (fun r3 h3 => ?_)
        rw [cx, k2, k3] at h3
        have h3 : r3.toInt = yl_E L A R B n e := h3
        have bd := BD n (by omega) dep e (by omega) he1 he2
        refine And.intro (fun q3 => ?_) (fun q3 => ?_)
        · have q3 : 0 ≤ r3.toInt := by rw [mi_le] at q3; have := mi_l; omega
          have nE : ¬ yl_E L A R B n e < 0 := by omega
          obtain ⟨b1, b2, b3, b4⟩ := bd.resolve_left nE
          refine x_cost (by omega) _ _ o1 ⟨by omega, by omega⟩ (by rw [k1]; exact hA _) (by rw [k4]; exact hY _) (by rw [k5]; exact hU _) (fun r4 h4 => ?_)
          rw [cx, k1, k4, k5, h3] at h4
          have es : (sp + r4).toInt = c + yl_C A Y U n (yl_E L A R B n e) := by rw [mi_add (by rw [esp, h4]; omega) (by rw [esp, h4]; omega), esp, h4]
          refine And.intro (fun q4 => ?_) (fun q4 => ?_)
          · rw [mi_le, es] at q4
            refine And.intro ?_ trivial
            refine N _ _ _ _ (by omega) h1 (yl_SL_cut g1 q4 (fun o' ho' y' hy' => ?_))
            exact (yl_oc_b BD k (m - 2 ^ n) (dep + 1) o' _ y' (by omega) (Nat.lt_of_le_of_lt (Nat.sub_le _ _) hc) ho' (by omega) (by omega) hy').1
          · rw [mi_le, es] at q4
            refine And.intro (by rw [edp]; exact vp_in_nI (by omega) (by decide)) ?_
            have f9 : mg_f2 [45, 46] [(6, 7)] I0 (va_up I 45 (upd (I 45) dp.toNatClampNeg (nI n))) := mg_f2.up h1 rfl
            have g9 := g1.1
            refine IH (m - 2 ^ n) (dep + 1) (yl_E L A R B n e) (c + yl_C A Y U n (yl_E L A R B n e)) _ _ _ _ _ _ _ (by omega) (Nat.lt_of_le_of_lt (Nat.sub_le _ _) hm) (Nat.lt_of_le_of_lt (Nat.sub_le _ _) hc) (w3 hb) (by rw [edp]; exact nI_1 dep) h3 es (by omega) (by omega) (by omega) (by omega) (hK.kp f9) (show _ ≤ (I 6 7).toInt by omega) (show (I 6 7).toInt ≤ _ by omega) (fun I5 f5 s5 => ?_)
            refine And.intro ?_ trivial
            exact N _ _ _ _ (by omega) (f9.tr f5) (yl_SL_rec g1 m0 n6 hb nE s5)
        · have q3 : r3.toInt < 0 := by rw [mi_le] at q3; have := mi_l; omega
          refine And.intro ?_ trivial
          exact N _ _ _ _ (by omega) h1 (yl_SL_none g1 (by omega))
      · refine And.intro ?_ trivial
        exact N _ _ _ _ (by omega) h1 (yl_SL_skip g1 (w2.mpr qb))
set_option maxHeartbeats 1000000 in
theorem x_seek {L : Nat → Bool} {A R B Y U : Nat → Int32} {cn : Nat} (hD : yl_D A R B Y U cn) : ∀ (k d m dep : Nat) (e c : Int) (wt dp le sp : Int32) (I : mv_I) (J : mv_J) (Q : mv_Q), k + 2 ≤ d → dep + k = 6 → m < 64 → m < 2 ^ cn → wt = nI m → dp = nI dep → le.toInt = e → sp.toInt = c → -1 ≤ e → e ≤ 59 + 20000 * (dep : Int) → 0 ≤ c → c ≤ 12006000 * (dep : Int) → yl_K L A R B Y U cn I → c ≤ (I 6 7).toInt → (I 6 7).toInt ≤ 1000000000 → (∀ I', mg_f2 [45, 46] [(6, 7)] I I' → yl_SK (yl_E L A R B) (yl_C A Y U) (yl_ap k m) e c (I 6 7).toInt (I' 6 7).toInt → Q none I' J) → mv_wpM mv_tab mv_sh d 16 [.inr (.inr 6), .inr (.inr 4), .inr (.inr 5), .inl wt, .inl dp, .inl le, .inl sp] I J Q := by
  intro k
  induction k with
  | zero =>
    intro d m dep e c wt dp le sp I J Q hd hk hm hc ewt edp ele esp he1 he2 hc0 hc1 hK hcl hl h
    obtain ⟨d, rfl⟩ : ∃ e, d = e + 1 := ⟨d - 1, by omega⟩
    refine (show ∃ fu9, mv_wp (mv_wpM mv_tab mv_sh d) mv_sh none tbX2_seek flX2 csX2 0 (fun _ _ _ _ _ => False) Q fu9 0 [some (.inr (.inr 6)), some (.inr (.inr 4)), some (.inr (.inr 5)), some (.inl wt), some (.inl dp), some (.inl le), some (.inl sp), none, none, none] [] I J from ?_)
    refine ⟨60, ?_⟩
    refine And.intro (fun q => ?_) (fun q => ?_)
    · have m0 : ¬ m = 0 := fun z => q (by rw [ewt, z]; rfl)
      refine And.intro (fun q2 => absurd (mi_lt.mp q2) (by rw [edp, nI_toInt (by omega)]; have := mi_l; omega)) (fun q2 => ?_)
      exact h _ mg_f2.rf (yl_SK_n m0)
    · have ed := mi_cl (x := dp) (by rw [edp, nI_toInt (by omega)]; omega)
      have td : dp.toInt = dep := by rw [edp]; exact nI_toInt (by omega)
      have c0 : (0 : Int32).toInt = 0 := by decide
      have z0 : (0 : Int32).toNatClampNeg = 0 := by decide
      have m0 : m = 0 := by
        rw [ewt, mi_eq, c0, nI_toInt (by omega)] at q
        omega
      refine And.intro (by decide) (And.intro (by decide) (And.intro (by (try simp only [mi_le, mi_lt, mi_eq] at *); have := mi_l; omega) (And.intro ?_ (And.intro ?_ ?_))))
      · show (0 : Int32).toNatClampNeg + dp.toNatClampNeg ≤ 6
        omega
      · show (0 : Int32).toNatClampNeg + dp.toNatClampNeg ≤ 6
        omega
      · refine h _ (mg_f2.up (mg_f2.uf mg_f2.rf rfl) rfl) ?_
        show yl_SK _ _ _ e c (I 6 7).toInt sp.toInt
        rw [esp, m0]
        exact yl_SK_0 hcl
  | succ k ih =>
    intro d m dep e c wt dp le sp I J Q hd hk hm hc ewt edp ele esp he1 he2 hc0 hc1 hK hcl hl h
    obtain ⟨d, rfl⟩ : ∃ e, d = e + 1 := ⟨d - 1, by omega⟩
    refine (show ∃ fu9, mv_wp (mv_wpM mv_tab mv_sh d) mv_sh none tbX2_seek flX2 csX2 0 (fun _ _ _ _ _ => False) Q fu9 0 [some (.inr (.inr 6)), some (.inr (.inr 4)), some (.inr (.inr 5)), some (.inl wt), some (.inl dp), some (.inl le), some (.inl sp), none, none, none] [] I J from ?_)
    refine ⟨1000, ?_⟩
    refine And.intro (fun q => ?_) (fun q => ?_)
    · have m0 : ¬ m = 0 := fun z => q (by rw [ewt, z]; rfl)
      have hcn := hD.1
      refine And.intro (fun q2 => ?_) (fun q2 => absurd (mi_lt.mpr (by rw [edp, nI_toInt (by omega)]; have := mi_l; omega)) q2)
      subst ewt
      refine And.intro ?_ trivial
      exact x_sk1 hD (by omega) (fun m dep e c wt dp le sp I J Q => ih d m dep e c wt dp le sp I J Q (by omega)) hk hm hc m0 edp ele esp he1 he2 hc0 hc1 hK hl h cn _ 0 _ _ _ (by omega) mg_f2.rf yl_SL_0 (Nat.le_trans (show 100 * (cn + 1) ≤ 700 by omega) (Nat.le_of_ble_eq_true rfl))
    · have ed := mi_cl (x := dp) (by rw [edp, nI_toInt (by omega)]; omega)
      have td : dp.toInt = dep := by rw [edp]; exact nI_toInt (by omega)
      have c0 : (0 : Int32).toInt = 0 := by decide
      have z0 : (0 : Int32).toNatClampNeg = 0 := by decide
      have m0 : m = 0 := by
        rw [ewt, mi_eq, c0, nI_toInt (by omega)] at q
        omega
      refine And.intro (by decide) (And.intro (by decide) (And.intro (by (try simp only [mi_le, mi_lt, mi_eq] at *); have := mi_l; omega) (And.intro ?_ (And.intro ?_ ?_))))
      · show (0 : Int32).toNatClampNeg + dp.toNatClampNeg ≤ 6
        omega
      · show (0 : Int32).toNatClampNeg + dp.toNatClampNeg ≤ 6
        omega
      · refine h _ (mg_f2.up (mg_f2.uf mg_f2.rf rfl) rfl) ?_
        show yl_SK _ _ _ e c (I 6 7).toInt sp.toInt
        rw [esp, m0]
        exact yl_SK_0 hcl
def LB (I : mv_I) : Prop := (∀ j, rg (I 34 j) 0 30) ∧ (∀ j, rg (I 35 j) 0 100)
def lyC (I : mv_I) (a r : Int32) : Prop := (¬ (1 ≤ a ∧ a ≤ 1 <<< (I 4 7 &&& 31) - 1) ∧ r = -1) ∨ ((1 ≤ a ∧ a ≤ 1 <<< (I 4 7 &&& 31) - 1) ∧ ∃ l' : Int, yl_SK (yl_E (yl_L (I 38) (I 5 1)) (I 31) (I 32) (I 33)) (yl_C (I 31) (I 34) (I 35)) (yl_ap 6 a.toNatClampNeg) (-1) 0 1000000000 l' ∧ r.toInt = if l' = 1000000000 then -2 else l')
theorem yl_cn {n a : Int32} (hn : rg n 0 6) (ha : 1 ≤ a ∧ a ≤ 1 <<< (n &&& 31) - 1) : n = nI n.toNatClampNeg ∧ n.toNatClampNeg ≤ 6 ∧ a = nI a.toNatClampNeg ∧ a.toNatClampNeg < 64 ∧ ¬ a.toNatClampNeg = 0 ∧ a.toNatClampNeg < 2 ^ n.toNatClampNeg := by
  obtain ⟨n0, n1⟩ := id hn
  obtain ⟨z1, z2⟩ := mg_sh1 hn ha
  obtain ⟨z3, z4⟩ := z1
  have kn := mi_cl n0
  have ka := mi_cl (x := a) (by omega)
  have en : n = nI n.toNatClampNeg := (mi_nI n0).symm
  refine ⟨en, by omega, (mi_nI (by omega)).symm, by omega, by omega, ?_⟩
  have h2 := ha.2
  rw [mi_le, en, yl_top _ (by omega)] at h2
  have h3 : ((2 : Int) ^ n.toNatClampNeg) = ((2 ^ n.toNatClampNeg : Nat) : Int) := by rw [Int.natCast_pow]; rfl
  rw [h3] at h2
  omega
theorem mg_fl.yd {I : mv_I} (hF : mg_fl I) (hB : LB I) : yl_D (I 31) (I 32) (I 33) (I 34) (I 35) (I 4 7).toNatClampNeg := by
  obtain ⟨f1, f2, f3, f4⟩ := hF
  obtain ⟨n0, n1⟩ := f1
  have kn := mi_cl n0
  refine ⟨by omega, f2, fun s hs => ?_, hB.1, hB.2⟩
  have h4 := f4 s (by omega)
  have h3 := f3 s
  exact ⟨⟨h4.1, h3.1.2⟩, ⟨h4.2, h3.2.2⟩⟩
set_option maxHeartbeats 1000000 in
theorem x_layC {d : Nat} (hd : 9 ≤ d) (a : Int32) {I : mv_I} {J : mv_J} {Q : mv_Q} (ha : rg a 1 63) (hc : 1 ≤ (I 4 7).toInt) (hF : mg_fl I) (hO : mg_or I) (hB : LB I) (p : 1 ≤ a ∧ a ≤ 1 <<< (I 4 7 &&& 31) - 1) (h : ∀ (r : Int32) (I' : mv_I), lyC I a r → Q (some (.inl r)) I' J) : mv_wpM mv_tab mv_sh d 20 [.inr (.inr 6), .inr (.inr 4), .inr (.inr 5), .inl a] I J Q := by
  obtain ⟨d, rfl⟩ : ∃ e, d = e + 1 := ⟨d - 1, by omega⟩
  refine (show ∃ fu9, mv_wp (mv_wpM mv_tab mv_sh d) mv_sh none tbX2_layCheapest flX2 csX2 1 (fun _ _ _ _ _ => False) Q fu9 0 [some (.inr (.inr 6)), some (.inr (.inr 4)), some (.inr (.inr 5)), some (.inl a)] [] I J from ?_)
  refine ⟨60, ?_⟩
  obtain ⟨y1, y2, y3, y4, y5, y6⟩ := yl_cn hF.1 p
  have yD := hF.yd hB
  refine x_cld (by omega) (fun I2 f2 ld => ?_)
  have g2 : mg_f2 [39, 40, 41, 42, 43, 44, 45, 46] [(5, 4), (5, 5), (6, 4), (6, 7)] I (va_up I2 6 (upd (I2 6) 7 1000000000)) := mg_f2.uf (f2.mono rfl rfl) rfl
  have hO2 : mg_or (va_up I2 6 (upd (I2 6) 7 1000000000)) := by
    unfold mg_or at *
    rw [g2 4 7 rfl rfl]
    exact ⟨fun j => by show mg_of (I2 45 j) _; rw [f2 45 j rfl rfl]; exact hO.1 j, fun j => by show mg_of (I2 46 j) _; rw [f2 46 j rfl rfl]; exact hO.2 j⟩
  have hF2 : mg_fl (va_up I2 6 (upd (I2 6) 7 1000000000)) := hF.kp (f2 4 7 rfl rfl) (f2_fn f2 rfl (fun _ => rfl)) (f2_fn f2 rfl (fun _ => rfl)) (f2_fn f2 rfl (fun _ => rfl))
  have hK2 : yl_K (yl_L (I 38) (I 5 1)) (I 31) (I 32) (I 33) (I 34) (I 35) (I 4 7).toNatClampNeg (va_up I2 6 (upd (I2 6) 7 1000000000)) := ⟨f2_fn (c := 31) f2 rfl (fun _ => rfl), f2_fn (c := 32) f2 rfl (fun _ => rfl), f2_fn (c := 33) f2 rfl (fun _ => rfl), f2_fn (c := 34) f2 rfl (fun _ => rfl), f2_fn (c := 35) f2 rfl (fun _ => rfl), (f2 4 7 rfl rfl).trans y1, ld⟩
  have m9 : (1000000000 : Int32).toInt = 1000000000 := by decide
  have m2 : (-2 : Int32).toInt = -2 := by decide
  refine mv_wpM_2 _ 16 _ _ J (fun q I' J' => q = none ∧ J' = J ∧ mg_f2 [45, 46] [(6, 7)] (va_up I2 6 (upd (I2 6) 7 1000000000)) I' ∧ mg_or I') (fun q I' J' => yl_SK (yl_E (yl_L (I 38) (I 5 1)) (I 31) (I 32) (I 33)) (yl_C (I 31) (I 34) (I 35)) (yl_ap 6 a.toNatClampNeg) (-1) 0 1000000000 (I' 6 7).toInt) _ (fun q I3 J3 h1 sk => ?_) (s_seek 6 _ _ _ _ _ _ _ _ (by omega) ⟨by decide, by decide⟩ (by decide) hF2 (ld.ld.kp rfl rfl) hO2 (fun I3 f3 o3 => ⟨rfl, rfl, f3, o3⟩)) (x_seek yD 6 _ a.toNatClampNeg 0 (-1) 0 _ _ _ _ _ _ _ (by omega) rfl y4 y6 y3 rfl (by decide) (by decide) (by omega) (by omega) (by omega) (by omega) hK2 (show (0 : Int) ≤ (1000000000 : Int32).toInt by decide) (show (1000000000 : Int32).toInt ≤ 1000000000 by decide) (fun I3 f3 s3 => s3))
  obtain ⟨eq, ej, f3, o3⟩ := h1
  subst eq
  subst ej
  have g3 : mg_f2 [39, 40, 41, 42, 43, 44, 45, 46] [(5, 4), (5, 5), (6, 4), (6, 7)] I I3 := g2.tr (f3.mono rfl rfl)
  refine And.intro (fun q => ?_) (fun q => ?_)
  · refine s_bitCount (by omega) _ ⟨by have := ha.1; omega, ha.2⟩ (fun r hr => ?_)
    refine s_keep (by omega) _ hr (by rw [g3 4 7 rfl rfl]; exact hc) (hF.kp (g3 4 7 rfl rfl) (f2_fn g3 rfl (fun _ => rfl)) (f2_fn g3 rfl (fun _ => rfl)) (f2_fn g3 rfl (fun _ => rfl))) (mg_ld.kp (I := I2) ld.ld (f3 5 4 rfl rfl) (f2_fn f3 rfl (fun _ => rfl))) o3 (fun I4 f4 => ?_)
    refine h _ _ (Or.inr ⟨p, (I3 6 7).toInt, sk, ?_⟩)
    have e4 : I4 6 7 = I3 6 7 := f4 6 7 rfl rfl
    rw [mi_eq, m9] at q
    rw [if_neg q]
    exact congrArg Int32.toInt e4
  · refine h _ _ (Or.inr ⟨p, (I3 6 7).toInt, sk, ?_⟩)
    rw [mi_eq, m9] at q
    rw [if_pos q]
    exact m2
set_option maxHeartbeats 1000000 in
theorem E_lay {d : Nat} (hd : 11 ≤ d) (a : Int32) {I : mv_I} {J : mv_J} {Q : mv_Q} (sc : SC I) (hB : LB I) (h : ∀ (r : Int32) (I' : mv_I), lyC I a r → Q (some (.inl r)) I' J) : mv_wpM mv_tab mv_sh d 72 [.inr (.inr 0), .inl a] I J Q := by
  obtain ⟨d, rfl⟩ : ∃ e, d = e + 1 := ⟨d - 1, by omega⟩
  refine (show ∃ fu9, mv_wp (mv_wpM mv_tab mv_sh d) mv_sh none tbX7_lay flX7 csX7 1 (fun _ _ _ _ _ => False) Q fu9 0 [some (.inr (.inr 0)), some (.inl a)] [] I J from ?_)
  refine ⟨60, ?_⟩
  obtain ⟨s1, s2, s3, s4, s5, s6, s7, s8, s9, s10, s11, s12⟩ := id sc
  refine c_isWithin (by omega) a 1 _ (fun p => ?_) (fun p => ?_)
  · first | refine And.intro (fun z => absurd z (by decide)) (fun _ => ?_) | refine And.intro (fun _ => ?_) (fun z => absurd z (by decide))
    obtain ⟨z1, z2⟩ := mg_sh1 s7.1 p
    exact x_layC (by omega) a z1 z2 s7 s8 hB p h
  · first | refine And.intro (fun z => absurd z (by decide)) (fun _ => ?_) | refine And.intro (fun _ => ?_) (fun z => absurd z (by decide))
    exact h _ _ (Or.inl ⟨p, rfl⟩)
