def mr_sw (f : Nat → Int32) (a b : Nat) : Nat → Int32 := upd (upd f a (f b)) b (f a)
theorem mr_sw_at (f : Nat → Int32) (a b z : Nat) : mr_sw f a b z = f (if z = b then a else if z = a then b else z) := by
  unfold mr_sw upd
  by_cases h1 : z = b
  · rw [if_pos h1, if_pos h1]
  · rw [if_neg h1, if_neg h1]
    by_cases h2 : z = a
    · rw [if_pos h2, if_pos h2]
    · rw [if_neg h2, if_neg h2]
theorem mr_rw.sw {f : Nat → Int32} {s : Int32} {n a b : Nat} (h : mr_rw f s n) (ha : a < n) (hb : b < n) : mr_rw (mr_sw f a b) s n := by
  have hz : ∀ z, z < n → (if z = b then a else if z = a then b else z) < n := by
    intro z hz
    by_cases h1 : z = b
    · rw [if_pos h1]; exact ha
    · rw [if_neg h1]
      by_cases h2 : z = a
      · rw [if_pos h2]; exact hb
      · rw [if_neg h2]; exact hz
  refine ⟨fun z z1 => by rw [mr_sw_at]; exact h.1 _ (hz z z1), fun y z y1 z1 e => ?_⟩
  rw [mr_sw_at, mr_sw_at] at e
  have e2 := h.2 _ _ (hz y y1) (hz z z1) e
  repeat' (split at e2)
  all_goals omega
/-- the row read as digits of base six, the first one highest -/
def mr_rk (f : Nat → Int32) : Nat → Nat
  | 0 => 0
  | n + 1 => 6 * mr_rk f n + (f n).toNatClampNeg
theorem mr_rk_eq {f g : Nat → Int32} : ∀ (n : Nat), (∀ z, z < n → f z = g z) → mr_rk f n = mr_rk g n
  | 0, _ => rfl
  | n + 1, h => by unfold mr_rk; rw [mr_rk_eq n (fun z hz => h z (by omega)), h n (by omega)]
theorem mr_rk_lt {f g : Nat → Int32} {i : Nat} (he : ∀ z, z < i → f z = g z) (hi : (f i).toNatClampNeg < (g i).toNatClampNeg) : ∀ (n : Nat), i < n → (∀ z, z < n → (f z).toNatClampNeg ≤ 5) → mr_rk f n < mr_rk g n
  | 0, h, _ => absurd h (by omega)
  | n + 1, h, hf => by
    unfold mr_rk
    by_cases e : i = n
    · subst e
      rw [mr_rk_eq i he]
      omega
    · have h1 := mr_rk_lt he hi n (by omega) (fun z hz => hf z (by omega))
      have h2 := hf n (by omega)
      omega
theorem mr_rk_bd {f : Nat → Int32} : ∀ (n : Nat), (∀ z, z < n → (f z).toNatClampNeg ≤ 5) → mr_rk f n < 6 ^ n
  | 0, _ => (show (0 : Nat) < 6 ^ 0 by decide)
  | n + 1, hf => by
    unfold mr_rk
    have h1 := mr_rk_bd n (fun z hz => hf z (by omega))
    have h2 := hf n (by omega)
    have h3 : 6 ^ (n + 1) = 6 ^ n * 6 := Nat.pow_succ 6 n
    omega
theorem mr_rw.le {f : Nat → Int32} {s : Int32} {n : Nat} (h : mr_rw f s n) (hs : s.toInt ≤ 6) : ∀ z, z < n → (f z).toNatClampNeg ≤ 5 := fun z hz => by
  have h1 := h.1 z hz
  have := mi_cl h1.1
  omega
theorem mr_rw.bd {f : Nat → Int32} {s : Int32} {n : Nat} (h : mr_rw f s n) (hs : s.toInt ≤ 6) (hn : n ≤ 6) : mr_rk f n < 46656 := by
  have h1 := mr_rk_bd n (h.le hs)
  have h2 : 6 ^ n ≤ 6 ^ 6 := Nat.pow_le_pow_right (by decide) hn
  have h3 : 6 ^ 6 = 46656 := by decide
  omega
set_option maxHeartbeats 1000000 in
theorem r_swap {d : Nat} (hd : 1 ≤ d) (a b : Int32) {I : mv_I} {J : mv_J} {Q : mv_Q} (ha : rg a 0 5) (hb : rg b 0 5) (h : ∀ (I' : mv_I), mg_f2 [74] [] I I' → I' 74 = mr_sw (I 74) a.toNatClampNeg b.toNatClampNeg → Q none I' J) : mv_wpM mv_tab mv_sh d 118 [.inr (.inr 12), .inl a, .inl b] I J Q := by
  obtain ⟨d, rfl⟩ : ∃ e, d = e + 1 := ⟨d - 1, by omega⟩
  refine (show ∃ fu9, mv_wp (mv_wpM mv_tab mv_sh d) mv_sh none tbX8_swap flX8 csX8 0 (fun _ _ _ _ _ => False) Q fu9 0 [some (.inr (.inr 12)), some (.inl a), some (.inl b), none] [] I J from ?_)
  refine ⟨60, ?_⟩
  have Ba : vp_in a 6 := vp_in_iff.mpr ⟨ha.1, by have := ha.2; omega⟩
  have Bb : vp_in b 6 := vp_in_iff.mpr ⟨hb.1, by have := hb.2; omega⟩
  refine And.intro Ba ?_
  refine And.intro Bb ?_
  refine And.intro Ba ?_
  refine And.intro Bb ?_
  exact h _ (mg_f2.up (mg_f2.up mg_f2.rf rfl) rfl) rfl

set_option maxHeartbeats 1000000 in
theorem l_cu3 {d : Nat} (hd : 1 ≤ d) {n i j sn : Int32} {J : mv_J} {Q : mv_Q} {I0 : mv_I} (hn : rg n 0 6) (hi : 0 ≤ i.toInt) (hin : i.toInt < n.toInt) (hs : sn.toInt ≤ 6) (hR0 : mr_rw (I0 74) sn n.toNatClampNeg) (H1 : ∀ (I' : mv_I), mg_f2 [74] [] I0 I' → mr_rw (I' 74) sn n.toNatClampNeg → mr_rk (I0 74) n.toNatClampNeg < mr_rk (I' 74) n.toNatClampNeg → Q (some (.inl 1)) I' J) : ∀ (k fu : Nat) (a b : Int32) (I : mv_I), i.toInt < a.toInt → a.toInt ≤ n.toInt → rg b (-1) (n.toInt - 1) → mg_f2 [74] [] I0 I → mr_rw (I 74) sn n.toNatClampNeg → (∀ z, z < i.toNatClampNeg → I0 74 z = I 74 z) → (I0 74 i.toNatClampNeg).toNatClampNeg < (I 74 i.toNatClampNeg).toNatClampNeg → (n.toInt - a.toInt).toNat < k → 60 * k ≤ fu → mv_wp (mv_wpM mv_tab mv_sh d) mv_sh none tbX8_countsUp flX8 csX8 2 (fun _ _ _ _ _ => False) Q fu 78 [some (.inr (.inr 12)), some (.inl n), some (.inl i), some (.inl j), some (.inl a), some (.inl b)] [] I J := by
  intro k
  induction k with
  | zero => intro fu a b I h0 h1 h2 h3 h4 h5 h6 h7 hf; omega
  | succ k ih =>
    intro fu a b I h0 h1 h2 h3 h4 h5 h6 h7 hf
    obtain ⟨fu, rfl⟩ : ∃ z, fu = z + 60 := ⟨fu - 60, by omega⟩
    obtain ⟨n0, n1⟩ := id hn
    obtain ⟨b0, b1⟩ := id h2
    have kn := mi_cl n0
    have ki := mi_cl hi
    refine And.intro (fun q => ?_) (fun q => ?_)
    · have w1 : i.toNatClampNeg < n.toNatClampNeg := by omega
      have w2 := hR0.le hs
      have w3 : mr_rk (I0 74) n.toNatClampNeg < mr_rk (I 74) n.toNatClampNeg := mr_rk_lt h5 h6 _ w1 w2
      exact And.intro (Or.inr rfl) (H1 _ h3 h4 w3)
    · have qx : a.toInt < b.toInt := by rw [mi_le] at q; omega
      have ha0 : 0 ≤ a.toInt := Int.le_of_lt (Int.lt_of_le_of_lt hi h0)
      have ka := mi_cl ha0
      have hb0 : 0 ≤ b.toInt := Int.le_of_lt (Int.lt_of_le_of_lt ha0 qx)
      have kb := mi_cl hb0
      refine r_swap (by omega) a b ⟨by omega, by omega⟩ ⟨by omega, by omega⟩ (fun I2 f2 g2 => ?_)
      have a1 : a.toNatClampNeg < n.toNatClampNeg := by omega
      have a2 : b.toNatClampNeg < n.toNatClampNeg := by omega
      have a3 : i.toNatClampNeg < a.toNatClampNeg := by omega
      have a4 : i.toNatClampNeg < b.toNatClampNeg := by omega
      have SW : ∀ z, z ≤ i.toNatClampNeg → I2 74 z = I 74 z := by
        intro z hz
        have z1 : ¬ z = b.toNatClampNeg := by omega
        have z2 : ¬ z = a.toNatClampNeg := by omega
        rw [g2, mr_sw_at, if_neg z1, if_neg z2]
      have G4 : mr_rw (I2 74) sn n.toNatClampNeg := by
        rw [g2]
        exact mr_rw.sw h4 a1 a2
      have G5 : ∀ z, z < i.toNatClampNeg → I0 74 z = I2 74 z := by
        intro z hz
        rw [SW z (Nat.le_of_lt hz)]
        exact h5 z hz
      have G6 : (I0 74 i.toNatClampNeg).toNatClampNeg < (I2 74 i.toNatClampNeg).toNatClampNeg := by
        rw [SW i.toNatClampNeg (Nat.le_refl _)]
        exact h6
      have G3 := h3.tr f2
      have G2 : rg (b + -1) (-1) (n.toInt - 1) := by
        clear G6 SW a1 a2 a3 a4 ka kb kn ki h6 h7 hf
        have e2 : (b + -1).toInt = b.toInt - 1 := mi_dec hb0
        exact ⟨by omega, by omega⟩
      have G0 : i.toInt < (a + 1).toInt := by have e1 := mi_incl qx; omega
      have G1 : (a + 1).toInt ≤ n.toInt := by have e1 := mi_incl qx; omega
      have G7 : (n.toInt - (a + 1).toInt).toNat < k := by have e1 := mi_incl qx; omega
      have G8 : 60 * k ≤ fu + 40 := by omega
      refine And.intro ?_ trivial
      exact ih _ _ _ _ G0 G1 G2 G3 G4 G5 G6 G7 (by clear G0 G1 G7; omega)
set_option maxHeartbeats 1000000 in
theorem l_cu2 {d : Nat} (hd : 1 ≤ d) {n i sn : Int32} {J : mv_J} {Q : mv_Q} {I0 : mv_I} (hn : rg n 0 6) (hi : 0 ≤ i.toInt) (hin : i.toInt + 1 < n.toInt) (hs : sn.toInt ≤ 6) (hR0 : mr_rw (I0 74) sn n.toNatClampNeg) (hle : I0 74 i.toNatClampNeg ≤ I0 74 (i.toNatClampNeg + 1)) (H1 : ∀ (I' : mv_I), mg_f2 [74] [] I0 I' → mr_rw (I' 74) sn n.toNatClampNeg → mr_rk (I0 74) n.toNatClampNeg < mr_rk (I' 74) n.toNatClampNeg → Q (some (.inl 1)) I' J) : ∀ (k fu : Nat) (j : Int32), i.toInt < j.toInt → j.toInt < n.toInt → (j.toInt - i.toInt).toNat < k → 60 * k + 500 ≤ fu → mv_wp (mv_wpM mv_tab mv_sh d) mv_sh none tbX8_countsUp flX8 csX8 2 (fun _ _ _ _ _ => False) Q fu 41 [some (.inr (.inr 12)), some (.inl n), some (.inl i), some (.inl j), none, none] [] I0 J := by
  intro k
  induction k with
  | zero => intro fu j h0 h1 h2 hf; omega
  | succ k ih =>
    intro fu j h0 h1 h2 hf
    obtain ⟨fu, rfl⟩ : ∃ z, fu = z + 60 := ⟨fu - 60, by omega⟩
    obtain ⟨n0, n1⟩ := id hn
    have kn := mi_cl n0
    have ki := mi_cl hi
    have kj := mi_cl (x := j) (by omega)
    refine And.intro (vp_in_iff.mpr ⟨by omega, by omega⟩) ?_
    refine And.intro (vp_in_iff.mpr ⟨by omega, by omega⟩) ?_
    refine And.intro (fun q => ?_) (fun q => ?_)
    · have c1 : (1 : Int32).toInt = 1 := by decide
      have e1 := mi_inc (x := i) (n := 6) (by omega) (by omega)
      have e2 : (n - 1).toInt = n.toInt - 1 := by rw [mi_sub (by omega) (by omega), c1]
      have rj := hR0.1 j.toNatClampNeg (by omega)
      have ri := hR0.1 i.toNatClampNeg (by omega)
      have krj := mi_cl rj.1
      have kri := mi_cl ri.1
      have ne : ¬ I0 74 j.toNatClampNeg = I0 74 i.toNatClampNeg := fun z => by have := hR0.2 _ _ (by omega) (by omega) z; omega
      have lt : (I0 74 i.toNatClampNeg).toInt < (I0 74 j.toNatClampNeg).toInt := by
        rw [mi_le] at q
        have : ¬ (I0 74 j.toNatClampNeg).toInt = (I0 74 i.toNatClampNeg).toInt := fun z => ne (mi_eq.mpr z)
        omega
      refine r_swap (by omega) i j ⟨by omega, by omega⟩ ⟨by omega, by omega⟩ (fun I2 f2 g2 => ?_)
      have a1 : i.toNatClampNeg < n.toNatClampNeg := by omega
      have a2 : j.toNatClampNeg < n.toNatClampNeg := by omega
      have a3 : i.toNatClampNeg < j.toNatClampNeg := by omega
      have G4 : mr_rw (I2 74) sn n.toNatClampNeg := by
        rw [g2]
        exact mr_rw.sw hR0 a1 a2
      have G5 : ∀ z, z < i.toNatClampNeg → I0 74 z = I2 74 z := by
        intro z hz
        have z1 : ¬ z = j.toNatClampNeg := by omega
        have z2 : ¬ z = i.toNatClampNeg := by omega
        rw [g2, mr_sw_at, if_neg z1, if_neg z2]
      have G6 : (I0 74 i.toNatClampNeg).toNatClampNeg < (I2 74 i.toNatClampNeg).toNatClampNeg := by
        have z1 : ¬ i.toNatClampNeg = j.toNatClampNeg := by omega
        rw [g2, mr_sw_at, if_neg z1, if_pos rfl]
        omega
      have G2 : rg (n - 1) (-1) (n.toInt - 1) := ⟨by omega, by omega⟩
      refine And.intro ?_ trivial
      exact l_cu3 (by omega) hn hi (by omega) hs hR0 H1 7 _ _ _ _ (by omega) (by omega) G2 f2 G4 G5 G6 (by omega) (by omega)
    · have hj0 : 0 ≤ j.toInt := by omega
      have nj : ¬ j.toNatClampNeg = i.toNatClampNeg + 1 := fun z => by
        rw [z] at q
        exact q hle
      have nj2 : i.toInt + 1 < j.toInt := by omega
      clear nj kn ki kj
      have e2 : (j + -1).toInt = j.toInt - 1 := mi_dec hj0
      refine And.intro ?_ trivial
      exact ih _ _ (by omega) (by omega) (by omega) (by omega)
set_option maxHeartbeats 1000000 in
theorem l_cu1 {d : Nat} (hd : 1 ≤ d) {n sn : Int32} {J : mv_J} {Q : mv_Q} {I0 : mv_I} (hn : rg n 0 6) (hs : sn.toInt ≤ 6) (hR0 : mr_rw (I0 74) sn n.toNatClampNeg) (H0 : Q (some (.inl 0)) I0 J) (H1 : ∀ (I' : mv_I), mg_f2 [74] [] I0 I' → mr_rw (I' 74) sn n.toNatClampNeg → mr_rk (I0 74) n.toNatClampNeg < mr_rk (I' 74) n.toNatClampNeg → Q (some (.inl 1)) I' J) : ∀ (k fu : Nat) (i : Int32), -2 ≤ i.toInt → i.toInt + 1 < n.toInt → (i.toInt + 2).toNat < k → 60 * k + 1100 ≤ fu → mv_wp (mv_wpM mv_tab mv_sh d) mv_sh none tbX8_countsUp flX8 csX8 2 (fun _ _ _ _ _ => False) Q fu 4 [some (.inr (.inr 12)), some (.inl n), some (.inl i), none, none, none] [] I0 J := by
  intro k
  induction k with
  | zero => intro fu i h0 h1 h2 hf; omega
  | succ k ih =>
    intro fu i h0 h1 h2 hf
    obtain ⟨fu, rfl⟩ : ∃ z, fu = z + 60 := ⟨fu - 60, by omega⟩
    obtain ⟨n0, n1⟩ := id hn
    have kn := mi_cl n0
    have c1 : (1 : Int32).toInt = 1 := by decide
    refine And.intro (fun q => ?_) (fun q => ?_)
    · refine And.intro (fun q2 => absurd q (fun z => by (try simp only [mi_le, mi_lt, mi_eq] at *); have := mi_l; omega)) (fun q2 => ?_)
      exact And.intro (Or.inl rfl) H0
    · have qx : 0 ≤ i.toInt := by rw [mi_lt] at q; have := mi_l; omega
      have e1 := mi_inc (x := i) (n := 6) (by omega) (by omega)
      have ki := mi_cl qx
      have k1 := mi_cl (x := i + 1) (by omega)
      have ek : (i + 1).toNatClampNeg = i.toNatClampNeg + 1 := by omega
      have e2 : (n - 1).toInt = n.toInt - 1 := by rw [mi_sub (by omega) (by omega), c1]
      refine And.intro (vp_in_iff.mpr ⟨by omega, by omega⟩) ?_
      refine And.intro (vp_in_iff.mpr ⟨by omega, by omega⟩) ?_
      refine And.intro (fun q2 => ?_) (fun q2 => ?_)
      · refine And.intro (fun q3 => ?_) (fun q3 => absurd (mi_le.mpr (by have := mi_l; omega)) q3)
        refine And.intro ?_ trivial
        exact l_cu2 (by omega) hn qx (by omega) hs hR0 (by rw [ek] at q2; exact q2) H1 7 _ _ (by omega) (by omega) (by omega) (by omega)
      · clear e1 k1 ek e2 kn ki
        have e3 : (i + -1).toInt = i.toInt - 1 := mi_dec qx
        refine And.intro ?_ trivial
        exact ih _ _ (by omega) (by omega) (by omega) (by omega)
set_option maxHeartbeats 1000000 in
theorem r_countsUp {d : Nat} (hd : 2 ≤ d) (n : Int32) {I : mv_I} {J : mv_J} {Q : mv_Q} (sn : Int32) (hn : rg n 0 6) (hs : sn.toInt ≤ 6) (hR0 : mr_rw (I 74) sn n.toNatClampNeg) (H0 : Q (some (.inl 0)) I J) (H1 : ∀ (I' : mv_I), mg_f2 [74] [] I I' → mr_rw (I' 74) sn n.toNatClampNeg → mr_rk (I 74) n.toNatClampNeg < mr_rk (I' 74) n.toNatClampNeg → Q (some (.inl 1)) I' J) : mv_wpM mv_tab mv_sh d 119 [.inr (.inr 12), .inl n] I J Q := by
  obtain ⟨d, rfl⟩ : ∃ e, d = e + 1 := ⟨d - 1, by omega⟩
  refine (show ∃ fu9, mv_wp (mv_wpM mv_tab mv_sh d) mv_sh none tbX8_countsUp flX8 csX8 2 (fun _ _ _ _ _ => False) Q fu9 0 [some (.inr (.inr 12)), some (.inl n), none, none, none, none] [] I J from ?_)
  refine ⟨1800, ?_⟩
  obtain ⟨n0, n1⟩ := id hn
  have c2 : (2 : Int32).toInt = 2 := by decide
  have e2 : (n - 2).toInt = n.toInt - 2 := by rw [mi_sub (by omega) (by omega), c2]
  refine And.intro ?_ trivial
  exact l_cu1 (by omega) hn hs hR0 H0 H1 9 _ _ (by omega) (by omega) (by omega) (Nat.le_of_ble_eq_true rfl)

set_option maxHeartbeats 1000000 in
theorem l_rlay2 {d : Nat} (hd : 4 ≤ d) {a n : Int32} {J : mv_J} {Q : mv_Q} {I0 : mv_I} (hn : rg n 0 6) (hF : mr_fl I0) (h : ∀ (r : Int32) (I' : mv_I), mg_f2 [74, 75, 76, 77, 78, 79, 80, 81] [(12, 37)] I0 I' → Q (some (.inl r)) I' J) : ∀ (k fu : Nat) (le m : Int32) (y : Option mv_V) (I : mv_I), mg_f2 [74, 75, 76, 77, 78, 79, 80, 81] [(12, 37)] I0 I → mr_rw (I 74) (I0 12 24) n.toNatClampNeg → 1 ≤ k → (m = 0 ∨ 46656 - mr_rk (I 74) n.toNatClampNeg < k) → 60 * k + 60 ≤ fu → mv_wp (mv_wpM mv_tab mv_sh d) mv_sh none tbX8_lay flX8 csX8 1 (fun _ _ _ _ _ => False) Q fu 60 [some (.inr (.inr 12)), some (.inl a), some (.inl n), some (.inl le), some (.inl m), y] [] I J := by
  intro k
  induction k with
  | zero => intro fu le m y I h0 h1 h2 h3 hf; omega
  | succ k ih =>
    intro fu le m y I h0 h1 h2 h3 hf
    obtain ⟨fu, rfl⟩ : ∃ z, fu = z + 60 := ⟨fu - 60, by omega⟩
    obtain ⟨n0, n1⟩ := id hn
    have kn := mi_cl n0
    have hs := hF.1.2
    have es : I 12 24 = I0 12 24 := h0 12 24 rfl rfl
    refine And.intro (fun q => ?_) (fun q => ?_)
    · refine And.intro (fun _ => ?_) (fun _ => ?_)
      · exact h _ _ h0
      · exact h _ _ h0
    · have hm := h3.resolve_left q
      have hb := mr_rw.bd h1 hs (by omega)
      have k1 : 1 ≤ k := by omega
      refine r_costOf (by omega) n hn (hF.kp es (f2_fn h0 rfl (fun _ => rfl)) (f2_fn h0 rfl (fun _ => rfl)) (f2_fn h0 rfl (fun _ => rfl))) (by rw [es]; exact h1) (fun r I2 f2 => ?_)
      have F2 : mg_f2 [74, 75, 76, 77, 78, 79, 80, 81] [(12, 37)] I0 I2 := h0.tr (f2.mono rfl rfl)
      have e74 : I2 74 = I 74 := f2_fn f2 rfl (fun _ => rfl)
      refine And.intro (fun _ => ?_) (fun _ => ?_)
      · refine r_countsUp (by omega) n (I0 12 24) hn hs (by rw [e74]; exact h1) ?_ (fun I4 f4 g4 r4 => ?_)
        · refine And.intro ?_ trivial
          exact ih _ _ _ _ _ F2 (by rw [e74]; exact h1) k1 (Or.inl rfl) (by omega)
        · rw [e74] at r4
          have r5 : 46656 - mr_rk (I4 74) n.toNatClampNeg < k := by omega
          have F5 := F2.tr (f4.mono (S := [74, 75, 76, 77, 78, 79, 80, 81]) (T := [(12, 37)]) rfl rfl)
          refine And.intro ?_ trivial
          exact ih _ _ _ _ _ F5 g4 k1 (Or.inr r5) (by omega)
      · refine And.intro (fun _ => ?_) (fun _ => ?_)
        · refine r_keep (by omega) n hn (by rw [F2 12 24 rfl rfl]; exact hs) (by rw [F2 12 24 rfl rfl, e74]; exact h1) (fun I3 f3 => ?_)
          have F3 := F2.tr (f3.mono (S := [74, 75, 76, 77, 78, 79, 80, 81]) (T := [(12, 37)]) rfl rfl)
          have e3 : I3 74 = I 74 := (f2_fn (c := 74) f3 rfl (fun _ => rfl)).trans e74
          refine r_countsUp (by omega) n (I0 12 24) hn hs (by rw [e3]; exact h1) ?_ (fun I4 f4 g4 r4 => ?_)
          · refine And.intro ?_ trivial
            exact ih _ _ _ _ _ F3 (by rw [e3]; exact h1) k1 (Or.inl rfl) (by omega)
          · rw [e3] at r4
            have r5 : 46656 - mr_rk (I4 74) n.toNatClampNeg < k := by omega
            have F5 := F3.tr (f4.mono (S := [74, 75, 76, 77, 78, 79, 80, 81]) (T := [(12, 37)]) rfl rfl)
            refine And.intro ?_ trivial
            exact ih _ _ _ _ _ F5 g4 k1 (Or.inr r5) (by omega)
        · refine And.intro (fun _ => ?_) (fun _ => ?_)
          · refine r_countsUp (by omega) n (I0 12 24) hn hs (by rw [e74]; exact h1) ?_ (fun I4 f4 g4 r4 => ?_)
            · refine And.intro ?_ trivial
              exact ih _ _ _ _ _ F2 (by rw [e74]; exact h1) k1 (Or.inl rfl) (by omega)
            · rw [e74] at r4
              have r5 : 46656 - mr_rk (I4 74) n.toNatClampNeg < k := by omega
              have F5 := F2.tr (f4.mono (S := [74, 75, 76, 77, 78, 79, 80, 81]) (T := [(12, 37)]) rfl rfl)
              refine And.intro ?_ trivial
              exact ih _ _ _ _ _ F5 g4 k1 (Or.inr r5) (by omega)
          · refine r_keep (by omega) n hn (by rw [F2 12 24 rfl rfl]; exact hs) (by rw [F2 12 24 rfl rfl, e74]; exact h1) (fun I3 f3 => ?_)
            have F3 := F2.tr (f3.mono (S := [74, 75, 76, 77, 78, 79, 80, 81]) (T := [(12, 37)]) rfl rfl)
            have e3 : I3 74 = I 74 := (f2_fn (c := 74) f3 rfl (fun _ => rfl)).trans e74
            refine r_countsUp (by omega) n (I0 12 24) hn hs (by rw [e3]; exact h1) ?_ (fun I4 f4 g4 r4 => ?_)
            · refine And.intro ?_ trivial
              exact ih _ _ _ _ _ F3 (by rw [e3]; exact h1) k1 (Or.inl rfl) (by omega)
            · rw [e3] at r4
              have r5 : 46656 - mr_rk (I4 74) n.toNatClampNeg < k := by omega
              have F5 := F3.tr (f4.mono (S := [74, 75, 76, 77, 78, 79, 80, 81]) (T := [(12, 37)]) rfl rfl)
              refine And.intro ?_ trivial
              exact ih _ _ _ _ _ F5 g4 k1 (Or.inr r5) (by omega)
