def mr_sw (f : Nat → Int32) (a b : Nat) : Nat → Int32 := upd (upd f a (f b)) b (f a)
theorem mr_sw_at (f : Nat → Int32) (a b z : Nat) : mr_sw f a b z = f (if z = b then a else if z = a then b else z) := by
  unfold mr_sw upd
  by_cases h1 : z = b
  · rw [if_pos h1, if_pos h1]
  · rw [if_neg h1, if_neg h1]
    by_cases h2 : z = a
    · rw [if_pos h2, if_pos h2]
    · rw [if_neg h2, if_neg h2]
theorem mr_rw.sw {f : Nat → Int32} {s : Int32} {n a b : Nat} (h : mr_rw f s n) (ha : a < n) (hb : b < n) : mr_rw (mr_sw f a b) s n := by
  have hz : ∀ z, z < n → (if z = b then a else if z = a then b else z) < n := by
    intro z hz
    by_cases h1 : z = b
    · rw [if_pos h1]; exact ha
    · rw [if_neg h1]
      by_cases h2 : z = a
      · rw [if_pos h2]; exact hb
      · rw [if_neg h2]; exact hz
  refine ⟨fun z z1 => by rw [mr_sw_at]; exact h.1 _ (hz z z1), fun y z y1 z1 e => ?_⟩
  rw [mr_sw_at, mr_sw_at] at e
  have e2 := h.2 _ _ (hz y y1) (hz z z1) e
  repeat' (split at e2)
  all_goals omega
/-- the row read as digits of base six, the first one highest -/
def mr_rk (f : Nat → Int32) : Nat → Nat
  | 0 => 0
  | n + 1 => 6 * mr_rk f n + (f n).toNatClampNeg
theorem mr_rk_eq {f g : Nat → Int32} : ∀ (n : Nat), (∀ z, z < n → f z = g z) → mr_rk f n = mr_rk g n
  | 0, _ => rfl
  | n + 1, h => by unfold mr_rk; rw [mr_rk_eq n (fun z hz => h z (by omega)), h n (by omega)]
theorem mr_rk_lt {f g : Nat → Int32} {i : Nat} (he : ∀ z, z < i → f z = g z) (hi : (f i).toNatClampNeg < (g i).toNatClampNeg) : ∀ (n : Nat), i < n → (∀ z, z < n → (f z).toNatClampNeg ≤ 5) → mr_rk f n < mr_rk g n
  | 0, h, _ => absurd h (by omega)
  | n + 1, h, hf => by
    unfold mr_rk
    by_cases e : i = n
    · subst e
      rw [mr_rk_eq i he]
      omega
    · have h1 := mr_rk_lt he hi n (by omega) (fun z hz => hf z (by omega))
      have h2 := hf n (by omega)
      omega
theorem mr_rk_bd {f : Nat → Int32} : ∀ (n : Nat), (∀ z, z < n → (f z).toNatClampNeg ≤ 5) → mr_rk f n < 6 ^ n
  | 0, _ => (show (0 : Nat) < 6 ^ 0 by decide)
  | n + 1, hf => by
    unfold mr_rk
    have h1 := mr_rk_bd n (fun z hz => hf z (by omega))
    have h2 := hf n (by omega)
    have h3 : 6 ^ (n + 1) = 6 ^ n * 6 := Nat.pow_succ 6 n
    omega
theorem mr_rw.le {f : Nat → Int32} {s : Int32} {n : Nat} (h : mr_rw f s n) (hs : s.toInt ≤ 6) : ∀ z, z < n → (f z).toNatClampNeg ≤ 5 := fun z hz => by
  have h1 := h.1 z hz
  have := mi_cl h1.1
  omega
theorem mr_rw.bd {f : Nat → Int32} {s : Int32} {n : Nat} (h : mr_rw f s n) (hs : s.toInt ≤ 6) (hn : n ≤ 6) : mr_rk f n < 46656 := by
  have h1 := mr_rk_bd n (h.le hs)
  have h2 : 6 ^ n ≤ 6 ^ 6 := Nat.pow_le_pow_right (by decide) hn
  have h3 : 6 ^ 6 = 46656 := by decide
  omega
set_option maxHeartbeats 1000000 in
theorem r_swap {d : Nat} (hd : 1 ≤ d) (a b : Int32) {I : mv_I} {J : mv_J} {Q : mv_Q} (ha : rg a 0 5) (hb : rg b 0 5) (h : ∀ (I' : mv_I), mg_f2 [74] [] I I' → I' 74 = mr_sw (I 74) a.toNatClampNeg b.toNatClampNeg → Q none I' J) : mv_wpM mv_tab mv_sh d 118 [.inr (.inr 12), .inl a, .inl b] I J Q := by
  obtain ⟨d, rfl⟩ : ∃ e, d = e + 1 := ⟨d - 1, by omega⟩
  refine (show ∃ fu9, mv_wp (mv_wpM mv_tab mv_sh d) mv_sh none tbX8_swap flX8 csX8 0 (fun _ _ _ _ _ => False) Q fu9 0 [some (.inr (.inr 12)), some (.inl a), some (.inl b), none] [] I J from ?_)
  refine ⟨60, ?_⟩
  have Ba : vp_in a 6 := vp_in_iff.mpr ⟨ha.1, by have := ha.2; omega⟩
  have Bb : vp_in b 6 := vp_in_iff.mpr ⟨hb.1, by have := hb.2; omega⟩
  refine And.intro Ba ?_
  refine And.intro Bb ?_
  refine And.intro Ba ?_
  refine And.intro Bb ?_
  exact h _ (mg_f2.up (mg_f2.up mg_f2.rf rfl) rfl) rfl

set_option maxHeartbeats 1000000 in
theorem l_cu3 {d : Nat} (hd : 1 ≤ d) {n i j sn : Int32} {J : mv_J} {Q : mv_Q} {I0 : mv_I} (hn : rg n 0 6) (hi : 0 ≤ i.toInt) (hin : i.toInt < n.toInt) (hs : sn.toInt ≤ 6) (hR0 : mr_rw (I0 74) sn n.toNatClampNeg) (H1 : ∀ (I' : mv_I), mg_f2 [74] [] I0 I' → mr_rw (I' 74) sn n.toNatClampNeg → mr_rk (I0 74) n.toNatClampNeg < mr_rk (I' 74) n.toNatClampNeg → Q (some (.inl 1)) I' J) : ∀ (k fu : Nat) (a b : Int32) (I : mv_I), i.toInt < a.toInt → a.toInt ≤ n.toInt → rg b (-1) (n.toInt - 1) → mg_f2 [74] [] I0 I → mr_rw (I 74) sn n.toNatClampNeg → (∀ z, z < i.toNatClampNeg → I0 74 z = I 74 z) → (I0 74 i.toNatClampNeg).toNatClampNeg < (I 74 i.toNatClampNeg).toNatClampNeg → (n.toInt - a.toInt).toNat < k → 60 * k ≤ fu → mv_wp (mv_wpM mv_tab mv_sh d) mv_sh none tbX8_countsUp flX8 csX8 2 (fun _ _ _ _ _ => False) Q fu 78 [some (.inr (.inr 12)), some (.inl n), some (.inl i), some (.inl j), some (.inl a), some (.inl b)] [] I J := by
  intro k
  induction k with
  | zero => intro fu a b I h0 h1 h2 h3 h4 h5 h6 h7 hf; omega
  | succ k ih =>
    intro fu a b I h0 h1 h2 h3 h4 h5 h6 h7 hf
    obtain ⟨fu, rfl⟩ : ∃ z, fu = z + 60 := ⟨fu - 60, by omega⟩
    obtain ⟨n0, n1⟩ := id hn
    obtain ⟨b0, b1⟩ := id h2
    have kn := mi_cl n0
    have ki := mi_cl hi
    refine And.intro (fun q => ?_) (fun q => ?_)
    · exact And.intro (Or.inr rfl) (H1 _ h3 h4 (mr_rk_lt h5 h6 _ (by omega) (hR0.le hs)))
    · have qx : a.toInt < b.toInt := by rw [mi_le] at q; omega
      have e1 := mi_incl qx
      have e2 : (b + -1).toInt = b.toInt - 1 := mi_dec (by omega)
      have ka := mi_cl (x := a) (by omega)
      have kb := mi_cl (x := b) (by omega)
      refine r_swap (by omega) a b ⟨by omega, by omega⟩ ⟨by omega, by omega⟩ (fun I2 f2 g2 => ?_)
      refine And.intro ?_ trivial
      have SW : ∀ z, z ≤ i.toNatClampNeg → I2 74 z = I 74 z := fun z hz => by rw [g2, mr_sw_at, if_neg (by omega), if_neg (by omega)]
      refine ih _ _ _ _ (by omega) (by omega) ⟨by omega, by omega⟩ (h3.tr f2) (by rw [g2]; exact h4.sw (by omega) (by omega)) (fun z hz => by rw [SW z (by omega)]; exact h5 z hz) (by rw [SW _ (by omega)]; exact h6) (by omega) (by omega)
