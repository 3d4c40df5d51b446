theorem has_iff {len i n : Int32} (hl : rg len 0 60) : has_it len i n ↔ (0 ≤ i.toInt ∧ 0 ≤ n.toInt ∧ i.toInt + n.toInt ≤ len.toInt) := ⟨fun h => mg_has hl h, fun h => mr_has hl h.2.1 ⟨h.1, h.2.2⟩⟩
def mr_mv (f : Nat → Int32) (s t n : Nat) : Nat → Int32 := fun z => if t ≤ z ∧ z < t + n then f (s + (z - t)) else f z
def sm_copy (a i b j n : Int32) (I : mv_I) (r : Int32) (I' : mv_I) : Prop := (¬ ((0 ≤ a ∧ a ≤ 3) ∧ (0 ≤ b ∧ b ≤ 3)) ∧ r = -1 ∧ I' = I) ∨ (((0 ≤ a ∧ a ≤ 3) ∧ (0 ≤ b ∧ b ≤ 3)) ∧ (((I 82 a.toNatClampNeg = -1 ∨ I 82 b.toNatClampNeg = -1) ∧ r = -11 ∧ I' = I) ∨ (¬ (I 82 a.toNatClampNeg = -1 ∨ I 82 b.toNatClampNeg = -1) ∧ ¬ I 82 a.toNatClampNeg = I 82 b.toNatClampNeg ∧ r = -12 ∧ I' = I) ∨ (¬ (I 82 a.toNatClampNeg = -1 ∨ I 82 b.toNatClampNeg = -1) ∧ I 82 a.toNatClampNeg = I 82 b.toNatClampNeg ∧ ¬ (has_it (I 83 a.toNatClampNeg) i n ∧ has_it (I 83 b.toNatClampNeg) j n) ∧ r = -13 ∧ I' = I) ∨ (¬ (I 82 a.toNatClampNeg = -1 ∨ I 82 b.toNatClampNeg = -1) ∧ I 82 a.toNatClampNeg = I 82 b.toNatClampNeg ∧ (has_it (I 83 a.toNatClampNeg) i n ∧ has_it (I 83 b.toNatClampNeg) j n) ∧ r = n ∧ I' 84 = mr_mv (I 84) (60 * a.toNatClampNeg + i.toNatClampNeg) (60 * b.toNatClampNeg + j.toNatClampNeg) n.toNatClampNeg)))
set_option maxHeartbeats 1000000 in
theorem l_rcopy2 {d : Nat} {a i b j n : Int32} {J : mv_J} {Q : mv_Q} {I0 : mv_I} (ha : rg a 0 3) (hb : rg b 0 3) (hi : 0 ≤ i.toInt) (hj : 0 ≤ j.toInt) (hn : 0 ≤ n.toInt) (hin : i.toInt + n.toInt ≤ 60) (hjn : j.toInt + n.toInt ≤ 60) (h : ∀ (I' : mv_I), mg_f2 [84, 85] [] I0 I' → I' 84 = mr_mv (I0 84) (60 * a.toNatClampNeg + i.toNatClampNeg) (60 * b.toNatClampNeg + j.toNatClampNeg) n.toNatClampNeg → Q (some (.inl n)) I' J) : ∀ (k fu : Nat) (x : Int32) (I : mv_I), 0 ≤ x.toInt → x.toInt ≤ n.toInt → mg_f2 [84, 85] [] I0 I → (∀ z, z < n.toNatClampNeg → I 85 z = I0 84 (60 * a.toNatClampNeg + i.toNatClampNeg + z)) → I 84 = mr_mv (I0 84) (60 * a.toNatClampNeg + i.toNatClampNeg) (60 * b.toNatClampNeg + j.toNatClampNeg) x.toNatClampNeg → (n.toInt - x.toInt).toNat < k → 60 * k ≤ fu → mv_wp (mv_wpM mv_tab mv_sh d) mv_sh none tbX8_copy flX8 csX8 1 (fun _ _ _ _ _ => False) Q fu 126 [some (.inr (.inr 12)), some (.inl a), some (.inl i), some (.inl b), some (.inl j), some (.inl n), some (.inl x)] [] I J := by
  intro k
  induction k with
  | zero => intro fu x I h0 h1 h2 h3 h4 h5 hf; omega
  | succ k ih =>
    intro fu x I h0 h1 h2 h3 h4 h5 hf
    obtain ⟨fu, rfl⟩ : ∃ z, fu = z + 60 := ⟨fu - 60, by omega⟩
    have ki := mi_cl hi
    have kj := mi_cl hj
    have kn := mi_cl hn
    have kx := mi_cl h0
    refine And.intro (fun q => ?_) (fun q => ?_)
    · have qx : x.toInt = n.toInt := by (try simp only [mi_le, mi_lt, mi_eq] at *); have := mi_l; omega
      have e : x.toNatClampNeg = n.toNatClampNeg := by omega
      rw [e] at h4
      exact h _ h2 h4
    · have qx : x.toInt < n.toInt := by (try simp only [mi_le, mi_lt, mi_eq] at *); have := mi_l; omega
      have e1 := mi_incl qx
      have k1 := mi_cl (x := x + 1) (by omega)
      obtain ⟨y1, y2⟩ := mi_240s (b := j) (c := x) hb hj h0 (by omega)
      refine And.intro (vp_in_iff.mpr ⟨by omega, by omega⟩) ?_
      refine And.intro y1 ?_
      refine And.intro ?_ trivial
      refine ih _ _ _ (by omega) (by omega) (mg_f2.up h2 rfl) h3 ?_ (by omega) (by omega)
      show upd (I 84) (60 * b + j + x).toNatClampNeg (I 85 x.toNatClampNeg) = _
      rw [y2, h3 _ (by omega), h4]
      funext z
      unfold upd mr_mv
      by_cases z1 : z = 60 * b.toNatClampNeg + j.toNatClampNeg + x.toNatClampNeg
      · rw [if_pos z1, if_pos (by omega)]
        congr 1
        omega
      · rw [if_neg z1]
        by_cases z2 : 60 * b.toNatClampNeg + j.toNatClampNeg ≤ z ∧ z < 60 * b.toNatClampNeg + j.toNatClampNeg + x.toNatClampNeg
        · rw [if_pos z2, if_pos (by omega)]
        · rw [if_neg z2, if_neg (by omega)]
set_option maxHeartbeats 1000000 in
theorem l_rcopy1 {d : Nat} {a i b j n : Int32} {J : mv_J} {Q : mv_Q} {I0 : mv_I} (ha : rg a 0 3) (hb : rg b 0 3) (hi : 0 ≤ i.toInt) (hj : 0 ≤ j.toInt) (hn : 0 ≤ n.toInt) (hin : i.toInt + n.toInt ≤ 60) (hjn : j.toInt + n.toInt ≤ 60) (h : ∀ (I' : mv_I), mg_f2 [84, 85] [] I0 I' → I' 84 = mr_mv (I0 84) (60 * a.toNatClampNeg + i.toNatClampNeg) (60 * b.toNatClampNeg + j.toNatClampNeg) n.toNatClampNeg → Q (some (.inl n)) I' J) : ∀ (k fu : Nat) (x : Int32) (I : mv_I), 0 ≤ x.toInt → x.toInt ≤ n.toInt → mg_f2 [85] [] I0 I → (∀ z, z < x.toNatClampNeg → I 85 z = I0 84 (60 * a.toNatClampNeg + i.toNatClampNeg + z)) → (n.toInt - x.toInt).toNat < k → 60 * k + 3800 ≤ fu → mv_wp (mv_wpM mv_tab mv_sh d) mv_sh none tbX8_copy flX8 csX8 1 (fun _ _ _ _ _ => False) Q fu 89 [some (.inr (.inr 12)), some (.inl a), some (.inl i), some (.inl b), some (.inl j), some (.inl n), some (.inl x)] [] I J := by
  intro k
  induction k with
  | zero => intro fu x I h0 h1 h2 h3 h4 hf; omega
  | succ k ih =>
    intro fu x I h0 h1 h2 h3 h4 hf
    obtain ⟨fu, rfl⟩ : ∃ z, fu = z + 60 := ⟨fu - 60, by omega⟩
    have ki := mi_cl hi
    have kj := mi_cl hj
    have kn := mi_cl hn
    have kx := mi_cl h0
    have e84 : I 84 = I0 84 := f2_fn h2 rfl (fun _ => rfl)
    refine And.intro (fun q => ?_) (fun q => ?_)
    · have qx : x.toInt = n.toInt := by (try simp only [mi_le, mi_lt, mi_eq] at *); have := mi_l; omega
      have e : x.toNatClampNeg = n.toNatClampNeg := by omega
      rw [e] at h3
      refine And.intro ?_ trivial
      refine l_rcopy2 ha hb hi hj hn hin hjn h 61 _ _ _ (by decide) (by have := mi_l; omega) (h2.mono rfl rfl) h3 ?_ (by have := mi_l; omega) (by omega)
      rw [e84]
      funext z
      unfold mr_mv
      rw [if_neg (by have : (0 : Int32).toNatClampNeg = 0 := (by decide); omega)]
    · have qx : x.toInt < n.toInt := by (try simp only [mi_le, mi_lt, mi_eq] at *); have := mi_l; omega
      have e1 := mi_incl qx
      have k1 := mi_cl (x := x + 1) (by omega)
      obtain ⟨y1, y2⟩ := mi_240s (b := i) (c := x) ha hi h0 (by omega)
      refine And.intro y1 ?_
      refine And.intro (vp_in_iff.mpr ⟨by omega, by omega⟩) ?_
      refine And.intro ?_ trivial
      refine ih _ _ _ (by omega) (by omega) (mg_f2.up h2 rfl) (fun z hz => ?_) (by omega) (by omega)
      show upd (I 85) x.toNatClampNeg (I 84 (60 * a + i + x).toNatClampNeg) z = _
      rw [y2, e84]
      unfold upd
      by_cases z1 : z = x.toNatClampNeg
      · rw [if_pos z1, z1]
      · rw [if_neg z1]
        exact h3 z (by omega)
set_option maxHeartbeats 1000000 in
theorem G_copy {d : Nat} (hd : 4 ≤ d) (a i b j n : Int32) {I : mv_I} {J : mv_J} {Q : mv_Q} (sm : SM I) (h : ∀ (r : Int32) (I' : mv_I) (J' : mv_J), SM I' → mg_f2 [84, 85] [] I I' → sm_copy a i b j n I r I' → Q (some (.inl r)) I' J') : mv_wpM mv_tab mv_sh d 128 [.inr (.inr 12), .inl a, .inl i, .inl b, .inl j, .inl n] I J Q := by
  obtain ⟨d, rfl⟩ : ∃ e, d = e + 1 := ⟨d - 1, by omega⟩
  refine (show ∃ fu9, mv_wp (mv_wpM mv_tab mv_sh d) mv_sh none tbX8_copy flX8 csX8 1 (fun _ _ _ _ _ => False) Q fu9 0 [some (.inr (.inr 12)), some (.inl a), some (.inl i), some (.inl b), some (.inl j), some (.inl n), none] [] I J from ?_)
  refine ⟨7700, ?_⟩
  obtain ⟨t1, t2, t3, t4, t5, t6, t7, t8, t9, t10⟩ := id sm
  refine c8_isSheet (by omega) a (fun p1 => ?_) (fun p1 => ?_)
  · first | refine And.intro (fun z => absurd z (by decide)) (fun _ => ?_) | refine And.intro (fun _ => ?_) (fun z => absurd z (by decide))
    have ha : rg a 0 3 := mg_le p1
    have Ba : vp_in a 4 := vp_in_iff.mpr ⟨ha.1, by have := ha.2; omega⟩
    refine c8_isSheet (by omega) b (fun p2 => ?_) (fun p2 => ?_)
    · first | refine And.intro (fun z => absurd z (by decide)) (fun _ => ?_) | refine And.intro (fun _ => ?_) (fun z => absurd z (by decide))
      have hb : rg b 0 3 := mg_le p2
      have Bb : vp_in b 4 := vp_in_iff.mpr ⟨hb.1, by have := hb.2; omega⟩
      have hla := t8.2 a.toNatClampNeg
      have hlb := t8.2 b.toNatClampNeg
      have c0 : (0 : Int32).toInt = 0 := by decide
      refine And.intro Ba ?_
      refine And.intro (fun q1 => ?_) (fun q1 => ?_)
      · exact h _ _ _ sm mg_f2.rf (Or.inr ⟨⟨p1, p2⟩, Or.inl ⟨Or.inl (mr_neg (t8.1 _) q1), rfl, rfl⟩⟩)
      · refine And.intro Bb ?_
        refine And.intro (fun q2 => ?_) (fun q2 => ?_)
        · have nn : ¬ (I 82 a.toNatClampNeg = -1 ∨ I 82 b.toNatClampNeg = -1) := fun z => z.elim (mr_nneg q1) (mr_nneg (mr_ge q2))
          refine And.intro Ba ?_
          refine And.intro Bb ?_
          refine And.intro (fun q3 => ?_) (fun q3 => ?_)
          · have BAD : ∀ J, ¬ (has_it (I 83 a.toNatClampNeg) i n ∧ has_it (I 83 b.toNatClampNeg) j n) → Q (some (.inl (-13))) I J := fun J z => h _ _ _ sm mg_f2.rf (Or.inr ⟨⟨p1, p2⟩, Or.inr (Or.inr (Or.inl ⟨nn, q3, z, rfl, rfl⟩))⟩)
            refine And.intro (fun q4 => ?_) (fun q4 => ?_)
            · exact BAD _ (fun z => by have := ((has_iff hla).mp z.1).2.1; rw [mi_lt] at q4; omega)
            · have hn : 0 ≤ n.toInt := by rw [mi_lt] at q4; omega
              refine r_within (by omega) a i n ha (fun y1 => ?_) (fun y1 => ?_)
              · first | refine And.intro (fun z => absurd z (by decide)) (fun _ => ?_) | refine And.intro (fun _ => ?_) (fun z => absurd z (by decide))
                refine r_within (by omega) b j n hb (fun y2 => ?_) (fun y2 => ?_)
                · first | refine And.intro (fun z => absurd z (by decide)) (fun _ => ?_) | refine And.intro (fun _ => ?_) (fun z => absurd z (by decide))
                  have hla2 := hla.2
                  have hlb2 := hlb.2
                  refine And.intro ?_ trivial
                  refine l_rcopy1 ha hb y1.1 y2.1 hn (by omega) (by omega) (fun I2 f g => ?_) 61 _ _ _ (by decide) (by omega) mg_f2.rf (fun z hz => absurd hz (by have : (0 : Int32).toNatClampNeg = 0 := (by decide); omega)) (by omega) (Nat.le_of_ble_eq_true rfl)
                  exact h _ _ _ ⟨(show rg (_ : Int32) _ _ by rw [f 12 3 rfl rfl]; exact t1), (show rg (_ : Int32) _ _ by rw [f 12 0 rfl rfl]; exact t2), (show rg (_ : Int32) _ _ by rw [f 12 11 rfl rfl]; exact t3), (show rg (_ : Int32) _ _ by rw [f 12 20 rfl rfl]; exact t4), (show rg (_ : Int32) _ _ by rw [f 12 4 rfl rfl]; exact t5), (fun j => (by rw [f 53 j rfl rfl]; exact t6 j)), (t7.kp (f 12 24 rfl rfl) (f2_fn (c := 67) f rfl (fun _ => rfl)) (f2_fn (c := 68) f rfl (fun _ => rfl)) (f2_fn (c := 69) f rfl (fun _ => rfl))), ⟨(fun j => (by rw [f 82 j rfl rfl]; exact t8.1 j)), (fun j => (by rw [f 83 j rfl rfl]; exact t8.2 j))⟩, (fun j => (by rw [f 59 j rfl rfl, f 60 j rfl rfl]; exact t9 j)), ⟨(t10.1.kp (f 12 0 rfl rfl) (f2_fn (c := 51) f rfl (fun _ => rfl))), (show rg (_ : Int32) _ _ by rw [f 12 10 rfl rfl]; exact t10.2)⟩⟩ f (Or.inr ⟨⟨p1, p2⟩, Or.inr (Or.inr (Or.inr ⟨nn, q3, ⟨mr_has hla hn y1, mr_has hlb hn y2⟩, rfl, g⟩))⟩)
                · first | refine And.intro (fun z => absurd z (by decide)) (fun _ => ?_) | refine And.intro (fun _ => ?_) (fun z => absurd z (by decide))
                  exact BAD _ (fun z => y2 (by have := (has_iff hlb).mp z.2; exact ⟨this.1, this.2.2⟩))
              · first | refine And.intro (fun z => absurd z (by decide)) (fun _ => ?_) | refine And.intro (fun _ => ?_) (fun z => absurd z (by decide))
                exact BAD _ (fun z => y1 (by have := (has_iff hla).mp z.1; exact ⟨this.1, this.2.2⟩))
          · exact h _ _ _ sm mg_f2.rf (Or.inr ⟨⟨p1, p2⟩, Or.inr (Or.inl ⟨nn, q3, rfl, rfl⟩)⟩)
        · exact h _ _ _ sm mg_f2.rf (Or.inr ⟨⟨p1, p2⟩, Or.inl ⟨Or.inr (mr_neg (t8.1 _) (mr_nge q2)), rfl, rfl⟩⟩)
    · first | refine And.intro (fun z => absurd z (by decide)) (fun _ => ?_) | refine And.intro (fun _ => ?_) (fun z => absurd z (by decide))
      exact h _ _ _ sm mg_f2.rf (Or.inl ⟨fun z => p2 z.2, rfl, rfl⟩)
  · first | refine And.intro (fun z => absurd z (by decide)) (fun _ => ?_) | refine And.intro (fun _ => ?_) (fun z => absurd z (by decide))
    exact h _ _ _ sm mg_f2.rf (Or.inl ⟨fun z => p1 z.1, rfl, rfl⟩)

def mcl (v : Int32) : Int32 := if v < 0 then -1 else v
def mr_sf (f g : Nat → Int32) (s t n : Nat) : Nat → Int32 := fun z => if t ≤ z ∧ z < t + n then mcl (f (s + (z - t))) else g z
def sm_surf (a b c i n : Int32) (I : mv_I) (r : Int32) (I' : mv_I) : Prop := (¬ ok_surf a b c n ∧ r = -1 ∧ I' = I) ∨ (ok_surf a b c n ∧ ((¬ v_fault (I 82 b.toNatClampNeg) (I 83 b.toNatClampNeg) c i n = 0 ∧ r = v_fault (I 82 b.toNatClampNeg) (I 83 b.toNatClampNeg) c i n ∧ I' = I) ∨ (v_fault (I 82 b.toNatClampNeg) (I 83 b.toNatClampNeg) c i n = 0 ∧ mg_ab (fun j => I 84 (60 * b.toNatClampNeg + j)) i n ∧ r = -2 ∧ I' = I) ∨ (v_fault (I 82 b.toNatClampNeg) (I 83 b.toNatClampNeg) c i n = 0 ∧ ¬ mg_ab (fun j => I 84 (60 * b.toNatClampNeg + j)) i n ∧ r = n ∧ I' 73 = mr_sf (I 84) (I 73) (60 * b.toNatClampNeg + i.toNatClampNeg) a.toNatClampNeg n.toNatClampNeg)))
set_option maxHeartbeats 1000000 in
theorem l_rsurf2 {d : Nat} {a b c i n : Int32} {J : mv_J} {Q : mv_Q} {I0 : mv_I} (ha : rg a 0 59) (hb : rg b 0 3) (hi : 0 ≤ i.toInt) (hn : 0 ≤ n.toInt) (hin : i.toInt + n.toInt ≤ 60) (han : a.toInt + n.toInt ≤ 60) (h : ∀ (I' : mv_I), mg_f2 [73] [] I0 I' → I' 73 = mr_sf (I0 84) (I0 73) (60 * b.toNatClampNeg + i.toNatClampNeg) a.toNatClampNeg n.toNatClampNeg → Q (some (.inl n)) I' J) : ∀ (k fu : Nat) (x : Int32) (v : Option mv_V) (I : mv_I), 0 ≤ x.toInt → x.toInt ≤ n.toInt → mg_f2 [73] [] I0 I → I 73 = mr_sf (I0 84) (I0 73) (60 * b.toNatClampNeg + i.toNatClampNeg) a.toNatClampNeg x.toNatClampNeg → (n.toInt - x.toInt).toNat < k → 60 * k ≤ fu → mv_wp (mv_wpM mv_tab mv_sh d) mv_sh none tbX8_surf flX8 csX8 1 (fun _ _ _ _ _ => False) Q fu 124 [some (.inr (.inr 12)), some (.inl a), some (.inl b), some (.inl c), some (.inl i), some (.inl n), some (.inl x), v] [] I J := by
  intro k
  induction k with
  | zero => intro fu x v I h0 h1 h2 h3 h4 hf; omega
  | succ k ih =>
    intro fu x v I h0 h1 h2 h3 h4 hf
    obtain ⟨fu, rfl⟩ : ∃ z, fu = z + 60 := ⟨fu - 60, by omega⟩
    have ki := mi_cl hi
    have ka := mi_cl ha.1
    have kn := mi_cl hn
    have kx := mi_cl h0
    have e84 : I 84 = I0 84 := f2_fn h2 rfl (fun _ => rfl)
    refine And.intro (fun q => ?_) (fun q => ?_)
    · have qx : x.toInt = n.toInt := by (try simp only [mi_le, mi_lt, mi_eq] at *); have := mi_l; omega
      have e : x.toNatClampNeg = n.toNatClampNeg := by omega
      rw [e] at h3
      exact h _ h2 h3
    · have qx : x.toInt < n.toInt := by (try simp only [mi_le, mi_lt, mi_eq] at *); have := mi_l; omega
      have e1 := mi_incl qx
      have k1 := mi_cl (x := x + 1) (by omega)
      obtain ⟨y1, y2⟩ := mi_240s (b := i) (c := x) hb hi h0 (by omega)
      have a0 := ha.1
      have y3 : (a + x).toInt = a.toInt + x.toInt := mi_add (by omega) (by omega)
      have y4 : (a + x).toNatClampNeg = a.toNatClampNeg + x.toNatClampNeg := by have := mi_cl (x := a + x) (by omega); omega
      refine And.intro y1 ?_
      refine And.intro (fun q2 => ?_) (fun q2 => ?_)
      · refine And.intro (vp_in_iff.mpr ⟨by omega, by omega⟩) ?_
        refine And.intro ?_ trivial
        refine ih _ _ _ _ (by omega) (by omega) (mg_f2.up h2 rfl) ?_ (by omega) (by omega)
        show upd (I 73) (a + x).toNatClampNeg _ = _
        rw [y4, h3]
        funext z
        unfold upd mr_sf
        by_cases z1 : z = a.toNatClampNeg + x.toNatClampNeg
        · rw [if_pos z1, if_pos (by omega)]
          have e9 : 60 * b.toNatClampNeg + i.toNatClampNeg + (z - a.toNatClampNeg) = 60 * b.toNatClampNeg + i.toNatClampNeg + x.toNatClampNeg := by omega
          rw [e9, ← e84, ← y2]
          unfold mcl
          rw [if_neg (mr_ge q2)]
        · rw [if_neg z1]
          by_cases z2 : a.toNatClampNeg ≤ z ∧ z < a.toNatClampNeg + x.toNatClampNeg
          · rw [if_pos z2, if_pos (by omega)]
          · rw [if_neg z2, if_neg (by omega)]
      · refine And.intro (vp_in_iff.mpr ⟨by omega, by omega⟩) ?_
        refine And.intro ?_ trivial
        refine ih _ _ _ _ (by omega) (by omega) (mg_f2.up h2 rfl) ?_ (by omega) (by omega)
        show upd (I 73) (a + x).toNatClampNeg _ = _
        rw [y4, h3]
        funext z
        unfold upd mr_sf
        by_cases z1 : z = a.toNatClampNeg + x.toNatClampNeg
        · rw [if_pos z1, if_pos (by omega)]
          have e9 : 60 * b.toNatClampNeg + i.toNatClampNeg + (z - a.toNatClampNeg) = 60 * b.toNatClampNeg + i.toNatClampNeg + x.toNatClampNeg := by omega
          rw [e9, ← e84, ← y2]
          unfold mcl
          rw [if_pos (mr_nge q2)]
        · rw [if_neg z1]
          by_cases z2 : a.toNatClampNeg ≤ z ∧ z < a.toNatClampNeg + x.toNatClampNeg
          · rw [if_pos z2, if_pos (by omega)]
          · rw [if_neg z2, if_neg (by omega)]
set_option maxHeartbeats 1000000 in
theorem l_rsurf1 {d : Nat} {a b c i n : Int32} {J : mv_J} {Q : mv_Q} {I0 : mv_I} (ha : rg a 0 59) (hb : rg b 0 3) (hi : 0 ≤ i.toInt) (hn : 0 ≤ n.toInt) (hin : i.toInt + n.toInt ≤ 60) (han : a.toInt + n.toInt ≤ 60) (H1 : mg_ab (fun j => I0 84 (60 * b.toNatClampNeg + j)) i n → Q (some (.inl (-2))) I0 J) (h : ¬ mg_ab (fun j => I0 84 (60 * b.toNatClampNeg + j)) i n → ∀ (I' : mv_I), mg_f2 [73] [] I0 I' → I' 73 = mr_sf (I0 84) (I0 73) (60 * b.toNatClampNeg + i.toNatClampNeg) a.toNatClampNeg n.toNatClampNeg → Q (some (.inl n)) I' J) : ∀ (k fu : Nat) (x : Int32) (v : Option mv_V), 0 ≤ x.toInt → x.toInt ≤ n.toInt → (∀ z : Nat, i.toInt ≤ z → z < i.toInt + x.toInt → ¬ 9 < I0 84 (60 * b.toNatClampNeg + z)) → (n.toInt - x.toInt).toNat < k → 60 * k + 3800 ≤ fu → mv_wp (mv_wpM mv_tab mv_sh d) mv_sh none tbX8_surf flX8 csX8 1 (fun _ _ _ _ _ => False) Q fu 85 [some (.inr (.inr 12)), some (.inl a), some (.inl b), some (.inl c), some (.inl i), some (.inl n), some (.inl x), v] [] I0 J := by
  intro k
  induction k with
  | zero => intro fu x v h0 h1 h2 h3 hf; omega
  | succ k ih =>
    intro fu x v h0 h1 h2 h3 hf
    obtain ⟨fu, rfl⟩ : ∃ z, fu = z + 60 := ⟨fu - 60, by omega⟩
    have ki := mi_cl hi
    have ka := mi_cl ha.1
    have kn := mi_cl hn
    have kx := mi_cl h0
    refine And.intro (fun q => ?_) (fun q => ?_)
    · have qx : x.toInt = n.toInt := by (try simp only [mi_le, mi_lt, mi_eq] at *); have := mi_l; omega
      refine And.intro ?_ trivial
      refine l_rsurf2 ha hb hi hn hin han (h ?_) 61 _ _ _ _ (by decide) (by have := mi_l; omega) mg_f2.rf ?_ (by have := mi_l; omega) (by omega)
      · rintro ⟨z, z1, z2, z3⟩
        exact h2 z z1 (by omega) z3
      · funext z
        unfold mr_sf
        rw [if_neg (by have : (0 : Int32).toNatClampNeg = 0 := (by decide); omega)]
    · have qx : x.toInt < n.toInt := by (try simp only [mi_le, mi_lt, mi_eq] at *); have := mi_l; omega
      have e1 := mi_incl qx
      obtain ⟨y1, y2⟩ := mi_240s (b := i) (c := x) hb hi h0 (by omega)
      refine And.intro y1 ?_
      have y5 : I0 84 (60 * b + i + x).toNatClampNeg = I0 84 (60 * b.toNatClampNeg + (i.toNatClampNeg + x.toNatClampNeg)) := by rw [y2]; congr 1; omega
      refine And.intro (fun q2 => ?_) (fun q2 => ?_)
      · refine And.intro ?_ trivial
        refine ih _ _ _ (by omega) (by omega) (fun z z1 z2 => ?_) (by omega) (by omega)
        by_cases z3 : (z : Int) < i.toInt + x.toInt
        · exact h2 z z1 z3
        · have z4 : z = i.toNatClampNeg + x.toNatClampNeg := by omega
          rw [z4, ← y5]
          simp only [mi_le, mi_lt] at *
          omega
      · refine H1 ⟨i.toNatClampNeg + x.toNatClampNeg, by omega, by omega, ?_⟩
        show 9 < I0 84 (60 * b.toNatClampNeg + (i.toNatClampNeg + x.toNatClampNeg))
        rw [← y5]
        simp only [mi_le, mi_lt] at *
        omega
set_option maxHeartbeats 1000000 in
theorem G_surf {d : Nat} (hd : 4 ≤ d) (a b c i n : Int32) {I : mv_I} {J : mv_J} {Q : mv_Q} (sm : SM I) (h : ∀ (r : Int32) (I' : mv_I) (J' : mv_J), SM I' → mg_f2 [73] [] I I' → sm_surf a b c i n I r I' → Q (some (.inl r)) I' J') : mv_wpM mv_tab mv_sh d 129 [.inr (.inr 12), .inl a, .inl b, .inl c, .inl i, .inl n] I J Q := by
  obtain ⟨d, rfl⟩ : ∃ e, d = e + 1 := ⟨d - 1, by omega⟩
  refine (show ∃ fu9, mv_wp (mv_wpM mv_tab mv_sh d) mv_sh none tbX8_surf flX8 csX8 1 (fun _ _ _ _ _ => False) Q fu9 0 [some (.inr (.inr 12)), some (.inl a), some (.inl b), some (.inl c), some (.inl i), some (.inl n), none, none] [] I J from ?_)
  refine ⟨7700, ?_⟩
  obtain ⟨t1, t2, t3, t4, t5, t6, t7, t8, t9, t10⟩ := id sm
  refine c_in (by omega) a 0 59 (fun p0 => ?_) (fun p0 => ?_)
  · first | refine And.intro (fun z => absurd z (by decide)) (fun _ => ?_) | refine And.intro (fun _ => ?_) (fun z => absurd z (by decide))
    have ha : rg a 0 59 := mg_le p0
    have ha0 := ha.1
    have ha1 := ha.2
    refine c8_isSheet (by omega) b (fun p1 => ?_) (fun p1 => ?_)
    · first | refine And.intro (fun z => absurd z (by decide)) (fun _ => ?_) | refine And.intro (fun _ => ?_) (fun z => absurd z (by decide))
      have hb : rg b 0 3 := mg_le p1
      have Bb : vp_in b 4 := vp_in_iff.mpr ⟨hb.1, by have := hb.2; omega⟩
      refine c_in (by omega) c 0 2 (fun p2 => ?_) (fun p2 => ?_)
      · first | refine And.intro (fun z => absurd z (by decide)) (fun _ => ?_) | refine And.intro (fun _ => ?_) (fun z => absurd z (by decide))
        have c60 : (60 : Int32).toInt = 60 := by decide
        have c0 : (0 : Int32).toInt = 0 := by decide
        have e6 : (60 - a).toInt = 60 - a.toInt := by rw [mi_sub (by omega) (by omega), c60]
        refine And.intro (fun q1 => ?_) (fun q1 => ?_)
        · exact h _ _ _ sm mg_f2.rf (Or.inl ⟨fun z => by have := z.2.2.2.1; simp only [mi_le, mi_lt] at *; omega, rfl, rfl⟩)
        · have hn : 0 ≤ n.toInt := by rw [mi_lt] at q1; omega
          refine And.intro (fun q2 => ?_) (fun q2 => ?_)
          · have ok : ok_surf a b c n := ⟨p0, p1, p2, ⟨by rw [mi_le]; omega, q2⟩⟩
            have han : a.toInt + n.toInt ≤ 60 := by rw [mi_le, e6] at q2; omega
            have hl := t8.2 b.toNatClampNeg
            refine And.intro Bb ?_
            refine And.intro (fun q3 => ?_) (fun q3 => ?_)
            · have n1 := mr_nneg (mr_ge q3)
              refine And.intro Bb ?_
              refine And.intro (fun q4 => ?_) (fun q4 => ?_)
              · refine r_within (by omega) b i n hb (fun y1 => ?_) (fun y1 => ?_)
                · first | refine And.intro (fun z => absurd z (by decide)) (fun _ => ?_) | refine And.intro (fun _ => ?_) (fun z => absurd z (by decide))
                  have v0 := v_fault_0 (b := c) n1 q4.symm (mr_has hl hn y1)
                  have hl2 := hl.2
                  refine And.intro ?_ trivial
                  refine l_rsurf1 ha hb y1.1 hn (by omega) han (fun z => ?_) (fun z I2 f g => ?_) 61 _ _ _ (by decide) (by omega) (fun z z1 z2 => absurd z1 (by omega)) (by omega) (Nat.le_of_ble_eq_true rfl)
                  · exact h _ _ _ sm mg_f2.rf (Or.inr ⟨ok, Or.inr (Or.inl ⟨v0, z, rfl, rfl⟩)⟩)
                  · exact h _ _ _ ⟨(show rg (_ : Int32) _ _ by rw [f 12 3 rfl rfl]; exact t1), (show rg (_ : Int32) _ _ by rw [f 12 0 rfl rfl]; exact t2), (show rg (_ : Int32) _ _ by rw [f 12 11 rfl rfl]; exact t3), (show rg (_ : Int32) _ _ by rw [f 12 20 rfl rfl]; exact t4), (show rg (_ : Int32) _ _ by rw [f 12 4 rfl rfl]; exact t5), (fun j => (by rw [f 53 j rfl rfl]; exact t6 j)), (t7.kp (f 12 24 rfl rfl) (f2_fn (c := 67) f rfl (fun _ => rfl)) (f2_fn (c := 68) f rfl (fun _ => rfl)) (f2_fn (c := 69) f rfl (fun _ => rfl))), ⟨(fun j => (by rw [f 82 j rfl rfl]; exact t8.1 j)), (fun j => (by rw [f 83 j rfl rfl]; exact t8.2 j))⟩, (fun j => (by rw [f 59 j rfl rfl, f 60 j rfl rfl]; exact t9 j)), ⟨(t10.1.kp (f 12 0 rfl rfl) (f2_fn (c := 51) f rfl (fun _ => rfl))), (show rg (_ : Int32) _ _ by rw [f 12 10 rfl rfl]; exact t10.2)⟩⟩ f (Or.inr ⟨ok, Or.inr (Or.inr ⟨v0, z, rfl, g⟩)⟩)
                · first | refine And.intro (fun z => absurd z (by decide)) (fun _ => ?_) | refine And.intro (fun _ => ?_) (fun z => absurd z (by decide))
                  have v3 := v_fault_3 (b := c) n1 q4.symm (fun z => y1 (by have := (has_iff hl).mp z; exact ⟨this.1, this.2.2⟩))
                  exact h _ _ _ sm mg_f2.rf (Or.inr ⟨ok, Or.inl ⟨by rw [v3]; decide, v3.symm, rfl⟩⟩)
              · have v2 := v_fault_2 (len := I 83 b.toNatClampNeg) (b := c) (i := i) (n := n) n1 (fun z => q4 z.symm)
                exact h _ _ _ sm mg_f2.rf (Or.inr ⟨ok, Or.inl ⟨by rw [v2]; decide, v2.symm, rfl⟩⟩)
            · have v1 := v_fault_1 (len := I 83 b.toNatClampNeg) (b := c) (i := i) (n := n) (mr_neg (t8.1 b.toNatClampNeg) (mr_nge q3))
              exact h _ _ _ sm mg_f2.rf (Or.inr ⟨ok, Or.inl ⟨by rw [v1]; decide, v1.symm, rfl⟩⟩)
          · exact h _ _ _ sm mg_f2.rf (Or.inl ⟨fun z => q2 z.2.2.2.2, rfl, rfl⟩)
      · first | refine And.intro (fun z => absurd z (by decide)) (fun _ => ?_) | refine And.intro (fun _ => ?_) (fun z => absurd z (by decide))
        exact h _ _ _ sm mg_f2.rf (Or.inl ⟨fun z => p2 z.2.2.1, rfl, rfl⟩)
    · first | refine And.intro (fun z => absurd z (by decide)) (fun _ => ?_) | refine And.intro (fun _ => ?_) (fun z => absurd z (by decide))
      exact h _ _ _ sm mg_f2.rf (Or.inl ⟨fun z => p1 z.2.1, rfl, rfl⟩)
  · first | refine And.intro (fun z => absurd z (by decide)) (fun _ => ?_) | refine And.intro (fun _ => ?_) (fun z => absurd z (by decide))
    exact h _ _ _ sm mg_f2.rf (Or.inl ⟨fun z => p0 z.1, rfl, rfl⟩)

