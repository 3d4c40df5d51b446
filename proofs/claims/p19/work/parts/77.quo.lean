def ct (P : Nat → Bool) : Nat → Nat
  | 0 => 0
  | n + 1 => ct P n + (bif P n then 1 else 0)
theorem ct_ex {P : Nat → Bool} : ∀ (n : Nat), 0 < ct P n → ∃ z, z < n ∧ P z = true
  | 0, h => absurd h (Nat.lt_irrefl 0)
  | n + 1, h => by
    cases hP : P n with
    | true => exact ⟨n, by omega, hP⟩
    | false =>
      unfold ct at h
      rw [hP] at h
      obtain ⟨z, z1, z2⟩ := ct_ex n h
      exact ⟨z, by omega, z2⟩
theorem ct_eq {P R : Nat → Bool} : ∀ (n : Nat), (∀ z, z < n → P z = R z) → ct P n = ct R n
  | 0, _ => rfl
  | n + 1, h => by unfold ct; rw [ct_eq n (fun z hz => h z (by omega)), h n (by omega)]
theorem ct_off {P R : Nat → Bool} {b : Nat} (hb : P b = true) (hR : R b = false) (he : ∀ z, z ≠ b → R z = P z) : ∀ (n : Nat), b < n → ct R n + 1 = ct P n
  | 0, h => absurd h (by omega)
  | n + 1, h => by
    unfold ct
    by_cases e : b = n
    · subst e
      rw [hb, hR, ct_eq (P := R) (R := P) b (fun z hz => he z (by omega))]
      rfl
    · have h1 := ct_off hb hR he n (by omega)
      rw [he n (fun z => e z.symm)]
      omega
def su (b : Nat → Bool) (p : Nat → Int) : Nat → Int
  | 0 => 0
  | n + 1 => su b p n + (bif b n then p n else 0)
theorem su_nn {b : Nat → Bool} {p : Nat → Int} : ∀ (n : Nat), (∀ z, z < n → 0 ≤ p z) → 0 ≤ su b p n
  | 0, _ => by unfold su; omega
  | n + 1, h => by
    unfold su
    have h1 := su_nn (b := b) n (fun z hz => h z (by omega))
    have h2 := h n (by omega)
    cases b n <;> simp only [cond_true, cond_false] <;> omega
theorem su_le {b : Nat → Bool} {p : Nat → Int} {M : Int} (hM : 0 ≤ M) : ∀ (n : Nat), (∀ z, z < n → p z ≤ M) → su b p n ≤ M * n
  | 0, _ => by unfold su; simp
  | n + 1, h => by
    unfold su
    have h1 := su_le (b := b) hM n (fun z hz => h z (by omega))
    have h2 := h n (by omega)
    have h3 : M * ((n + 1 : Nat) : Int) = M * n + M := by rw [Int.natCast_add, Int.mul_add]; simp
    cases b n <;> simp only [cond_true, cond_false] <;> omega
/-- the bit of some works in an int -/
def bi (s : Int32) (z : Nat) : Bool := decide ((s >>> (nI z &&& 31)) &&& 1 = 1)
theorem mi_nI {x : Int32} (h : 0 ≤ x.toInt) : nI x.toNatClampNeg = x := by
  obtain ⟨j, hj, rfl⟩ := nI_of (x := x) (by simp only [mi_lt]; have := mi_l; omega)
  rw [nI_clamp hj]
theorem bi_t {s x : Int32} (h : 0 ≤ x.toInt) (q : (s >>> (x &&& 31)) &&& 1 = 1) : bi s x.toNatClampNeg = true := by
  unfold bi
  rw [mi_nI h]
  exact decide_eq_true q
theorem bi_f {s x : Int32} (h : 0 ≤ x.toInt) (q : ¬ (s >>> (x &&& 31)) &&& 1 = 1) : bi s x.toNatClampNeg = false := by
  unfold bi
  rw [mi_nI h]
  exact decide_eq_false q
def pq (s : Int32) (N : Int64) (W : Int32) (f g : Nat → Int64) : Prop := (∀ z, bi s z = false → g z = f z) ∧ (∀ z : Nat, (z : Int) < W.toInt → (f z).toInt = 0 → 0 ≤ (g z).toInt ∧ (g z).toInt ≤ N.toInt + 1)
def pz (I : mv_I) : Nat → Int := fun z => (I 51 z).toInt
theorem pz_su {I : mv_I} (hp : mr_pt I) {b : Nat → Bool} {n : Nat} (hn : (n : Int) ≤ (I 12 0).toInt) : 0 ≤ su b (pz I) n ∧ su b (pz I) n ≤ 1000 * n := ⟨su_nn n (fun z hz => by have := (hp z (by omega)).1; unfold pz; omega), su_le (by omega) n (fun z hz => (hp z (by omega)).2)⟩
set_option maxHeartbeats 1000000 in
theorem l_part1 {d : Nat} {N : Int64} {s : Int32} {J : mv_J} {Q : mv_Q} {I0 : mv_I} {F : Nat} (hw : rg (I0 12 0) 0 8) (hp : mr_pt I0) (h : ∀ (I' : mv_I), mg_f2 [64] [] I0 I' → Q none I' J) (K : ∀ (fu : Nat) (al : Int64) (I : mv_I), mg_f2 [64] [] I0 I → al.toInt = su (bi s) (pz I0) (I0 12 0).toNatClampNeg → ¬ al = 0 → (∀ z : Nat, (z : Int) < (I0 12 0).toInt → I 64 z = 0) → F ≤ fu → mv_wp (mv_wpM mv_tab mv_sh d) mv_sh none tbX8_part flX8 csX8 0 (fun _ _ _ _ _ => False) Q fu 70 [some (.inr (.inr 12)), some (.inr (.inl N)), none, some (.inl s), some (.inr (.inl al)), none, some (.inr (.inl N)), none, some (.inl 0), none, none] [] I J) : ∀ (k fu : Nat) (al : Int64) (x : Int32) (I : mv_I), 0 ≤ x.toInt → x.toInt ≤ (I0 12 0).toInt → mg_f2 [64] [] I0 I → al.toInt = su (bi s) (pz I0) x.toNatClampNeg → (∀ z : Nat, (z : Int) < x.toInt → I 64 z = 0) → ((I0 12 0).toInt - x.toInt).toNat < k → 60 * k + F ≤ fu → mv_wp (mv_wpM mv_tab mv_sh d) mv_sh none tbX8_part flX8 csX8 0 (fun _ _ _ _ _ => False) Q fu 6 [some (.inr (.inr 12)), some (.inr (.inl N)), none, some (.inl s), some (.inr (.inl al)), none, some (.inl x), none, none, none, none] [] I J := by
  intro k
  induction k with
  | zero => intro fu al x I h0 h1 h2 h3 h4 h5 hf; omega
  | succ k ih =>
    intro fu al x I h0 h1 h2 h3 h4 h5 hf
    obtain ⟨fu, rfl⟩ : ∃ z, fu = z + 60 := ⟨fu - 60, by omega⟩
    have ew : I 12 0 = I0 12 0 := h2 12 0 rfl rfl
    have e51 : I 51 = I0 51 := f2_fn h2 rfl (fun _ => rfl)
    obtain ⟨w0, w1⟩ := id hw
    have kx := mi_cl h0
    refine And.intro (fun q => ?_) (fun q => ?_)
    · have qx : x.toInt = (I0 12 0).toInt := by rw [ew] at q; (try simp only [mi_le, mi_lt, mi_eq] at *); have := mi_l; omega
      have kw := mi_cl w0
      have ex : x.toNatClampNeg = (I0 12 0).toNatClampNeg := by omega
      refine And.intro (fun q2 => ?_) (fun q2 => ?_)
      · have nz : ¬ al = 0 := fun z => q2 ((lg_cmp_eq _ _).mpr z)
        refine And.intro ?_ trivial
        exact K _ _ _ h2 (by rw [← ex]; exact h3) nz (fun z hz => h4 z (by omega)) (by omega)
      · exact h _ h2
    · have qx : x.toInt < (I0 12 0).toInt := by rw [ew] at q; (try simp only [mi_le, mi_lt, mi_eq] at *); have := mi_l; omega
      have e1 := mi_incl qx
      have k1 := mi_cl (x := x + 1) (by omega)
      have ek : (x + 1).toNatClampNeg = x.toNatClampNeg + 1 := by omega
      have B : vp_in x 8 := vp_in_iff.mpr ⟨by omega, by omega⟩
      have hpx := hp x.toNatClampNeg (by omega)
      obtain ⟨p0, p1⟩ := hpx
      obtain ⟨u0, u1⟩ := pz_su hp (b := bi s) (n := x.toNatClampNeg) (by omega)
      have G4 : ∀ z : Nat, (z : Int) < (x + 1).toInt → upd (I 64) x.toNatClampNeg (vp_nar .boolean 0) z = 0 := by
        intro z hz
        unfold upd
        by_cases z1 : z = x.toNatClampNeg
        · rw [if_pos z1]; decide
        · rw [if_neg z1]; exact h4 z (by omega)
      refine And.intro (fun q2 => ?_) (fun q2 => ?_)
      · have hb := bi_f h0 q2
        have c0 : (0 : Int64).toInt = 0 := by decide
        have G3 : (al + 0).toInt = su (bi s) (pz I0) (x + 1).toNatClampNeg := by
          rw [ek, mi_Ladd (by rw [c0]; omega) (by rw [c0]; omega), h3, c0]
          show _ = su (bi s) (pz I0) x.toNatClampNeg + (bif bi s x.toNatClampNeg then _ else 0)
          rw [hb]
          rfl
        refine And.intro B ?_
        refine And.intro ?_ trivial
        exact ih _ _ _ _ (by omega) (by omega) (mg_f2.up h2 rfl) G3 G4 (by omega) (by omega)
      · have hb := bi_t h0 q2
        have G3 : (al + (I 51 x.toNatClampNeg).toInt64).toInt = su (bi s) (pz I0) (x + 1).toNatClampNeg := by
          rw [ek, e51, mi_Ladd (by rw [mi_L]; omega) (by rw [mi_L]; omega), h3, mi_L]
          show _ = su (bi s) (pz I0) x.toNatClampNeg + (bif bi s x.toNatClampNeg then _ else 0)
          rw [hb]
          rfl
        refine And.intro B ?_
        refine And.intro B ?_
        refine And.intro ?_ trivial
        exact ih _ _ _ _ (by omega) (by omega) (mg_f2.up h2 rfl) G3 G4 (by omega) (by omega)
