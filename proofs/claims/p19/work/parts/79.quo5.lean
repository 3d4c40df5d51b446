theorem ct_le {P : Nat → Bool} : ∀ (n : Nat), ct P n ≤ n
  | 0 => Nat.le_refl 0
  | n + 1 => by
    have h := ct_le (P := P) n
    have e : ct P (n + 1) = ct P n + (bif P n then 1 else 0) := rfl
    rw [e]
    cases P n <;> simp only [cond_true, cond_false] <;> omega
theorem pq_rf {s : Int32} {N : Int64} {W : Int32} {f : Nat → Int64} (hN : 0 ≤ N.toInt) : pq s N W f f := ⟨fun _ _ => rfl, fun z _ h => by rw [h]; exact ⟨Int.le_refl _, by omega⟩⟩
theorem pq_of {s : Int32} {N : Int64} {W : Int32} {n : Nat} {f g k : Nat → Int64} (hN : N.toInt ≤ 1000000000) (hn : ∀ z : Nat, (z : Int) < W.toInt → z < n) (h : pq2 s N n f g) (h2 : gv s g k) : pq s N W f k := by
  refine ⟨fun z hz => ?_, fun z hz h0 => ?_⟩
  · rcases h2 z with e | e
    · rw [e]; exact h.2.1 z hz
    · rw [hz] at e; cases e.1
  · obtain ⟨b0, b1⟩ := h.2.2 z (hn z hz) h0
    rcases h2 z with e | e
    · rw [e]; exact ⟨b0, by omega⟩
    · have c1 : (1 : Int64).toInt = 1 := by decide
      rw [e.2, mi_Ladd (by rw [c1]; omega) (by rw [c1]; omega), c1]
      exact ⟨by omega, by omega⟩
set_option maxHeartbeats 1000000 in
theorem r_part {d : Nat} (hd : 1 ≤ d) (s : Int32) (N : Int64) {I : mv_I} {J : mv_J} {Q : mv_Q} (hw : rg (I 12 0) 0 8) (hp : mr_pt I) (hN : 0 ≤ N.toInt ∧ N.toInt ≤ 1000000000) (h : ∀ (I' : mv_I) (J' : mv_J), mg_f2 [64] [] I I' → pq s N (I 12 0) (J 63) (J' 63) → Q none I' J') : mv_wpM mv_tab mv_sh d 91 [.inr (.inr 12), .inr (.inl N), .inl s] I J Q := by
  obtain ⟨d, rfl⟩ : ∃ e, d = e + 1 := ⟨d - 1, by omega⟩
  refine (show ∃ fu9, mv_wp (mv_wpM mv_tab mv_sh d) mv_sh none tbX8_part flX8 csX8 0 (fun _ _ _ _ _ => False) Q fu9 0 [some (.inr (.inr 12)), some (.inr (.inl N)), none, some (.inl s), none, none, none, none, none, none, none] [] I J from ?_)
  refine ⟨9600, ?_⟩
  obtain ⟨w0, w1⟩ := id hw
  have kw := mi_cl w0
  have z32 : (0 : Int32).toInt = 0 := by decide
  have z32n : (0 : Int32).toNatClampNeg = 0 := by decide
  refine And.intro ?_ trivial
  refine l_part1 (F := 9000) hw hp (fun I' f => h I' _ f (pq_rf hN.1)) (fun fu al I2 f2 hA nz g2 hf => ?_) 9 _ _ _ _ (by decide) (by rw [z32]; exact w0) mg_f2.rf (by rw [z32n]; exact (show (0 : Int64).toInt = 0 by decide)) (fun z hz => absurd hz (by rw [z32]; omega)) (by rw [z32]; omega) (Nat.le_of_ble_eq_true rfl)
  have e0 : I2 12 0 = I 12 0 := f2 12 0 rfl rfl
  have e51 : I2 51 = I 51 := f2_fn f2 rfl (fun _ => rfl)
  have epz : pz I2 = pz I := by unfold pz; rw [e51]
  have hw2 : rg (I2 12 0) 0 8 := by rw [e0]; exact hw
  have hp2 : mr_pt I2 := hp.kp e0 e51
  have hA2 : al.toInt = su (bi s) (pz I2) (I2 12 0).toNatClampNeg := by rw [epz, e0]; exact hA
  have q0 : al.toInt * (N.toInt - N.toInt) = 0 := by rw [Int.sub_self, Int.mul_zero]
  have q1 : N.toInt * su (bi s) (pz I2) (0 : Int32).toNatClampNeg = 0 := by rw [z32n]; exact Int.mul_zero _
  have q2 : (al.toInt - 1) * (ct (bi s) (0 : Int32).toNatClampNeg : Int) = 0 := by rw [z32n]; exact Int.mul_zero _
  refine l_part2 (J0 := J) (F := 8100) hw2 hp2 hN hA2 nz (fun fu3 lf y J3 p3 l0 l1 hf3 => ?_) 9 _ _ _ _ (by decide) (by rw [z32, e0]; exact w0) (Int.le_refl _) (by rw [q0, q1]; exact Int.le_refl _) (by rw [q0, q1, q2]; decide) ⟨fun _ _ => rfl, fun _ _ => rfl, fun z hz => absurd hz (by rw [z32n]; omega)⟩ (by rw [z32, e0]; omega) (by omega)
  have ec : ct (bi s) (I2 12 0).toNatClampNeg = ct (el s I2) (I2 12 0).toNatClampNeg := ct_eq _ (fun z hz => by
    unfold el
    rw [decide_eq_true (g2 z (by rw [e0] at hz; omega)), Bool.and_true])
  have cl := ct_le (P := bi s) (I2 12 0).toNatClampNeg
  have kw2 : (I2 12 0).toNatClampNeg ≤ 8 := by rw [e0]; omega
  refine l_part3 (I0 := I2) (J0 := J3) hw2 nz (fun I4 J4 f4 g4 => ?_) 9 _ _ _ _ _ _ _ mg_f2.rf (fun z => Or.inl rfl) (by rw [← ec]; exact l1) (by omega) (by omega)
  exact h _ _ (f2.tr f4) (pq_of hN.2 (fun z hz => by rw [e0]; omega) p3 g4)

