def LYx (I : mv_I) : Prop := LR I ∧ LB I
theorem LB.kp {I I' : mv_I} (h : LB I) (e1 : I' 34 = I 34) (e2 : I' 35 = I 35) : LB I' := by
  unfold LB at *
  rw [e1, e2]
  exact h
theorem kb_ship {a b c e f r1 : Int32} {I I1 I2 : mv_I} (hB : LB I) (f2 : mg_f2 [67, 68, 69, 70, 71] [(12, 24)] I1 I2) (p1 : sp_ship a b c e f I r1 I1) : LB I2 := by
  have B1 : LB I1 := by
    rcases p1 with ⟨n1, e1, i1⟩ | ⟨o1, l1, e1, i1⟩ | ⟨o1, l1, e1, i1⟩
    · rw [i1]; exact hB
    · rw [i1]; exact hB
    · rw [i1]
      have L := mi_l
      have z1 := mg_le o1.2.2.2.1
      have z2 := mg_le o1.2.2.2.2
      refine ⟨fun j => ?_, fun j => ?_⟩
      · show rg (upd (I 34) (I 4 7).toNatClampNeg e j) 0 30
        unfold upd
        by_cases q : j = (I 4 7).toNatClampNeg
        · rw [if_pos q]; exact ⟨by have := z1.1; omega, by have := z1.2; omega⟩
        · rw [if_neg q]; exact hB.1 j
      · show rg (upd (I 35) (I 4 7).toNatClampNeg f j) 0 100
        unfold upd
        by_cases q : j = (I 4 7).toNatClampNeg
        · rw [if_pos q]; exact ⟨by have := z2.1; omega, by have := z2.2; omega⟩
        · rw [if_neg q]; exact hB.2 j
  exact B1.kp (f2_fn (c := 34) f2 rfl (fun _ => rfl)) (f2_fn (c := 35) f2 rfl (fun _ => rfl))
theorem LYx.yu {I I' : mv_I} (h : LYx I) (g : ∀ k, (k = 12 ∨ 51 ≤ k) → I' k = I k) : (∀ j, rg (I' 70 j) 0 30) ∧ (∀ j, rg (I' 71 j) 0 100) := by
  obtain ⟨hR, hB⟩ := h
  obtain ⟨hw, hn, ht, hb, hk, hs, hl_, hh_, hi, hf⟩ := hR
  obtain ⟨q1, q2, q3, q4, q5, q6⟩ := hs
  rw [g 70 (by decide), g 71 (by decide), ← q5, ← q6]
  exact hB
theorem lyM_kp {I I' : mv_I} {a r : Int32} (g : ∀ k, (k = 12 ∨ 51 ≤ k) → I' k = I k) (h : lyM I' a r) : lyM I a r := by
  unfold lyM at *
  rw [g 12 (by decide), g 67 (by decide), g 68 (by decide), g 69 (by decide), g 70 (by decide), g 71 (by decide), g 73 (by decide)] at h
  exact h
set_option maxHeartbeats 1000000 in
theorem H_lay {d : Nat} (hd : 11 ≤ d) (a : Int32) {I : mv_I} {J : mv_J} {Q : mv_Q} (sc : SC I) (hB : LB I) (h : ∀ (r : Int32) (I' : mv_I), SC I' → mg_f2 [39, 40, 41, 42, 43, 44, 45, 46] [(5, 4), (5, 5), (6, 4), (6, 7)] I I' → lyC I a r → Q (some (.inl r)) I' J) : mv_wpM mv_tab mv_sh d 72 [.inr (.inr 0), .inl a] I J Q := by
  refine mv_wpM_2 d 72 _ I J (fun q I' J' => ∃ r : Int32, q = some (.inl r) ∧ SC I' ∧ mg_f2 [39, 40, 41, 42, 43, 44, 45, 46] [(5, 4), (5, 5), (6, 4), (6, 7)] I I' ∧ J' = J) (fun q I' J' => ∃ r : Int32, q = some (.inl r) ∧ lyC I a r) Q (fun q I' J' h1 h2 => ?_) (F_lay hd a sc (fun r I' s f => ⟨r, rfl, s, f, rfl⟩)) (E_lay hd a sc hB (fun r I' y => ⟨r, rfl, y⟩))
  obtain ⟨r, e, s, f, j⟩ := h1
  obtain ⟨r', e', y⟩ := h2
  rw [e] at e'
  cases e'
  subst e
  subst j
  exact h r I' s f y
set_option maxHeartbeats 1000000 in
theorem K_lay {d : Nat} (hd : 6 ≤ d) (a : Int32) {I : mv_I} {J : mv_J} {Q : mv_Q} (sm : SM I) (hY : (∀ j, rg (I 70 j) 0 30) ∧ (∀ j, rg (I 71 j) 0 100)) (h : ∀ (r : Int32) (I' : mv_I) (J' : mv_J), SM I' → mg_f2 [74, 75, 76, 77, 78, 79, 80, 81] [(12, 37)] I I' → lyM I a r → Q (some (.inl r)) I' J') : mv_wpM mv_tab mv_sh d 120 [.inr (.inr 12), .inl a] I J Q := by
  refine mv_wpM_2 d 120 _ I J (fun q I' J' => ∃ r : Int32, q = some (.inl r) ∧ SM I' ∧ mg_f2 [74, 75, 76, 77, 78, 79, 80, 81] [(12, 37)] I I') (fun q I' J' => ∃ r : Int32, q = some (.inl r) ∧ lyM I a r) Q (fun q I' J' h1 h2 => ?_) (G_lay hd a sm (fun r I' J' s f => ⟨r, rfl, s, f⟩)) (E2_lay hd a sm hY.1 hY.2 (fun r I' y => ⟨r, rfl, y⟩))
  obtain ⟨r, e, s, f⟩ := h1
  obtain ⟨r', e', y⟩ := h2
  rw [e] at e'
  cases e'
  subst e
  exact h r I' J' s f y
