theorem mg_f2.cat {S1 S2 : List Nat} {T1 T2 : List (Nat × Nat)} {I I1 I2 : mv_I} (h1 : mg_f2 S1 T1 I I1) (h2 : mg_f2 S2 T2 I1 I2) : mg_f2 (S1 ++ S2) (T1 ++ T2) I I2 := fun c j hs ht => by
  have a1 : S1.elem c = false := by
    cases hq : S1.elem c with
    | false => rfl
    | true =>
      have h := List.elem_iff.mpr (List.mem_append_left S2 (List.elem_iff.mp hq))
      rw [hs] at h; cases h
  have a2 : S2.elem c = false := by
    cases hq : S2.elem c with
    | false => rfl
    | true =>
      have h := List.elem_iff.mpr (List.mem_append_right S1 (List.elem_iff.mp hq))
      rw [hs] at h; cases h
  have b1 : T1.elem (c, j) = false := by
    cases hq : T1.elem (c, j) with
    | false => rfl
    | true =>
      have h := List.elem_iff.mpr (List.mem_append_left T2 (List.elem_iff.mp hq))
      rw [ht] at h; cases h
  have b2 : T2.elem (c, j) = false := by
    cases hq : T2.elem (c, j) with
    | false => rfl
    | true =>
      have h := List.elem_iff.mpr (List.mem_append_right T1 (List.elem_iff.mp hq))
      rw [ht] at h; cases h
  exact (h2 c j a2 b2).trans (h1 c j a1 b1)
theorem fin4 {s : Nat} (h : s < 4) : s = 0 ∨ s = 1 ∨ s = 2 ∨ s = 3 := by omega
def ra_w (I : mv_I) : Prop := I 1 2 = I 12 0
theorem ra_w.kp {I I' : mv_I} (h : ra_w I) (e1_2 : I' 1 2 = I 1 2) (e12_0 : I' 12 0 = I 12 0)  : ra_w I' := by
  unfold ra_w at *
  rw [e1_2, e12_0]
  exact h
def ra_n (I : mv_I) : Prop := I 0 7 = I 12 3
theorem ra_n.kp {I I' : mv_I} (h : ra_n I) (e0_7 : I' 0 7 = I 0 7) (e12_3 : I' 12 3 = I 12 3)  : ra_n I' := by
  unfold ra_n at *
  rw [e0_7, e12_3]
  exact h
def ra_t (I : mv_I) : Prop := I 1 3 = I 12 10
theorem ra_t.kp {I I' : mv_I} (h : ra_t I) (e1_3 : I' 1 3 = I 1 3) (e12_10 : I' 12 10 = I 12 10)  : ra_t I' := by
  unfold ra_t at *
  rw [e1_3, e12_10]
  exact h
def ra_b (I : mv_I) : Prop := I 5 1 = I 12 32
theorem ra_b.kp {I I' : mv_I} (h : ra_b I) (e5_1 : I' 5 1 = I 5 1) (e12_32 : I' 12 32 = I 12 32)  : ra_b I' := by
  unfold ra_b at *
  rw [e5_1, e12_32]
  exact h
def ra_k (I : mv_I) : Prop := I 2 2 = I 12 20
theorem ra_k.kp {I I' : mv_I} (h : ra_k I) (e2_2 : I' 2 2 = I 2 2) (e12_20 : I' 12 20 = I 12 20)  : ra_k I' := by
  unfold ra_k at *
  rw [e2_2, e12_20]
  exact h
def ra_s (I : mv_I) : Prop := I 4 7 = I 12 24 ∧ I 31 = I 67 ∧ I 32 = I 68 ∧ I 33 = I 69 ∧ I 34 = I 70 ∧ I 35 = I 71
theorem ra_s.kp {I I' : mv_I} (h : ra_s I) (e4_7 : I' 4 7 = I 4 7) (e12_24 : I' 12 24 = I 12 24) (c31 : I' 31 = I 31) (c67 : I' 67 = I 67) (c32 : I' 32 = I 32) (c68 : I' 68 = I 68) (c33 : I' 33 = I 33) (c69 : I' 69 = I 69) (c34 : I' 34 = I 34) (c70 : I' 70 = I 70) (c35 : I' 35 = I 35) (c71 : I' 71 = I 71) : ra_s I' := by
  unfold ra_s at *
  rw [e4_7, e12_24, c31, c67, c32, c68, c33, c69, c34, c70, c35, c71]
  exact h
def ra_l (I : mv_I) : Prop := I 3 6 = I 12 4 ∧ I 25 = I 53 ∧ I 26 = I 54 ∧ I 27 = I 57 ∧ I 28 = I 55
theorem ra_l.kp {I I' : mv_I} (h : ra_l I) (e3_6 : I' 3 6 = I 3 6) (e12_4 : I' 12 4 = I 12 4) (c25 : I' 25 = I 25) (c53 : I' 53 = I 53) (c26 : I' 26 = I 26) (c54 : I' 54 = I 54) (c27 : I' 27 = I 27) (c57 : I' 57 = I 57) (c28 : I' 28 = I 28) (c55 : I' 55 = I 55) : ra_l I' := by
  unfold ra_l at *
  rw [e3_6, e12_4, c25, c53, c26, c54, c27, c57, c28, c55]
  exact h
def ra_h (I : mv_I) : Prop := ∀ s : Nat, s < 4 → I (8 + s) 1 = I 82 s ∧ I (8 + s) 2 = I 83 s
theorem ra_h.kp {I I' : mv_I} (h : ra_h I) (e8_1 : I' 8 1 = I 8 1) (e8_2 : I' 8 2 = I 8 2) (e9_1 : I' 9 1 = I 9 1) (e9_2 : I' 9 2 = I 9 2) (e10_1 : I' 10 1 = I 10 1) (e10_2 : I' 10 2 = I 10 2) (e11_1 : I' 11 1 = I 11 1) (e11_2 : I' 11 2 = I 11 2) (c82 : I' 82 = I 82) (c83 : I' 83 = I 83) : ra_h I' := by
  intro s hs
  rw [c82, c83]
  rcases fin4 hs with rfl | rfl | rfl | rfl
  · exact ⟨e8_1.trans (h 0 hs).1, e8_2.trans (h 0 hs).2⟩
  · exact ⟨e9_1.trans (h 1 hs).1, e9_2.trans (h 1 hs).2⟩
  · exact ⟨e10_1.trans (h 2 hs).1, e10_2.trans (h 2 hs).2⟩
  · exact ⟨e11_1.trans (h 3 hs).1, e11_2.trans (h 3 hs).2⟩
def ra_i (I : mv_I) : Prop := ∀ s : Nat, s < 4 → ∀ j : Nat, j < 60 → I (47 + s) j = I 84 (60 * s + j)
theorem ra_i.kp {I I' : mv_I} (h : ra_i I)  (c47 : I' 47 = I 47) (c48 : I' 48 = I 48) (c49 : I' 49 = I 49) (c50 : I' 50 = I 50) (c84 : I' 84 = I 84) : ra_i I' := by
  intro s hs j hj
  rw [c84]
  rcases fin4 hs with rfl | rfl | rfl | rfl
  · exact (congrFun c47 j).trans (h 0 hs j hj)
  · exact (congrFun c48 j).trans (h 1 hs j hj)
  · exact (congrFun c49 j).trans (h 2 hs j hj)
  · exact (congrFun c50 j).trans (h 3 hs j hj)
def ra_f (I : mv_I) : Prop := ∀ j : Nat, mcl (I 38 j) = I 73 j
theorem ra_f.kp {I I' : mv_I} (h : ra_f I)  (c38 : I' 38 = I 38) (c73 : I' 73 = I 73) : ra_f I' := by
  unfold ra_f at *
  rw [c38, c73]
  exact h
def LR (I : mv_I) : Prop := ra_w I ∧ ra_n I ∧ ra_t I ∧ ra_b I ∧ ra_k I ∧ ra_s I ∧ ra_l I ∧ ra_h I ∧ ra_i I ∧ ra_f I
theorem kc_total {a r1 r2 : Int32} {I I1 I2 : mv_I} (sc : SC I) (ht : ra_t I) (f1 : mg_f2 [] [(1, 3)] I I1) (f2 : mg_f2 [] [(12, 10)] I1 I2) (p1 : sp_total a I r1 I1) (p2 : sm_total a I1 r2 I2) : r1 = r2 ∧ ra_t I2 := by
  have h : I 1 3 = I 12 10 := ht
  have g1 : I1 12 10 = I 12 10 := f1 12 10 rfl rfl
  unfold sp_total at p1
  unfold sm_total at p2
  rw [g1, ← h] at p2
  rcases p1 with ⟨n1, e1, i1⟩ | ⟨o1, e1, i1⟩
  · rcases p2 with ⟨n2, e2, i2⟩ | ⟨o2, e2, i2⟩
    · exact ⟨e1.trans e2.symm, by rw [i2, i1]; exact ht⟩
    · exact absurd o2 n1
  · rcases p2 with ⟨n2, e2, i2⟩ | ⟨o2, e2, i2⟩
    · exact absurd o1 n2
    · have z1 : I2 1 3 = a := (f2 1 3 rfl rfl).trans ((congrFun (congrFun i1 1) 3).trans rfl)
      have z2 : I2 12 10 = a := (congrFun (congrFun i2 12) 10).trans rfl
      exact ⟨e1.trans e2.symm, z1.trans z2.symm⟩
theorem kc_bar {a r1 r2 : Int32} {I I1 I2 : mv_I} (sc : SC I) (hb : ra_b I) (f1 : mg_f2 [] [(5, 1)] I I1) (f2 : mg_f2 [] [(12, 32)] I1 I2) (p1 : sp_bar a I r1 I1) (p2 : sm_bar a I1 r2 I2) : r1 = r2 ∧ ra_b I2 := by
  have h : I 5 1 = I 12 32 := hb
  have g1 : I1 12 32 = I 12 32 := f1 12 32 rfl rfl
  unfold sp_bar at p1
  unfold sm_bar at p2
  rw [g1, ← h] at p2
  rcases p1 with ⟨n1, e1, i1⟩ | ⟨o1, e1, i1⟩
  · rcases p2 with ⟨n2, e2, i2⟩ | ⟨o2, e2, i2⟩
    · exact ⟨e1.trans e2.symm, by rw [i2, i1]; exact hb⟩
    · exact absurd o2 n1
  · rcases p2 with ⟨n2, e2, i2⟩ | ⟨o2, e2, i2⟩
    · exact absurd o1 n2
    · have z1 : I2 5 1 = a := (f2 5 1 rfl rfl).trans ((congrFun (congrFun i1 5) 1).trans rfl)
      have z2 : I2 12 32 = a := (congrFun (congrFun i2 12) 32).trans rfl
      exact ⟨e1.trans e2.symm, z1.trans z2.symm⟩
theorem kc_weeks {a r1 r2 : Int32} {I I1 I2 : mv_I} (sc : SC I) (hn : ra_n I) (f1 : mg_f2 [] [(0, 7)] I I1) (f2 : mg_f2 [] [(12, 3)] I1 I2) (p1 : sp_weeks a I r1 I1) (p2 : sm_weeks a I1 r2 I2) : r1 = r2 ∧ ra_n I2 := by
  have h : I 0 7 = I 12 3 := hn
  have g1 : I1 12 3 = I 12 3 := f1 12 3 rfl rfl
  unfold sp_weeks at p1
  unfold sm_weeks at p2
  rw [g1, ← h] at p2
  rcases p1 with ⟨n1, e1, i1⟩ | ⟨o1, e1, i1⟩
  · rcases p2 with ⟨n2, e2, i2⟩ | ⟨o2, e2, i2⟩
    · exact ⟨e1.trans e2.symm, by rw [i2, i1]; exact hn⟩
    · exact absurd o2 n1
  · rcases p2 with ⟨n2, e2, i2⟩ | ⟨o2, e2, i2⟩
    · exact absurd o1 n2
    · have z1 : I2 0 7 = I 0 7 + a := (f2 0 7 rfl rfl).trans ((congrFun (congrFun i1 0) 7).trans rfl)
      have z2 : I2 12 3 = I 0 7 + a := (congrFun (congrFun i2 12) 3).trans rfl
      exact ⟨e1.trans e2.symm, z1.trans z2.symm⟩
theorem kc_works {a r1 r2 : Int32} {I I1 I2 : mv_I} (sc : SC I) (hw : ra_w I) (f1 : mg_f2 [13] [(1, 2)] I I1) (f2 : mg_f2 [51] [(12, 0)] I1 I2) (p1 : sp_works a I r1 I1) (p2 : sm_works a I1 r2 I2) : r1 = r2 ∧ ra_w I2 := by
  unfold sp_works at p1
  unfold sm_works at p2
  have h : I 1 2 = I 12 0 := hw
  have g1 : I1 12 0 = I 12 0 := f1 12 0 rfl rfl
  rw [g1, ← h] at p2
  rcases p1 with ⟨n1, e1, i1⟩ | ⟨o1, l1, e1, i1⟩ | ⟨o1, l1, e1, i1⟩
  · rcases p2 with ⟨n2, e2, i2⟩ | ⟨o2, l2, e2, i2⟩ | ⟨o2, l2, e2, i2⟩
    · exact ⟨e1.trans e2.symm, by rw [i2, i1]; exact hw⟩
    · exact absurd o2 n1
    · exact absurd o2 n1
  · rcases p2 with ⟨n2, e2, i2⟩ | ⟨o2, l2, e2, i2⟩ | ⟨o2, l2, e2, i2⟩
    · exact absurd o1 n2
    · exact ⟨e1.trans e2.symm, by rw [i2, i1]; exact hw⟩
    · first | exact absurd l2 l1 | exact absurd l1 l2 | (exfalso; omega)
  · rcases p2 with ⟨n2, e2, i2⟩ | ⟨o2, l2, e2, i2⟩ | ⟨o2, l2, e2, i2⟩
    · exact absurd o1 n2
    · first | exact absurd l2 l1 | exact absurd l1 l2 | (exfalso; omega)
    · have z1 : I2 1 2 = I 1 2 + 1 := (f2 1 2 rfl rfl).trans ((congrFun (congrFun i1 1) 2).trans rfl)
      have z2 : I2 12 0 = I 1 2 + 1 := (congrFun (congrFun i2 12) 0).trans rfl
      exact ⟨e1.trans e2.symm, z1.trans z2.symm⟩
theorem kc_lot {a b c r1 r2 : Int32} {I I1 I2 : mv_I} (sc : SC I) (hw : ra_w I) (hn : ra_n I) (hl : ra_l I) (f1 : mg_f2 [25, 26, 27, 28] [(3, 6)] I I1) (f2 : mg_f2 [53, 54, 55, 57] [(12, 4)] I1 I2) (p1 : sp_lot a b c I r1 I1) (p2 : sm_lot a b c I1 r2 I2) : r1 = r2 ∧ ra_l I2 := by
  unfold sp_lot at p1
  unfold sm_lot at p2
  have hw : I 1 2 = I 12 0 := hw
  have hn : I 0 7 = I 12 3 := hn
  obtain ⟨q1, q2, q3, q4, q5⟩ := id hl
  rw [f1 12 0 rfl rfl, f1 12 4 rfl rfl, f1 12 3 rfl rfl, f2_fn (c := 53) f1 rfl (fun _ => rfl), f2_fn (c := 54) f1 rfl (fun _ => rfl), f2_fn (c := 55) f1 rfl (fun _ => rfl), f2_fn (c := 57) f1 rfl (fun _ => rfl), ← hw, ← hn, ← q1, ← q2, ← q3, ← q4, ← q5] at p2
  rcases p1 with ⟨n1, e1, i1⟩ | ⟨o1, l1, e1, i1⟩ | ⟨o1, l1, e1, i1⟩
  · rcases p2 with ⟨n2, e2, i2⟩ | ⟨o2, l2, e2, i2⟩ | ⟨o2, l2, e2, i2⟩
    · exact ⟨e1.trans e2.symm, by rw [i2, i1]; exact hl⟩
    · exact absurd o2 n1
    · exact absurd o2 n1
  · rcases p2 with ⟨n2, e2, i2⟩ | ⟨o2, l2, e2, i2⟩ | ⟨o2, l2, e2, i2⟩
    · exact absurd o1 n2
    · exact ⟨e1.trans e2.symm, by rw [i2, i1]; exact hl⟩
    · first | exact absurd l2 l1 | exact absurd l1 l2 | (exfalso; omega)
  · rcases p2 with ⟨n2, e2, i2⟩ | ⟨o2, l2, e2, i2⟩ | ⟨o2, l2, e2, i2⟩
    · exact absurd o1 n2
    · first | exact absurd l2 l1 | exact absurd l1 l2 | (exfalso; omega)
    · have y25 : I2 25 = upd (I 25) (I 3 6).toNatClampNeg (a) := (f2_fn (c := 25) f2 rfl (fun _ => rfl)).trans ((congrFun i1 25).trans rfl)
      have y53 : I2 53 = upd (I 25) (I 3 6).toNatClampNeg (a) := (congrFun i2 53).trans rfl
      have y26 : I2 26 = upd (I 26) (I 3 6).toNatClampNeg (b) := (f2_fn (c := 26) f2 rfl (fun _ => rfl)).trans ((congrFun i1 26).trans rfl)
      have y54 : I2 54 = upd (I 26) (I 3 6).toNatClampNeg (b) := (congrFun i2 54).trans rfl
      have y28 : I2 28 = upd (I 28) (I 3 6).toNatClampNeg (c) := (f2_fn (c := 28) f2 rfl (fun _ => rfl)).trans ((congrFun i1 28).trans rfl)
      have y55 : I2 55 = upd (I 28) (I 3 6).toNatClampNeg (c) := (congrFun i2 55).trans rfl
      have y27 : I2 27 = upd (I 27) (I 3 6).toNatClampNeg (I 0 7) := (f2_fn (c := 27) f2 rfl (fun _ => rfl)).trans ((congrFun i1 27).trans rfl)
      have y57 : I2 57 = upd (I 27) (I 3 6).toNatClampNeg (I 0 7) := (congrFun i2 57).trans rfl
      have z1 : I2 3 6 = I 3 6 + 1 := (f2 3 6 rfl rfl).trans ((congrFun (congrFun i1 3) 6).trans rfl)
      have z2 : I2 12 4 = I 3 6 + 1 := (congrFun (congrFun i2 12) 4).trans rfl
      exact ⟨e1.trans e2.symm, z1.trans z2.symm, y25.trans y53.symm, y26.trans y54.symm, y27.trans y57.symm, y28.trans y55.symm⟩
theorem kc_rail {a b r1 r2 : Int32} {I I1 I2 : mv_I} (sc : SC I) (hl : ra_l I) (f1 : mg_f2 [28, 29] [] I I1) (f2 : mg_f2 [55, 56] [] I1 I2) (p1 : sp_rail a b I r1 I1) (p2 : sm_rail a b I1 r2 I2) : r1 = r2 ∧ ra_l I2 := by
  unfold sp_rail at p1
  unfold sm_rail at p2
  obtain ⟨q1, q2, q3, q4, q5⟩ := id hl
  rw [f1 12 4 rfl rfl, f2_fn (c := 55) f1 rfl (fun _ => rfl), ← q1, ← q5] at p2
  rcases p1 with ⟨n1, e1, i1⟩ | ⟨o1, l1, e1, i1⟩ | ⟨o1, l1, e1, i1⟩
  · rcases p2 with ⟨n2, e2, i2⟩ | ⟨o2, l2, e2, i2⟩ | ⟨o2, l2, e2, i2⟩
    · exact ⟨e1.trans e2.symm, by rw [i2, i1]; exact hl⟩
    · exact absurd o2 n1
    · exact absurd o2 n1
  · rcases p2 with ⟨n2, e2, i2⟩ | ⟨o2, l2, e2, i2⟩ | ⟨o2, l2, e2, i2⟩
    · exact absurd o1 n2
    · exact ⟨e1.trans e2.symm, by rw [i2, i1]; exact hl⟩
    · first | exact absurd l2 l1 | exact absurd l1 l2 | (exfalso; omega)
  · rcases p2 with ⟨n2, e2, i2⟩ | ⟨o2, l2, e2, i2⟩ | ⟨o2, l2, e2, i2⟩
    · exact absurd o1 n2
    · first | exact absurd l2 l1 | exact absurd l1 l2 | (exfalso; omega)
    · have y28 : I2 28 = upd (I 28) a.toNatClampNeg (I 28 a.toNatClampNeg - b) := (f2_fn (c := 28) f2 rfl (fun _ => rfl)).trans ((congrFun i1 28).trans rfl)
      have y55 : I2 55 = upd (I 28) a.toNatClampNeg (I 28 a.toNatClampNeg - b) := (congrFun i2 55).trans rfl
      have f := f1.cat f2
      exact ⟨e1.trans e2.symm, (f 3 6 rfl rfl).trans (q1.trans (f 12 4 rfl rfl).symm), (f2_fn (c := 25) f rfl (fun _ => rfl)).trans (q2.trans (f2_fn (c := 53) f rfl (fun _ => rfl)).symm), (f2_fn (c := 26) f rfl (fun _ => rfl)).trans (q3.trans (f2_fn (c := 54) f rfl (fun _ => rfl)).symm), (f2_fn (c := 27) f rfl (fun _ => rfl)).trans (q4.trans (f2_fn (c := 57) f rfl (fun _ => rfl)).symm), y28.trans y55.symm⟩
theorem kc_ship {a b c e f r1 r2 : Int32} {I I1 I2 : mv_I} (sc : SC I) (hs : ra_s I) (f1 : mg_f2 [31, 32, 33, 34, 35] [(4, 7)] I I1) (f2 : mg_f2 [67, 68, 69, 70, 71] [(12, 24)] I1 I2) (p1 : sp_ship a b c e f I r1 I1) (p2 : sm_ship a b c e f I1 r2 I2) : r1 = r2 ∧ ra_s I2 := by
  unfold sp_ship at p1
  unfold sm_ship at p2
  obtain ⟨q1, q2, q3, q4, q5, q6⟩ := id hs
  rw [f1 12 24 rfl rfl, f2_fn (c := 67) f1 rfl (fun _ => rfl), f2_fn (c := 68) f1 rfl (fun _ => rfl), f2_fn (c := 69) f1 rfl (fun _ => rfl), f2_fn (c := 70) f1 rfl (fun _ => rfl), f2_fn (c := 71) f1 rfl (fun _ => rfl), ← q1, ← q2, ← q3, ← q4, ← q5, ← q6] at p2
  rcases p1 with ⟨n1, e1, i1⟩ | ⟨o1, l1, e1, i1⟩ | ⟨o1, l1, e1, i1⟩
  · rcases p2 with ⟨n2, e2, i2⟩ | ⟨o2, l2, e2, i2⟩ | ⟨o2, l2, e2, i2⟩
    · exact ⟨e1.trans e2.symm, by rw [i2, i1]; exact hs⟩
    · exact absurd o2 n1
    · exact absurd o2 n1
  · rcases p2 with ⟨n2, e2, i2⟩ | ⟨o2, l2, e2, i2⟩ | ⟨o2, l2, e2, i2⟩
    · exact absurd o1 n2
    · exact ⟨e1.trans e2.symm, by rw [i2, i1]; exact hs⟩
    · first | exact absurd l2 l1 | exact absurd l1 l2 | (exfalso; omega)
  · rcases p2 with ⟨n2, e2, i2⟩ | ⟨o2, l2, e2, i2⟩ | ⟨o2, l2, e2, i2⟩
    · exact absurd o1 n2
    · first | exact absurd l2 l1 | exact absurd l1 l2 | (exfalso; omega)
    · have y31 : I2 31 = upd (I 31) (I 4 7).toNatClampNeg (a) := (f2_fn (c := 31) f2 rfl (fun _ => rfl)).trans ((congrFun i1 31).trans rfl)
      have y67 : I2 67 = upd (I 31) (I 4 7).toNatClampNeg (a) := (congrFun i2 67).trans rfl
      have y32 : I2 32 = upd (I 32) (I 4 7).toNatClampNeg (b) := (f2_fn (c := 32) f2 rfl (fun _ => rfl)).trans ((congrFun i1 32).trans rfl)
      have y68 : I2 68 = upd (I 32) (I 4 7).toNatClampNeg (b) := (congrFun i2 68).trans rfl
      have y33 : I2 33 = upd (I 33) (I 4 7).toNatClampNeg (c) := (f2_fn (c := 33) f2 rfl (fun _ => rfl)).trans ((congrFun i1 33).trans rfl)
      have y69 : I2 69 = upd (I 33) (I 4 7).toNatClampNeg (c) := (congrFun i2 69).trans rfl
      have y34 : I2 34 = upd (I 34) (I 4 7).toNatClampNeg (e) := (f2_fn (c := 34) f2 rfl (fun _ => rfl)).trans ((congrFun i1 34).trans rfl)
      have y70 : I2 70 = upd (I 34) (I 4 7).toNatClampNeg (e) := (congrFun i2 70).trans rfl
      have y35 : I2 35 = upd (I 35) (I 4 7).toNatClampNeg (f) := (f2_fn (c := 35) f2 rfl (fun _ => rfl)).trans ((congrFun i1 35).trans rfl)
      have y71 : I2 71 = upd (I 35) (I 4 7).toNatClampNeg (f) := (congrFun i2 71).trans rfl
      have z1 : I2 4 7 = I 4 7 + 1 := (f2 4 7 rfl rfl).trans ((congrFun (congrFun i1 4) 7).trans rfl)
      have z2 : I2 12 24 = I 4 7 + 1 := (congrFun (congrFun i2 12) 24).trans rfl
      exact ⟨e1.trans e2.symm, z1.trans z2.symm, y31.trans y67.symm, y32.trans y68.symm, y33.trans y69.symm, y34.trans y70.symm, y35.trans y71.symm⟩
theorem kc_type {w : Int64} {n r1 r2 : Int32} {I I1 I2 : mv_I} (sc : SC I) (hk : ra_k I) (f1 : mg_f2 [24] [(2, 2)] I I1) (f2 : mg_f2 [65] [(12, 20)] I1 I2) (p1 : sp_type w n I r1 I1) (p2 : sm_type w n I1 r2 I2) : r1 = r2 ∧ ra_k I2 := by
  have h : I 2 2 = I 12 20 := hk
  unfold sp_type at p1
  unfold sm_type at p2
  rw [f1 12 20 rfl rfl, ← h] at p2
  rcases p1 with ⟨n1, e1, i1⟩ | ⟨o1, l1, e1, i1⟩ | ⟨o1, l1, e1, i1⟩
  · rcases p2 with ⟨n2, e2, i2⟩ | ⟨o2, l2, e2, i2⟩ | ⟨o2, l2, e2, i2⟩
    · exact ⟨e1.trans e2.symm, by rw [i2, i1]; exact hk⟩
    · exact absurd o2 n1
    · exact absurd o2 n1
  · rcases p2 with ⟨n2, e2, i2⟩ | ⟨o2, l2, e2, i2⟩ | ⟨o2, l2, e2, i2⟩
    · exact absurd o1 n2
    · exact ⟨e1.trans e2.symm, by rw [i2, i1]; exact hk⟩
    · exact absurd l2 l1
  · rcases p2 with ⟨n2, e2, i2⟩ | ⟨o2, l2, e2, i2⟩ | ⟨o2, l2, e2, i2⟩
    · exact absurd o1 n2
    · exact absurd l1 l2
    · have e : I1 2 2 = I2 12 20 := mi_eq.mpr (i1.trans i2.symm)
      exact ⟨e1.trans (e.trans e2.symm), (f2 2 2 rfl rfl).trans e⟩
theorem bg_1 {s t : Nat} (l n : Int32) (I : mv_I) (hs : s < 4) (ht : t < 4) : bg s l n I (8 + t) 1 = if t = s then l else I (8 + t) 1 := by
  by_cases e : t = s
  · subst e; rw [if_pos rfl]; unfold bg; rw [va_up_self]; rfl
  · rw [if_neg e]; unfold bg; rw [va_up_ne _ _ (by omega), va_up_ne _ _ (by omega), va_up_ne _ _ (by omega)]
theorem bg_2 {s t : Nat} (l n : Int32) (I : mv_I) (hs : s < 4) (ht : t < 4) : bg s l n I (8 + t) 2 = if t = s then n else I (8 + t) 2 := by
  by_cases e : t = s
  · subst e; rw [if_pos rfl]; unfold bg; rw [va_up_self]; rfl
  · rw [if_neg e]; unfold bg; rw [va_up_ne _ _ (by omega), va_up_ne _ _ (by omega), va_up_ne _ _ (by omega)]
theorem bg_3 {s t j : Nat} (l n : Int32) (I : mv_I) (hs : s < 4) (ht : t < 4) (hj : j < 60) : bg s l n I (47 + t) j = if t = s then 0 else I (47 + t) j := by
  by_cases e : t = s
  · subst e; rw [if_pos rfl]; unfold bg; rw [va_up_ne _ _ (by omega), va_up_ne _ _ (by omega), va_up_self]; exact if_pos ⟨Nat.zero_le j, hj⟩
  · rw [if_neg e]; unfold bg; rw [va_up_ne _ _ (by omega), va_up_ne _ _ (by omega), va_up_ne _ _ (by omega)]
theorem sc_len {I : mv_I} (sc : SC I) {s : Nat} (hs : s < 4) : rg (I (8 + s) 2) 0 60 := by
  obtain ⟨s1, s2, s3, s4, s5, s6, s7, s8, s9, s10, s11, s12⟩ := sc
  rcases fin4 hs with rfl | rfl | rfl | rfl
  · exact s9.2
  · exact s10.2
  · exact s11.2
  · exact s12.2
theorem cl_s {a : Int32} {s : Nat} (h : a.toInt = s) : a.toNatClampNeg = s := by
  have := mi_cl (x := a) (by omega)
  omega
theorem ok_s {a : Int32} {s : Nat} (hs : s < 4) (h : a.toInt = s) : 0 ≤ a ∧ a ≤ 3 := by
  have := mi_l
  rw [mi_le, mi_le]
  exact ⟨by omega, by omega⟩
theorem kc_sheet {a b c r1 r2 : Int32} {I I1 I2 : mv_I} (sc : SC I) (hh : ra_h I) (hi : ra_i I) (f1 : mg_f2 [47, 48, 49, 50] [(8, 1), (8, 2), (9, 1), (9, 2), (10, 1), (10, 2), (11, 1), (11, 2)] I I1) (f2 : mg_f2 [82, 83, 84] [] I1 I2) (p1 : sp_sheet a b c I r1 I1) (p2 : sm_sheet a b c I1 r2 I2) : r1 = r2 ∧ ra_h I2 ∧ ra_i I2 := by
  rcases p1 with ⟨n1, e1, i1⟩ | ⟨o1, l1, e1, i1⟩ | ⟨o1, l1, e1, s, hs, as, i1⟩
  · rcases p2 with ⟨n2, e2, i2⟩ | ⟨o2, l2, e2, i2⟩ | ⟨o2, l2, e2, i2⟩
    · exact ⟨e1.trans e2.symm, by rw [i2, i1]; exact hh, by rw [i2, i1]; exact hi⟩
    · exact absurd o2 n1
    · exact absurd o2 n1
  · rcases p2 with ⟨n2, e2, i2⟩ | ⟨o2, l2, e2, i2⟩ | ⟨o2, l2, e2, i2⟩
    · exact absurd o1 n2
    · exact ⟨e1.trans e2.symm, by rw [i2, i1]; exact hh, by rw [i2, i1]; exact hi⟩
    · exact absurd l1 l2
  · rcases p2 with ⟨n2, e2, i2⟩ | ⟨o2, l2, e2, i2⟩ | ⟨o2, l2, e2, q1, q2, q3⟩
    · exact absurd o1 n2
    · exact absurd l2 l1
    · rw [cl_s as] at q1 q2 q3
      have g1 := f2_fn (c := 82) f1 rfl (fun _ => rfl)
      have g2 := f2_fn (c := 83) f1 rfl (fun _ => rfl)
      have g3 := f2_fn (c := 84) f1 rfl (fun _ => rfl)
      have g4 : ∀ t, t < 4 → I2 (8 + t) = I1 (8 + t) ∧ I2 (47 + t) = I1 (47 + t) := fun t ht => by
        rcases fin4 ht with rfl | rfl | rfl | rfl
        · exact ⟨f2_fn (c := 8) f2 rfl (fun _ => rfl), f2_fn (c := 47) f2 rfl (fun _ => rfl)⟩
        · exact ⟨f2_fn (c := 9) f2 rfl (fun _ => rfl), f2_fn (c := 48) f2 rfl (fun _ => rfl)⟩
        · exact ⟨f2_fn (c := 10) f2 rfl (fun _ => rfl), f2_fn (c := 49) f2 rfl (fun _ => rfl)⟩
        · exact ⟨f2_fn (c := 11) f2 rfl (fun _ => rfl), f2_fn (c := 50) f2 rfl (fun _ => rfl)⟩
      refine ⟨e1.trans e2.symm, fun t ht => ?_, fun t ht j hj => ?_⟩
      · rw [(g4 t ht).1, q1, q2, g1, g2, i1, bg_1 b c I hs ht, bg_2 b c I hs ht]
        unfold upd
        by_cases e : t = s
        · simp only [if_pos e]; exact ⟨trivial, trivial⟩
        · simp only [if_neg e]; exact hh t ht
      · rw [(g4 t ht).2, q3, g3, i1, bg_3 b c I hs ht hj]
        by_cases e : t = s
        · rw [if_pos e, if_pos (by subst e; omega)]
        · rw [if_neg e, if_neg (by omega)]; exact hi t ht j hj
theorem kc_drop {a r1 r2 : Int32} {I I1 I2 : mv_I} (sc : SC I) (hh : ra_h I) (f1 : mg_f2 [] [(8, 1), (9, 1), (10, 1), (11, 1)] I I1) (f2 : mg_f2 [82] [] I1 I2) (p1 : sp_drop a I r1 I1) (p2 : sm_drop a I1 r2 I2) : r1 = r2 ∧ ra_h I2 := by
  rcases p1 with ⟨n1, e1, i1⟩ | ⟨s, hs, as, p1⟩
  · rcases p2 with ⟨n2, e2, i2⟩ | ⟨o2, p2⟩
    · exact ⟨e1.trans e2.symm, by rw [i2, i1]; exact hh⟩
    · exact absurd o2 n1
  · rcases p2 with ⟨n2, e2, i2⟩ | ⟨o2, p2⟩
    · exact absurd (ok_s hs as) n2
    · have g1 := f2_fn (c := 82) f1 rfl (fun _ => rfl)
      have g2 := f2_fn (c := 83) f1 rfl (fun _ => rfl)
      obtain ⟨h1, h2⟩ := hh s hs
      rw [cl_s as, g1, g2, ← h1, ← h2] at p2
      rcases p1 with ⟨n1, e1, i1⟩ | ⟨o1, e1, i1⟩
      · rcases p2 with ⟨n2, e2, i2⟩ | ⟨o2, e2, i2⟩
        · exact ⟨e1.trans e2.symm, by rw [i2, i1]; exact hh⟩
        · exact absurd n1 o2
      · rcases p2 with ⟨n2, e2, i2⟩ | ⟨o2, e2, i2⟩
        · exact absurd n2 o1
        · refine ⟨e1.trans e2.symm, fun t ht => ?_⟩
          have k1 : I2 (8 + t) = I1 (8 + t) := by rw [i2]; exact va_up_ne _ _ (by omega)
          have k2 : I2 82 = upd (I 82) s (-1) := by rw [i2]; exact va_up_self _ _ _
          have k3 : I2 83 = I 83 := by rw [i2]; exact (va_up_ne _ _ (by omega)).trans g2
          rw [k1, k2, k3, i1]
          by_cases e : t = s
          · subst e
            rw [va_up_self]
            exact ⟨(if_pos rfl).symm, h2⟩
          · rw [va_up_ne _ _ (by omega)]
            unfold upd
            rw [if_neg e]
            exact hh t ht
theorem kc_item {a b i v r1 r2 : Int32} {I I1 I2 : mv_I} (sc : SC I) (hh : ra_h I) (hi : ra_i I) (f1 : mg_f2 [47, 48, 49, 50] [] I I1) (f2 : mg_f2 [84] [] I1 I2) (p1 : sp_item a b i v I r1 I1) (p2 : sm_item a b i v I1 r2 I2) : r1 = r2 ∧ ra_i I2 := by
  rcases p1 with ⟨n1, e1, i1⟩ | ⟨ob, s, hs, as, p1⟩
  · rcases p2 with ⟨n2, e2, i2⟩ | ⟨o2, o3, p2⟩
    · exact ⟨e1.trans e2.symm, by rw [i2, i1]; exact hi⟩
    · exact absurd ⟨o2, o3⟩ n1
  · rcases p2 with ⟨n2, e2, i2⟩ | ⟨o2, o3, p2⟩
    · exact absurd ⟨ok_s hs as, ob⟩ n2
    · have g1 := f2_fn (c := 82) f1 rfl (fun _ => rfl)
      have g2 := f2_fn (c := 83) f1 rfl (fun _ => rfl)
      have g3 := f2_fn (c := 84) f1 rfl (fun _ => rfl)
      obtain ⟨h1, h2⟩ := hh s hs
      rw [cl_s as, g1, g2, g3, ← h1, ← h2] at p2
      rcases p1 with ⟨n1, e1, i1⟩ | ⟨o1, e1, i1⟩
      · rcases p2 with ⟨n2, e2, i2⟩ | ⟨o2, e2, i2⟩
        · exact ⟨e1.trans e2.symm, by rw [i2, i1]; exact hi⟩
        · exact absurd o2 n1
      · rcases p2 with ⟨n2, e2, i2⟩ | ⟨o2, e2, i2⟩
        · exact absurd o1 n2
        · refine ⟨e1.trans e2.symm, fun t ht j hj => ?_⟩
          have hL := sc_len sc hs
          have hx := mg_has hL (v_fault0 o1).1
          have e1' : (1 : Int32).toInt = 1 := by decide
          have hc := mi_cl hx.1
          have hl2 := hL.2
          have k1 : I2 (47 + t) = I1 (47 + t) := by rw [i2]; exact va_up_ne _ _ (by omega)
          have k2 : I2 84 = upd (I 84) (60 * s + i.toNatClampNeg) (vput (I (8 + s) 1) v) := by rw [i2]; exact va_up_self _ _ _
          rw [k1, k2, i1]
          by_cases e : t = s
          · subst e
            rw [va_up_self]
            unfold upd
            by_cases ej : j = i.toNatClampNeg
            · rw [if_pos ej, if_pos (by omega)]
            · rw [if_neg ej, if_neg (by omega)]; exact hi t ht j hj
          · rw [va_up_ne _ _ (by omega)]
            unfold upd
            rw [if_neg (by omega)]
            exact hi t ht j hj
theorem kc_copy {a i b j n r1 r2 : Int32} {I I1 I2 : mv_I} (sc : SC I) (hh : ra_h I) (hi : ra_i I) (f1 : mg_f2 [47, 48, 49, 50] [] I I1) (f2 : mg_f2 [84, 85] [] I1 I2) (p1 : sp_copy a i b j n I r1 I1) (p2 : sm_copy a i b j n I1 r2 I2) : r1 = r2 ∧ ra_i I2 := by
  rcases p1 with ⟨n1, e1, i1⟩ | ⟨s, t, hs, ht, as, at_, p1⟩
  · rcases p2 with ⟨n2, e2, i2⟩ | ⟨o2, p2⟩
    · exact ⟨e1.trans e2.symm, by rw [i2, i1]; exact hi⟩
    · exact absurd o2 n1
  · rcases p2 with ⟨n2, e2, i2⟩ | ⟨o2, p2⟩
    · exact absurd ⟨ok_s hs as, ok_s ht at_⟩ n2
    · have g1 := f2_fn (c := 82) f1 rfl (fun _ => rfl)
      have g2 := f2_fn (c := 83) f1 rfl (fun _ => rfl)
      have g3 := f2_fn (c := 84) f1 rfl (fun _ => rfl)
      obtain ⟨h1, h2⟩ := hh s hs
      obtain ⟨h3, h4⟩ := hh t ht
      rw [cl_s as, cl_s at_, g1, g2, g3] at p2
      simp only [← h1, ← h2, ← h3, ← h4] at p2
      rcases p1 with ⟨n1, e1, i1⟩ | ⟨m1, n1, e1, i1⟩ | ⟨m1, n1, u1, e1, i1⟩ | ⟨m1, n1, u1, e1, i1⟩
      · rcases p2 with ⟨n2, e2, i2⟩ | ⟨m2, n2, e2, i2⟩ | ⟨m2, n2, u2, e2, i2⟩ | ⟨m2, n2, u2, e2, i2⟩
        · exact ⟨e1.trans e2.symm, by rw [i2, i1]; exact hi⟩
        · exact absurd n1 m2
        · exact absurd n1 m2
        · exact absurd n1 m2
      · rcases p2 with ⟨n2, e2, i2⟩ | ⟨m2, n2, e2, i2⟩ | ⟨m2, n2, u2, e2, i2⟩ | ⟨m2, n2, u2, e2, i2⟩
        · exact absurd n2 m1
        · exact ⟨e1.trans e2.symm, by rw [i2, i1]; exact hi⟩
        · exact absurd n2 n1
        · exact absurd n2 n1
      · rcases p2 with ⟨n2, e2, i2⟩ | ⟨m2, n2, e2, i2⟩ | ⟨m2, n2, u2, e2, i2⟩ | ⟨m2, n2, u2, e2, i2⟩
        · exact absurd n2 m1
        · exact absurd n1 n2
        · exact ⟨e1.trans e2.symm, by rw [i2, i1]; exact hi⟩
        · exact absurd u2 u1
      · rcases p2 with ⟨n2, e2, i2⟩ | ⟨m2, n2, e2, i2⟩ | ⟨m2, n2, u2, e2, i2⟩ | ⟨m2, n2, u2, e2, i2⟩
        · exact absurd n2 m1
        · exact absurd n1 n2
        · exact absurd u1 u2
        · refine ⟨e1.trans e2.symm, fun x hx j' hj => ?_⟩
          have hA := mg_has (sc_len sc hs) u1.1
          have hB := mg_has (sc_len sc ht) u1.2
          have la := (sc_len sc hs).2
          have lb := (sc_len sc ht).2
          have ci := mi_cl hA.1
          have cj := mi_cl hB.1
          have cn := mi_cl hA.2.1
          have g4 : ∀ t, t < 4 → I2 (8 + t) = I1 (8 + t) ∧ I2 (47 + t) = I1 (47 + t) := fun t ht => by
            rcases fin4 ht with rfl | rfl | rfl | rfl
            · exact ⟨f2_fn (c := 8) f2 rfl (fun _ => rfl), f2_fn (c := 47) f2 rfl (fun _ => rfl)⟩
            · exact ⟨f2_fn (c := 9) f2 rfl (fun _ => rfl), f2_fn (c := 48) f2 rfl (fun _ => rfl)⟩
            · exact ⟨f2_fn (c := 10) f2 rfl (fun _ => rfl), f2_fn (c := 49) f2 rfl (fun _ => rfl)⟩
            · exact ⟨f2_fn (c := 11) f2 rfl (fun _ => rfl), f2_fn (c := 50) f2 rfl (fun _ => rfl)⟩
          rw [(g4 x hx).2, i2, i1]
          unfold mr_mv
          by_cases e : x = t
          · subst e
            rw [va_up_self]
            unfold va_cpy
            by_cases ej : j.toNatClampNeg ≤ j' ∧ j' < j.toNatClampNeg + n.toNatClampNeg
            · rw [if_pos ej, if_pos (by omega)]
              rw [hi s hs _ (by omega)]
              congr 1
              omega
            · rw [if_neg ej, if_neg (by omega)]; exact hi x hx j' hj
          · rw [va_up_ne _ _ (by omega), if_neg (by omega)]
            exact hi x hx j' hj
theorem mg_ab_eq {f g : Nat → Int32} {i n : Int32} (h : ∀ j : Nat, i.toInt ≤ j → j < i.toInt + n.toInt → f j = g j) : mg_ab f i n ↔ mg_ab g i n := by
  constructor
  · rintro ⟨j, a1, a2, a3⟩
    exact ⟨j, a1, a2, by rw [← h j a1 a2]; exact a3⟩
  · rintro ⟨j, a1, a2, a3⟩
    exact ⟨j, a1, a2, by rw [h j a1 a2]; exact a3⟩
theorem kc_surf {a b c i n r1 r2 : Int32} {I I1 I2 : mv_I} (sc : SC I) (hh : ra_h I) (hi : ra_i I) (hf : ra_f I) (f1 : mg_f2 [38] [] I I1) (f2 : mg_f2 [73] [] I1 I2) (p1 : sp_surf a b c i n I r1 I1) (p2 : sm_surf a b c i n I1 r2 I2) : r1 = r2 ∧ ra_f I2 := by
  rcases p1 with ⟨n1, e1, i1⟩ | ⟨ob, s, hs, as, p1⟩
  · rcases p2 with ⟨n2, e2, i2⟩ | ⟨o2, p2⟩
    · exact ⟨e1.trans e2.symm, by rw [i2, i1]; exact hf⟩
    · exact absurd o2 n1
  · rcases p2 with ⟨n2, e2, i2⟩ | ⟨o2, p2⟩
    · exact absurd ob n2
    · have g1 := f2_fn (c := 82) f1 rfl (fun _ => rfl)
      have g2 := f2_fn (c := 83) f1 rfl (fun _ => rfl)
      have g3 := f2_fn (c := 84) f1 rfl (fun _ => rfl)
      have g5 := f2_fn (c := 73) f1 rfl (fun _ => rfl)
      obtain ⟨h1, h2⟩ := hh s hs
      rw [cl_s as, g1, g2, g3, g5, ← h1, ← h2] at p2
      rcases p1 with ⟨n1, e1, i1⟩ | p1
      · rcases p2 with ⟨n2, e2, i2⟩ | p2
        · exact ⟨e1.trans e2.symm, by rw [i2, i1]; exact hf⟩
        · rcases p2 with ⟨m2, _⟩ | ⟨m2, _⟩
          · exact absurd m2 n1
          · exact absurd m2 n1
      · have v0 : v_fault (I (8 + s) 1) (I (8 + s) 2) c i n = 0 := by
          rcases p1 with ⟨m1, _⟩ | ⟨m1, _⟩
          · exact m1
          · exact m1
        have hA := mg_has (sc_len sc hs) (v_fault0 v0).1
        have la := (sc_len sc hs).2
        have ci := mi_cl hA.1
        have cn := mi_cl hA.2.1
        have ab : mg_ab (I (47 + s)) i n ↔ mg_ab (fun j => I 84 (60 * s + j)) i n := mg_ab_eq (fun j a1 a2 => hi s hs j (by omega))
        rcases p1 with ⟨m1, n1, e1, i1⟩ | ⟨m1, n1, e1, i1⟩
        · rcases p2 with ⟨n2, e2, i2⟩ | ⟨m2, n2, e2, i2⟩ | ⟨m2, n2, e2, i2⟩
          · exact absurd m1 n2
          · exact ⟨e1.trans e2.symm, by rw [i2, i1]; exact hf⟩
          · exact absurd (ab.mp n1) n2
        · rcases p2 with ⟨n2, e2, i2⟩ | ⟨m2, n2, e2, i2⟩ | ⟨m2, n2, e2, i2⟩
          · exact absurd m1 n2
          · exact absurd (ab.mpr n2) n1
          · refine ⟨e1.trans e2.symm, fun z => ?_⟩
            have k1 : I2 38 = I1 38 := f2_fn (c := 38) f2 rfl (fun _ => rfl)
            rw [k1, i2, i1, va_up_self]
            unfold va_cpy mr_sf
            by_cases ej : a.toNatClampNeg ≤ z ∧ z < a.toNatClampNeg + n.toNatClampNeg
            · rw [if_pos ej, if_pos ej, hi s hs _ (by omega)]
              congr 2
              omega
            · rw [if_neg ej, if_neg ej]; exact hf z
theorem kr_works {a r1 r2 : Int32} {I I1 I2 : mv_I} (sc : SC I) (hR : LR I) (f1 : mg_f2 [13] [(1, 2)] I I1) (f2 : mg_f2 [51] [(12, 0)] I1 I2) (p1 : sp_works a I r1 I1) (p2 : sm_works a I1 r2 I2) : r1 = r2 ∧ LR I2 := by
  obtain ⟨hw, hn, ht, hb, hk, hs, hl, hh, hi, hf⟩ := hR
  have kc := kc_works sc hw f1 f2 p1 p2
  have f := f1.cat f2
  exact ⟨kc.1, kc.2, (hn.kp (f 0 7 rfl rfl) (f 12 3 rfl rfl)), (ht.kp (f 1 3 rfl rfl) (f 12 10 rfl rfl)), (hb.kp (f 5 1 rfl rfl) (f 12 32 rfl rfl)), (hk.kp (f 2 2 rfl rfl) (f 12 20 rfl rfl)), (hs.kp (f 4 7 rfl rfl) (f 12 24 rfl rfl) (f2_fn (c := 31) f rfl (fun _ => rfl)) (f2_fn (c := 67) f rfl (fun _ => rfl)) (f2_fn (c := 32) f rfl (fun _ => rfl)) (f2_fn (c := 68) f rfl (fun _ => rfl)) (f2_fn (c := 33) f rfl (fun _ => rfl)) (f2_fn (c := 69) f rfl (fun _ => rfl)) (f2_fn (c := 34) f rfl (fun _ => rfl)) (f2_fn (c := 70) f rfl (fun _ => rfl)) (f2_fn (c := 35) f rfl (fun _ => rfl)) (f2_fn (c := 71) f rfl (fun _ => rfl))), (hl.kp (f 3 6 rfl rfl) (f 12 4 rfl rfl) (f2_fn (c := 25) f rfl (fun _ => rfl)) (f2_fn (c := 53) f rfl (fun _ => rfl)) (f2_fn (c := 26) f rfl (fun _ => rfl)) (f2_fn (c := 54) f rfl (fun _ => rfl)) (f2_fn (c := 27) f rfl (fun _ => rfl)) (f2_fn (c := 57) f rfl (fun _ => rfl)) (f2_fn (c := 28) f rfl (fun _ => rfl)) (f2_fn (c := 55) f rfl (fun _ => rfl))), (hh.kp (f 8 1 rfl rfl) (f 8 2 rfl rfl) (f 9 1 rfl rfl) (f 9 2 rfl rfl) (f 10 1 rfl rfl) (f 10 2 rfl rfl) (f 11 1 rfl rfl) (f 11 2 rfl rfl) (f2_fn (c := 82) f rfl (fun _ => rfl)) (f2_fn (c := 83) f rfl (fun _ => rfl))), (hi.kp (f2_fn (c := 47) f rfl (fun _ => rfl)) (f2_fn (c := 48) f rfl (fun _ => rfl)) (f2_fn (c := 49) f rfl (fun _ => rfl)) (f2_fn (c := 50) f rfl (fun _ => rfl)) (f2_fn (c := 84) f rfl (fun _ => rfl))), (hf.kp (f2_fn (c := 38) f rfl (fun _ => rfl)) (f2_fn (c := 73) f rfl (fun _ => rfl)))⟩
theorem kr_weeks {a r1 r2 : Int32} {I I1 I2 : mv_I} (sc : SC I) (hR : LR I) (f1 : mg_f2 [] [(0, 7)] I I1) (f2 : mg_f2 [] [(12, 3)] I1 I2) (p1 : sp_weeks a I r1 I1) (p2 : sm_weeks a I1 r2 I2) : r1 = r2 ∧ LR I2 := by
  obtain ⟨hw, hn, ht, hb, hk, hs, hl, hh, hi, hf⟩ := hR
  have kc := kc_weeks sc hn f1 f2 p1 p2
  have f := f1.cat f2
  exact ⟨kc.1, (hw.kp (f 1 2 rfl rfl) (f 12 0 rfl rfl)), kc.2, (ht.kp (f 1 3 rfl rfl) (f 12 10 rfl rfl)), (hb.kp (f 5 1 rfl rfl) (f 12 32 rfl rfl)), (hk.kp (f 2 2 rfl rfl) (f 12 20 rfl rfl)), (hs.kp (f 4 7 rfl rfl) (f 12 24 rfl rfl) (f2_fn (c := 31) f rfl (fun _ => rfl)) (f2_fn (c := 67) f rfl (fun _ => rfl)) (f2_fn (c := 32) f rfl (fun _ => rfl)) (f2_fn (c := 68) f rfl (fun _ => rfl)) (f2_fn (c := 33) f rfl (fun _ => rfl)) (f2_fn (c := 69) f rfl (fun _ => rfl)) (f2_fn (c := 34) f rfl (fun _ => rfl)) (f2_fn (c := 70) f rfl (fun _ => rfl)) (f2_fn (c := 35) f rfl (fun _ => rfl)) (f2_fn (c := 71) f rfl (fun _ => rfl))), (hl.kp (f 3 6 rfl rfl) (f 12 4 rfl rfl) (f2_fn (c := 25) f rfl (fun _ => rfl)) (f2_fn (c := 53) f rfl (fun _ => rfl)) (f2_fn (c := 26) f rfl (fun _ => rfl)) (f2_fn (c := 54) f rfl (fun _ => rfl)) (f2_fn (c := 27) f rfl (fun _ => rfl)) (f2_fn (c := 57) f rfl (fun _ => rfl)) (f2_fn (c := 28) f rfl (fun _ => rfl)) (f2_fn (c := 55) f rfl (fun _ => rfl))), (hh.kp (f 8 1 rfl rfl) (f 8 2 rfl rfl) (f 9 1 rfl rfl) (f 9 2 rfl rfl) (f 10 1 rfl rfl) (f 10 2 rfl rfl) (f 11 1 rfl rfl) (f 11 2 rfl rfl) (f2_fn (c := 82) f rfl (fun _ => rfl)) (f2_fn (c := 83) f rfl (fun _ => rfl))), (hi.kp (f2_fn (c := 47) f rfl (fun _ => rfl)) (f2_fn (c := 48) f rfl (fun _ => rfl)) (f2_fn (c := 49) f rfl (fun _ => rfl)) (f2_fn (c := 50) f rfl (fun _ => rfl)) (f2_fn (c := 84) f rfl (fun _ => rfl))), (hf.kp (f2_fn (c := 38) f rfl (fun _ => rfl)) (f2_fn (c := 73) f rfl (fun _ => rfl)))⟩
theorem kr_lot {a b c r1 r2 : Int32} {I I1 I2 : mv_I} (sc : SC I) (hR : LR I) (f1 : mg_f2 [25, 26, 27, 28] [(3, 6)] I I1) (f2 : mg_f2 [53, 54, 55, 57] [(12, 4)] I1 I2) (p1 : sp_lot a b c I r1 I1) (p2 : sm_lot a b c I1 r2 I2) : r1 = r2 ∧ LR I2 := by
  obtain ⟨hw, hn, ht, hb, hk, hs, hl, hh, hi, hf⟩ := hR
  have kc := kc_lot sc hw hn hl f1 f2 p1 p2
  have f := f1.cat f2
  exact ⟨kc.1, (hw.kp (f 1 2 rfl rfl) (f 12 0 rfl rfl)), (hn.kp (f 0 7 rfl rfl) (f 12 3 rfl rfl)), (ht.kp (f 1 3 rfl rfl) (f 12 10 rfl rfl)), (hb.kp (f 5 1 rfl rfl) (f 12 32 rfl rfl)), (hk.kp (f 2 2 rfl rfl) (f 12 20 rfl rfl)), (hs.kp (f 4 7 rfl rfl) (f 12 24 rfl rfl) (f2_fn (c := 31) f rfl (fun _ => rfl)) (f2_fn (c := 67) f rfl (fun _ => rfl)) (f2_fn (c := 32) f rfl (fun _ => rfl)) (f2_fn (c := 68) f rfl (fun _ => rfl)) (f2_fn (c := 33) f rfl (fun _ => rfl)) (f2_fn (c := 69) f rfl (fun _ => rfl)) (f2_fn (c := 34) f rfl (fun _ => rfl)) (f2_fn (c := 70) f rfl (fun _ => rfl)) (f2_fn (c := 35) f rfl (fun _ => rfl)) (f2_fn (c := 71) f rfl (fun _ => rfl))), kc.2, (hh.kp (f 8 1 rfl rfl) (f 8 2 rfl rfl) (f 9 1 rfl rfl) (f 9 2 rfl rfl) (f 10 1 rfl rfl) (f 10 2 rfl rfl) (f 11 1 rfl rfl) (f 11 2 rfl rfl) (f2_fn (c := 82) f rfl (fun _ => rfl)) (f2_fn (c := 83) f rfl (fun _ => rfl))), (hi.kp (f2_fn (c := 47) f rfl (fun _ => rfl)) (f2_fn (c := 48) f rfl (fun _ => rfl)) (f2_fn (c := 49) f rfl (fun _ => rfl)) (f2_fn (c := 50) f rfl (fun _ => rfl)) (f2_fn (c := 84) f rfl (fun _ => rfl))), (hf.kp (f2_fn (c := 38) f rfl (fun _ => rfl)) (f2_fn (c := 73) f rfl (fun _ => rfl)))⟩
theorem kr_rail {a b r1 r2 : Int32} {I I1 I2 : mv_I} (sc : SC I) (hR : LR I) (f1 : mg_f2 [28, 29] [] I I1) (f2 : mg_f2 [55, 56] [] I1 I2) (p1 : sp_rail a b I r1 I1) (p2 : sm_rail a b I1 r2 I2) : r1 = r2 ∧ LR I2 := by
  obtain ⟨hw, hn, ht, hb, hk, hs, hl, hh, hi, hf⟩ := hR
  have kc := kc_rail sc hl f1 f2 p1 p2
  have f := f1.cat f2
  exact ⟨kc.1, (hw.kp (f 1 2 rfl rfl) (f 12 0 rfl rfl)), (hn.kp (f 0 7 rfl rfl) (f 12 3 rfl rfl)), (ht.kp (f 1 3 rfl rfl) (f 12 10 rfl rfl)), (hb.kp (f 5 1 rfl rfl) (f 12 32 rfl rfl)), (hk.kp (f 2 2 rfl rfl) (f 12 20 rfl rfl)), (hs.kp (f 4 7 rfl rfl) (f 12 24 rfl rfl) (f2_fn (c := 31) f rfl (fun _ => rfl)) (f2_fn (c := 67) f rfl (fun _ => rfl)) (f2_fn (c := 32) f rfl (fun _ => rfl)) (f2_fn (c := 68) f rfl (fun _ => rfl)) (f2_fn (c := 33) f rfl (fun _ => rfl)) (f2_fn (c := 69) f rfl (fun _ => rfl)) (f2_fn (c := 34) f rfl (fun _ => rfl)) (f2_fn (c := 70) f rfl (fun _ => rfl)) (f2_fn (c := 35) f rfl (fun _ => rfl)) (f2_fn (c := 71) f rfl (fun _ => rfl))), kc.2, (hh.kp (f 8 1 rfl rfl) (f 8 2 rfl rfl) (f 9 1 rfl rfl) (f 9 2 rfl rfl) (f 10 1 rfl rfl) (f 10 2 rfl rfl) (f 11 1 rfl rfl) (f 11 2 rfl rfl) (f2_fn (c := 82) f rfl (fun _ => rfl)) (f2_fn (c := 83) f rfl (fun _ => rfl))), (hi.kp (f2_fn (c := 47) f rfl (fun _ => rfl)) (f2_fn (c := 48) f rfl (fun _ => rfl)) (f2_fn (c := 49) f rfl (fun _ => rfl)) (f2_fn (c := 50) f rfl (fun _ => rfl)) (f2_fn (c := 84) f rfl (fun _ => rfl))), (hf.kp (f2_fn (c := 38) f rfl (fun _ => rfl)) (f2_fn (c := 73) f rfl (fun _ => rfl)))⟩
theorem kr_total {a r1 r2 : Int32} {I I1 I2 : mv_I} (sc : SC I) (hR : LR I) (f1 : mg_f2 [] [(1, 3)] I I1) (f2 : mg_f2 [] [(12, 10)] I1 I2) (p1 : sp_total a I r1 I1) (p2 : sm_total a I1 r2 I2) : r1 = r2 ∧ LR I2 := by
  obtain ⟨hw, hn, ht, hb, hk, hs, hl, hh, hi, hf⟩ := hR
  have kc := kc_total sc ht f1 f2 p1 p2
  have f := f1.cat f2
  exact ⟨kc.1, (hw.kp (f 1 2 rfl rfl) (f 12 0 rfl rfl)), (hn.kp (f 0 7 rfl rfl) (f 12 3 rfl rfl)), kc.2, (hb.kp (f 5 1 rfl rfl) (f 12 32 rfl rfl)), (hk.kp (f 2 2 rfl rfl) (f 12 20 rfl rfl)), (hs.kp (f 4 7 rfl rfl) (f 12 24 rfl rfl) (f2_fn (c := 31) f rfl (fun _ => rfl)) (f2_fn (c := 67) f rfl (fun _ => rfl)) (f2_fn (c := 32) f rfl (fun _ => rfl)) (f2_fn (c := 68) f rfl (fun _ => rfl)) (f2_fn (c := 33) f rfl (fun _ => rfl)) (f2_fn (c := 69) f rfl (fun _ => rfl)) (f2_fn (c := 34) f rfl (fun _ => rfl)) (f2_fn (c := 70) f rfl (fun _ => rfl)) (f2_fn (c := 35) f rfl (fun _ => rfl)) (f2_fn (c := 71) f rfl (fun _ => rfl))), (hl.kp (f 3 6 rfl rfl) (f 12 4 rfl rfl) (f2_fn (c := 25) f rfl (fun _ => rfl)) (f2_fn (c := 53) f rfl (fun _ => rfl)) (f2_fn (c := 26) f rfl (fun _ => rfl)) (f2_fn (c := 54) f rfl (fun _ => rfl)) (f2_fn (c := 27) f rfl (fun _ => rfl)) (f2_fn (c := 57) f rfl (fun _ => rfl)) (f2_fn (c := 28) f rfl (fun _ => rfl)) (f2_fn (c := 55) f rfl (fun _ => rfl))), (hh.kp (f 8 1 rfl rfl) (f 8 2 rfl rfl) (f 9 1 rfl rfl) (f 9 2 rfl rfl) (f 10 1 rfl rfl) (f 10 2 rfl rfl) (f 11 1 rfl rfl) (f 11 2 rfl rfl) (f2_fn (c := 82) f rfl (fun _ => rfl)) (f2_fn (c := 83) f rfl (fun _ => rfl))), (hi.kp (f2_fn (c := 47) f rfl (fun _ => rfl)) (f2_fn (c := 48) f rfl (fun _ => rfl)) (f2_fn (c := 49) f rfl (fun _ => rfl)) (f2_fn (c := 50) f rfl (fun _ => rfl)) (f2_fn (c := 84) f rfl (fun _ => rfl))), (hf.kp (f2_fn (c := 38) f rfl (fun _ => rfl)) (f2_fn (c := 73) f rfl (fun _ => rfl)))⟩
theorem kr_bar {a r1 r2 : Int32} {I I1 I2 : mv_I} (sc : SC I) (hR : LR I) (f1 : mg_f2 [] [(5, 1)] I I1) (f2 : mg_f2 [] [(12, 32)] I1 I2) (p1 : sp_bar a I r1 I1) (p2 : sm_bar a I1 r2 I2) : r1 = r2 ∧ LR I2 := by
  obtain ⟨hw, hn, ht, hb, hk, hs, hl, hh, hi, hf⟩ := hR
  have kc := kc_bar sc hb f1 f2 p1 p2
  have f := f1.cat f2
  exact ⟨kc.1, (hw.kp (f 1 2 rfl rfl) (f 12 0 rfl rfl)), (hn.kp (f 0 7 rfl rfl) (f 12 3 rfl rfl)), (ht.kp (f 1 3 rfl rfl) (f 12 10 rfl rfl)), kc.2, (hk.kp (f 2 2 rfl rfl) (f 12 20 rfl rfl)), (hs.kp (f 4 7 rfl rfl) (f 12 24 rfl rfl) (f2_fn (c := 31) f rfl (fun _ => rfl)) (f2_fn (c := 67) f rfl (fun _ => rfl)) (f2_fn (c := 32) f rfl (fun _ => rfl)) (f2_fn (c := 68) f rfl (fun _ => rfl)) (f2_fn (c := 33) f rfl (fun _ => rfl)) (f2_fn (c := 69) f rfl (fun _ => rfl)) (f2_fn (c := 34) f rfl (fun _ => rfl)) (f2_fn (c := 70) f rfl (fun _ => rfl)) (f2_fn (c := 35) f rfl (fun _ => rfl)) (f2_fn (c := 71) f rfl (fun _ => rfl))), (hl.kp (f 3 6 rfl rfl) (f 12 4 rfl rfl) (f2_fn (c := 25) f rfl (fun _ => rfl)) (f2_fn (c := 53) f rfl (fun _ => rfl)) (f2_fn (c := 26) f rfl (fun _ => rfl)) (f2_fn (c := 54) f rfl (fun _ => rfl)) (f2_fn (c := 27) f rfl (fun _ => rfl)) (f2_fn (c := 57) f rfl (fun _ => rfl)) (f2_fn (c := 28) f rfl (fun _ => rfl)) (f2_fn (c := 55) f rfl (fun _ => rfl))), (hh.kp (f 8 1 rfl rfl) (f 8 2 rfl rfl) (f 9 1 rfl rfl) (f 9 2 rfl rfl) (f 10 1 rfl rfl) (f 10 2 rfl rfl) (f 11 1 rfl rfl) (f 11 2 rfl rfl) (f2_fn (c := 82) f rfl (fun _ => rfl)) (f2_fn (c := 83) f rfl (fun _ => rfl))), (hi.kp (f2_fn (c := 47) f rfl (fun _ => rfl)) (f2_fn (c := 48) f rfl (fun _ => rfl)) (f2_fn (c := 49) f rfl (fun _ => rfl)) (f2_fn (c := 50) f rfl (fun _ => rfl)) (f2_fn (c := 84) f rfl (fun _ => rfl))), (hf.kp (f2_fn (c := 38) f rfl (fun _ => rfl)) (f2_fn (c := 73) f rfl (fun _ => rfl)))⟩
theorem kr_ship {a b c e f r1 r2 : Int32} {I I1 I2 : mv_I} (sc : SC I) (hR : LR I) (f1 : mg_f2 [31, 32, 33, 34, 35] [(4, 7)] I I1) (f2 : mg_f2 [67, 68, 69, 70, 71] [(12, 24)] I1 I2) (p1 : sp_ship a b c e f I r1 I1) (p2 : sm_ship a b c e f I1 r2 I2) : r1 = r2 ∧ LR I2 := by
  obtain ⟨hw, hn, ht, hb, hk, hs, hl, hh, hi, hf⟩ := hR
  have kc := kc_ship sc hs f1 f2 p1 p2
  have f := f1.cat f2
  exact ⟨kc.1, (hw.kp (f 1 2 rfl rfl) (f 12 0 rfl rfl)), (hn.kp (f 0 7 rfl rfl) (f 12 3 rfl rfl)), (ht.kp (f 1 3 rfl rfl) (f 12 10 rfl rfl)), (hb.kp (f 5 1 rfl rfl) (f 12 32 rfl rfl)), (hk.kp (f 2 2 rfl rfl) (f 12 20 rfl rfl)), kc.2, (hl.kp (f 3 6 rfl rfl) (f 12 4 rfl rfl) (f2_fn (c := 25) f rfl (fun _ => rfl)) (f2_fn (c := 53) f rfl (fun _ => rfl)) (f2_fn (c := 26) f rfl (fun _ => rfl)) (f2_fn (c := 54) f rfl (fun _ => rfl)) (f2_fn (c := 27) f rfl (fun _ => rfl)) (f2_fn (c := 57) f rfl (fun _ => rfl)) (f2_fn (c := 28) f rfl (fun _ => rfl)) (f2_fn (c := 55) f rfl (fun _ => rfl))), (hh.kp (f 8 1 rfl rfl) (f 8 2 rfl rfl) (f 9 1 rfl rfl) (f 9 2 rfl rfl) (f 10 1 rfl rfl) (f 10 2 rfl rfl) (f 11 1 rfl rfl) (f 11 2 rfl rfl) (f2_fn (c := 82) f rfl (fun _ => rfl)) (f2_fn (c := 83) f rfl (fun _ => rfl))), (hi.kp (f2_fn (c := 47) f rfl (fun _ => rfl)) (f2_fn (c := 48) f rfl (fun _ => rfl)) (f2_fn (c := 49) f rfl (fun _ => rfl)) (f2_fn (c := 50) f rfl (fun _ => rfl)) (f2_fn (c := 84) f rfl (fun _ => rfl))), (hf.kp (f2_fn (c := 38) f rfl (fun _ => rfl)) (f2_fn (c := 73) f rfl (fun _ => rfl)))⟩
theorem kr_type {w : Int64} {n r1 r2 : Int32} {I I1 I2 : mv_I} (sc : SC I) (hR : LR I) (f1 : mg_f2 [24] [(2, 2)] I I1) (f2 : mg_f2 [65] [(12, 20)] I1 I2) (p1 : sp_type w n I r1 I1) (p2 : sm_type w n I1 r2 I2) : r1 = r2 ∧ LR I2 := by
  obtain ⟨hw, hn, ht, hb, hk, hs, hl, hh, hi, hf⟩ := hR
  have kc := kc_type sc hk f1 f2 p1 p2
  have f := f1.cat f2
  exact ⟨kc.1, (hw.kp (f 1 2 rfl rfl) (f 12 0 rfl rfl)), (hn.kp (f 0 7 rfl rfl) (f 12 3 rfl rfl)), (ht.kp (f 1 3 rfl rfl) (f 12 10 rfl rfl)), (hb.kp (f 5 1 rfl rfl) (f 12 32 rfl rfl)), kc.2, (hs.kp (f 4 7 rfl rfl) (f 12 24 rfl rfl) (f2_fn (c := 31) f rfl (fun _ => rfl)) (f2_fn (c := 67) f rfl (fun _ => rfl)) (f2_fn (c := 32) f rfl (fun _ => rfl)) (f2_fn (c := 68) f rfl (fun _ => rfl)) (f2_fn (c := 33) f rfl (fun _ => rfl)) (f2_fn (c := 69) f rfl (fun _ => rfl)) (f2_fn (c := 34) f rfl (fun _ => rfl)) (f2_fn (c := 70) f rfl (fun _ => rfl)) (f2_fn (c := 35) f rfl (fun _ => rfl)) (f2_fn (c := 71) f rfl (fun _ => rfl))), (hl.kp (f 3 6 rfl rfl) (f 12 4 rfl rfl) (f2_fn (c := 25) f rfl (fun _ => rfl)) (f2_fn (c := 53) f rfl (fun _ => rfl)) (f2_fn (c := 26) f rfl (fun _ => rfl)) (f2_fn (c := 54) f rfl (fun _ => rfl)) (f2_fn (c := 27) f rfl (fun _ => rfl)) (f2_fn (c := 57) f rfl (fun _ => rfl)) (f2_fn (c := 28) f rfl (fun _ => rfl)) (f2_fn (c := 55) f rfl (fun _ => rfl))), (hh.kp (f 8 1 rfl rfl) (f 8 2 rfl rfl) (f 9 1 rfl rfl) (f 9 2 rfl rfl) (f 10 1 rfl rfl) (f 10 2 rfl rfl) (f 11 1 rfl rfl) (f 11 2 rfl rfl) (f2_fn (c := 82) f rfl (fun _ => rfl)) (f2_fn (c := 83) f rfl (fun _ => rfl))), (hi.kp (f2_fn (c := 47) f rfl (fun _ => rfl)) (f2_fn (c := 48) f rfl (fun _ => rfl)) (f2_fn (c := 49) f rfl (fun _ => rfl)) (f2_fn (c := 50) f rfl (fun _ => rfl)) (f2_fn (c := 84) f rfl (fun _ => rfl))), (hf.kp (f2_fn (c := 38) f rfl (fun _ => rfl)) (f2_fn (c := 73) f rfl (fun _ => rfl)))⟩
theorem kr_sheet {a b c r1 r2 : Int32} {I I1 I2 : mv_I} (sc : SC I) (hR : LR I) (f1 : mg_f2 [47, 48, 49, 50] [(8, 1), (8, 2), (9, 1), (9, 2), (10, 1), (10, 2), (11, 1), (11, 2)] I I1) (f2 : mg_f2 [82, 83, 84] [] I1 I2) (p1 : sp_sheet a b c I r1 I1) (p2 : sm_sheet a b c I1 r2 I2) : r1 = r2 ∧ LR I2 := by
  obtain ⟨hw, hn, ht, hb, hk, hs, hl, hh, hi, hf⟩ := hR
  have kc := kc_sheet sc hh hi f1 f2 p1 p2
  have f := f1.cat f2
  exact ⟨kc.1, (hw.kp (f 1 2 rfl rfl) (f 12 0 rfl rfl)), (hn.kp (f 0 7 rfl rfl) (f 12 3 rfl rfl)), (ht.kp (f 1 3 rfl rfl) (f 12 10 rfl rfl)), (hb.kp (f 5 1 rfl rfl) (f 12 32 rfl rfl)), (hk.kp (f 2 2 rfl rfl) (f 12 20 rfl rfl)), (hs.kp (f 4 7 rfl rfl) (f 12 24 rfl rfl) (f2_fn (c := 31) f rfl (fun _ => rfl)) (f2_fn (c := 67) f rfl (fun _ => rfl)) (f2_fn (c := 32) f rfl (fun _ => rfl)) (f2_fn (c := 68) f rfl (fun _ => rfl)) (f2_fn (c := 33) f rfl (fun _ => rfl)) (f2_fn (c := 69) f rfl (fun _ => rfl)) (f2_fn (c := 34) f rfl (fun _ => rfl)) (f2_fn (c := 70) f rfl (fun _ => rfl)) (f2_fn (c := 35) f rfl (fun _ => rfl)) (f2_fn (c := 71) f rfl (fun _ => rfl))), (hl.kp (f 3 6 rfl rfl) (f 12 4 rfl rfl) (f2_fn (c := 25) f rfl (fun _ => rfl)) (f2_fn (c := 53) f rfl (fun _ => rfl)) (f2_fn (c := 26) f rfl (fun _ => rfl)) (f2_fn (c := 54) f rfl (fun _ => rfl)) (f2_fn (c := 27) f rfl (fun _ => rfl)) (f2_fn (c := 57) f rfl (fun _ => rfl)) (f2_fn (c := 28) f rfl (fun _ => rfl)) (f2_fn (c := 55) f rfl (fun _ => rfl))), kc.2.1, kc.2.2, (hf.kp (f2_fn (c := 38) f rfl (fun _ => rfl)) (f2_fn (c := 73) f rfl (fun _ => rfl)))⟩
theorem kr_drop {a r1 r2 : Int32} {I I1 I2 : mv_I} (sc : SC I) (hR : LR I) (f1 : mg_f2 [] [(8, 1), (9, 1), (10, 1), (11, 1)] I I1) (f2 : mg_f2 [82] [] I1 I2) (p1 : sp_drop a I r1 I1) (p2 : sm_drop a I1 r2 I2) : r1 = r2 ∧ LR I2 := by
  obtain ⟨hw, hn, ht, hb, hk, hs, hl, hh, hi, hf⟩ := hR
  have kc := kc_drop sc hh f1 f2 p1 p2
  have f := f1.cat f2
  exact ⟨kc.1, (hw.kp (f 1 2 rfl rfl) (f 12 0 rfl rfl)), (hn.kp (f 0 7 rfl rfl) (f 12 3 rfl rfl)), (ht.kp (f 1 3 rfl rfl) (f 12 10 rfl rfl)), (hb.kp (f 5 1 rfl rfl) (f 12 32 rfl rfl)), (hk.kp (f 2 2 rfl rfl) (f 12 20 rfl rfl)), (hs.kp (f 4 7 rfl rfl) (f 12 24 rfl rfl) (f2_fn (c := 31) f rfl (fun _ => rfl)) (f2_fn (c := 67) f rfl (fun _ => rfl)) (f2_fn (c := 32) f rfl (fun _ => rfl)) (f2_fn (c := 68) f rfl (fun _ => rfl)) (f2_fn (c := 33) f rfl (fun _ => rfl)) (f2_fn (c := 69) f rfl (fun _ => rfl)) (f2_fn (c := 34) f rfl (fun _ => rfl)) (f2_fn (c := 70) f rfl (fun _ => rfl)) (f2_fn (c := 35) f rfl (fun _ => rfl)) (f2_fn (c := 71) f rfl (fun _ => rfl))), (hl.kp (f 3 6 rfl rfl) (f 12 4 rfl rfl) (f2_fn (c := 25) f rfl (fun _ => rfl)) (f2_fn (c := 53) f rfl (fun _ => rfl)) (f2_fn (c := 26) f rfl (fun _ => rfl)) (f2_fn (c := 54) f rfl (fun _ => rfl)) (f2_fn (c := 27) f rfl (fun _ => rfl)) (f2_fn (c := 57) f rfl (fun _ => rfl)) (f2_fn (c := 28) f rfl (fun _ => rfl)) (f2_fn (c := 55) f rfl (fun _ => rfl))), kc.2, (hi.kp (f2_fn (c := 47) f rfl (fun _ => rfl)) (f2_fn (c := 48) f rfl (fun _ => rfl)) (f2_fn (c := 49) f rfl (fun _ => rfl)) (f2_fn (c := 50) f rfl (fun _ => rfl)) (f2_fn (c := 84) f rfl (fun _ => rfl))), (hf.kp (f2_fn (c := 38) f rfl (fun _ => rfl)) (f2_fn (c := 73) f rfl (fun _ => rfl)))⟩
theorem kr_item {a b i v r1 r2 : Int32} {I I1 I2 : mv_I} (sc : SC I) (hR : LR I) (f1 : mg_f2 [47, 48, 49, 50] [] I I1) (f2 : mg_f2 [84] [] I1 I2) (p1 : sp_item a b i v I r1 I1) (p2 : sm_item a b i v I1 r2 I2) : r1 = r2 ∧ LR I2 := by
  obtain ⟨hw, hn, ht, hb, hk, hs, hl, hh, hi, hf⟩ := hR
  have kc := kc_item sc hh hi f1 f2 p1 p2
  have f := f1.cat f2
  exact ⟨kc.1, (hw.kp (f 1 2 rfl rfl) (f 12 0 rfl rfl)), (hn.kp (f 0 7 rfl rfl) (f 12 3 rfl rfl)), (ht.kp (f 1 3 rfl rfl) (f 12 10 rfl rfl)), (hb.kp (f 5 1 rfl rfl) (f 12 32 rfl rfl)), (hk.kp (f 2 2 rfl rfl) (f 12 20 rfl rfl)), (hs.kp (f 4 7 rfl rfl) (f 12 24 rfl rfl) (f2_fn (c := 31) f rfl (fun _ => rfl)) (f2_fn (c := 67) f rfl (fun _ => rfl)) (f2_fn (c := 32) f rfl (fun _ => rfl)) (f2_fn (c := 68) f rfl (fun _ => rfl)) (f2_fn (c := 33) f rfl (fun _ => rfl)) (f2_fn (c := 69) f rfl (fun _ => rfl)) (f2_fn (c := 34) f rfl (fun _ => rfl)) (f2_fn (c := 70) f rfl (fun _ => rfl)) (f2_fn (c := 35) f rfl (fun _ => rfl)) (f2_fn (c := 71) f rfl (fun _ => rfl))), (hl.kp (f 3 6 rfl rfl) (f 12 4 rfl rfl) (f2_fn (c := 25) f rfl (fun _ => rfl)) (f2_fn (c := 53) f rfl (fun _ => rfl)) (f2_fn (c := 26) f rfl (fun _ => rfl)) (f2_fn (c := 54) f rfl (fun _ => rfl)) (f2_fn (c := 27) f rfl (fun _ => rfl)) (f2_fn (c := 57) f rfl (fun _ => rfl)) (f2_fn (c := 28) f rfl (fun _ => rfl)) (f2_fn (c := 55) f rfl (fun _ => rfl))), (hh.kp (f 8 1 rfl rfl) (f 8 2 rfl rfl) (f 9 1 rfl rfl) (f 9 2 rfl rfl) (f 10 1 rfl rfl) (f 10 2 rfl rfl) (f 11 1 rfl rfl) (f 11 2 rfl rfl) (f2_fn (c := 82) f rfl (fun _ => rfl)) (f2_fn (c := 83) f rfl (fun _ => rfl))), kc.2, (hf.kp (f2_fn (c := 38) f rfl (fun _ => rfl)) (f2_fn (c := 73) f rfl (fun _ => rfl)))⟩
theorem kr_copy {a i b j n r1 r2 : Int32} {I I1 I2 : mv_I} (sc : SC I) (hR : LR I) (f1 : mg_f2 [47, 48, 49, 50] [] I I1) (f2 : mg_f2 [84, 85] [] I1 I2) (p1 : sp_copy a i b j n I r1 I1) (p2 : sm_copy a i b j n I1 r2 I2) : r1 = r2 ∧ LR I2 := by
  obtain ⟨hw, hn, ht, hb, hk, hs, hl, hh, hi, hf⟩ := hR
  have kc := kc_copy sc hh hi f1 f2 p1 p2
  have f := f1.cat f2
  exact ⟨kc.1, (hw.kp (f 1 2 rfl rfl) (f 12 0 rfl rfl)), (hn.kp (f 0 7 rfl rfl) (f 12 3 rfl rfl)), (ht.kp (f 1 3 rfl rfl) (f 12 10 rfl rfl)), (hb.kp (f 5 1 rfl rfl) (f 12 32 rfl rfl)), (hk.kp (f 2 2 rfl rfl) (f 12 20 rfl rfl)), (hs.kp (f 4 7 rfl rfl) (f 12 24 rfl rfl) (f2_fn (c := 31) f rfl (fun _ => rfl)) (f2_fn (c := 67) f rfl (fun _ => rfl)) (f2_fn (c := 32) f rfl (fun _ => rfl)) (f2_fn (c := 68) f rfl (fun _ => rfl)) (f2_fn (c := 33) f rfl (fun _ => rfl)) (f2_fn (c := 69) f rfl (fun _ => rfl)) (f2_fn (c := 34) f rfl (fun _ => rfl)) (f2_fn (c := 70) f rfl (fun _ => rfl)) (f2_fn (c := 35) f rfl (fun _ => rfl)) (f2_fn (c := 71) f rfl (fun _ => rfl))), (hl.kp (f 3 6 rfl rfl) (f 12 4 rfl rfl) (f2_fn (c := 25) f rfl (fun _ => rfl)) (f2_fn (c := 53) f rfl (fun _ => rfl)) (f2_fn (c := 26) f rfl (fun _ => rfl)) (f2_fn (c := 54) f rfl (fun _ => rfl)) (f2_fn (c := 27) f rfl (fun _ => rfl)) (f2_fn (c := 57) f rfl (fun _ => rfl)) (f2_fn (c := 28) f rfl (fun _ => rfl)) (f2_fn (c := 55) f rfl (fun _ => rfl))), (hh.kp (f 8 1 rfl rfl) (f 8 2 rfl rfl) (f 9 1 rfl rfl) (f 9 2 rfl rfl) (f 10 1 rfl rfl) (f 10 2 rfl rfl) (f 11 1 rfl rfl) (f 11 2 rfl rfl) (f2_fn (c := 82) f rfl (fun _ => rfl)) (f2_fn (c := 83) f rfl (fun _ => rfl))), kc.2, (hf.kp (f2_fn (c := 38) f rfl (fun _ => rfl)) (f2_fn (c := 73) f rfl (fun _ => rfl)))⟩
theorem kr_surf {a b c i n r1 r2 : Int32} {I I1 I2 : mv_I} (sc : SC I) (hR : LR I) (f1 : mg_f2 [38] [] I I1) (f2 : mg_f2 [73] [] I1 I2) (p1 : sp_surf a b c i n I r1 I1) (p2 : sm_surf a b c i n I1 r2 I2) : r1 = r2 ∧ LR I2 := by
  obtain ⟨hw, hn, ht, hb, hk, hs, hl, hh, hi, hf⟩ := hR
  have kc := kc_surf sc hh hi hf f1 f2 p1 p2
  have f := f1.cat f2
  exact ⟨kc.1, (hw.kp (f 1 2 rfl rfl) (f 12 0 rfl rfl)), (hn.kp (f 0 7 rfl rfl) (f 12 3 rfl rfl)), (ht.kp (f 1 3 rfl rfl) (f 12 10 rfl rfl)), (hb.kp (f 5 1 rfl rfl) (f 12 32 rfl rfl)), (hk.kp (f 2 2 rfl rfl) (f 12 20 rfl rfl)), (hs.kp (f 4 7 rfl rfl) (f 12 24 rfl rfl) (f2_fn (c := 31) f rfl (fun _ => rfl)) (f2_fn (c := 67) f rfl (fun _ => rfl)) (f2_fn (c := 32) f rfl (fun _ => rfl)) (f2_fn (c := 68) f rfl (fun _ => rfl)) (f2_fn (c := 33) f rfl (fun _ => rfl)) (f2_fn (c := 69) f rfl (fun _ => rfl)) (f2_fn (c := 34) f rfl (fun _ => rfl)) (f2_fn (c := 70) f rfl (fun _ => rfl)) (f2_fn (c := 35) f rfl (fun _ => rfl)) (f2_fn (c := 71) f rfl (fun _ => rfl))), (hl.kp (f 3 6 rfl rfl) (f 12 4 rfl rfl) (f2_fn (c := 25) f rfl (fun _ => rfl)) (f2_fn (c := 53) f rfl (fun _ => rfl)) (f2_fn (c := 26) f rfl (fun _ => rfl)) (f2_fn (c := 54) f rfl (fun _ => rfl)) (f2_fn (c := 27) f rfl (fun _ => rfl)) (f2_fn (c := 57) f rfl (fun _ => rfl)) (f2_fn (c := 28) f rfl (fun _ => rfl)) (f2_fn (c := 55) f rfl (fun _ => rfl))), (hh.kp (f 8 1 rfl rfl) (f 8 2 rfl rfl) (f 9 1 rfl rfl) (f 9 2 rfl rfl) (f 10 1 rfl rfl) (f 10 2 rfl rfl) (f 11 1 rfl rfl) (f 11 2 rfl rfl) (f2_fn (c := 82) f rfl (fun _ => rfl)) (f2_fn (c := 83) f rfl (fun _ => rfl))), (hi.kp (f2_fn (c := 47) f rfl (fun _ => rfl)) (f2_fn (c := 48) f rfl (fun _ => rfl)) (f2_fn (c := 49) f rfl (fun _ => rfl)) (f2_fn (c := 50) f rfl (fun _ => rfl)) (f2_fn (c := 84) f rfl (fun _ => rfl))), kc.2⟩
theorem kr_parts {I I1 I2 : mv_I} (hR : LR I) (f1 : mg_f2 [13, 23] [(2, 2), (2, 3)] I I1) (f2 : mg_f2 [51, 66] [(12, 20), (12, 21), (12, 22)] I1 I2) (p1 : I1 2 2 = 0) (p2 : I2 12 20 = 0) : LR I2 := by
  obtain ⟨hw, hn, ht, hb, hk, hs, hl, hh, hi, hf⟩ := hR
  have f := f1.cat f2
  exact ⟨(hw.kp (f 1 2 rfl rfl) (f 12 0 rfl rfl)), (hn.kp (f 0 7 rfl rfl) (f 12 3 rfl rfl)), (ht.kp (f 1 3 rfl rfl) (f 12 10 rfl rfl)), (hb.kp (f 5 1 rfl rfl) (f 12 32 rfl rfl)), (f2 2 2 rfl rfl).trans (p1.trans p2.symm), (hs.kp (f 4 7 rfl rfl) (f 12 24 rfl rfl) (f2_fn (c := 31) f rfl (fun _ => rfl)) (f2_fn (c := 67) f rfl (fun _ => rfl)) (f2_fn (c := 32) f rfl (fun _ => rfl)) (f2_fn (c := 68) f rfl (fun _ => rfl)) (f2_fn (c := 33) f rfl (fun _ => rfl)) (f2_fn (c := 69) f rfl (fun _ => rfl)) (f2_fn (c := 34) f rfl (fun _ => rfl)) (f2_fn (c := 70) f rfl (fun _ => rfl)) (f2_fn (c := 35) f rfl (fun _ => rfl)) (f2_fn (c := 71) f rfl (fun _ => rfl))), (hl.kp (f 3 6 rfl rfl) (f 12 4 rfl rfl) (f2_fn (c := 25) f rfl (fun _ => rfl)) (f2_fn (c := 53) f rfl (fun _ => rfl)) (f2_fn (c := 26) f rfl (fun _ => rfl)) (f2_fn (c := 54) f rfl (fun _ => rfl)) (f2_fn (c := 27) f rfl (fun _ => rfl)) (f2_fn (c := 57) f rfl (fun _ => rfl)) (f2_fn (c := 28) f rfl (fun _ => rfl)) (f2_fn (c := 55) f rfl (fun _ => rfl))), (hh.kp (f 8 1 rfl rfl) (f 8 2 rfl rfl) (f 9 1 rfl rfl) (f 9 2 rfl rfl) (f 10 1 rfl rfl) (f 10 2 rfl rfl) (f 11 1 rfl rfl) (f 11 2 rfl rfl) (f2_fn (c := 82) f rfl (fun _ => rfl)) (f2_fn (c := 83) f rfl (fun _ => rfl))), (hi.kp (f2_fn (c := 47) f rfl (fun _ => rfl)) (f2_fn (c := 48) f rfl (fun _ => rfl)) (f2_fn (c := 49) f rfl (fun _ => rfl)) (f2_fn (c := 50) f rfl (fun _ => rfl)) (f2_fn (c := 84) f rfl (fun _ => rfl))), (hf.kp (f2_fn (c := 38) f rfl (fun _ => rfl)) (f2_fn (c := 73) f rfl (fun _ => rfl)))⟩
theorem kr_lend {I I1 I2 : mv_I} (hR : LR I) (f1 : mg_f2 [15, 16, 17, 18, 19, 20, 21, 22] [(1, 9)] I I1) (f2 : mg_f2 [58, 59, 60, 61, 62, 64] [(12, 11)] I1 I2) : LR I2 := by
  obtain ⟨hw, hn, ht, hb, hk, hs, hl, hh, hi, hf⟩ := hR
  have f := f1.cat f2
  exact ⟨(hw.kp (f 1 2 rfl rfl) (f 12 0 rfl rfl)), (hn.kp (f 0 7 rfl rfl) (f 12 3 rfl rfl)), (ht.kp (f 1 3 rfl rfl) (f 12 10 rfl rfl)), (hb.kp (f 5 1 rfl rfl) (f 12 32 rfl rfl)), (hk.kp (f 2 2 rfl rfl) (f 12 20 rfl rfl)), (hs.kp (f 4 7 rfl rfl) (f 12 24 rfl rfl) (f2_fn (c := 31) f rfl (fun _ => rfl)) (f2_fn (c := 67) f rfl (fun _ => rfl)) (f2_fn (c := 32) f rfl (fun _ => rfl)) (f2_fn (c := 68) f rfl (fun _ => rfl)) (f2_fn (c := 33) f rfl (fun _ => rfl)) (f2_fn (c := 69) f rfl (fun _ => rfl)) (f2_fn (c := 34) f rfl (fun _ => rfl)) (f2_fn (c := 70) f rfl (fun _ => rfl)) (f2_fn (c := 35) f rfl (fun _ => rfl)) (f2_fn (c := 71) f rfl (fun _ => rfl))), (hl.kp (f 3 6 rfl rfl) (f 12 4 rfl rfl) (f2_fn (c := 25) f rfl (fun _ => rfl)) (f2_fn (c := 53) f rfl (fun _ => rfl)) (f2_fn (c := 26) f rfl (fun _ => rfl)) (f2_fn (c := 54) f rfl (fun _ => rfl)) (f2_fn (c := 27) f rfl (fun _ => rfl)) (f2_fn (c := 57) f rfl (fun _ => rfl)) (f2_fn (c := 28) f rfl (fun _ => rfl)) (f2_fn (c := 55) f rfl (fun _ => rfl))), (hh.kp (f 8 1 rfl rfl) (f 8 2 rfl rfl) (f 9 1 rfl rfl) (f 9 2 rfl rfl) (f 10 1 rfl rfl) (f 10 2 rfl rfl) (f 11 1 rfl rfl) (f 11 2 rfl rfl) (f2_fn (c := 82) f rfl (fun _ => rfl)) (f2_fn (c := 83) f rfl (fun _ => rfl))), (hi.kp (f2_fn (c := 47) f rfl (fun _ => rfl)) (f2_fn (c := 48) f rfl (fun _ => rfl)) (f2_fn (c := 49) f rfl (fun _ => rfl)) (f2_fn (c := 50) f rfl (fun _ => rfl)) (f2_fn (c := 84) f rfl (fun _ => rfl))), (hf.kp (f2_fn (c := 38) f rfl (fun _ => rfl)) (f2_fn (c := 73) f rfl (fun _ => rfl)))⟩
theorem kr_shut {I I1 I2 : mv_I} (hR : LR I) (f1 : mg_f2 [15, 16, 17, 18, 19] [(1, 9)] I I1) (f2 : mg_f2 [58, 59, 60, 61, 62] [(12, 11)] I1 I2) : LR I2 := by
  obtain ⟨hw, hn, ht, hb, hk, hs, hl, hh, hi, hf⟩ := hR
  have f := f1.cat f2
  exact ⟨(hw.kp (f 1 2 rfl rfl) (f 12 0 rfl rfl)), (hn.kp (f 0 7 rfl rfl) (f 12 3 rfl rfl)), (ht.kp (f 1 3 rfl rfl) (f 12 10 rfl rfl)), (hb.kp (f 5 1 rfl rfl) (f 12 32 rfl rfl)), (hk.kp (f 2 2 rfl rfl) (f 12 20 rfl rfl)), (hs.kp (f 4 7 rfl rfl) (f 12 24 rfl rfl) (f2_fn (c := 31) f rfl (fun _ => rfl)) (f2_fn (c := 67) f rfl (fun _ => rfl)) (f2_fn (c := 32) f rfl (fun _ => rfl)) (f2_fn (c := 68) f rfl (fun _ => rfl)) (f2_fn (c := 33) f rfl (fun _ => rfl)) (f2_fn (c := 69) f rfl (fun _ => rfl)) (f2_fn (c := 34) f rfl (fun _ => rfl)) (f2_fn (c := 70) f rfl (fun _ => rfl)) (f2_fn (c := 35) f rfl (fun _ => rfl)) (f2_fn (c := 71) f rfl (fun _ => rfl))), (hl.kp (f 3 6 rfl rfl) (f 12 4 rfl rfl) (f2_fn (c := 25) f rfl (fun _ => rfl)) (f2_fn (c := 53) f rfl (fun _ => rfl)) (f2_fn (c := 26) f rfl (fun _ => rfl)) (f2_fn (c := 54) f rfl (fun _ => rfl)) (f2_fn (c := 27) f rfl (fun _ => rfl)) (f2_fn (c := 57) f rfl (fun _ => rfl)) (f2_fn (c := 28) f rfl (fun _ => rfl)) (f2_fn (c := 55) f rfl (fun _ => rfl))), (hh.kp (f 8 1 rfl rfl) (f 8 2 rfl rfl) (f 9 1 rfl rfl) (f 9 2 rfl rfl) (f 10 1 rfl rfl) (f 10 2 rfl rfl) (f 11 1 rfl rfl) (f 11 2 rfl rfl) (f2_fn (c := 82) f rfl (fun _ => rfl)) (f2_fn (c := 83) f rfl (fun _ => rfl))), (hi.kp (f2_fn (c := 47) f rfl (fun _ => rfl)) (f2_fn (c := 48) f rfl (fun _ => rfl)) (f2_fn (c := 49) f rfl (fun _ => rfl)) (f2_fn (c := 50) f rfl (fun _ => rfl)) (f2_fn (c := 84) f rfl (fun _ => rfl))), (hf.kp (f2_fn (c := 38) f rfl (fun _ => rfl)) (f2_fn (c := 73) f rfl (fun _ => rfl)))⟩
theorem kr_quota {I I1 I2 : mv_I} (hR : LR I) (f1 : mg_f2 [20, 21, 22] [] I I1) (f2 : mg_f2 [64] [] I1 I2) : LR I2 := by
  obtain ⟨hw, hn, ht, hb, hk, hs, hl, hh, hi, hf⟩ := hR
  have f := f1.cat f2
  exact ⟨(hw.kp (f 1 2 rfl rfl) (f 12 0 rfl rfl)), (hn.kp (f 0 7 rfl rfl) (f 12 3 rfl rfl)), (ht.kp (f 1 3 rfl rfl) (f 12 10 rfl rfl)), (hb.kp (f 5 1 rfl rfl) (f 12 32 rfl rfl)), (hk.kp (f 2 2 rfl rfl) (f 12 20 rfl rfl)), (hs.kp (f 4 7 rfl rfl) (f 12 24 rfl rfl) (f2_fn (c := 31) f rfl (fun _ => rfl)) (f2_fn (c := 67) f rfl (fun _ => rfl)) (f2_fn (c := 32) f rfl (fun _ => rfl)) (f2_fn (c := 68) f rfl (fun _ => rfl)) (f2_fn (c := 33) f rfl (fun _ => rfl)) (f2_fn (c := 69) f rfl (fun _ => rfl)) (f2_fn (c := 34) f rfl (fun _ => rfl)) (f2_fn (c := 70) f rfl (fun _ => rfl)) (f2_fn (c := 35) f rfl (fun _ => rfl)) (f2_fn (c := 71) f rfl (fun _ => rfl))), (hl.kp (f 3 6 rfl rfl) (f 12 4 rfl rfl) (f2_fn (c := 25) f rfl (fun _ => rfl)) (f2_fn (c := 53) f rfl (fun _ => rfl)) (f2_fn (c := 26) f rfl (fun _ => rfl)) (f2_fn (c := 54) f rfl (fun _ => rfl)) (f2_fn (c := 27) f rfl (fun _ => rfl)) (f2_fn (c := 57) f rfl (fun _ => rfl)) (f2_fn (c := 28) f rfl (fun _ => rfl)) (f2_fn (c := 55) f rfl (fun _ => rfl))), (hh.kp (f 8 1 rfl rfl) (f 8 2 rfl rfl) (f 9 1 rfl rfl) (f 9 2 rfl rfl) (f 10 1 rfl rfl) (f 10 2 rfl rfl) (f 11 1 rfl rfl) (f 11 2 rfl rfl) (f2_fn (c := 82) f rfl (fun _ => rfl)) (f2_fn (c := 83) f rfl (fun _ => rfl))), (hi.kp (f2_fn (c := 47) f rfl (fun _ => rfl)) (f2_fn (c := 48) f rfl (fun _ => rfl)) (f2_fn (c := 49) f rfl (fun _ => rfl)) (f2_fn (c := 50) f rfl (fun _ => rfl)) (f2_fn (c := 84) f rfl (fun _ => rfl))), (hf.kp (f2_fn (c := 38) f rfl (fun _ => rfl)) (f2_fn (c := 73) f rfl (fun _ => rfl)))⟩
theorem kr_left {I I1 I2 : mv_I} (hR : LR I) (f1 : mg_f2 [20, 21, 22] [] I I1) (f2 : mg_f2 [64] [] I1 I2) : LR I2 := by
  obtain ⟨hw, hn, ht, hb, hk, hs, hl, hh, hi, hf⟩ := hR
  have f := f1.cat f2
  exact ⟨(hw.kp (f 1 2 rfl rfl) (f 12 0 rfl rfl)), (hn.kp (f 0 7 rfl rfl) (f 12 3 rfl rfl)), (ht.kp (f 1 3 rfl rfl) (f 12 10 rfl rfl)), (hb.kp (f 5 1 rfl rfl) (f 12 32 rfl rfl)), (hk.kp (f 2 2 rfl rfl) (f 12 20 rfl rfl)), (hs.kp (f 4 7 rfl rfl) (f 12 24 rfl rfl) (f2_fn (c := 31) f rfl (fun _ => rfl)) (f2_fn (c := 67) f rfl (fun _ => rfl)) (f2_fn (c := 32) f rfl (fun _ => rfl)) (f2_fn (c := 68) f rfl (fun _ => rfl)) (f2_fn (c := 33) f rfl (fun _ => rfl)) (f2_fn (c := 69) f rfl (fun _ => rfl)) (f2_fn (c := 34) f rfl (fun _ => rfl)) (f2_fn (c := 70) f rfl (fun _ => rfl)) (f2_fn (c := 35) f rfl (fun _ => rfl)) (f2_fn (c := 71) f rfl (fun _ => rfl))), (hl.kp (f 3 6 rfl rfl) (f 12 4 rfl rfl) (f2_fn (c := 25) f rfl (fun _ => rfl)) (f2_fn (c := 53) f rfl (fun _ => rfl)) (f2_fn (c := 26) f rfl (fun _ => rfl)) (f2_fn (c := 54) f rfl (fun _ => rfl)) (f2_fn (c := 27) f rfl (fun _ => rfl)) (f2_fn (c := 57) f rfl (fun _ => rfl)) (f2_fn (c := 28) f rfl (fun _ => rfl)) (f2_fn (c := 55) f rfl (fun _ => rfl))), (hh.kp (f 8 1 rfl rfl) (f 8 2 rfl rfl) (f 9 1 rfl rfl) (f 9 2 rfl rfl) (f 10 1 rfl rfl) (f 10 2 rfl rfl) (f 11 1 rfl rfl) (f 11 2 rfl rfl) (f2_fn (c := 82) f rfl (fun _ => rfl)) (f2_fn (c := 83) f rfl (fun _ => rfl))), (hi.kp (f2_fn (c := 47) f rfl (fun _ => rfl)) (f2_fn (c := 48) f rfl (fun _ => rfl)) (f2_fn (c := 49) f rfl (fun _ => rfl)) (f2_fn (c := 50) f rfl (fun _ => rfl)) (f2_fn (c := 84) f rfl (fun _ => rfl))), (hf.kp (f2_fn (c := 38) f rfl (fun _ => rfl)) (f2_fn (c := 73) f rfl (fun _ => rfl)))⟩
theorem kr_load {I I1 I2 : mv_I} (hR : LR I) (f1 : mg_f2 [14, 20, 21, 22, 29, 30, 36, 37] [] I I1) (f2 : mg_f2 [52, 56, 64, 72] [] I1 I2) : LR I2 := by
  obtain ⟨hw, hn, ht, hb, hk, hs, hl, hh, hi, hf⟩ := hR
  have f := f1.cat f2
  exact ⟨(hw.kp (f 1 2 rfl rfl) (f 12 0 rfl rfl)), (hn.kp (f 0 7 rfl rfl) (f 12 3 rfl rfl)), (ht.kp (f 1 3 rfl rfl) (f 12 10 rfl rfl)), (hb.kp (f 5 1 rfl rfl) (f 12 32 rfl rfl)), (hk.kp (f 2 2 rfl rfl) (f 12 20 rfl rfl)), (hs.kp (f 4 7 rfl rfl) (f 12 24 rfl rfl) (f2_fn (c := 31) f rfl (fun _ => rfl)) (f2_fn (c := 67) f rfl (fun _ => rfl)) (f2_fn (c := 32) f rfl (fun _ => rfl)) (f2_fn (c := 68) f rfl (fun _ => rfl)) (f2_fn (c := 33) f rfl (fun _ => rfl)) (f2_fn (c := 69) f rfl (fun _ => rfl)) (f2_fn (c := 34) f rfl (fun _ => rfl)) (f2_fn (c := 70) f rfl (fun _ => rfl)) (f2_fn (c := 35) f rfl (fun _ => rfl)) (f2_fn (c := 71) f rfl (fun _ => rfl))), (hl.kp (f 3 6 rfl rfl) (f 12 4 rfl rfl) (f2_fn (c := 25) f rfl (fun _ => rfl)) (f2_fn (c := 53) f rfl (fun _ => rfl)) (f2_fn (c := 26) f rfl (fun _ => rfl)) (f2_fn (c := 54) f rfl (fun _ => rfl)) (f2_fn (c := 27) f rfl (fun _ => rfl)) (f2_fn (c := 57) f rfl (fun _ => rfl)) (f2_fn (c := 28) f rfl (fun _ => rfl)) (f2_fn (c := 55) f rfl (fun _ => rfl))), (hh.kp (f 8 1 rfl rfl) (f 8 2 rfl rfl) (f 9 1 rfl rfl) (f 9 2 rfl rfl) (f 10 1 rfl rfl) (f 10 2 rfl rfl) (f 11 1 rfl rfl) (f 11 2 rfl rfl) (f2_fn (c := 82) f rfl (fun _ => rfl)) (f2_fn (c := 83) f rfl (fun _ => rfl))), (hi.kp (f2_fn (c := 47) f rfl (fun _ => rfl)) (f2_fn (c := 48) f rfl (fun _ => rfl)) (f2_fn (c := 49) f rfl (fun _ => rfl)) (f2_fn (c := 50) f rfl (fun _ => rfl)) (f2_fn (c := 84) f rfl (fun _ => rfl))), (hf.kp (f2_fn (c := 38) f rfl (fun _ => rfl)) (f2_fn (c := 73) f rfl (fun _ => rfl)))⟩
theorem kr_lay {I I1 I2 : mv_I} (hR : LR I) (f1 : mg_f2 [39, 40, 41, 42, 43, 44, 45, 46] [(5, 4), (5, 5), (6, 4), (6, 7)] I I1) (f2 : mg_f2 [74, 75, 76, 77, 78, 79, 80, 81] [(12, 37)] I1 I2) : LR I2 := by
  obtain ⟨hw, hn, ht, hb, hk, hs, hl, hh, hi, hf⟩ := hR
  have f := f1.cat f2
  exact ⟨(hw.kp (f 1 2 rfl rfl) (f 12 0 rfl rfl)), (hn.kp (f 0 7 rfl rfl) (f 12 3 rfl rfl)), (ht.kp (f 1 3 rfl rfl) (f 12 10 rfl rfl)), (hb.kp (f 5 1 rfl rfl) (f 12 32 rfl rfl)), (hk.kp (f 2 2 rfl rfl) (f 12 20 rfl rfl)), (hs.kp (f 4 7 rfl rfl) (f 12 24 rfl rfl) (f2_fn (c := 31) f rfl (fun _ => rfl)) (f2_fn (c := 67) f rfl (fun _ => rfl)) (f2_fn (c := 32) f rfl (fun _ => rfl)) (f2_fn (c := 68) f rfl (fun _ => rfl)) (f2_fn (c := 33) f rfl (fun _ => rfl)) (f2_fn (c := 69) f rfl (fun _ => rfl)) (f2_fn (c := 34) f rfl (fun _ => rfl)) (f2_fn (c := 70) f rfl (fun _ => rfl)) (f2_fn (c := 35) f rfl (fun _ => rfl)) (f2_fn (c := 71) f rfl (fun _ => rfl))), (hl.kp (f 3 6 rfl rfl) (f 12 4 rfl rfl) (f2_fn (c := 25) f rfl (fun _ => rfl)) (f2_fn (c := 53) f rfl (fun _ => rfl)) (f2_fn (c := 26) f rfl (fun _ => rfl)) (f2_fn (c := 54) f rfl (fun _ => rfl)) (f2_fn (c := 27) f rfl (fun _ => rfl)) (f2_fn (c := 57) f rfl (fun _ => rfl)) (f2_fn (c := 28) f rfl (fun _ => rfl)) (f2_fn (c := 55) f rfl (fun _ => rfl))), (hh.kp (f 8 1 rfl rfl) (f 8 2 rfl rfl) (f 9 1 rfl rfl) (f 9 2 rfl rfl) (f 10 1 rfl rfl) (f 10 2 rfl rfl) (f 11 1 rfl rfl) (f 11 2 rfl rfl) (f2_fn (c := 82) f rfl (fun _ => rfl)) (f2_fn (c := 83) f rfl (fun _ => rfl))), (hi.kp (f2_fn (c := 47) f rfl (fun _ => rfl)) (f2_fn (c := 48) f rfl (fun _ => rfl)) (f2_fn (c := 49) f rfl (fun _ => rfl)) (f2_fn (c := 50) f rfl (fun _ => rfl)) (f2_fn (c := 84) f rfl (fun _ => rfl))), (hf.kp (f2_fn (c := 38) f rfl (fun _ => rfl)) (f2_fn (c := 73) f rfl (fun _ => rfl)))⟩
