theorem mL1 : ∀ w ∈ tables_1_1, w ∈ lw_tbl := fun _ h => List.mem_append_right _ (List.mem_append_left _ h)
theorem mL2 : ∀ w ∈ tables_1_2, w ∈ lw_tbl := fun _ h => List.mem_append_right _ (List.mem_append_right _ (List.mem_append_left _ h))
theorem mL3 : ∀ w ∈ tables_1_3, w ∈ lw_tbl := fun _ h => List.mem_append_right _ (List.mem_append_right _ (List.mem_append_right _ (List.mem_append_left _ h)))
theorem mL4 : ∀ w ∈ tables_1_4, w ∈ lw_tbl := fun _ h => List.mem_append_right _ (List.mem_append_right _ (List.mem_append_right _ (List.mem_append_right _ (List.mem_append_left _ h))))
theorem mL5 : ∀ w ∈ tables_1_5, w ∈ lw_tbl := fun _ h => List.mem_append_right _ (List.mem_append_right _ (List.mem_append_right _ (List.mem_append_right _ (List.mem_append_right _ h))))
def ad_new (b q0 q1 : Nat) (z : (Nat → Nat) × (Nat → Nat → Nat)) (u : Nat → Nat) : Nat → Nat := fun k => bif Nat.beq k 999 then b else (mv_nth k [q0, z.1 0, z.1 1, z.1 2, z.1 3, z.1 4, z.1 5, z.1 6, z.1 7, z.1 8, z.1 9, z.1 10, q1, z.2 0 0, z.2 0 1, z.2 0 2, z.2 0 3, z.2 0 4, z.2 0 5, z.2 0 6, z.2 0 7, z.2 0 8, z.2 0 9, z.2 1 0, z.2 1 1, z.2 2 0, z.2 2 1, z.2 2 2, z.2 2 3, z.2 2 4, z.2 2 5, z.2 3 0, z.2 3 1, z.2 3 2, z.2 3 3, z.2 3 4, z.2 3 5, z.2 3 6, z.2 4 0, z.2 4 1, z.2 4 2, z.2 5 0, z.2 5 1, z.2 5 2, z.2 5 3, z.2 5 4, z.2 5 5, z.2 7 0, z.2 8 0, z.2 9 0, z.2 10 0, u 0, u 1, u 2, u 3, u 4, u 5, u 6, u 7, u 8, u 9, u 10, u 11, u 12, u 13, u 14, u 15, u 16, u 17, u 18, u 19, u 20, u 21, u 22, u 23, u 24, u 25, u 26, u 27, u 28, u 29, u 30, u 31, u 32, u 33, u 34]).getD 0
def I_new : mv_I := fun c => (mv_nth c [(fun _ => 0), (fun _ => 0), (fun _ => 0), (fun _ => 0), (fun _ => 0), If_Sea 0, (fun _ => 0), (fun _ => 0), (fun k => bif Nat.beq k 1 then -1 else 0), (fun k => bif Nat.beq k 1 then -1 else 0), (fun k => bif Nat.beq k 1 then -1 else 0), (fun k => bif Nat.beq k 1 then -1 else 0), If_Model 0, (fun _ => 0), (fun _ => 0), (fun _ => 0), (fun _ => 0), (fun _ => 0), (fun _ => 0), (fun _ => 0), (fun _ => 0), (fun _ => 0), (fun _ => 0), (fun _ => 0), (fun _ => 0), (fun _ => 0), (fun _ => 0), (fun _ => 0), (fun _ => 0), (fun _ => 0), (fun _ => 0), (fun _ => 0), (fun _ => 0), (fun _ => 0), (fun _ => 0), (fun _ => 0), (fun _ => 0), (fun _ => 0), If_Sea 1, If_Sea 2, If_Sea 3, (fun _ => 0), (fun _ => 0), (fun _ => 0), (fun _ => 0), (fun _ => 0), (fun _ => 0), (fun _ => 0), (fun _ => 0), (fun _ => 0), (fun _ => 0), If_Model 1, If_Model 2, If_Model 3, If_Model 4, If_Model 5, If_Model 6, If_Model 7, If_Model 8, If_Model 9, If_Model 10, If_Model 11, If_Model 12, If_Model 13, If_Model 14, If_Model 15, If_Model 16, If_Model 17, If_Model 18, If_Model 19, If_Model 20, If_Model 21, If_Model 22, If_Model 23, If_Model 24, If_Model 25, If_Model 26, If_Model 27, If_Model 28, If_Model 29, If_Model 30, If_Model 31, If_Model 32, If_Model 33, If_Model 34, If_Model 35]).getD (fun _ => 0)
theorem mv_rowq {cA : ClassId} {f g : Nat → Option Nat} (h : ∀ j, j < 4 → f j = g j) : vp_cell cA (4, .inr (.inr (.inr (.inr f)))) = vp_cell cA (4, .inr (.inr (.inr (.inr g)))) := by
  rw [vp_cell_q, vp_cell_q]
  unfold arrV
  congr 2
  funext j
  show va_rf (f j.val) = va_rf (g j.val)
  rw [h j.val j.isLt]
def lw_pm (k : Nat) : Nat := ([0, 2, 13, 16, 23, 31, 35, 1, 42, 44, 46, 48, 50, 3, 4, 5, 6, 7, 8, 9, 10, 11, 12, 14, 15, 17, 18, 19, 20, 21, 22, 24, 25, 26, 27, 28, 29, 30, 32, 33, 34, 36, 37, 38, 39, 40, 41, 43, 45, 47, 49, 51, 52, 53, 54, 55, 56, 57, 58, 59, 60, 61, 62, 63, 64, 65, 66, 67, 68, 69, 70, 71, 72, 73, 74, 75, 76, 77, 78, 79, 80, 81, 82, 83, 84, 85] : List Nat).getD k 0
set_option maxRecDepth 100000 in
theorem lw_pm_inj : ∀ i, i < 86 → ∀ j, j < 86 → lw_pm i = lw_pm j → i = j := by decide +kernel
def mv_al (F : Nat → (Nat × va_E) → Prop) : Nat → va_W → Prop
  | _, [] => True
  | k, q :: t => F k q ∧ mv_al F (k + 1) t
theorem mv_al_get {F : Nat → (Nat × va_E) → Prop} : ∀ (ws : va_W) (k : Nat), mv_al F k ws → ∀ (j : Nat) (q : Nat × va_E), ws[j]? = some q → F (k + j) q
  | [], _, _, _, _, h => by simp at h
  | q0 :: t, k, ha, 0, q, h => by
    have h1 : q0 = q := by simpa using h
    subst h1
    exact ha.1
  | q0 :: t, k, ha, j + 1, q, h => by
    have h1 : t[j]? = some q := by simpa using h
    have h2 := mv_al_get t (k + 1) ha.2 j q h1
    have h3 : k + 1 + j = k + (j + 1) := by omega
    rw [h3] at h2
    exact h2
theorem mv_al_of {F : Nat → (Nat × va_E) → Prop} : ∀ (ws : va_W) (k : Nat), (∀ (j : Nat) (q : Nat × va_E), ws[j]? = some q → F (k + j) q) → mv_al F k ws
  | [], _, _ => trivial
  | q0 :: t, k, h => ⟨h 0 q0 rfl, mv_al_of t (k + 1) (fun j q hj => by
    have h1 := h (j + 1) q (by simpa using hj)
    have h2 : k + (j + 1) = k + 1 + j := by omega
    rw [h2] at h1
    exact h1)⟩
theorem W_al {cy : Nat → ClassId} {q0 q1 : Nat} {z : (Nat → Nat) × (Nat → Nat → Nat)} {u : Nat → Nat} : mv_al (fun k q => (ws_Salt cy q0 z ++ ws_Model cy q1 u)[k]? = some q) 0 (ws_Salt cy q0 z ++ ws_Model cy q1 u) := mv_al_of _ 0 (fun j q hj => by rw [Nat.zero_add]; exact hj)
theorem cP_7 {D : va_G} {cy : Nat → ClassId} {b q0 q1 : Nat} {z : (Nat → Nat) × (Nat → Nat → Nat)} {u : Nat → Nat} {H : Heap} (h2 : H[z.1 6]? = some (vp_cell (cy 4) (4, .inr (.inr (.inr (.inr (va_up (va_up (va_up (va_up (fun _ => none) 0 (some (z.1 7))) 1 (some (z.1 8))) 2 (some (z.1 9))) 3 (some (z.1 10))))))))) : va_at D vwCl ((ad_new b q0 q1 z u) 7, mv_cell cy (ad_new b q0 q1 z u) I_new mv_J0 7 (.inr (4, 4))) H := by
  show H[z.1 6]? = some (vp_cell (cy 4) (4, .inr (.inr (.inr (.inr _)))))
  rw [h2]
  congr 1
