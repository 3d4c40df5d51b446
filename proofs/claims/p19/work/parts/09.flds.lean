set_option maxRecDepth 100000 in
theorem mu_X0 : ∀ w ∈ u_ws RX0 TX0 8, w ∈ mv_TT := by
  intro w hw
  obtain ⟨k, hk, rfl⟩ := List.mem_map.mp hw
  have hk := List.mem_range.mp hk
  match k, hk with
  | 0, _ => exact (mT1 _ (List.mem_of_getElem? (i := 148) rfl) rfl)
  | 1, _ => exact (mT1 _ (List.mem_of_getElem? (i := 150) rfl) rfl)
  | 2, _ => exact (mT1 _ (List.mem_of_getElem? (i := 152) rfl) rfl)
  | 3, _ => exact (mT1 _ (List.mem_of_getElem? (i := 154) rfl) rfl)
  | 4, _ => exact (mT1 _ (List.mem_of_getElem? (i := 156) rfl) rfl)
  | 5, _ => exact (mT1 _ (List.mem_of_getElem? (i := 158) rfl) rfl)
  | 6, _ => exact (mT1 _ (List.mem_of_getElem? (i := 160) rfl) rfl)
  | 7, _ => exact (mT1 _ (List.mem_of_getElem? (i := 162) rfl) rfl)
  | k + 8, hk => omega
set_option maxRecDepth 100000 in
theorem mu_X1 : ∀ w ∈ u_ws RX1 TX1 7, w ∈ mv_TT := by
  intro w hw
  obtain ⟨k, hk, rfl⟩ := List.mem_map.mp hw
  have hk := List.mem_range.mp hk
  match k, hk with
  | 0, _ => exact (mT1 _ (List.mem_of_getElem? (i := 116) rfl) rfl)
  | 1, _ => exact (mT1 _ (List.mem_of_getElem? (i := 118) rfl) rfl)
  | 2, _ => exact (mT1 _ (List.mem_of_getElem? (i := 120) rfl) rfl)
  | 3, _ => exact (mT1 _ (List.mem_of_getElem? (i := 122) rfl) rfl)
  | 4, _ => exact (mT1 _ (List.mem_of_getElem? (i := 124) rfl) rfl)
  | 5, _ => exact (mT1 _ (List.mem_of_getElem? (i := 126) rfl) rfl)
  | 6, _ => exact (mT1 _ (List.mem_of_getElem? (i := 128) rfl) rfl)
  | k + 7, hk => omega
set_option maxRecDepth 100000 in
theorem mu_X2 : ∀ w ∈ u_ws RX2 TX2 8, w ∈ mv_TT := by
  intro w hw
  obtain ⟨k, hk, rfl⟩ := List.mem_map.mp hw
  have hk := List.mem_range.mp hk
  match k, hk with
  | 0, _ => exact (mT1 _ (List.mem_of_getElem? (i := 214) rfl) rfl)
  | 1, _ => exact (mT1 _ (List.mem_of_getElem? (i := 216) rfl) rfl)
  | 2, _ => exact (mT1 _ (List.mem_of_getElem? (i := 218) rfl) rfl)
  | 3, _ => exact (mT1 _ (List.mem_of_getElem? (i := 220) rfl) rfl)
  | 4, _ => exact (mT1 _ (List.mem_of_getElem? (i := 222) rfl) rfl)
  | 5, _ => exact (mT1 _ (List.mem_of_getElem? (i := 224) rfl) rfl)
  | 6, _ => exact (mT1 _ (List.mem_of_getElem? (i := 226) rfl) rfl)
  | 7, _ => exact (mT1 _ (List.mem_of_getElem? (i := 228) rfl) rfl)
  | k + 8, hk => omega
set_option maxRecDepth 100000 in
theorem mu_X3 : ∀ w ∈ u_ws RX3 TX3 13, w ∈ mv_TT := by
  intro w hw
  obtain ⟨k, hk, rfl⟩ := List.mem_map.mp hw
  have hk := List.mem_range.mp hk
  match k, hk with
  | 0, _ => exact (mT1 _ (List.mem_of_getElem? (i := 45) rfl) rfl)
  | 1, _ => exact (mT1 _ (List.mem_of_getElem? (i := 47) rfl) rfl)
  | 2, _ => exact (mT1 _ (List.mem_of_getElem? (i := 49) rfl) rfl)
  | 3, _ => exact (mT1 _ (List.mem_of_getElem? (i := 51) rfl) rfl)
  | 4, _ => exact (mT1 _ (List.mem_of_getElem? (i := 53) rfl) rfl)
  | 5, _ => exact (mT1 _ (List.mem_of_getElem? (i := 55) rfl) rfl)
  | 6, _ => exact (mT1 _ (List.mem_of_getElem? (i := 57) rfl) rfl)
  | 7, _ => exact (mT1 _ (List.mem_of_getElem? (i := 59) rfl) rfl)
  | 8, _ => exact (mT1 _ (List.mem_of_getElem? (i := 61) rfl) rfl)
  | 9, _ => exact (mT1 _ (List.mem_of_getElem? (i := 63) rfl) rfl)
  | 10, _ => exact (mT1 _ (List.mem_of_getElem? (i := 65) rfl) rfl)
  | 11, _ => exact (mT1 _ (List.mem_of_getElem? (i := 67) rfl) rfl)
  | 12, _ => exact (mT1 _ (List.mem_of_getElem? (i := 69) rfl) rfl)
  | k + 13, hk => omega
set_option maxRecDepth 100000 in
theorem mu_X4 : ∀ w ∈ u_ws RX4 TX4 6, w ∈ mv_TT := by
  intro w hw
  obtain ⟨k, hk, rfl⟩ := List.mem_map.mp hw
  have hk := List.mem_range.mp hk
  match k, hk with
  | 0, _ => exact (mT1 _ (List.mem_of_getElem? (i := 182) rfl) rfl)
  | 1, _ => exact (mT1 _ (List.mem_of_getElem? (i := 184) rfl) rfl)
  | 2, _ => exact (mT1 _ (List.mem_of_getElem? (i := 186) rfl) rfl)
  | 3, _ => exact (mT1 _ (List.mem_of_getElem? (i := 188) rfl) rfl)
  | 4, _ => exact (mT1 _ (List.mem_of_getElem? (i := 190) rfl) rfl)
  | 5, _ => exact (mT1 _ (List.mem_of_getElem? (i := 192) rfl) rfl)
  | k + 6, hk => omega
set_option maxRecDepth 100000 in
theorem mu_X5 : ∀ w ∈ u_ws RX5 TX5 3, w ∈ mv_TT := by
  intro w hw
  obtain ⟨k, hk, rfl⟩ := List.mem_map.mp hw
  have hk := List.mem_range.mp hk
  match k, hk with
  | 0, _ => exact (mT2 _ (List.mem_of_getElem? (i := 4) rfl) rfl)
  | 1, _ => exact (mT2 _ (List.mem_of_getElem? (i := 6) rfl) rfl)
  | 2, _ => exact (mT2 _ (List.mem_of_getElem? (i := 8) rfl) rfl)
  | k + 3, hk => omega
set_option maxRecDepth 100000 in
theorem mu_X6 : ∀ w ∈ u_ws RX6 TX6 4, w ∈ mv_TT := by
  intro w hw
  obtain ⟨k, hk, rfl⟩ := List.mem_map.mp hw
  have hk := List.mem_range.mp hk
  match k, hk with
  | 0, _ => exact (mT1 _ (List.mem_of_getElem? (i := 86) rfl) rfl)
  | 1, _ => exact (mT1 _ (List.mem_of_getElem? (i := 88) rfl) rfl)
  | 2, _ => exact (mT1 _ (List.mem_of_getElem? (i := 90) rfl) rfl)
  | 3, _ => exact (mT1 _ (List.mem_of_getElem? (i := 92) rfl) rfl)
  | k + 4, hk => omega
set_option maxRecDepth 100000 in
theorem mu_X7 : ∀ w ∈ u_ws RX7 TX7 8, w ∈ mv_TT := by
  intro w hw
  obtain ⟨k, hk, rfl⟩ := List.mem_map.mp hw
  have hk := List.mem_range.mp hk
  match k, hk with
  | 0, _ => exact (mT2 _ (List.mem_of_getElem? (i := 19) rfl) rfl)
  | 1, _ => exact (mT2 _ (List.mem_of_getElem? (i := 21) rfl) rfl)
  | 2, _ => exact (mT2 _ (List.mem_of_getElem? (i := 23) rfl) rfl)
  | 3, _ => exact (mT2 _ (List.mem_of_getElem? (i := 25) rfl) rfl)
  | 4, _ => exact (mT2 _ (List.mem_of_getElem? (i := 27) rfl) rfl)
  | 5, _ => exact (mT2 _ (List.mem_of_getElem? (i := 29) rfl) rfl)
  | 6, _ => exact (mT2 _ (List.mem_of_getElem? (i := 31) rfl) rfl)
  | 7, _ => exact (mT2 _ (List.mem_of_getElem? (i := 33) rfl) rfl)
  | k + 8, hk => omega
set_option maxRecDepth 100000 in
theorem mu_X8 : ∀ w ∈ u_ws RX8 TX8 46, w ∈ mv_TT := by
  intro w hw
  obtain ⟨k, hk, rfl⟩ := List.mem_map.mp hw
  have hk := List.mem_range.mp hk
  match k, hk with
  | 0, _ => exact (mT3 _ (List.mem_of_getElem? (i := 182) rfl) rfl)
  | 1, _ => exact (mT3 _ (List.mem_of_getElem? (i := 184) rfl) rfl)
  | 2, _ => exact (mT3 _ (List.mem_of_getElem? (i := 186) rfl) rfl)
  | 3, _ => exact (mT3 _ (List.mem_of_getElem? (i := 188) rfl) rfl)
  | 4, _ => exact (mT3 _ (List.mem_of_getElem? (i := 190) rfl) rfl)
  | 5, _ => exact (mT3 _ (List.mem_of_getElem? (i := 192) rfl) rfl)
  | 6, _ => exact (mT3 _ (List.mem_of_getElem? (i := 194) rfl) rfl)
  | 7, _ => exact (mT3 _ (List.mem_of_getElem? (i := 196) rfl) rfl)
  | 8, _ => exact (mT3 _ (List.mem_of_getElem? (i := 198) rfl) rfl)
  | 9, _ => exact (mT3 _ (List.mem_of_getElem? (i := 200) rfl) rfl)
  | 10, _ => exact (mT3 _ (List.mem_of_getElem? (i := 202) rfl) rfl)
  | 11, _ => exact (mT3 _ (List.mem_of_getElem? (i := 204) rfl) rfl)
  | 12, _ => exact (mT3 _ (List.mem_of_getElem? (i := 206) rfl) rfl)
  | 13, _ => exact (mT3 _ (List.mem_of_getElem? (i := 208) rfl) rfl)
  | 14, _ => exact (mT3 _ (List.mem_of_getElem? (i := 210) rfl) rfl)
  | 15, _ => exact (mT3 _ (List.mem_of_getElem? (i := 212) rfl) rfl)
  | 16, _ => exact (mT3 _ (List.mem_of_getElem? (i := 214) rfl) rfl)
  | 17, _ => exact (mT3 _ (List.mem_of_getElem? (i := 216) rfl) rfl)
  | 18, _ => exact (mT3 _ (List.mem_of_getElem? (i := 218) rfl) rfl)
  | 19, _ => exact (mT3 _ (List.mem_of_getElem? (i := 220) rfl) rfl)
  | 20, _ => exact (mT3 _ (List.mem_of_getElem? (i := 222) rfl) rfl)
  | 21, _ => exact (mT3 _ (List.mem_of_getElem? (i := 224) rfl) rfl)
  | 22, _ => exact (mT3 _ (List.mem_of_getElem? (i := 226) rfl) rfl)
  | 23, _ => exact (mT3 _ (List.mem_of_getElem? (i := 228) rfl) rfl)
  | 24, _ => exact (mT3 _ (List.mem_of_getElem? (i := 230) rfl) rfl)
  | 25, _ => exact (mT3 _ (List.mem_of_getElem? (i := 232) rfl) rfl)
  | 26, _ => exact (mT3 _ (List.mem_of_getElem? (i := 234) rfl) rfl)
  | 27, _ => exact (mT3 _ (List.mem_of_getElem? (i := 236) rfl) rfl)
  | 28, _ => exact (mT3 _ (List.mem_of_getElem? (i := 238) rfl) rfl)
  | 29, _ => exact (mT4 _ (List.mem_of_getElem? (i := 0) rfl) rfl)
  | 30, _ => exact (mT4 _ (List.mem_of_getElem? (i := 2) rfl) rfl)
  | 31, _ => exact (mT4 _ (List.mem_of_getElem? (i := 4) rfl) rfl)
  | 32, _ => exact (mT4 _ (List.mem_of_getElem? (i := 6) rfl) rfl)
  | 33, _ => exact (mT4 _ (List.mem_of_getElem? (i := 8) rfl) rfl)
  | 34, _ => exact (mT4 _ (List.mem_of_getElem? (i := 10) rfl) rfl)
  | 35, _ => exact (mT4 _ (List.mem_of_getElem? (i := 12) rfl) rfl)
  | 36, _ => exact (mT4 _ (List.mem_of_getElem? (i := 14) rfl) rfl)
  | 37, _ => exact (mT4 _ (List.mem_of_getElem? (i := 16) rfl) rfl)
  | 38, _ => exact (mT4 _ (List.mem_of_getElem? (i := 18) rfl) rfl)
  | 39, _ => exact (mT4 _ (List.mem_of_getElem? (i := 20) rfl) rfl)
  | 40, _ => exact (mT4 _ (List.mem_of_getElem? (i := 22) rfl) rfl)
  | 41, _ => exact (mT4 _ (List.mem_of_getElem? (i := 24) rfl) rfl)
  | 42, _ => exact (mT4 _ (List.mem_of_getElem? (i := 26) rfl) rfl)
  | 43, _ => exact (mT4 _ (List.mem_of_getElem? (i := 28) rfl) rfl)
  | 44, _ => exact (mT4 _ (List.mem_of_getElem? (i := 30) rfl) rfl)
  | 45, _ => exact (mT4 _ (List.mem_of_getElem? (i := 32) rfl) rfl)
  | k + 46, hk => omega
set_option maxRecDepth 100000 in
theorem flJ6_ok : mv_flB vwCl RJ6 mv_TT flJ6 := mv_flB_of (fun _ h => absurd h List.not_mem_nil)
set_option maxRecDepth 100000 in
theorem flJ7_ok : mv_flB vwCl RJ7 mv_TT flJ7 := mv_flB_of (fun _ h => absurd h List.not_mem_nil)
set_option maxRecDepth 100000 in
theorem flX0_ok : mv_flB vwCl RX0 mv_TT flX0 := mv_flB_of (List.forall_mem_cons.mpr ⟨⟨RX0, TX0, 8, tyX0, rfl, by decide, mu_X0, (mT1 _ (List.mem_of_getElem? (i := 137) rfl) rfl), tyX0_ok, nmX0⟩, (List.forall_mem_cons.mpr ⟨⟨RX0, TX0, 8, tyX0, rfl, by decide, mu_X0, (mT1 _ (List.mem_of_getElem? (i := 138) rfl) rfl), tyX0_ok, nmX0⟩, (List.forall_mem_cons.mpr ⟨⟨RX0, TX0, 8, tyX0, rfl, by decide, mu_X0, (mT1 _ (List.mem_of_getElem? (i := 139) rfl) rfl), tyX0_ok, nmX0⟩, (List.forall_mem_cons.mpr ⟨⟨RX0, TX0, 8, tyX0, rfl, by decide, mu_X0, (mT1 _ (List.mem_of_getElem? (i := 140) rfl) rfl), tyX0_ok, nmX0⟩, (List.forall_mem_cons.mpr ⟨⟨RX0, TX0, 8, tyX0, rfl, by decide, mu_X0, (mT1 _ (List.mem_of_getElem? (i := 141) rfl) rfl), tyX0_ok, nmX0⟩, (List.forall_mem_cons.mpr ⟨⟨RX0, TX0, 8, tyX0, rfl, by decide, mu_X0, (mT1 _ (List.mem_of_getElem? (i := 142) rfl) rfl), tyX0_ok, nmX0⟩, (List.forall_mem_cons.mpr ⟨⟨RX0, TX0, 8, tyX0, rfl, by decide, mu_X0, (mT1 _ (List.mem_of_getElem? (i := 144) rfl) rfl), tyX0_ok, nmX0⟩, (List.forall_mem_cons.mpr ⟨⟨RX0, TX0, 8, tyX0, rfl, by decide, mu_X0, (mT1 _ (List.mem_of_getElem? (i := 145) rfl) rfl), tyX0_ok, nmX0⟩, (fun _ h => absurd h List.not_mem_nil)⟩)⟩)⟩)⟩)⟩)⟩)⟩)⟩)
set_option maxRecDepth 100000 in
theorem flX1_ok : mv_flB vwCl RX1 mv_TT flX1 := mv_flB_of (List.forall_mem_cons.mpr ⟨⟨RX1, TX1, 7, tyX1, rfl, by decide, mu_X1, (mT1 _ (List.mem_of_getElem? (i := 102) rfl) rfl), tyX1_ok, nmX1⟩, (List.forall_mem_cons.mpr ⟨⟨RX1, TX1, 7, tyX1, rfl, by decide, mu_X1, (mT1 _ (List.mem_of_getElem? (i := 104) rfl) rfl), tyX1_ok, nmX1⟩, (List.forall_mem_cons.mpr ⟨⟨RX1, TX1, 7, tyX1, rfl, by decide, mu_X1, (mT1 _ (List.mem_of_getElem? (i := 106) rfl) rfl), tyX1_ok, nmX1⟩, (List.forall_mem_cons.mpr ⟨⟨RX1, TX1, 7, tyX1, rfl, by decide, mu_X1, (mT1 _ (List.mem_of_getElem? (i := 108) rfl) rfl), tyX1_ok, nmX1⟩, (List.forall_mem_cons.mpr ⟨⟨RX1, TX1, 7, tyX1, rfl, by decide, mu_X1, (mT1 _ (List.mem_of_getElem? (i := 110) rfl) rfl), tyX1_ok, nmX1⟩, (List.forall_mem_cons.mpr ⟨⟨RX1, TX1, 7, tyX1, rfl, by decide, mu_X1, (mT1 _ (List.mem_of_getElem? (i := 112) rfl) rfl), tyX1_ok, nmX1⟩, (List.forall_mem_cons.mpr ⟨⟨RX1, TX1, 7, tyX1, rfl, by decide, mu_X1, (mT1 _ (List.mem_of_getElem? (i := 114) rfl) rfl), tyX1_ok, nmX1⟩, (fun _ h => absurd h List.not_mem_nil)⟩)⟩)⟩)⟩)⟩)⟩)⟩)
set_option maxRecDepth 100000 in
theorem flX2_ok : mv_flB vwCl RX2 mv_TT flX2 := mv_flB_of (List.forall_mem_cons.mpr ⟨⟨RX2, TX2, 8, tyX2, rfl, by decide, mu_X2, (mT1 _ (List.mem_of_getElem? (i := 201) rfl) rfl), tyX2_ok, nmX2⟩, (List.forall_mem_cons.mpr ⟨⟨RX2, TX2, 8, tyX2, rfl, by decide, mu_X2, (mT1 _ (List.mem_of_getElem? (i := 203) rfl) rfl), tyX2_ok, nmX2⟩, (List.forall_mem_cons.mpr ⟨⟨RX2, TX2, 8, tyX2, rfl, by decide, mu_X2, (mT1 _ (List.mem_of_getElem? (i := 205) rfl) rfl), tyX2_ok, nmX2⟩, (List.forall_mem_cons.mpr ⟨⟨RX2, TX2, 8, tyX2, rfl, by decide, mu_X2, (mT1 _ (List.mem_of_getElem? (i := 207) rfl) rfl), tyX2_ok, nmX2⟩, (List.forall_mem_cons.mpr ⟨⟨RX2, TX2, 8, tyX2, rfl, by decide, mu_X2, (mT1 _ (List.mem_of_getElem? (i := 211) rfl) rfl), tyX2_ok, nmX2⟩, (List.forall_mem_cons.mpr ⟨⟨RX2, TX2, 8, tyX2, rfl, by decide, mu_X2, (mT1 _ (List.mem_of_getElem? (i := 212) rfl) rfl), tyX2_ok, nmX2⟩, (List.forall_mem_cons.mpr ⟨⟨RX2, TX2, 8, tyX2, rfl, by decide, mu_X2, (mT1 _ (List.mem_of_getElem? (i := 213) rfl) rfl), tyX2_ok, nmX2⟩, (List.forall_mem_cons.mpr ⟨⟨RX0, TX0, 8, tyX0, rfl, by decide, mu_X0, (mT1 _ (List.mem_of_getElem? (i := 146) rfl) rfl), tyX0_ok, nmX0⟩, (List.forall_mem_cons.mpr ⟨⟨RX2, TX2, 8, tyX2, rfl, by decide, mu_X2, (mT1 _ (List.mem_of_getElem? (i := 209) rfl) rfl), tyX2_ok, nmX2⟩, (fun _ h => absurd h List.not_mem_nil)⟩)⟩)⟩)⟩)⟩)⟩)⟩)⟩)⟩)
set_option maxRecDepth 100000 in
theorem flX3_ok : mv_flB vwCl RX3 mv_TT flX3 := mv_flB_of (List.forall_mem_cons.mpr ⟨⟨RX3, TX3, 13, tyX3, rfl, by decide, mu_X3, (mT1 _ (List.mem_of_getElem? (i := 28) rfl) rfl), tyX3_ok, nmX3⟩, (List.forall_mem_cons.mpr ⟨⟨RX3, TX3, 13, tyX3, rfl, by decide, mu_X3, (mT1 _ (List.mem_of_getElem? (i := 29) rfl) rfl), tyX3_ok, nmX3⟩, (List.forall_mem_cons.mpr ⟨⟨RX3, TX3, 13, tyX3, rfl, by decide, mu_X3, (mT1 _ (List.mem_of_getElem? (i := 35) rfl) rfl), tyX3_ok, nmX3⟩, (List.forall_mem_cons.mpr ⟨⟨RX3, TX3, 13, tyX3, rfl, by decide, mu_X3, (mT1 _ (List.mem_of_getElem? (i := 36) rfl) rfl), tyX3_ok, nmX3⟩, (List.forall_mem_cons.mpr ⟨⟨RX3, TX3, 13, tyX3, rfl, by decide, mu_X3, (mT1 _ (List.mem_of_getElem? (i := 37) rfl) rfl), tyX3_ok, nmX3⟩, (List.forall_mem_cons.mpr ⟨⟨RX3, TX3, 13, tyX3, rfl, by decide, mu_X3, (mT1 _ (List.mem_of_getElem? (i := 38) rfl) rfl), tyX3_ok, nmX3⟩, (List.forall_mem_cons.mpr ⟨⟨RX3, TX3, 13, tyX3, rfl, by decide, mu_X3, (mT1 _ (List.mem_of_getElem? (i := 39) rfl) rfl), tyX3_ok, nmX3⟩, (List.forall_mem_cons.mpr ⟨⟨RX3, TX3, 13, tyX3, rfl, by decide, mu_X3, (mT1 _ (List.mem_of_getElem? (i := 42) rfl) rfl), tyX3_ok, nmX3⟩, (List.forall_mem_cons.mpr ⟨⟨RX3, TX3, 13, tyX3, rfl, by decide, mu_X3, (mT1 _ (List.mem_of_getElem? (i := 43) rfl) rfl), tyX3_ok, nmX3⟩, (List.forall_mem_cons.mpr ⟨⟨RX3, TX3, 13, tyX3, rfl, by decide, mu_X3, (mT1 _ (List.mem_of_getElem? (i := 44) rfl) rfl), tyX3_ok, nmX3⟩, (List.forall_mem_cons.mpr ⟨⟨RX3, TX3, 13, tyX3, rfl, by decide, mu_X3, (mT1 _ (List.mem_of_getElem? (i := 31) rfl) rfl), tyX3_ok, nmX3⟩, (List.forall_mem_cons.mpr ⟨⟨RX3, TX3, 13, tyX3, rfl, by decide, mu_X3, (mT1 _ (List.mem_of_getElem? (i := 40) rfl) rfl), tyX3_ok, nmX3⟩, (List.forall_mem_cons.mpr ⟨⟨RX3, TX3, 13, tyX3, rfl, by decide, mu_X3, (mT1 _ (List.mem_of_getElem? (i := 34) rfl) rfl), tyX3_ok, nmX3⟩, (fun _ h => absurd h List.not_mem_nil)⟩)⟩)⟩)⟩)⟩)⟩)⟩)⟩)⟩)⟩)⟩)⟩)⟩)
set_option maxRecDepth 100000 in
theorem flX4_ok : mv_flB vwCl RX4 mv_TT flX4 := mv_flB_of (List.forall_mem_cons.mpr ⟨⟨RX4, TX4, 6, tyX4, rfl, by decide, mu_X4, (mT1 _ (List.mem_of_getElem? (i := 174) rfl) rfl), tyX4_ok, nmX4⟩, (List.forall_mem_cons.mpr ⟨⟨RX4, TX4, 6, tyX4, rfl, by decide, mu_X4, (mT1 _ (List.mem_of_getElem? (i := 176) rfl) rfl), tyX4_ok, nmX4⟩, (List.forall_mem_cons.mpr ⟨⟨RX4, TX4, 6, tyX4, rfl, by decide, mu_X4, (mT1 _ (List.mem_of_getElem? (i := 178) rfl) rfl), tyX4_ok, nmX4⟩, (List.forall_mem_cons.mpr ⟨⟨RX4, TX4, 6, tyX4, rfl, by decide, mu_X4, (mT1 _ (List.mem_of_getElem? (i := 179) rfl) rfl), tyX4_ok, nmX4⟩, (List.forall_mem_cons.mpr ⟨⟨RX4, TX4, 6, tyX4, rfl, by decide, mu_X4, (mT1 _ (List.mem_of_getElem? (i := 180) rfl) rfl), tyX4_ok, nmX4⟩, (List.forall_mem_cons.mpr ⟨⟨RX4, TX4, 6, tyX4, rfl, by decide, mu_X4, (mT1 _ (List.mem_of_getElem? (i := 181) rfl) rfl), tyX4_ok, nmX4⟩, (fun _ h => absurd h List.not_mem_nil)⟩)⟩)⟩)⟩)⟩)⟩)
set_option maxRecDepth 100000 in
theorem flX5_ok : mv_flB vwCl RX5 mv_TT flX5 := mv_flB_of (List.forall_mem_cons.mpr ⟨⟨RX5, TX5, 3, tyX5, rfl, by decide, mu_X5, (mT1 _ (List.mem_of_getElem? (i := 238) rfl) rfl), tyX5_ok, nmX5⟩, (List.forall_mem_cons.mpr ⟨⟨RX5, TX5, 3, tyX5, rfl, by decide, mu_X5, (mT2 _ (List.mem_of_getElem? (i := 0) rfl) rfl), tyX5_ok, nmX5⟩, (List.forall_mem_cons.mpr ⟨⟨RX5, TX5, 3, tyX5, rfl, by decide, mu_X5, (mT2 _ (List.mem_of_getElem? (i := 2) rfl) rfl), tyX5_ok, nmX5⟩, (fun _ h => absurd h List.not_mem_nil)⟩)⟩)⟩)
set_option maxRecDepth 100000 in
theorem flX6_ok : mv_flB vwCl RX6 mv_TT flX6 := mv_flB_of (List.forall_mem_cons.mpr ⟨⟨RX6, TX6, 4, tyX6, rfl, by decide, mu_X6, (mT1 _ (List.mem_of_getElem? (i := 80) rfl) rfl), tyX6_ok, nmX6⟩, (List.forall_mem_cons.mpr ⟨⟨RX6, TX6, 4, tyX6, rfl, by decide, mu_X6, (mT1 _ (List.mem_of_getElem? (i := 82) rfl) rfl), tyX6_ok, nmX6⟩, (List.forall_mem_cons.mpr ⟨⟨RX6, TX6, 4, tyX6, rfl, by decide, mu_X6, (mT1 _ (List.mem_of_getElem? (i := 83) rfl) rfl), tyX6_ok, nmX6⟩, (List.forall_mem_cons.mpr ⟨⟨RX6, TX6, 4, tyX6, rfl, by decide, mu_X6, (mT1 _ (List.mem_of_getElem? (i := 85) rfl) rfl), tyX6_ok, nmX6⟩, (fun _ h => absurd h List.not_mem_nil)⟩)⟩)⟩)⟩)
set_option maxRecDepth 100000 in
theorem flX7_ok : mv_flB vwCl RX7 mv_TT flX7 := mv_flB_of (List.forall_mem_cons.mpr ⟨⟨RX7, TX7, 8, tyX7, rfl, by decide, mu_X7, (mT2 _ (List.mem_of_getElem? (i := 11) rfl) rfl), tyX7_ok, nmX7⟩, (List.forall_mem_cons.mpr ⟨⟨RX7, TX7, 8, tyX7, rfl, by decide, mu_X7, (mT2 _ (List.mem_of_getElem? (i := 12) rfl) rfl), tyX7_ok, nmX7⟩, (List.forall_mem_cons.mpr ⟨⟨RX7, TX7, 8, tyX7, rfl, by decide, mu_X7, (mT2 _ (List.mem_of_getElem? (i := 13) rfl) rfl), tyX7_ok, nmX7⟩, (List.forall_mem_cons.mpr ⟨⟨RX7, TX7, 8, tyX7, rfl, by decide, mu_X7, (mT2 _ (List.mem_of_getElem? (i := 14) rfl) rfl), tyX7_ok, nmX7⟩, (List.forall_mem_cons.mpr ⟨⟨RX7, TX7, 8, tyX7, rfl, by decide, mu_X7, (mT2 _ (List.mem_of_getElem? (i := 15) rfl) rfl), tyX7_ok, nmX7⟩, (List.forall_mem_cons.mpr ⟨⟨RX7, TX7, 8, tyX7, rfl, by decide, mu_X7, (mT2 _ (List.mem_of_getElem? (i := 16) rfl) rfl), tyX7_ok, nmX7⟩, (List.forall_mem_cons.mpr ⟨⟨RX7, TX7, 8, tyX7, rfl, by decide, mu_X7, (mT2 _ (List.mem_of_getElem? (i := 17) rfl) rfl), tyX7_ok, nmX7⟩, (List.forall_mem_cons.mpr ⟨⟨RX7, TX7, 8, tyX7, rfl, by decide, mu_X7, (mT2 _ (List.mem_of_getElem? (i := 18) rfl) rfl), tyX7_ok, nmX7⟩, (List.forall_mem_cons.mpr ⟨⟨RX1, TX1, 7, tyX1, rfl, by decide, mu_X1, (mT1 _ (List.mem_of_getElem? (i := 109) rfl) rfl), tyX1_ok, nmX1⟩, (List.forall_mem_cons.mpr ⟨⟨RX1, TX1, 7, tyX1, rfl, by decide, mu_X1, (mT1 _ (List.mem_of_getElem? (i := 103) rfl) rfl), tyX1_ok, nmX1⟩, (List.forall_mem_cons.mpr ⟨⟨RX1, TX1, 7, tyX1, rfl, by decide, mu_X1, (mT1 _ (List.mem_of_getElem? (i := 105) rfl) rfl), tyX1_ok, nmX1⟩, (List.forall_mem_cons.mpr ⟨⟨RX1, TX1, 7, tyX1, rfl, by decide, mu_X1, (mT1 _ (List.mem_of_getElem? (i := 111) rfl) rfl), tyX1_ok, nmX1⟩, (List.forall_mem_cons.mpr ⟨⟨RX1, TX1, 7, tyX1, rfl, by decide, mu_X1, (mT1 _ (List.mem_of_getElem? (i := 113) rfl) rfl), tyX1_ok, nmX1⟩, (List.forall_mem_cons.mpr ⟨⟨RX1, TX1, 7, tyX1, rfl, by decide, mu_X1, (mT1 _ (List.mem_of_getElem? (i := 107) rfl) rfl), tyX1_ok, nmX1⟩, (List.forall_mem_cons.mpr ⟨⟨RX3, TX3, 13, tyX3, rfl, by decide, mu_X3, (mT1 _ (List.mem_of_getElem? (i := 33) rfl) rfl), tyX3_ok, nmX3⟩, (List.forall_mem_cons.mpr ⟨⟨RX3, TX3, 13, tyX3, rfl, by decide, mu_X3, (mT1 _ (List.mem_of_getElem? (i := 32) rfl) rfl), tyX3_ok, nmX3⟩, (List.forall_mem_cons.mpr ⟨⟨RX6, TX6, 4, tyX6, rfl, by decide, mu_X6, (mT1 _ (List.mem_of_getElem? (i := 84) rfl) rfl), tyX6_ok, nmX6⟩, (List.forall_mem_cons.mpr ⟨⟨RX6, TX6, 4, tyX6, rfl, by decide, mu_X6, (mT1 _ (List.mem_of_getElem? (i := 81) rfl) rfl), tyX6_ok, nmX6⟩, (List.forall_mem_cons.mpr ⟨⟨RX3, TX3, 13, tyX3, rfl, by decide, mu_X3, (mT1 _ (List.mem_of_getElem? (i := 30) rfl) rfl), tyX3_ok, nmX3⟩, (List.forall_mem_cons.mpr ⟨⟨RX0, TX0, 8, tyX0, rfl, by decide, mu_X0, (mT1 _ (List.mem_of_getElem? (i := 143) rfl) rfl), tyX0_ok, nmX0⟩, (List.forall_mem_cons.mpr ⟨⟨RX1, TX1, 7, tyX1, rfl, by decide, mu_X1, (mT1 _ (List.mem_of_getElem? (i := 115) rfl) rfl), tyX1_ok, nmX1⟩, (List.forall_mem_cons.mpr ⟨⟨RX5, TX5, 3, tyX5, rfl, by decide, mu_X5, (mT1 _ (List.mem_of_getElem? (i := 239) rfl) rfl), tyX5_ok, nmX5⟩, (List.forall_mem_cons.mpr ⟨⟨RX4, TX4, 6, tyX4, rfl, by decide, mu_X4, (mT1 _ (List.mem_of_getElem? (i := 175) rfl) rfl), tyX4_ok, nmX4⟩, (List.forall_mem_cons.mpr ⟨⟨RX4, TX4, 6, tyX4, rfl, by decide, mu_X4, (mT1 _ (List.mem_of_getElem? (i := 177) rfl) rfl), tyX4_ok, nmX4⟩, (List.forall_mem_cons.mpr ⟨⟨RX0, TX0, 8, tyX0, rfl, by decide, mu_X0, (mT1 _ (List.mem_of_getElem? (i := 147) rfl) rfl), tyX0_ok, nmX0⟩, (List.forall_mem_cons.mpr ⟨⟨RX2, TX2, 8, tyX2, rfl, by decide, mu_X2, (mT1 _ (List.mem_of_getElem? (i := 210) rfl) rfl), tyX2_ok, nmX2⟩, (List.forall_mem_cons.mpr ⟨⟨RX2, TX2, 8, tyX2, rfl, by decide, mu_X2, (mT1 _ (List.mem_of_getElem? (i := 202) rfl) rfl), tyX2_ok, nmX2⟩, (List.forall_mem_cons.mpr ⟨⟨RX2, TX2, 8, tyX2, rfl, by decide, mu_X2, (mT1 _ (List.mem_of_getElem? (i := 204) rfl) rfl), tyX2_ok, nmX2⟩, (List.forall_mem_cons.mpr ⟨⟨RX2, TX2, 8, tyX2, rfl, by decide, mu_X2, (mT1 _ (List.mem_of_getElem? (i := 206) rfl) rfl), tyX2_ok, nmX2⟩, (List.forall_mem_cons.mpr ⟨⟨RX2, TX2, 8, tyX2, rfl, by decide, mu_X2, (mT1 _ (List.mem_of_getElem? (i := 208) rfl) rfl), tyX2_ok, nmX2⟩, (List.forall_mem_cons.mpr ⟨⟨RX3, TX3, 13, tyX3, rfl, by decide, mu_X3, (mT1 _ (List.mem_of_getElem? (i := 41) rfl) rfl), tyX3_ok, nmX3⟩, (List.forall_mem_cons.mpr ⟨⟨RX5, TX5, 3, tyX5, rfl, by decide, mu_X5, (mT2 _ (List.mem_of_getElem? (i := 1) rfl) rfl), tyX5_ok, nmX5⟩, (List.forall_mem_cons.mpr ⟨⟨RX5, TX5, 3, tyX5, rfl, by decide, mu_X5, (mT2 _ (List.mem_of_getElem? (i := 3) rfl) rfl), tyX5_ok, nmX5⟩, (fun _ h => absurd h List.not_mem_nil)⟩)⟩)⟩)⟩)⟩)⟩)⟩)⟩)⟩)⟩)⟩)⟩)⟩)⟩)⟩)⟩)⟩)⟩)⟩)⟩)⟩)⟩)⟩)⟩)⟩)⟩)⟩)⟩)⟩)⟩)⟩)⟩)⟩)
set_option maxRecDepth 100000 in
theorem flX8_ok : mv_flB vwCl RX8 mv_TT flX8 := mv_flB_of (List.forall_mem_cons.mpr ⟨⟨RX8, TX8, 46, tyX8, rfl, by decide, mu_X8, (mT3 _ (List.mem_of_getElem? (i := 137) rfl) rfl), tyX8_ok, nmX8⟩, (List.forall_mem_cons.mpr ⟨⟨RX8, TX8, 46, tyX8, rfl, by decide, mu_X8, (mT3 _ (List.mem_of_getElem? (i := 138) rfl) rfl), tyX8_ok, nmX8⟩, (List.forall_mem_cons.mpr ⟨⟨RX8, TX8, 46, tyX8, rfl, by decide, mu_X8, (mT3 _ (List.mem_of_getElem? (i := 141) rfl) rfl), tyX8_ok, nmX8⟩, (List.forall_mem_cons.mpr ⟨⟨RX8, TX8, 46, tyX8, rfl, by decide, mu_X8, (mT3 _ (List.mem_of_getElem? (i := 142) rfl) rfl), tyX8_ok, nmX8⟩, (List.forall_mem_cons.mpr ⟨⟨RX8, TX8, 46, tyX8, rfl, by decide, mu_X8, (mT3 _ (List.mem_of_getElem? (i := 143) rfl) rfl), tyX8_ok, nmX8⟩, (List.forall_mem_cons.mpr ⟨⟨RX8, TX8, 46, tyX8, rfl, by decide, mu_X8, (mT3 _ (List.mem_of_getElem? (i := 144) rfl) rfl), tyX8_ok, nmX8⟩, (List.forall_mem_cons.mpr ⟨⟨RX8, TX8, 46, tyX8, rfl, by decide, mu_X8, (mT3 _ (List.mem_of_getElem? (i := 145) rfl) rfl), tyX8_ok, nmX8⟩, (List.forall_mem_cons.mpr ⟨⟨RX8, TX8, 46, tyX8, rfl, by decide, mu_X8, (mT3 _ (List.mem_of_getElem? (i := 148) rfl) rfl), tyX8_ok, nmX8⟩, (List.forall_mem_cons.mpr ⟨⟨RX8, TX8, 46, tyX8, rfl, by decide, mu_X8, (mT3 _ (List.mem_of_getElem? (i := 149) rfl) rfl), tyX8_ok, nmX8⟩, (List.forall_mem_cons.mpr ⟨⟨RX8, TX8, 46, tyX8, rfl, by decide, mu_X8, (mT3 _ (List.mem_of_getElem? (i := 150) rfl) rfl), tyX8_ok, nmX8⟩, (List.forall_mem_cons.mpr ⟨⟨RX8, TX8, 46, tyX8, rfl, by decide, mu_X8, (mT3 _ (List.mem_of_getElem? (i := 151) rfl) rfl), tyX8_ok, nmX8⟩, (List.forall_mem_cons.mpr ⟨⟨RX8, TX8, 46, tyX8, rfl, by decide, mu_X8, (mT3 _ (List.mem_of_getElem? (i := 152) rfl) rfl), tyX8_ok, nmX8⟩, (List.forall_mem_cons.mpr ⟨⟨RX8, TX8, 46, tyX8, rfl, by decide, mu_X8, (mT3 _ (List.mem_of_getElem? (i := 153) rfl) rfl), tyX8_ok, nmX8⟩, (List.forall_mem_cons.mpr ⟨⟨RX8, TX8, 46, tyX8, rfl, by decide, mu_X8, (mT3 _ (List.mem_of_getElem? (i := 154) rfl) rfl), tyX8_ok, nmX8⟩, (List.forall_mem_cons.mpr ⟨⟨RX8, TX8, 46, tyX8, rfl, by decide, mu_X8, (mT3 _ (List.mem_of_getElem? (i := 155) rfl) rfl), tyX8_ok, nmX8⟩, (List.forall_mem_cons.mpr ⟨⟨RX8, TX8, 46, tyX8, rfl, by decide, mu_X8, (mT3 _ (List.mem_of_getElem? (i := 159) rfl) rfl), tyX8_ok, nmX8⟩, (List.forall_mem_cons.mpr ⟨⟨RX8, TX8, 46, tyX8, rfl, by decide, mu_X8, (mT3 _ (List.mem_of_getElem? (i := 161) rfl) rfl), tyX8_ok, nmX8⟩, (List.forall_mem_cons.mpr ⟨⟨RX8, TX8, 46, tyX8, rfl, by decide, mu_X8, (mT3 _ (List.mem_of_getElem? (i := 162) rfl) rfl), tyX8_ok, nmX8⟩, (List.forall_mem_cons.mpr ⟨⟨RX8, TX8, 46, tyX8, rfl, by decide, mu_X8, (mT3 _ (List.mem_of_getElem? (i := 163) rfl) rfl), tyX8_ok, nmX8⟩, (List.forall_mem_cons.mpr ⟨⟨RX8, TX8, 46, tyX8, rfl, by decide, mu_X8, (mT3 _ (List.mem_of_getElem? (i := 164) rfl) rfl), tyX8_ok, nmX8⟩, (List.forall_mem_cons.mpr ⟨⟨RX8, TX8, 46, tyX8, rfl, by decide, mu_X8, (mT3 _ (List.mem_of_getElem? (i := 165) rfl) rfl), tyX8_ok, nmX8⟩, (List.forall_mem_cons.mpr ⟨⟨RX8, TX8, 46, tyX8, rfl, by decide, mu_X8, (mT3 _ (List.mem_of_getElem? (i := 166) rfl) rfl), tyX8_ok, nmX8⟩, (List.forall_mem_cons.mpr ⟨⟨RX8, TX8, 46, tyX8, rfl, by decide, mu_X8, (mT3 _ (List.mem_of_getElem? (i := 167) rfl) rfl), tyX8_ok, nmX8⟩, (List.forall_mem_cons.mpr ⟨⟨RX8, TX8, 46, tyX8, rfl, by decide, mu_X8, (mT3 _ (List.mem_of_getElem? (i := 168) rfl) rfl), tyX8_ok, nmX8⟩, (List.forall_mem_cons.mpr ⟨⟨RX8, TX8, 46, tyX8, rfl, by decide, mu_X8, (mT3 _ (List.mem_of_getElem? (i := 169) rfl) rfl), tyX8_ok, nmX8⟩, (List.forall_mem_cons.mpr ⟨⟨RX8, TX8, 46, tyX8, rfl, by decide, mu_X8, (mT3 _ (List.mem_of_getElem? (i := 170) rfl) rfl), tyX8_ok, nmX8⟩, (List.forall_mem_cons.mpr ⟨⟨RX8, TX8, 46, tyX8, rfl, by decide, mu_X8, (mT3 _ (List.mem_of_getElem? (i := 171) rfl) rfl), tyX8_ok, nmX8⟩, (List.forall_mem_cons.mpr ⟨⟨RX8, TX8, 46, tyX8, rfl, by decide, mu_X8, (mT3 _ (List.mem_of_getElem? (i := 172) rfl) rfl), tyX8_ok, nmX8⟩, (List.forall_mem_cons.mpr ⟨⟨RX8, TX8, 46, tyX8, rfl, by decide, mu_X8, (mT3 _ (List.mem_of_getElem? (i := 174) rfl) rfl), tyX8_ok, nmX8⟩, (List.forall_mem_cons.mpr ⟨⟨RX8, TX8, 46, tyX8, rfl, by decide, mu_X8, (mT3 _ (List.mem_of_getElem? (i := 175) rfl) rfl), tyX8_ok, nmX8⟩, (List.forall_mem_cons.mpr ⟨⟨RX8, TX8, 46, tyX8, rfl, by decide, mu_X8, (mT3 _ (List.mem_of_getElem? (i := 176) rfl) rfl), tyX8_ok, nmX8⟩, (List.forall_mem_cons.mpr ⟨⟨RX8, TX8, 46, tyX8, rfl, by decide, mu_X8, (mT3 _ (List.mem_of_getElem? (i := 177) rfl) rfl), tyX8_ok, nmX8⟩, (List.forall_mem_cons.mpr ⟨⟨RX8, TX8, 46, tyX8, rfl, by decide, mu_X8, (mT3 _ (List.mem_of_getElem? (i := 178) rfl) rfl), tyX8_ok, nmX8⟩, (List.forall_mem_cons.mpr ⟨⟨RX8, TX8, 46, tyX8, rfl, by decide, mu_X8, (mT3 _ (List.mem_of_getElem? (i := 179) rfl) rfl), tyX8_ok, nmX8⟩, (List.forall_mem_cons.mpr ⟨⟨RX8, TX8, 46, tyX8, rfl, by decide, mu_X8, (mT3 _ (List.mem_of_getElem? (i := 180) rfl) rfl), tyX8_ok, nmX8⟩, (List.forall_mem_cons.mpr ⟨⟨RX8, TX8, 46, tyX8, rfl, by decide, mu_X8, (mT3 _ (List.mem_of_getElem? (i := 181) rfl) rfl), tyX8_ok, nmX8⟩, (List.forall_mem_cons.mpr ⟨⟨RX8, TX8, 46, tyX8, rfl, by decide, mu_X8, (mT3 _ (List.mem_of_getElem? (i := 136) rfl) rfl), tyX8_ok, nmX8⟩, (List.forall_mem_cons.mpr ⟨⟨RX8, TX8, 46, tyX8, rfl, by decide, mu_X8, (mT3 _ (List.mem_of_getElem? (i := 140) rfl) rfl), tyX8_ok, nmX8⟩, (List.forall_mem_cons.mpr ⟨⟨RX8, TX8, 46, tyX8, rfl, by decide, mu_X8, (mT3 _ (List.mem_of_getElem? (i := 139) rfl) rfl), tyX8_ok, nmX8⟩, (List.forall_mem_cons.mpr ⟨⟨RX8, TX8, 46, tyX8, rfl, by decide, mu_X8, (mT3 _ (List.mem_of_getElem? (i := 146) rfl) rfl), tyX8_ok, nmX8⟩, (List.forall_mem_cons.mpr ⟨⟨RX8, TX8, 46, tyX8, rfl, by decide, mu_X8, (mT3 _ (List.mem_of_getElem? (i := 147) rfl) rfl), tyX8_ok, nmX8⟩, (List.forall_mem_cons.mpr ⟨⟨RX8, TX8, 46, tyX8, rfl, by decide, mu_X8, (mT3 _ (List.mem_of_getElem? (i := 156) rfl) rfl), tyX8_ok, nmX8⟩, (List.forall_mem_cons.mpr ⟨⟨RX8, TX8, 46, tyX8, rfl, by decide, mu_X8, (mT3 _ (List.mem_of_getElem? (i := 157) rfl) rfl), tyX8_ok, nmX8⟩, (List.forall_mem_cons.mpr ⟨⟨RX8, TX8, 46, tyX8, rfl, by decide, mu_X8, (mT3 _ (List.mem_of_getElem? (i := 158) rfl) rfl), tyX8_ok, nmX8⟩, (List.forall_mem_cons.mpr ⟨⟨RX8, TX8, 46, tyX8, rfl, by decide, mu_X8, (mT3 _ (List.mem_of_getElem? (i := 160) rfl) rfl), tyX8_ok, nmX8⟩, (List.forall_mem_cons.mpr ⟨⟨RX8, TX8, 46, tyX8, rfl, by decide, mu_X8, (mT3 _ (List.mem_of_getElem? (i := 173) rfl) rfl), tyX8_ok, nmX8⟩, (fun _ h => absurd h List.not_mem_nil)⟩)⟩)⟩)⟩)⟩)⟩)⟩)⟩)⟩)⟩)⟩)⟩)⟩)⟩)⟩)⟩)⟩)⟩)⟩)⟩)⟩)⟩)⟩)⟩)⟩)⟩)⟩)⟩)⟩)⟩)⟩)⟩)⟩)⟩)⟩)⟩)⟩)⟩)⟩)⟩)⟩)⟩)⟩)⟩)⟩)⟩)
set_option maxRecDepth 100000 in
theorem flL_ok : mv_flB vwCl RL mv_TT flL := mv_flB_of (fun _ h => absurd h List.not_mem_nil)
