def mv_or (f g : Nat → Option mv_R) : Nat → Option mv_R := fun pc => match f pc with
  | some r => some r
  | none => g pc
theorem mv_tbB_or {cc : ByteArray} {own : String} {Ts : List Jvm.Cond} {f g : Nat → Option mv_R} (hf : mv_tbB cc own Ts f) (hg : mv_tbB cc own Ts g) : mv_tbB cc own Ts (mv_or f g) := by
  intro pc
  have h1 := hf pc
  have h2 := hg pc
  unfold mv_or
  cases h : f pc with
  | none => simp only [h]; exact h2
  | some r => simp only [h]; rw [h] at h1; exact h1
def lw_s (x : Int32) : mv_K := fun pc ls st I _ => pc = 18 ∧ ls = [some (.inr (.inr 999)), some (.inr (.inr 0)), some (.inr (.inr 12)), some (.inl (x + 6))] ∧ st = [] ∧ SC I ∧ SM I ∧ LR I
theorem mi_ix {x : Int32} {L : Nat} (h0 : 0 ≤ x.toInt) (h : x.toInt + 6 ≤ L) (hL : L ≤ 3072) : vp_in x L ∧ vp_in (x + 1) L ∧ vp_in (x + 2) L ∧ vp_in (x + 3) L ∧ vp_in (x + 4) L ∧ vp_in (x + 5) L := by
  have e : ∀ j : Int32, 0 ≤ j.toInt → j.toInt ≤ 5 → vp_in (x + j) L := fun j h1 h2 => by
    have e1 : (x + j).toInt = x.toInt + j.toInt := mi_add (by omega) (by omega)
    exact vp_in_iff.mpr ⟨by omega, by omega⟩
  exact ⟨vp_in_iff.mpr ⟨h0, by omega⟩, e 1 (by decide) (by decide), e 2 (by decide) (by decide), e 3 (by decide) (by decide), e 4 (by decide) (by decide), e 5 (by decide) (by decide)⟩
set_option maxHeartbeats 1000000 in
theorem lc_0 {d : Nat} (hd : 11 ≤ d) {L : Nat} {xs : Nat → Int32} {x : Int32} {I : mv_I} {J : mv_J} (h0 : 0 ≤ x.toInt) (h : x.toInt + 6 ≤ L) (hL : L ≤ 3072) (sc : SC I) (sm : SM I) (hR : LR I) : mv_wp (mv_wpM mv_tab mv_sh d) mv_sh (some (L, xs)) (mv_or tbL_0 tbL_e) flL csL 1 (lw_s x) (fun r _ _ => r = some (.inl 1)) 200 156 [some (.inr (.inr 999)), some (.inr (.inr 0)), some (.inr (.inr 12)), some (.inl x)] [] I J := by
  obtain ⟨s0, s1, s2, s3, s4, s5⟩ := mi_ix h0 h hL
  refine And.intro s1 ?_
  refine F_works (by omega) _ sc (fun r1 I1 sc1 f1 p1 => ?_)
  refine And.intro s1 ?_
  refine G_works (by omega) _ (sm.kp (f1.cl rfl rfl)) (fun r2 I2 J2 sm2 f2 p2 => ?_)
  have kr := kr_works sc hR f1 f2 p1 p2
  exact ⟨rfl, rfl, rfl, sc1.kp (f2.rl rfl rfl), sm2, kr.2⟩
set_option maxHeartbeats 1000000 in
theorem lc_1 {d : Nat} (hd : 11 ≤ d) {L : Nat} {xs : Nat → Int32} {x : Int32} {I : mv_I} {J : mv_J} (h0 : 0 ≤ x.toInt) (h : x.toInt + 6 ≤ L) (hL : L ≤ 3072) (sc : SC I) (sm : SM I) (hR : LR I) : mv_wp (mv_wpM mv_tab mv_sh d) mv_sh (some (L, xs)) (mv_or tbL_1 tbL_e) flL csL 1 (lw_s x) (fun r _ _ => r = some (.inl 1)) 200 179 [some (.inr (.inr 999)), some (.inr (.inr 0)), some (.inr (.inr 12)), some (.inl x)] [] I J := by
  obtain ⟨s0, s1, s2, s3, s4, s5⟩ := mi_ix h0 h hL
  refine And.intro s1 ?_
  refine F_weeks (by omega) _ sc (fun r1 I1 sc1 f1 p1 => ?_)
  refine And.intro s1 ?_
  refine G_weeks (by omega) _ (sm.kp (f1.cl rfl rfl)) (fun r2 I2 J2 sm2 f2 p2 => ?_)
  have kr := kr_weeks sc hR f1 f2 p1 p2
  exact ⟨rfl, rfl, rfl, sc1.kp (f2.rl rfl rfl), sm2, kr.2⟩
set_option maxHeartbeats 1000000 in
theorem lc_2 {d : Nat} (hd : 11 ≤ d) {L : Nat} {xs : Nat → Int32} {x : Int32} {I : mv_I} {J : mv_J} (h0 : 0 ≤ x.toInt) (h : x.toInt + 6 ≤ L) (hL : L ≤ 3072) (sc : SC I) (sm : SM I) (hR : LR I) : mv_wp (mv_wpM mv_tab mv_sh d) mv_sh (some (L, xs)) (mv_or tbL_2 tbL_e) flL csL 1 (lw_s x) (fun r _ _ => r = some (.inl 1)) 200 202 [some (.inr (.inr 999)), some (.inr (.inr 0)), some (.inr (.inr 12)), some (.inl x)] [] I J := by
  obtain ⟨s0, s1, s2, s3, s4, s5⟩ := mi_ix h0 h hL
  refine And.intro s1 ?_
  refine And.intro s2 ?_
  refine And.intro s3 ?_
  refine F_lot (by omega) _ _ _ sc (fun r1 I1 sc1 f1 p1 => ?_)
  refine And.intro s1 ?_
  refine And.intro s2 ?_
  refine And.intro s3 ?_
  refine G_lot (by omega) _ _ _ (sm.kp (f1.cl rfl rfl)) (fun r2 I2 J2 sm2 f2 p2 => ?_)
  have kr := kr_lot sc hR f1 f2 p1 p2
  exact ⟨rfl, rfl, rfl, sc1.kp (f2.rl rfl rfl), sm2, kr.2⟩
set_option maxHeartbeats 1000000 in
theorem lc_3 {d : Nat} (hd : 11 ≤ d) {L : Nat} {xs : Nat → Int32} {x : Int32} {I : mv_I} {J : mv_J} (h0 : 0 ≤ x.toInt) (h : x.toInt + 6 ≤ L) (hL : L ≤ 3072) (sc : SC I) (sm : SM I) (hR : LR I) : mv_wp (mv_wpM mv_tab mv_sh d) mv_sh (some (L, xs)) (mv_or tbL_3 tbL_e) flL csL 1 (lw_s x) (fun r _ _ => r = some (.inl 1)) 200 245 [some (.inr (.inr 999)), some (.inr (.inr 0)), some (.inr (.inr 12)), some (.inl x)] [] I J := by
  obtain ⟨s0, s1, s2, s3, s4, s5⟩ := mi_ix h0 h hL
  refine And.intro s1 ?_
  refine And.intro s2 ?_
  refine F_rail (by omega) _ _ sc (fun r1 I1 sc1 f1 p1 => ?_)
  refine And.intro s1 ?_
  refine And.intro s2 ?_
  refine G_rail (by omega) _ _ (sm.kp (f1.cl rfl rfl)) (fun r2 I2 J2 sm2 f2 p2 => ?_)
  have kr := kr_rail sc hR f1 f2 p1 p2
  exact ⟨rfl, rfl, rfl, sc1.kp (f2.rl rfl rfl), sm2, kr.2⟩
set_option maxHeartbeats 1000000 in
theorem lc_4 {d : Nat} (hd : 11 ≤ d) {L : Nat} {xs : Nat → Int32} {x : Int32} {I : mv_I} {J : mv_J} (h0 : 0 ≤ x.toInt) (h : x.toInt + 6 ≤ L) (hL : L ≤ 3072) (sc : SC I) (sm : SM I) (hR : LR I) : mv_wp (mv_wpM mv_tab mv_sh d) mv_sh (some (L, xs)) (mv_or tbL_4 tbL_e) flL csL 1 (lw_s x) (fun r _ _ => r = some (.inl 1)) 200 278 [some (.inr (.inr 999)), some (.inr (.inr 0)), some (.inr (.inr 12)), some (.inl x)] [] I J := by
  obtain ⟨s0, s1, s2, s3, s4, s5⟩ := mi_ix h0 h hL
  refine And.intro s1 ?_
  refine And.intro s2 ?_
  refine F_told (by omega) _ _ sc (fun r1 => ?_)
  refine And.intro s1 ?_
  refine And.intro s2 ?_
  refine G_told (by omega) _ _ sm (fun r2 => ?_)
  exact ⟨rfl, rfl, rfl, sc, sm, hR⟩
set_option maxHeartbeats 1000000 in
theorem lc_5 {d : Nat} (hd : 11 ≤ d) {L : Nat} {xs : Nat → Int32} {x : Int32} {I : mv_I} {J : mv_J} (h0 : 0 ≤ x.toInt) (h : x.toInt + 6 ≤ L) (hL : L ≤ 3072) (sc : SC I) (sm : SM I) (hR : LR I) : mv_wp (mv_wpM mv_tab mv_sh d) mv_sh (some (L, xs)) (mv_or tbL_5 tbL_e) flL csL 1 (lw_s x) (fun r _ _ => r = some (.inl 1)) 200 311 [some (.inr (.inr 999)), some (.inr (.inr 0)), some (.inr (.inr 12)), some (.inl x)] [] I J := by
  obtain ⟨s0, s1, s2, s3, s4, s5⟩ := mi_ix h0 h hL
  refine And.intro s1 ?_
  refine F_total (by omega) _ sc (fun r1 I1 sc1 f1 p1 => ?_)
  refine And.intro s1 ?_
  refine G_total (by omega) _ (sm.kp (f1.cl rfl rfl)) (fun r2 I2 J2 sm2 f2 p2 => ?_)
  have kr := kr_total sc hR f1 f2 p1 p2
  exact ⟨rfl, rfl, rfl, sc1.kp (f2.rl rfl rfl), sm2, kr.2⟩
set_option maxHeartbeats 1000000 in
theorem lc_6 {d : Nat} (hd : 11 ≤ d) {L : Nat} {xs : Nat → Int32} {x : Int32} {I : mv_I} {J : mv_J} (h0 : 0 ≤ x.toInt) (h : x.toInt + 6 ≤ L) (hL : L ≤ 3072) (sc : SC I) (sm : SM I) (hR : LR I) : mv_wp (mv_wpM mv_tab mv_sh d) mv_sh (some (L, xs)) (mv_or tbL_6 tbL_e) flL csL 1 (lw_s x) (fun r _ _ => r = some (.inl 1)) 200 334 [some (.inr (.inr 999)), some (.inr (.inr 0)), some (.inr (.inr 12)), some (.inl x)] [] I J := by
  obtain ⟨s0, s1, s2, s3, s4, s5⟩ := mi_ix h0 h hL
  refine And.intro s1 ?_
  refine And.intro s2 ?_
  refine And.intro s3 ?_
  refine F_lend (by omega) _ _ _ sc (fun r1 I1 sc1 f1 => ?_)
  refine And.intro s1 ?_
  refine And.intro s2 ?_
  refine And.intro s3 ?_
  refine G_lend (by omega) _ _ _ (sm.kp (f1.cl rfl rfl)) (fun r2 I2 J2 sm2 f2 => ?_)
  exact ⟨rfl, rfl, rfl, sc1.kp (f2.rl rfl rfl), sm2, kr_lend hR f1 f2⟩
set_option maxHeartbeats 1000000 in
theorem lc_7 {d : Nat} (hd : 11 ≤ d) {L : Nat} {xs : Nat → Int32} {x : Int32} {I : mv_I} {J : mv_J} (h0 : 0 ≤ x.toInt) (h : x.toInt + 6 ≤ L) (hL : L ≤ 3072) (sc : SC I) (sm : SM I) (hR : LR I) : mv_wp (mv_wpM mv_tab mv_sh d) mv_sh (some (L, xs)) (mv_or tbL_7 tbL_e) flL csL 1 (lw_s x) (fun r _ _ => r = some (.inl 1)) 200 377 [some (.inr (.inr 999)), some (.inr (.inr 0)), some (.inr (.inr 12)), some (.inl x)] [] I J := by
  obtain ⟨s0, s1, s2, s3, s4, s5⟩ := mi_ix h0 h hL
  refine And.intro s1 ?_
  refine And.intro s2 ?_
  refine And.intro (fun q => ?_) (fun q => ?_)
  · refine And.intro s3 ?_
    refine F_shut (by omega) _ _ _ sc (fun r1 I1 sc1 f1 => ?_)
    refine And.intro s1 ?_
    refine And.intro s2 ?_
    refine And.intro (fun q => ?_) (fun q => ?_)
    · refine And.intro s3 ?_
      refine G_shut (by omega) _ _ _ (sm.kp (f1.cl rfl rfl)) (fun r2 I2 J2 sm2 f2 => ?_)
      exact ⟨rfl, rfl, rfl, sc1.kp (f2.rl rfl rfl), sm2, kr_shut hR f1 f2⟩
    · refine And.intro s3 ?_
      refine G_shut (by omega) _ _ _ (sm.kp (f1.cl rfl rfl)) (fun r2 I2 J2 sm2 f2 => ?_)
      exact ⟨rfl, rfl, rfl, sc1.kp (f2.rl rfl rfl), sm2, kr_shut hR f1 f2⟩
  · refine And.intro s3 ?_
    refine F_shut (by omega) _ _ _ sc (fun r1 I1 sc1 f1 => ?_)
    refine And.intro s1 ?_
    refine And.intro s2 ?_
    refine And.intro (fun q => ?_) (fun q => ?_)
    · refine And.intro s3 ?_
      refine G_shut (by omega) _ _ _ (sm.kp (f1.cl rfl rfl)) (fun r2 I2 J2 sm2 f2 => ?_)
      exact ⟨rfl, rfl, rfl, sc1.kp (f2.rl rfl rfl), sm2, kr_shut hR f1 f2⟩
    · refine And.intro s3 ?_
      refine G_shut (by omega) _ _ _ (sm.kp (f1.cl rfl rfl)) (fun r2 I2 J2 sm2 f2 => ?_)
      exact ⟨rfl, rfl, rfl, sc1.kp (f2.rl rfl rfl), sm2, kr_shut hR f1 f2⟩
set_option maxHeartbeats 1000000 in
theorem lc_8 {d : Nat} (hd : 11 ≤ d) {L : Nat} {xs : Nat → Int32} {x : Int32} {I : mv_I} {J : mv_J} (h0 : 0 ≤ x.toInt) (h : x.toInt + 6 ≤ L) (hL : L ≤ 3072) (sc : SC I) (sm : SM I) (hR : LR I) : mv_wp (mv_wpM mv_tab mv_sh d) mv_sh (some (L, xs)) (mv_or tbL_8 tbL_e) flL csL 1 (lw_s x) (fun r _ _ => r = some (.inl 1)) 200 436 [some (.inr (.inr 999)), some (.inr (.inr 0)), some (.inr (.inr 12)), some (.inl x)] [] I J := by
  obtain ⟨s0, s1, s2, s3, s4, s5⟩ := mi_ix h0 h hL
  refine And.intro s1 ?_
  refine And.intro s2 ?_
  refine And.intro s3 ?_
  refine F_open (by omega) _ _ _ sc (fun r1 => ?_)
  refine And.intro s1 ?_
  refine And.intro s2 ?_
  refine And.intro s3 ?_
  refine G_open (by omega) _ _ _ sm (fun r2 => ?_)
  exact ⟨rfl, rfl, rfl, sc, sm, hR⟩
set_option maxHeartbeats 1000000 in
theorem lc_9 {d : Nat} (hd : 11 ≤ d) {L : Nat} {xs : Nat → Int32} {x : Int32} {I : mv_I} {J : mv_J} (h0 : 0 ≤ x.toInt) (h : x.toInt + 6 ≤ L) (hL : L ≤ 3072) (sc : SC I) (sm : SM I) (hR : LR I) : mv_wp (mv_wpM mv_tab mv_sh d) mv_sh (some (L, xs)) (mv_or tbL_9 tbL_e) flL csL 1 (lw_s x) (fun r _ _ => r = some (.inl 1)) 200 479 [some (.inr (.inr 999)), some (.inr (.inr 0)), some (.inr (.inr 12)), some (.inl x)] [] I J := by
  obtain ⟨s0, s1, s2, s3, s4, s5⟩ := mi_ix h0 h hL
  refine And.intro s1 ?_
  refine And.intro s2 ?_
  refine And.intro s3 ?_
  refine F_quota (by omega) _ _ _ sc (fun r1 I1 sc1 f1 => ?_)
  refine And.intro s1 ?_
  refine And.intro s2 ?_
  refine And.intro s3 ?_
  refine G_quota (by omega) _ _ _ (sm.kp (f1.cl rfl rfl)) (fun r2 I2 J2 sm2 f2 => ?_)
  exact ⟨rfl, rfl, rfl, sc1.kp (f2.rl rfl rfl), sm2, kr_quota hR f1 f2⟩
set_option maxHeartbeats 1000000 in
theorem lc_10 {d : Nat} (hd : 11 ≤ d) {L : Nat} {xs : Nat → Int32} {x : Int32} {I : mv_I} {J : mv_J} (h0 : 0 ≤ x.toInt) (h : x.toInt + 6 ≤ L) (hL : L ≤ 3072) (sc : SC I) (sm : SM I) (hR : LR I) : mv_wp (mv_wpM mv_tab mv_sh d) mv_sh (some (L, xs)) (mv_or tbL_10 tbL_e) flL csL 1 (lw_s x) (fun r _ _ => r = some (.inl 1)) 200 522 [some (.inr (.inr 999)), some (.inr (.inr 0)), some (.inr (.inr 12)), some (.inl x)] [] I J := by
  obtain ⟨s0, s1, s2, s3, s4, s5⟩ := mi_ix h0 h hL
  refine And.intro s1 ?_
  refine F_left (by omega) _ sc (fun r1 I1 sc1 f1 => ?_)
  refine And.intro s1 ?_
  refine G_left (by omega) _ (sm.kp (f1.cl rfl rfl)) (fun r2 I2 J2 sm2 f2 => ?_)
  exact ⟨rfl, rfl, rfl, sc1.kp (f2.rl rfl rfl), sm2, kr_left hR f1 f2⟩
set_option maxHeartbeats 1000000 in
theorem lc_11 {d : Nat} (hd : 11 ≤ d) {L : Nat} {xs : Nat → Int32} {x : Int32} {I : mv_I} {J : mv_J} (h0 : 0 ≤ x.toInt) (h : x.toInt + 6 ≤ L) (hL : L ≤ 3072) (sc : SC I) (sm : SM I) (hR : LR I) : mv_wp (mv_wpM mv_tab mv_sh d) mv_sh (some (L, xs)) (mv_or tbL_11 tbL_e) flL csL 1 (lw_s x) (fun r _ _ => r = some (.inl 1)) 200 545 [some (.inr (.inr 999)), some (.inr (.inr 0)), some (.inr (.inr 12)), some (.inl x)] [] I J := by
  obtain ⟨s0, s1, s2, s3, s4, s5⟩ := mi_ix h0 h hL
  refine And.intro s1 ?_
  refine And.intro s2 ?_
  refine And.intro s3 ?_
  refine F_type (by omega) _ _ sc (fun r1 I1 sc1 f1 p1 => ?_)
  refine And.intro s1 ?_
  refine And.intro s2 ?_
  refine And.intro s3 ?_
  refine G_type (by omega) _ _ (sm.kp (f1.cl rfl rfl)) (fun r2 I2 J2 sm2 f2 p2 => ?_)
  have kr := kr_type sc hR f1 f2 p1 p2
  exact ⟨rfl, rfl, rfl, sc1.kp (f2.rl rfl rfl), sm2, kr.2⟩
set_option maxHeartbeats 1000000 in
theorem lc_12 {d : Nat} (hd : 11 ≤ d) {L : Nat} {xs : Nat → Int32} {x : Int32} {I : mv_I} {J : mv_J} (h0 : 0 ≤ x.toInt) (h : x.toInt + 6 ≤ L) (hL : L ≤ 3072) (sc : SC I) (sm : SM I) (hR : LR I) : mv_wp (mv_wpM mv_tab mv_sh d) mv_sh (some (L, xs)) (mv_or tbL_12 tbL_e) flL csL 1 (lw_s x) (fun r _ _ => r = some (.inl 1)) 200 608 [some (.inr (.inr 999)), some (.inr (.inr 0)), some (.inr (.inr 12)), some (.inl x)] [] I J := by
  obtain ⟨s0, s1, s2, s3, s4, s5⟩ := mi_ix h0 h hL
  refine F_parts (by omega) sc (fun r1 I1 sc1 f1 p1 => ?_)
  refine G_parts (by omega) (sm.kp (f1.cl rfl rfl)) (fun r2 I2 J2 sm2 f2 p2 => ?_)
  exact ⟨rfl, rfl, rfl, sc1.kp (f2.rl rfl rfl), sm2, kr_parts hR f1 f2 p1 p2⟩
set_option maxHeartbeats 1000000 in
theorem lc_13 {d : Nat} (hd : 11 ≤ d) {L : Nat} {xs : Nat → Int32} {x : Int32} {I : mv_I} {J : mv_J} (h0 : 0 ≤ x.toInt) (h : x.toInt + 6 ≤ L) (hL : L ≤ 3072) (sc : SC I) (sm : SM I) (hR : LR I) : mv_wp (mv_wpM mv_tab mv_sh d) mv_sh (some (L, xs)) (mv_or tbL_13 tbL_e) flL csL 1 (lw_s x) (fun r _ _ => r = some (.inl 1)) 200 621 [some (.inr (.inr 999)), some (.inr (.inr 0)), some (.inr (.inr 12)), some (.inl x)] [] I J := by
  obtain ⟨s0, s1, s2, s3, s4, s5⟩ := mi_ix h0 h hL
  refine And.intro s1 ?_
  refine And.intro s2 ?_
  refine And.intro s3 ?_
  refine And.intro s4 ?_
  refine And.intro s5 ?_
  refine F_ship (by omega) _ _ _ _ _ sc (fun r1 I1 sc1 f1 p1 => ?_)
  refine And.intro s1 ?_
  refine And.intro s2 ?_
  refine And.intro s3 ?_
  refine And.intro s4 ?_
  refine And.intro s5 ?_
  refine G_ship (by omega) _ _ _ _ _ (sm.kp (f1.cl rfl rfl)) (fun r2 I2 J2 sm2 f2 p2 => ?_)
  have kr := kr_ship sc hR f1 f2 p1 p2
  exact ⟨rfl, rfl, rfl, sc1.kp (f2.rl rfl rfl), sm2, kr.2⟩
set_option maxHeartbeats 1000000 in
theorem lc_14 {d : Nat} (hd : 11 ≤ d) {L : Nat} {xs : Nat → Int32} {x : Int32} {I : mv_I} {J : mv_J} (h0 : 0 ≤ x.toInt) (h : x.toInt + 6 ≤ L) (hL : L ≤ 3072) (sc : SC I) (sm : SM I) (hR : LR I) : mv_wp (mv_wpM mv_tab mv_sh d) mv_sh (some (L, xs)) (mv_or tbL_14 tbL_e) flL csL 1 (lw_s x) (fun r _ _ => r = some (.inl 1)) 200 684 [some (.inr (.inr 999)), some (.inr (.inr 0)), some (.inr (.inr 12)), some (.inl x)] [] I J := by
  obtain ⟨s0, s1, s2, s3, s4, s5⟩ := mi_ix h0 h hL
  refine And.intro s1 ?_
  refine And.intro s2 ?_
  refine And.intro s3 ?_
  refine F_load (by omega) _ _ _ sc (fun r1 I1 sc1 f1 => ?_)
  refine And.intro s1 ?_
  refine And.intro s2 ?_
  refine And.intro s3 ?_
  refine G_load (by omega) _ _ _ (sm.kp (f1.cl rfl rfl)) (fun r2 I2 J2 sm2 f2 => ?_)
  exact ⟨rfl, rfl, rfl, sc1.kp (f2.rl rfl rfl), sm2, kr_load hR f1 f2⟩
set_option maxHeartbeats 1000000 in
theorem lc_15 {d : Nat} (hd : 11 ≤ d) {L : Nat} {xs : Nat → Int32} {x : Int32} {I : mv_I} {J : mv_J} (h0 : 0 ≤ x.toInt) (h : x.toInt + 6 ≤ L) (hL : L ≤ 3072) (sc : SC I) (sm : SM I) (hR : LR I) : mv_wp (mv_wpM mv_tab mv_sh d) mv_sh (some (L, xs)) (mv_or tbL_15 tbL_e) flL csL 1 (lw_s x) (fun r _ _ => r = some (.inl 1)) 200 727 [some (.inr (.inr 999)), some (.inr (.inr 0)), some (.inr (.inr 12)), some (.inl x)] [] I J := by
  obtain ⟨s0, s1, s2, s3, s4, s5⟩ := mi_ix h0 h hL
  refine And.intro s1 ?_
  refine And.intro s2 ?_
  refine F_held (by omega) _ _ sc (fun r1 => ?_)
  refine And.intro s1 ?_
  refine And.intro s2 ?_
  refine G_held (by omega) _ _ sm (fun r2 => ?_)
  exact ⟨rfl, rfl, rfl, sc, sm, hR⟩
set_option maxHeartbeats 1000000 in
theorem lc_16 {d : Nat} (hd : 11 ≤ d) {L : Nat} {xs : Nat → Int32} {x : Int32} {I : mv_I} {J : mv_J} (h0 : 0 ≤ x.toInt) (h : x.toInt + 6 ≤ L) (hL : L ≤ 3072) (sc : SC I) (sm : SM I) (hR : LR I) : mv_wp (mv_wpM mv_tab mv_sh d) mv_sh (some (L, xs)) (mv_or tbL_16 tbL_e) flL csL 1 (lw_s x) (fun r _ _ => r = some (.inl 1)) 200 760 [some (.inr (.inr 999)), some (.inr (.inr 0)), some (.inr (.inr 12)), some (.inl x)] [] I J := by
  obtain ⟨s0, s1, s2, s3, s4, s5⟩ := mi_ix h0 h hL
  refine And.intro s1 ?_
  refine F_grade (by omega) _ sc (fun r1 => ?_)
  refine And.intro s1 ?_
  refine G_grade (by omega) _ sm (fun r2 => ?_)
  exact ⟨rfl, rfl, rfl, sc, sm, hR⟩
set_option maxHeartbeats 1000000 in
theorem lc_17 {d : Nat} (hd : 11 ≤ d) {L : Nat} {xs : Nat → Int32} {x : Int32} {I : mv_I} {J : mv_J} (h0 : 0 ≤ x.toInt) (h : x.toInt + 6 ≤ L) (hL : L ≤ 3072) (sc : SC I) (sm : SM I) (hR : LR I) : mv_wp (mv_wpM mv_tab mv_sh d) mv_sh (some (L, xs)) (mv_or tbL_17 tbL_e) flL csL 1 (lw_s x) (fun r _ _ => r = some (.inl 1)) 200 783 [some (.inr (.inr 999)), some (.inr (.inr 0)), some (.inr (.inr 12)), some (.inl x)] [] I J := by
  obtain ⟨s0, s1, s2, s3, s4, s5⟩ := mi_ix h0 h hL
  refine And.intro s1 ?_
  refine And.intro s2 ?_
  refine And.intro s3 ?_
  refine And.intro s4 ?_
  refine And.intro s5 ?_
  refine F_surf (by omega) _ _ _ _ _ sc (fun r1 I1 sc1 f1 p1 => ?_)
  refine And.intro s1 ?_
  refine And.intro s2 ?_
  refine And.intro s3 ?_
  refine And.intro s4 ?_
  refine And.intro s5 ?_
  refine G_surf (by omega) _ _ _ _ _ (sm.kp (f1.cl rfl rfl)) (fun r2 I2 J2 sm2 f2 p2 => ?_)
  have kr := kr_surf sc hR f1 f2 p1 p2
  refine And.intro (fun _ => ?_) (fun q => absurd (kr.1) q)
  exact ⟨rfl, rfl, rfl, sc1.kp (f2.rl rfl rfl), sm2, kr.2⟩
set_option maxHeartbeats 1000000 in
theorem lc_18 {d : Nat} (hd : 11 ≤ d) {L : Nat} {xs : Nat → Int32} {x : Int32} {I : mv_I} {J : mv_J} (h0 : 0 ≤ x.toInt) (h : x.toInt + 6 ≤ L) (hL : L ≤ 3072) (sc : SC I) (sm : SM I) (hR : LR I) : mv_wp (mv_wpM mv_tab mv_sh d) mv_sh (some (L, xs)) (mv_or tbL_18 tbL_e) flL csL 1 (lw_s x) (fun r _ _ => r = some (.inl 1)) 200 846 [some (.inr (.inr 999)), some (.inr (.inr 0)), some (.inr (.inr 12)), some (.inl x)] [] I J := by
  obtain ⟨s0, s1, s2, s3, s4, s5⟩ := mi_ix h0 h hL
  refine And.intro s1 ?_
  refine F_sea (by omega) _ sc (fun r1 => ?_)
  refine And.intro s1 ?_
  refine G_sea (by omega) _ sm (fun r2 => ?_)
  exact ⟨rfl, rfl, rfl, sc, sm, hR⟩
set_option maxHeartbeats 1000000 in
theorem lc_19 {d : Nat} (hd : 11 ≤ d) {L : Nat} {xs : Nat → Int32} {x : Int32} {I : mv_I} {J : mv_J} (h0 : 0 ≤ x.toInt) (h : x.toInt + 6 ≤ L) (hL : L ≤ 3072) (sc : SC I) (sm : SM I) (hR : LR I) : mv_wp (mv_wpM mv_tab mv_sh d) mv_sh (some (L, xs)) (mv_or tbL_19 tbL_e) flL csL 1 (lw_s x) (fun r _ _ => r = some (.inl 1)) 200 869 [some (.inr (.inr 999)), some (.inr (.inr 0)), some (.inr (.inr 12)), some (.inl x)] [] I J := by
  obtain ⟨s0, s1, s2, s3, s4, s5⟩ := mi_ix h0 h hL
  refine And.intro s1 ?_
  refine F_bar (by omega) _ sc (fun r1 I1 sc1 f1 p1 => ?_)
  refine And.intro s1 ?_
  refine G_bar (by omega) _ (sm.kp (f1.cl rfl rfl)) (fun r2 I2 J2 sm2 f2 p2 => ?_)
  have kr := kr_bar sc hR f1 f2 p1 p2
  exact ⟨rfl, rfl, rfl, sc1.kp (f2.rl rfl rfl), sm2, kr.2⟩
set_option maxHeartbeats 1000000 in
theorem lc_20 {d : Nat} (hd : 11 ≤ d) {L : Nat} {xs : Nat → Int32} {x : Int32} {I : mv_I} {J : mv_J} (h0 : 0 ≤ x.toInt) (h : x.toInt + 6 ≤ L) (hL : L ≤ 3072) (sc : SC I) (sm : SM I) (hR : LR I) : mv_wp (mv_wpM mv_tab mv_sh d) mv_sh (some (L, xs)) (mv_or tbL_20 tbL_e) flL csL 1 (lw_s x) (fun r _ _ => r = some (.inl 1)) 200 892 [some (.inr (.inr 999)), some (.inr (.inr 0)), some (.inr (.inr 12)), some (.inl x)] [] I J := by
  obtain ⟨s0, s1, s2, s3, s4, s5⟩ := mi_ix h0 h hL
  refine And.intro s1 ?_
  refine F_lay (by omega) _ sc (fun r1 I1 sc1 f1 => ?_)
  refine And.intro s1 ?_
  refine G_lay (by omega) _ (sm.kp (f1.cl rfl rfl)) (fun r2 I2 J2 sm2 f2 => ?_)
  exact ⟨rfl, rfl, rfl, sc1.kp (f2.rl rfl rfl), sm2, kr_lay hR f1 f2⟩
set_option maxHeartbeats 1000000 in
theorem lc_21 {d : Nat} (hd : 11 ≤ d) {L : Nat} {xs : Nat → Int32} {x : Int32} {I : mv_I} {J : mv_J} (h0 : 0 ≤ x.toInt) (h : x.toInt + 6 ≤ L) (hL : L ≤ 3072) (sc : SC I) (sm : SM I) (hR : LR I) : mv_wp (mv_wpM mv_tab mv_sh d) mv_sh (some (L, xs)) (mv_or tbL_21 tbL_e) flL csL 1 (lw_s x) (fun r _ _ => r = some (.inl 1)) 200 915 [some (.inr (.inr 999)), some (.inr (.inr 0)), some (.inr (.inr 12)), some (.inl x)] [] I J := by
  obtain ⟨s0, s1, s2, s3, s4, s5⟩ := mi_ix h0 h hL
  refine And.intro s1 ?_
  refine And.intro s2 ?_
  refine F_laid (by omega) _ _ sc (fun r1 => ?_)
  refine And.intro s1 ?_
  refine And.intro s2 ?_
  refine G_laid (by omega) _ _ sm (fun r2 => ?_)
  exact ⟨rfl, rfl, rfl, sc, sm, hR⟩
set_option maxHeartbeats 1000000 in
theorem lc_22 {d : Nat} (hd : 11 ≤ d) {L : Nat} {xs : Nat → Int32} {x : Int32} {I : mv_I} {J : mv_J} (h0 : 0 ≤ x.toInt) (h : x.toInt + 6 ≤ L) (hL : L ≤ 3072) (sc : SC I) (sm : SM I) (hR : LR I) : mv_wp (mv_wpM mv_tab mv_sh d) mv_sh (some (L, xs)) (mv_or tbL_22 tbL_e) flL csL 1 (lw_s x) (fun r _ _ => r = some (.inl 1)) 200 948 [some (.inr (.inr 999)), some (.inr (.inr 0)), some (.inr (.inr 12)), some (.inl x)] [] I J := by
  obtain ⟨s0, s1, s2, s3, s4, s5⟩ := mi_ix h0 h hL
  refine And.intro s1 ?_
  refine F_count (by omega) _ sc (fun r1 => ?_)
  refine And.intro s1 ?_
  refine G_count (by omega) _ sm (fun r2 => ?_)
  exact ⟨rfl, rfl, rfl, sc, sm, hR⟩
set_option maxHeartbeats 1000000 in
theorem lc_23 {d : Nat} (hd : 11 ≤ d) {L : Nat} {xs : Nat → Int32} {x : Int32} {I : mv_I} {J : mv_J} (h0 : 0 ≤ x.toInt) (h : x.toInt + 6 ≤ L) (hL : L ≤ 3072) (sc : SC I) (sm : SM I) (hR : LR I) : mv_wp (mv_wpM mv_tab mv_sh d) mv_sh (some (L, xs)) (mv_or tbL_23 tbL_e) flL csL 1 (lw_s x) (fun r _ _ => r = some (.inl 1)) 200 971 [some (.inr (.inr 999)), some (.inr (.inr 0)), some (.inr (.inr 12)), some (.inl x)] [] I J := by
  obtain ⟨s0, s1, s2, s3, s4, s5⟩ := mi_ix h0 h hL
  refine And.intro s1 ?_
  refine And.intro s2 ?_
  refine And.intro s3 ?_
  refine F_sheet (by omega) _ _ _ sc (fun r1 I1 sc1 f1 p1 => ?_)
  refine And.intro s1 ?_
  refine And.intro s2 ?_
  refine And.intro s3 ?_
  refine G_sheet (by omega) _ _ _ (sm.kp (f1.cl rfl rfl)) (fun r2 I2 J2 sm2 f2 p2 => ?_)
  have kr := kr_sheet sc hR f1 f2 p1 p2
  exact ⟨rfl, rfl, rfl, sc1.kp (f2.rl rfl rfl), sm2, kr.2⟩
set_option maxHeartbeats 1000000 in
theorem lc_24 {d : Nat} (hd : 11 ≤ d) {L : Nat} {xs : Nat → Int32} {x : Int32} {I : mv_I} {J : mv_J} (h0 : 0 ≤ x.toInt) (h : x.toInt + 6 ≤ L) (hL : L ≤ 3072) (sc : SC I) (sm : SM I) (hR : LR I) : mv_wp (mv_wpM mv_tab mv_sh d) mv_sh (some (L, xs)) (mv_or tbL_24 tbL_e) flL csL 1 (lw_s x) (fun r _ _ => r = some (.inl 1)) 200 1014 [some (.inr (.inr 999)), some (.inr (.inr 0)), some (.inr (.inr 12)), some (.inl x)] [] I J := by
  obtain ⟨s0, s1, s2, s3, s4, s5⟩ := mi_ix h0 h hL
  refine And.intro s1 ?_
  refine F_drop (by omega) _ sc (fun r1 I1 sc1 f1 p1 => ?_)
  refine And.intro s1 ?_
  refine G_drop (by omega) _ (sm.kp (f1.cl rfl rfl)) (fun r2 I2 J2 sm2 f2 p2 => ?_)
  have kr := kr_drop sc hR f1 f2 p1 p2
  exact ⟨rfl, rfl, rfl, sc1.kp (f2.rl rfl rfl), sm2, kr.2⟩
set_option maxHeartbeats 1000000 in
theorem lc_25 {d : Nat} (hd : 11 ≤ d) {L : Nat} {xs : Nat → Int32} {x : Int32} {I : mv_I} {J : mv_J} (h0 : 0 ≤ x.toInt) (h : x.toInt + 6 ≤ L) (hL : L ≤ 3072) (sc : SC I) (sm : SM I) (hR : LR I) : mv_wp (mv_wpM mv_tab mv_sh d) mv_sh (some (L, xs)) (mv_or tbL_25 tbL_e) flL csL 1 (lw_s x) (fun r _ _ => r = some (.inl 1)) 200 1037 [some (.inr (.inr 999)), some (.inr (.inr 0)), some (.inr (.inr 12)), some (.inl x)] [] I J := by
  obtain ⟨s0, s1, s2, s3, s4, s5⟩ := mi_ix h0 h hL
  refine And.intro s1 ?_
  refine And.intro s2 ?_
  refine And.intro s3 ?_
  refine And.intro s4 ?_
  refine F_item (by omega) _ _ _ _ sc (fun r1 I1 sc1 f1 p1 => ?_)
  refine And.intro s1 ?_
  refine And.intro s2 ?_
  refine And.intro s3 ?_
  refine And.intro s4 ?_
  refine G_item (by omega) _ _ _ _ (sm.kp (f1.cl rfl rfl)) (fun r2 I2 J2 sm2 f2 p2 => ?_)
  have kr := kr_item sc hR f1 f2 p1 p2
  exact ⟨rfl, rfl, rfl, sc1.kp (f2.rl rfl rfl), sm2, kr.2⟩
set_option maxHeartbeats 1000000 in
theorem lc_26 {d : Nat} (hd : 11 ≤ d) {L : Nat} {xs : Nat → Int32} {x : Int32} {I : mv_I} {J : mv_J} (h0 : 0 ≤ x.toInt) (h : x.toInt + 6 ≤ L) (hL : L ≤ 3072) (sc : SC I) (sm : SM I) (hR : LR I) : mv_wp (mv_wpM mv_tab mv_sh d) mv_sh (some (L, xs)) (mv_or tbL_26 tbL_e) flL csL 1 (lw_s x) (fun r _ _ => r = some (.inl 1)) 200 1090 [some (.inr (.inr 999)), some (.inr (.inr 0)), some (.inr (.inr 12)), some (.inl x)] [] I J := by
  obtain ⟨s0, s1, s2, s3, s4, s5⟩ := mi_ix h0 h hL
  refine And.intro s1 ?_
  refine And.intro s2 ?_
  refine And.intro s3 ?_
  refine And.intro s4 ?_
  refine And.intro s5 ?_
  refine F_copy (by omega) _ _ _ _ _ sc (fun r1 I1 sc1 f1 p1 => ?_)
  refine And.intro s1 ?_
  refine And.intro s2 ?_
  refine And.intro s3 ?_
  refine And.intro s4 ?_
  refine And.intro s5 ?_
  refine G_copy (by omega) _ _ _ _ _ (sm.kp (f1.cl rfl rfl)) (fun r2 I2 J2 sm2 f2 p2 => ?_)
  have kr := kr_copy sc hR f1 f2 p1 p2
  exact ⟨rfl, rfl, rfl, sc1.kp (f2.rl rfl rfl), sm2, kr.2⟩
