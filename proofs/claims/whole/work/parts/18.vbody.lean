/-! a draft that is a BODY -/
theorem ct_ext {P : Nat → Prop} {a : Nat} : ∀ {b : Nat}, a ≤ b → (∀ j, a ≤ j → j < b → ¬ P j) → ct_n P b = ct_n P a
  | 0, h, _ => by rw [show a = 0 by omega]
  | b + 1, h, hp => by
    by_cases e : a = b + 1
    · rw [e]
    · show ct_n P b + ct_b (P b) = _
      rw [ct_bf (hp b (by omega) (by omega)), ct_ext (b := b) (by omega) (fun j h1 h2 => hp j h1 (by omega))]; rfl
theorem ex_sib {nd : Nat → Nat} {n k : Nat} (h : ex_s nd n 1 k) : ∀ j, j < nd k → ∀ q, k < q → q < ex_pt nd k j → ex_e nd q ≤ ex_pt nd k j
  | 0, _, q, h1, h2 => by
    have : q < k + 1 := h2
    omega
  | j + 1, hj, q, h1, h2 => by
    obtain ⟨a, b, m, hm, hm2⟩ := ex_part h (show j < nd k by omega)
    have e : ex_pt nd k (j + 1) = ex_pt nd k j + m := ex_eq hm
    rcases Nat.lt_or_ge q (ex_pt nd k j) with z | z
    · have := ex_sib h j (by omega) q h1 z
      omega
    · have h2 : q < ex_e nd (ex_pt nd k j) := h2
      obtain ⟨m', hm', hl⟩ := ex_nest hm z h2
      rw [ex_eq hm']
      omega
section
variable {kd wd : Nat → Int32} {dc : Nat}
theorem sh_at (hs : ex_s (tk_nd kd wd) dc 1 0) {i : Nat} (hi : i < dc) : ∃ m, ex_s (tk_nd kd wd) m 1 i ∧ i + m ≤ dc ∧ 1 ≤ m ∧ ex_e (tk_nd kd wd) i = i + m := by
  obtain ⟨m, m1, m2, m3⟩ := ex_in hs hi
  rw [Nat.zero_add] at m3
  exact ⟨m, m3, by omega, m2, ex_eq m3⟩
theorem sh_Pe (hs : ex_s (tk_nd kd wd) dc 1 0) {i k : Nat} (hk : k < i) (hi : i < dc) : sh_P kd wd i k ↔ (kd k = 12 ∧ i < ex_e (tk_nd kd wd) k) := by
  obtain ⟨m, m1, m2, m3, m4⟩ := sh_at hs (show k < dc by omega)
  unfold sh_P
  by_cases z : kd k = 12
  · have n1 : tk_nd kd wd k = 1 := by unfold tk_nd; rw [z]; rfl
    have h1 := ex_hd m1
    rw [n1] at h1
    refine ⟨fun ⟨a, b⟩ => ⟨a, ?_⟩, fun ⟨a, b⟩ => ⟨a, fun q => ?_⟩⟩
    · rw [m4]
      rcases Nat.lt_or_ge i (k + m) with q | q
      · exact q
      · exact absurd (ex_s_r h1 (by omega)) b
    · obtain ⟨n', n2, n3⟩ := ex_r_s q
      have := ex_u n3 h1
      rw [m4] at b
      omega
  · exact ⟨fun ⟨a, _⟩ => absurd a z, fun ⟨a, _⟩ => absurd a z⟩
/-- how many BLOCKS stand around token i -/
noncomputable def sh_lv (kd wd : Nat → Int32) (i : Nat) : Nat := ct_n (sh_P kd wd i) i
theorem sh_lv4 (hs : ex_s (tk_nd kd wd) dc 1 0) {k : Nat} (hk : k < dc) (h12 : kd k = 12) : k + 1 < dc ∧ sh_lv kd wd (k + 1) = sh_lv kd wd k + 1 := by
  obtain ⟨m, m1, m2, m3, m4⟩ := sh_at hs hk
  have n1 : tk_nd kd wd k = 1 := by unfold tk_nd; rw [h12]; rfl
  have h1 := ex_hd m1
  rw [n1] at h1
  have hm := ex_pos h1
  have k1 : k + 1 < dc := by omega
  refine ⟨k1, ?_⟩
  show ct_n (sh_P kd wd (k + 1)) k + ct_b (sh_P kd wd (k + 1) k) = ct_n (sh_P kd wd k) k + 1
  rw [ct_bt ((sh_Pe hs (by omega) k1).mpr ⟨h12, by omega⟩), ct_eq (Q := sh_P kd wd k) (fun j hj => ?_)]
  rw [sh_Pe hs (by omega) k1, sh_Pe hs hj hk]
  refine ⟨fun ⟨a, b⟩ => ⟨a, by omega⟩, fun ⟨a, b⟩ => ⟨a, ?_⟩⟩
  obtain ⟨m', q1, q2, q3, q4⟩ := sh_at hs (show j < dc by omega)
  obtain ⟨m2', r1, r2⟩ := ex_nest q1 (Nat.le_of_lt hj) b
  have := ex_u r1 m1
  omega
theorem sh_lv5 (hs : ex_s (tk_nd kd wd) dc 1 0) {k j : Nat} (hk : k < dc) (h12 : ¬ kd k = 12) (hj : j < tk_nd kd wd k) : sh_lv kd wd (ex_pt (tk_nd kd wd) k j) = sh_lv kd wd k := by
  obtain ⟨m, m1, m2, m3, m4⟩ := sh_at hs hk
  obtain ⟨p1, p2, _⟩ := ex_part m1 hj
  have pd : ex_pt (tk_nd kd wd) k j < dc := by omega
  unfold sh_lv
  rw [ct_ext (a := k) (by omega) (fun q h1 h2 z => ?_), ct_eq (Q := sh_P kd wd k) (fun q hq => ?_)]
  · rw [sh_Pe hs (by omega) pd, sh_Pe hs hq hk]
    refine ⟨fun ⟨a, b⟩ => ⟨a, by omega⟩, fun ⟨a, b⟩ => ⟨a, ?_⟩⟩
    obtain ⟨m', q1, q2, q3, q4⟩ := sh_at hs (show q < dc by omega)
    obtain ⟨m2', r1, r2⟩ := ex_nest q1 (Nat.le_of_lt hq) b
    have := ex_u r1 m1
    omega
  · rw [sh_Pe hs h2 pd] at z
    by_cases e : q = k
    · subst e; exact h12 z.1
    · have := ex_sib m1 j hj q (by omega) h2
      omega
end
/-- the tokens of the draft, copied -/
def cp_f (f : Nat → Int32) (s n : Nat) : Nat → Int32 := fun j => if s ≤ j ∧ j < s + n then f (384 + (j - s)) else f j
theorem cp_0 (f : Nat → Int32) (s : Nat) : cp_f f s 0 = f := by
  funext j
  unfold cp_f
  rw [if_neg (by omega)]
theorem cp_s {f : Nat → Int32} {s n : Nat} (h : s + n < 384) : upd (cp_f f s n) (s + n) (cp_f f s n (384 + n)) = cp_f f s (n + 1) := by
  funext j
  unfold upd cp_f
  by_cases e : j = s + n
  · subst e
    rw [if_pos rfl, if_neg (by omega), if_pos (by omega), Nat.add_sub_cancel_left]
  · rw [if_neg e]
    by_cases q : s ≤ j ∧ j < s + n
    · rw [if_pos q, if_pos (by omega)]
    · rw [if_neg q, if_neg (by omega)]
theorem cp_i {f : Nat → Int32} {s n i : Nat} (h : i < n) : cp_f f s n (s + i) = f (384 + i) := by
  unfold cp_f
  rw [if_pos (by omega), Nat.add_sub_cancel_left]
theorem cp_o {f : Nat → Int32} {s n j : Nat} (h : j < s ∨ s + n ≤ j) : cp_f f s n j = f j := if_neg (by omega)
theorem rl_add {cc bc dc : Nat} {KX WX K W sz kd wd : Nat → Int32} {T : Nat → Prop} {lv : Nat → Nat} (TT : rl_T cc bc KX WX K W sz T lv) (b11 : bc < 12) (d32 : dc ≤ 32) (hz : sz bc = nI dc)
    (tok : ∀ i, i < dc → KX (32 * bc + i) = kd i ∧ WX (32 * bc + i) = wd i ∧ K (32 * bc + i) = kd i ∧ W (32 * bc + i) = wd i ∧ tk_ok (kd i) (wd i)) (hs : ex_s (tk_nd kd wd) dc 1 0) (fit : ∀ i, i < dc → tk_fit cc bc (kd i) (wd i) (sh_lv kd wd i)) :
    rl_T cc (bc + 1) KX WX K W sz (fun p => T p ∨ (32 * bc ≤ p ∧ p < 32 * bc + dc)) (fun p => if p < 32 * bc then lv p else sh_lv kd wd (p - 32 * bc)) := by
  obtain ⟨b12, t1, t2, t3, t4, t5⟩ := TT
  have nd : ∀ i, i < dc → tk_nd kd wd i = tk_nd K W (32 * bc + i) := fun i hi => by
    obtain ⟨_, _, a, b, _⟩ := tok i hi
    unfold tk_nd
    rw [a, b]
  have es : ∀ i m, i + m ≤ dc → ex_s (tk_nd kd wd) m 1 i → ex_s (tk_nd K W) m 1 (32 * bc + i) := fun i m hm h => ex_shift (q := 32 * bc) (fun j hj => by rw [nd (i + j) (by omega), Nat.add_assoc]) h
  have pt : ∀ i, i < dc → ∀ j, j ≤ tk_nd kd wd i → ex_pt (tk_nd K W) (32 * bc + i) j = 32 * bc + ex_pt (tk_nd kd wd) i j := by
    intro i hi j
    obtain ⟨m, m1, m2, m3, m4⟩ := sh_at hs hi
    induction j with
    | zero => intro _; rfl
    | succ j ih =>
      intro hj
      obtain ⟨p1, p2, m', q1, q2⟩ := ex_part m1 (show j < tk_nd kd wd i by omega)
      show ex_e _ (ex_pt (tk_nd K W) (32 * bc + i) j) = 32 * bc + ex_e _ (ex_pt (tk_nd kd wd) i j)
      rw [ih (by omega), ex_eq (es _ _ (by omega) q1), ex_eq q1, Nat.add_assoc]
  have lo : ∀ p, T p → p < 32 * bc := fun p tp => (t1 p tp).1
  have mono : ∀ {k w : Int32} {l : Nat}, tk_fit cc bc k w l → tk_fit cc (bc + 1) k w l := fun h => ⟨h.1, h.2.1, h.2.2.1, fun z => ⟨(h.2.2.2 z).1, by have := (h.2.2.2 z).2; omega⟩⟩
  have lvl : ∀ p, p < 32 * bc → (if p < 32 * bc then lv p else sh_lv kd wd (p - 32 * bc)) = lv p := fun p h => if_pos h
  have lvh : ∀ i, (if 32 * bc + i < 32 * bc then lv (32 * bc + i) else sh_lv kd wd (32 * bc + i - 32 * bc)) = sh_lv kd wd i := fun i => by
    rw [if_neg (by omega), Nat.add_sub_cancel_left]
  refine ⟨by omega, fun p tp => ?_, fun p tp => ?_, fun b hb => ?_, fun p tp e => ?_, fun p j tp e hj => ?_⟩
  · rcases tp with tp | ⟨h1, h2⟩
    · obtain ⟨c1, c2, c3, c4, c5⟩ := t1 p tp
      dsimp only
      rw [lvl p c1]
      exact ⟨by omega, c2, c3, c4, mono c5⟩
    · obtain ⟨i, rfl⟩ : ∃ i, p = 32 * bc + i := ⟨p - 32 * bc, by omega⟩
      obtain ⟨a1, a2, a3, a4, a5⟩ := tok i (by omega)
      dsimp only
      rw [lvh i, a1, a2, a3, a4]
      exact ⟨by omega, rfl, rfl, a5, mono (fit i (by omega))⟩
  · rcases tp with tp | ⟨h1, h2⟩
    · obtain ⟨m, m1, m2, m3⟩ := t2 p tp
      exact ⟨m, m1, m2, fun q q1 q2 => Or.inl (m3 q q1 q2)⟩
    · obtain ⟨i, rfl⟩ : ∃ i, p = 32 * bc + i := ⟨p - 32 * bc, by omega⟩
      obtain ⟨m, m1, m2, m3, m4⟩ := sh_at hs (show i < dc by omega)
      exact ⟨m, es i m m2 m1, by omega, fun q q1 q2 => Or.inr ⟨by omega, by omega⟩⟩
  · by_cases q : b = bc
    · subst q
      have hd := ex_pos hs
      refine ⟨Or.inr ⟨by omega, by omega⟩, ?_, dc, d32, hz, ?_⟩
      · have := lvh 0
        rw [Nat.add_zero] at this
        dsimp only
        rw [this]; rfl
      · have := es 0 dc (by omega) hs
        rw [Nat.add_zero] at this
        exact this
    · obtain ⟨a1, a2, a3⟩ := t3 b (by omega)
      refine ⟨Or.inl a1, ?_, a3⟩
      dsimp only
      rw [lvl _ (lo _ a1)]; exact a2
  · rcases tp with tp | ⟨h1, h2⟩
    · have hp := lo p tp
      obtain ⟨m, m1, m2, m3⟩ := t2 p tp
      have n1 : tk_nd K W p = 1 := by unfold tk_nd; rw [e]; rfl
      have h1 := ex_hd m1
      rw [n1] at h1
      have hm := ex_pos h1
      dsimp only
      rw [lvl p hp, lvl (p + 1) (lo _ (m3 (p + 1) (by omega) (by omega)))]
      exact t4 p tp e
    · obtain ⟨i, rfl⟩ : ∃ i, p = 32 * bc + i := ⟨p - 32 * bc, by omega⟩
      obtain ⟨_, _, a3, _⟩ := tok i (by omega)
      rw [a3] at e
      dsimp only
      have l1 := lvh (i + 1)
      rw [show 32 * bc + (i + 1) = 32 * bc + i + 1 by omega] at l1
      rw [lvh i, l1]
      exact (sh_lv4 hs (by omega) e).2
  · rcases tp with tp | ⟨h1, h2⟩
    · have hp := lo p tp
      obtain ⟨m, m1, m2, m3⟩ := t2 p tp
      obtain ⟨p1, p2, _⟩ := ex_part m1 hj
      dsimp only
      rw [lvl p hp, lvl _ (lo _ (m3 _ (by omega) p2))]
      exact t5 p j tp e hj
    · obtain ⟨i, rfl⟩ : ∃ i, p = 32 * bc + i := ⟨p - 32 * bc, by omega⟩
      obtain ⟨_, _, a3, _⟩ := tok i (by omega)
      rw [a3] at e
      rw [← nd i (by omega)] at hj
      dsimp only
      rw [pt i (by omega) j (by omega), lvh, lvh]
      exact sh_lv5 hs (by omega) e hj
theorem i_vc_body {k : Nat} {u : SX} {v : SY} (I : i_Rel k u v) (hk : k + 5 ≤ 2560) : wpX_body (fun r u' => wpY_body (fun r' v' => r' = r ∧ i_Rel (k + 5) u' v') v) u := by
  have J := i_up I
  obtain ⟨x_classCount, x_bodyCount, x_draftCount, x_wrongPlace, x_madeCount, x_frameCount, x_current, x_next, x_inHand, x_mode, x_outcome, x_stepCount, x_atWork, x_mostAtWork, x_saidCount, x_pendingCount, x_classParent, x_classFields, x_bound, x_tokenKind, x_tokenValue, x_globals, x_thingShown, x_thingClass, x_thingFields, x_thingToken, x_thingMaker, x_variables, x_homeOf, x_within, x_foundIn, x_baseFrame, x_frameToken, x_frameStage, x_frameLink, x_operands, x_saidValues, x_marked, x_pending⟩ := u
  obtain ⟨y_classes, y_bodies, y_fault, y_made, y_working, y_peak, y_steps, y_depth, y_waiting, y_code, y_running, y_has, y_got, y_todos, y_marks, y_shown, y_spoken, y_parent, y_fields, y_bound, y_kind, y_word, y_size, y_sort, y_number, y_stands, y_keeps, y_cells, y_globals, y_within, y_foundIn, y_self, y_args, y_temps, y_param, y_live, y_work, y_under, y_at, y_in, y_phase, y_base, y_goal, y_operands, y_marked, y_todo, y_heard⟩ := v
  obtain ⟨cc, bc, dc, mc, T, ST, SA, lv, τ, σ, lev, ho, ⟨rfl, rfl, rfl, rfl, rfl, rfl, a7⟩, h2, h3, ⟨C, B, TT, D⟩, h5, g, ⟨H, hU⟩, bf⟩ := I
  obtain ⟨d32, hd, dt⟩ := D
  have b12 := TT.1
  by_cases z : bc = 12
  · subst z
    exact br_t rfl (br_t rfl ⟨rfl, J⟩)
  · have z1 : ¬ nI bc = 12 := fun q => z ((nI_eq (b := 12) (by omega) (by decide)).mp q)
    have eX : nI bc * (32 : Int32) = nI (32 * bc) := by rw [Nat.mul_comm]; exact pk_mul bc 32
    obtain ⟨r, r1, r2, r3⟩ := sh_loop (x_wrongPlace := y_fault) (x_madeCount := x_madeCount) (x_frameCount := x_frameCount) (x_current := x_current) (x_next := x_next) (x_inHand := x_inHand) (x_mode := x_mode) (x_outcome := x_outcome) (x_stepCount := x_stepCount) (x_atWork := x_atWork) (x_mostAtWork := x_mostAtWork) (x_saidCount := x_saidCount) (x_pendingCount := x_pendingCount) (x_classParent := x_classParent) (x_classFields := x_classFields) (x_bound := x_bound) (x_tokenKind := x_tokenKind) (x_tokenValue := x_tokenValue) (x_globals := x_globals) (x_thingShown := x_thingShown) (x_thingClass := x_thingClass) (x_thingFields := x_thingFields) (x_thingToken := x_thingToken) (x_thingMaker := x_thingMaker) (x_variables := x_variables) (x_homeOf := x_homeOf) (x_within := x_within) (x_foundIn := x_foundIn) (x_baseFrame := x_baseFrame) (x_frameToken := x_frameToken) (x_frameStage := x_frameStage) (x_frameLink := x_frameLink) (x_operands := x_operands) (x_saidValues := x_saidValues) (x_marked := x_marked) (x_pending := x_pending) (y_fault := y_fault) (y_made := y_made) (y_working := y_working) (y_peak := y_peak) (y_steps := y_steps) (y_depth := y_depth) (y_waiting := y_waiting) (y_code := y_code) (y_running := y_running) (y_has := y_has) (y_got := y_got) (y_todos := y_todos) (y_marks := y_marks) (y_shown := y_shown) (y_spoken := y_spoken) (y_parent := y_parent) (y_fields := y_fields) (y_bound := y_bound) (y_kind := y_kind) (y_word := y_word) (y_size := y_size) (y_sort := y_sort) (y_number := y_number) (y_stands := y_stands) (y_keeps := y_keeps) (y_cells := y_cells) (y_globals := y_globals) (y_within := y_within) (y_foundIn := y_foundIn) (y_self := y_self) (y_args := y_args) (y_temps := y_temps) (y_param := y_param) (y_live := y_live) (y_work := y_work) (y_under := y_under) (y_at := y_at) (y_in := y_in) (y_phase := y_phase) (y_base := y_base) (y_goal := y_goal) (y_operands := y_operands) (y_marked := y_marked) (y_todo := y_todo) (y_heard := y_heard) (kd := fun i => y_kind (384 + i)) (wd := fun i => y_word (384 + i)) (cc := cc) (bc := bc) (dc := dc) C.1 C.2.1 TT (by omega) d32 hd dt (fun q hq => ⟨rfl, rfl, (dt q hq).2.2⟩) dc 0 1 (by omega) (by omega) (fun j hj => by omega) (fun n hn => by rw [Nat.zero_add]; exact hn)
    refine br_f z1 (nm_r eX ⟨dc + 1, r2 _ _ (by omega) ?_⟩)
    have szb : ∀ b, b < bc → upd y_size 12 0 b = y_size b := fun b hb => pk_un (by omega)
    have bad : ∀ q, q ≤ 32 → r = nI q → i_Rel (k + 5) (nI cc, nI bc, 0, r, x_madeCount, x_frameCount, x_current, x_next, x_inHand, x_mode, x_outcome, x_stepCount, x_atWork, x_mostAtWork, x_saidCount, x_pendingCount, x_classParent, x_classFields, x_bound, x_tokenKind, x_tokenValue, x_globals, x_thingShown, x_thingClass, x_thingFields, x_thingToken, x_thingMaker, x_variables, x_homeOf, x_within, x_foundIn, x_baseFrame, x_frameToken, x_frameStage, x_frameLink, x_operands, x_saidValues, x_marked, x_pending) (nI cc, nI bc, r, y_made, y_working, y_peak, y_steps, y_depth, y_waiting, y_code, y_running, y_has, y_got, y_todos, y_marks, y_shown, y_spoken, y_parent, y_fields, y_bound, y_kind, y_word, upd y_size 12 0, y_sort, y_number, y_stands, y_keeps, y_cells, y_globals, y_within, y_foundIn, y_self, y_args, y_temps, y_param, y_live, y_work, y_under, y_at, y_in, y_phase, y_base, y_goal, y_operands, y_marked, y_todo, y_heard) := fun q hq e =>
      ⟨cc, bc, 0, mc, T, ST, SA, lv, τ, σ, lev, ho, ⟨rfl, rfl, rfl, rfl, rfl, rfl, a7⟩, h2, h3, ⟨C, B, rl_Tsz TT (Nat.le_refl _) (fun p _ _ => ⟨rfl, rfl, rfl, rfl⟩) szb, ⟨by omega, pk_us, fun i hi => by omega⟩⟩, by omega, g, ⟨H, hU⟩, bf⟩
    have goY : ∀ post : Int32 → SY → Prop, ((r < 0 → vp_in (nI bc) 13 ∧ ∀ a_size : Nat → Int32, a_size = upd (upd y_size 12 0) (nI bc).toNatClampNeg (nI dc) → ∃ n47 : Nat, wY_body_47 post (nI dc) (nI cc) (nI bc) r y_made y_working y_peak y_steps y_depth y_waiting y_code y_running y_has y_got y_todos y_marks y_shown y_spoken n47 0 y_parent y_fields y_bound y_kind y_word a_size y_sort y_number y_stands y_keeps y_cells y_globals y_within y_foundIn y_self y_args y_temps y_param y_live y_work y_under y_at y_in y_phase y_base y_goal y_operands y_marked y_todo y_heard) ∧ (¬ r < 0 → post (-2) (nI cc, nI bc, r, y_made, y_working, y_peak, y_steps, y_depth, y_waiting, y_code, y_running, y_has, y_got, y_todos, y_marks, y_shown, y_spoken, y_parent, y_fields, y_bound, y_kind, y_word, upd y_size 12 0, y_sort, y_number, y_stands, y_keeps, y_cells, y_globals, y_within, y_foundIn, y_self, y_args, y_temps, y_param, y_live, y_work, y_under, y_at, y_in, y_phase, y_base, y_goal, y_operands, y_marked, y_todo, y_heard))) → wpY_body post (nI cc, nI bc, y_fault, y_made, y_working, y_peak, y_steps, y_depth, y_waiting, y_code, y_running, y_has, y_got, y_todos, y_marks, y_shown, y_spoken, y_parent, y_fields, y_bound, y_kind, y_word, y_size, y_sort, y_number, y_stands, y_keeps, y_cells, y_globals, y_within, y_foundIn, y_self, y_args, y_temps, y_param, y_live, y_work, y_under, y_at, y_in, y_phase, y_base, y_goal, y_operands, y_marked, y_todo, y_heard) := fun post h => by
      refine br_f z1 ⟨dc + 1, r3 _ _ (by omega) ?_⟩
      refine nm_r hd (nm_e ?_)
      exact h
    rcases r1 with ⟨rfl, hs, fit⟩ | ⟨q, q1, rfl⟩
    · refine br_t rfl (nm_r (nI_1 bc) ?_)
      rw [show nI (bc + 1) - 1 = nI bc from nI_pred bc]
      refine goY _ (br_t (by decide) ⟨vp_in_nI (by omega) (by decide), ?_⟩)
      rw [nI_clamp (show bc < 2 ^ 31 by omega)]
      refine nm_e ?_
      refine loop_0 (fun n i (ss : (Nat → Int32) × (Nat → Int32)) => wY_body_47 _ (nI dc) (nI cc) (nI bc) (-1) y_made y_working y_peak y_steps y_depth y_waiting y_code y_running y_has y_got y_todos y_marks y_shown y_spoken n (nI i) y_parent y_fields y_bound (ss.1) (ss.2) (upd (upd y_size 12 0) bc (nI dc)) y_sort y_number y_stands y_keeps y_cells y_globals y_within y_foundIn y_self y_args y_temps y_param y_live y_work y_under y_at y_in y_phase y_base y_goal y_operands y_marked y_todo y_heard) (fun i ss => i ≤ dc → ss = (cp_f y_kind (32 * bc) i, cp_f y_word (32 * bc) i)) dc (y_kind, y_word) (fun _ => by rw [cp_0, cp_0]) ?_ ?_
      · intro n ss I
        have I := I (Nat.le_refl _)
        subst I
        refine br_t (nI_le (Nat.le_refl _) (by omega)) (nm_r (nI_1 bc) ⟨rfl, ?_⟩)
        have T0 := rl_Tsz (cc' := cc) (KX' := x_tokenKind) (WX' := x_tokenValue) (K' := cp_f y_kind (32 * bc) dc) (W' := cp_f y_word (32 * bc) dc) (sz' := upd (upd y_size 12 0) bc (nI dc)) TT (Nat.le_refl _) (fun p _ hp => ⟨rfl, rfl, cp_o (Or.inl hp), cp_o (Or.inl hp)⟩) (fun b hb => by rw [pk_un (by omega)]; exact szb b hb)
        have T1 := rl_add (kd := fun i => y_kind (384 + i)) (wd := fun i => y_word (384 + i)) T0 (by omega) d32 pk_us (fun i hi => ⟨(dt i hi).1, (dt i hi).2.1, cp_i hi, cp_i hi, (dt i hi).2.2⟩) hs fit
        refine ⟨cc, bc + 1, 0, mc, _, ST, SA, _, τ, σ, lev, ho, ⟨rfl, rfl, rfl, rfl, rfl, rfl, a7⟩, h2, h3, ⟨C, ⟨by omega, fun i hi => ?_⟩, T1, ⟨by omega, ?_, fun i hi => by omega⟩⟩, by omega, g, ⟨?_, hU⟩, bf⟩
        · rcases B.2 i hi with q | ⟨b, q1, q2⟩
          · exact Or.inl q
          · exact Or.inr ⟨b, by omega, q2⟩
        · rw [pk_un (by omega)]; exact pk_us
        · refine hp_TK H fun p tp => ?_
          have hp := (TT.2.1 p tp).1
          exact ⟨Or.inl tp, if_pos hp, cp_o (Or.inl hp)⟩
      · intro n i ss hi I k
        have I := I (by omega)
        subst I
        have e1 : (384 : Int32) + nI i = nI (384 + i) := nI_add 384 i
        have e2 : (32 : Int32) * nI bc + nI i = nI (32 * bc + i) := ix_l 32 bc i
        have v1 : vp_in (nI (384 + i)) 416 := vp_in_nI (by omega) (by decide)
        have v2 : vp_in (nI (32 * bc + i)) 416 := vp_in_nI (by omega) (by decide)
        refine br_f (nI_ge hi (by omega)) ?_
        rw [e1, e2, nI_clamp (show 384 + i < 2 ^ 31 by omega), nI_clamp (show 32 * bc + i < 2 ^ 31 by omega)]
        exact ⟨v1, v2, nm_r (cp_s (by omega)) ⟨v1, v2, nm_r (cp_s (by omega)) (nm_r (nI_1 i) (k (cp_f y_kind (32 * bc) (i + 1), cp_f y_word (32 * bc) (i + 1)) fun _ => rfl))⟩⟩
    · exact br_f (gx_m1 (by omega)) (goY _ (br_f (nI_pos (by omega)) ⟨rfl, bad q q1 rfl⟩))
