/-! a way out that comes to its HOME -/
section
variable {x_classCount x_bodyCount x_draftCount x_wrongPlace x_madeCount x_frameCount x_current x_next x_mode x_outcome x_stepCount x_atWork x_mostAtWork x_saidCount x_pendingCount : Int32} {x_inHand : Int64} {x_classParent x_classFields x_bound x_tokenKind x_tokenValue x_thingClass x_thingToken x_thingMaker x_homeOf x_within x_foundIn x_baseFrame x_frameToken x_frameStage x_frameLink x_marked x_pending : Nat → Int32} {x_globals x_thingShown x_thingFields x_variables x_operands x_saidValues : Nat → Int64}
variable {y_classes y_bodies y_fault y_made y_working y_peak y_steps y_depth y_waiting y_code y_running y_has y_todos y_marks y_spoken : Int32} {y_got y_shown : Int64} {y_parent y_fields y_bound y_kind y_word y_size y_sort y_number y_stands y_keeps y_within y_foundIn y_live y_work y_under y_at y_in y_phase y_base y_goal y_marked y_todo : Nat → Int32} {y_cells y_globals y_self y_args y_temps y_param y_operands y_heard : Nat → Int64}
variable {cc bc dc mc st sp d w np md B M : Nat} {T ST SA : Nat → Prop} {lv τ σ lev ho fa ph bs ow gg wk un rt : Nat → Nat}
theorem lv_73 (A : rn_A cc bc dc mc T ST SA lv τ σ lev ho x_tokenKind x_tokenValue y_kind y_word y_size y_parent y_fields y_bound x_globals y_globals x_thingShown x_thingClass x_thingFields x_thingToken x_thingMaker x_variables x_homeOf x_within x_foundIn y_sort y_number y_stands y_keeps y_cells y_within y_foundIn y_self y_args y_temps y_param) (F : rn_F T ST SA lv σ lev ho y_kind y_word fa ph bs ow gg wk un rt d w y_sort y_number x_frameToken x_frameStage x_frameLink x_operands x_baseFrame y_operands y_self y_at y_in y_phase y_base y_goal y_work y_under y_live) {yv : Int64} {g : Nat} (hg : g < w) {Q : SY → Prop} (h : ((nI (un g) = 0 → Q (nI cc, nI bc, y_fault, nI mc, nI g, y_peak, nI st, nI (un g), y_waiting, y_code, 1, 1, yv, y_todos, y_marks, -10000000000, nI sp, y_parent, y_fields, y_bound, y_kind, y_word, y_size, y_sort, y_number, y_stands, y_keeps, y_cells, y_globals, y_within, y_foundIn, y_self, y_args, y_temps, y_param, ct_w y_live wk w 0 (w - g), y_work, y_under, y_at, y_in, y_phase, y_base, y_goal, y_operands, y_marked, y_todo, y_heard)) ∧ (¬ nI (un g) = 0 → wpY_finish Q (nI cc, nI bc, y_fault, nI mc, nI g, y_peak, nI st, nI (un g), y_waiting, y_code, 1, 0, y_got, y_todos, y_marks, -10000000000, nI sp, y_parent, y_fields, y_bound, y_kind, y_word, y_size, y_sort, y_number, y_stands, y_keeps, y_cells, y_globals, y_within, y_foundIn, y_self, y_args, y_temps, y_param, ct_w y_live wk w 0 (w - g), y_work, y_under, y_at, y_in, y_phase, y_base, y_goal, y_operands, y_marked, y_todo, y_heard) yv))) : wY_leave_28 Q (nI (wk g)) yv (nI g) (nI cc) (nI bc) y_fault (nI mc) (nI w) y_peak (nI st) y_depth y_waiting y_code 1 0 y_got y_todos y_marks (-10000000000) (nI sp) y_parent y_fields y_bound y_kind y_word y_size y_sort y_number y_stands y_keeps y_cells y_globals y_within y_foundIn y_self y_args y_temps y_param y_live y_work y_under y_at y_in y_phase y_base y_goal y_operands y_marked y_todo y_heard 1 (nI (un g) - 1) := by
  have S := F.1
  have w12 := S.2.1
  have ub : un g < 500 := by
    cases g with
    | zero => rw [S.2.2.1]; omega
    | succ i =>
      obtain ⟨p, p1, p2, _⟩ := S.2.2.2.2.2.2.2 i hg
      have := (rn_fr A F p1).1
      omega
  have uy := (F.2.1.2 g hg).2
  have vg : vp_in (nI g) 12 := vp_in_nI (by omega) (by decide)
  have lt : nI (un g) - 1 < nI (un g) := by
    cases hu : un g with
    | zero => decide
    | succ u => rw [nI_pred]; exact nI_lt (by omega) (by omega)
  unfold wY_leave_28
  rw [nI_clamp (show g < 2 ^ 31 by omega), uy]
  refine ⟨vg, br_t lt ?_⟩
  unfold wY_leave_73
  rw [nI_clamp (show g < 2 ^ 31 by omega), uy]
  refine ⟨vg, br_f (Int32.not_le.mpr lt) ⟨vg, ?_⟩⟩
  refine yl_cut A F (c := un g) (v := g) (by omega) (by omega) (fun i i1 i2 => ?_) (fun i i1 => fr_unm S i1 hg) ?_
  · by_cases z : i = g
    · subst z; exact Nat.le_refl _
    · exact Nat.le_of_lt (fr_unm S (show g < i by omega) i2)
  · exact h
theorem lv_home0 {g : Nat} (A : rn_A cc bc dc mc T ST SA lv τ σ lev ho x_tokenKind x_tokenValue y_kind y_word y_size y_parent y_fields y_bound x_globals y_globals x_thingShown x_thingClass x_thingFields x_thingToken x_thingMaker x_variables x_homeOf x_within x_foundIn y_sort y_number y_stands y_keeps y_cells y_within y_foundIn y_self y_args y_temps y_param) (F : rn_F T ST SA lv σ lev ho y_kind y_word fa ph bs ow gg wk un rt d w y_sort y_number x_frameToken x_frameStage x_frameLink x_operands x_baseFrame y_operands y_self y_at y_in y_phase y_base y_goal y_work y_under y_live) {xv yv : Int64} (hg : g < w) (hv : hp_v ST (hp_s y_sort y_number) xv yv) (hu : un g = 0) (no : ∀ s, un g ≤ s → s < d → ¬ (y_kind (fa s) = 27 ∧ ph s = 0)) (hB : mc ≤ B) :
    ∃ u1 v1, (∀ Q : SX → Prop, Q u1 → wpX_goHome Q (nI cc, nI bc, nI dc, y_fault, nI mc, nI (fr_x y_kind fa ph d), nI (σ (wk (w - 1))), x_next, x_inHand, 1, 100, nI st, nI w, y_peak, nI sp, x_pendingCount, y_parent, y_fields, y_bound, x_tokenKind, x_tokenValue, x_globals, x_thingShown, x_thingClass, x_thingFields, x_thingToken, x_thingMaker, x_variables, x_homeOf, x_within, x_foundIn, x_baseFrame, x_frameToken, x_frameStage, x_frameLink, x_operands, y_heard, x_marked, x_pending) (nI (σ (wk g))) xv) ∧ (∀ Q : SY → Prop, Q v1 → ∃ n28, wY_leave_28 Q (nI (wk g)) yv (nI g) (nI cc) (nI bc) y_fault (nI mc) (nI w) y_peak (nI st) y_depth y_waiting y_code 1 0 y_got y_todos y_marks (-10000000000) (nI sp) y_parent y_fields y_bound y_kind y_word y_size y_sort y_number y_stands y_keeps y_cells y_globals y_within y_foundIn y_self y_args y_temps y_param y_live y_work y_under y_at y_in y_phase y_base y_goal y_operands y_marked y_todo y_heard n28 (nI d - 1)) ∧ rn_Lv B M u1 v1 := by
  have S := F.1
  have w12 := S.2.1
  obtain rfl : g = 0 := by
    cases g with
    | zero => rfl
    | succ g =>
      have := fr_unm S (show 0 < g + 1 by omega) hg
      omega
  rw [hu] at no
  have lo : fr_lo ph ow un 0 0 := ⟨fun _ => rfl, fun q e => by omega⟩
  obtain ⟨vw, np', dX, dY⟩ := lv_down (x_next := x_next) (x_inHand := x_inHand) (x_pendingCount := x_pendingCount) (x_marked := x_marked) (x_pending := x_pending) (y_depth := y_depth) (y_waiting := y_waiting) (y_code := y_code) (y_got := y_got) (y_todos := y_todos) (y_marks := y_marks) (y_marked := y_marked) (y_todo := y_todo) (y_fault := y_fault) (y_peak := y_peak) (y_heard := y_heard) (st := st) (sp := sp) A F (xv := xv) (yv := yv) hg (t := 0) (v' := 0) (by omega) (by omega) lo no
  have W' := cut_W A F (v := 0) (by omega)
  have cl := (A.2.2.1.2.1 _ (F.2.2.2.1 0 hg).1).2.1
  have mcl := A.2.2.2.1.1
  have x0 : fr_x y_kind fa ph 0 = 1 := by unfold fr_x; rfl
  have e0 : nI (fr_x y_kind fa ph 0) - 1 = nI 0 := by rw [x0]; exact nI_pred 0
  have l73 := fun (Q : SY → Prop) h => lv_73 (y_depth := y_depth) (y_waiting := y_waiting) (y_code := y_code) (y_got := y_got) (y_todos := y_todos) (y_marks := y_marks) (y_marked := y_marked) (y_todo := y_todo) (y_fault := y_fault) (y_peak := y_peak) (y_heard := y_heard) (st := st) (sp := sp) A F (yv := yv) hg (Q := Q) h
  rw [hu] at l73
  refine ⟨(nI cc, nI bc, nI dc, y_fault, nI mc, nI (fr_x y_kind fa ph 0), nI (σ (wk 0)), np', xv, 1, 100, nI st, nI (0 + 1), y_peak, nI sp, x_pendingCount, y_parent, y_fields, y_bound, x_tokenKind, x_tokenValue, x_globals, x_thingShown, x_thingClass, x_thingFields, x_thingToken, x_thingMaker, x_variables, x_homeOf, x_within, x_foundIn, ct_w x_baseFrame (fun i => σ (wk i)) w (-1) (w - (0 + 1)), x_frameToken, x_frameStage, x_frameLink, x_operands, y_heard, x_marked, x_pending), (nI cc, nI bc, y_fault, nI mc, nI 0, y_peak, nI st, nI 0, y_waiting, y_code, 1, 1, yv, y_todos, y_marks, -10000000000, nI sp, y_parent, y_fields, y_bound, y_kind, y_word, y_size, y_sort, y_number, y_stands, y_keeps, y_cells, y_globals, y_within, y_foundIn, y_self, y_args, y_temps, y_param, ct_w y_live wk w 0 (w - 0), y_work, y_under, y_at, y_in, y_phase, y_base, y_goal, y_operands, y_marked, y_todo, y_heard), fun Q q => dX Q 1 ?_, fun Q q => dY Q (l73 Q (br_t rfl q)), Or.inr ⟨(nI cc, nI bc, nI dc, y_fault, nI mc, nI 0, x_frameLink 0, x_frameStage 0, xv, 1, 0, nI st, nI 0, y_peak, nI sp, x_pendingCount, y_parent, y_fields, y_bound, x_tokenKind, x_tokenValue, x_globals, x_thingShown, x_thingClass, x_thingFields, x_thingToken, x_thingMaker, x_variables, x_homeOf, x_within, x_foundIn, upd (ct_w x_baseFrame (fun i => σ (wk i)) w (-1) (w - (0 + 1))) (σ (wk 0)) (-1), x_frameToken, x_frameStage, x_frameLink, x_operands, y_heard, x_marked, x_pending), (nI cc, nI bc, y_fault, nI mc, nI 0, y_peak, nI st, nI 0, y_waiting, 0, 0, 0, yv, y_todos, y_marks, xv, nI sp, y_parent, y_fields, y_bound, y_kind, y_word, y_size, y_sort, y_number, y_stands, y_keeps, y_cells, y_globals, y_within, y_foundIn, y_self, y_args, y_temps, y_param, ct_w y_live wk w 0 (w - 0), y_work, y_under, y_at, y_in, y_phase, y_base, y_goal, y_operands, y_marked, y_todo, y_heard), fun PX tm ht k => xt_hand (by omega) (fun Q q => ?_) k, fun PY m k => yt_deliver (fun Q q => ?_) k, Or.inl ⟨cc, bc, dc, mc, 0, T, ST, SA, lv, τ, σ, lev, ho, ⟨rfl, rfl, rfl, rfl, rfl, rfl, rfl, rfl, rfl, rfl, rfl, rfl⟩, ⟨rfl, rfl, rfl, rfl, rfl, by omega⟩, ⟨by decide, rfl, Or.inl ⟨rfl, rfl⟩⟩, A, hB, fun i hi => by omega, fun a ha => ?_⟩⟩⟩
  · unfold wX_goHome_16
    rw [hu, e0]
    refine br_t ?_ q
    rw [x0]
    decide
  · unfold wpX_handOn
    dsimp only
    rw [e0]
    refine nm_e ⟨vp_in_nI (by decide) (by decide), nm_r (show x_frameToken (nI 0).toNatClampNeg = -1 from F.2.2.1.1.1) (br_t rfl ?_)⟩
    exact xw_endAct (fc := 0) (c := σ (wk 0)) (w := 0) (by decide) cl (br_t rfl q)
  · unfold wpY_deliver
    dsimp only
    refine nm_e (br_f (by decide) (yv_show A.2.2.1 (by omega) hv ?_))
    exact q
  · obtain ⟨l1, l2⟩ := W'.2.2.2 a ha
    rcases l1 with z | z
    · exact Or.inl z
    · obtain ⟨i, i1, _⟩ := l2.mp z
      omega
theorem lv_home {p g q : Nat} (A : rn_A cc bc dc mc T ST SA lv τ σ lev ho x_tokenKind x_tokenValue y_kind y_word y_size y_parent y_fields y_bound x_globals y_globals x_thingShown x_thingClass x_thingFields x_thingToken x_thingMaker x_variables x_homeOf x_within x_foundIn y_sort y_number y_stands y_keeps y_cells y_within y_foundIn y_self y_args y_temps y_param) (F : rn_F T ST SA lv σ lev ho y_kind y_word fa ph bs ow gg wk un rt p w y_sort y_number x_frameToken x_frameStage x_frameLink x_operands x_baseFrame y_operands y_self y_at y_in y_phase y_base y_goal y_work y_under y_live) {xv yv : Int64} (hg : g < w) (hv : hp_v ST (hp_s y_sort y_number) xv yv) (hu : un g = q + 1) (no : ∀ s, un g ≤ s → s < p → ¬ (y_kind (fa s) = 27 ∧ ph s = 0)) (hm : 1 ≤ md) (n : rn_n B (M + 1) mc st sp (rn_mu (tk_nd y_kind y_word) fa un rt st (p + 1) w (ex_e (tk_nd y_kind y_word) (fa p)) md)) :
    ∃ u1 v1, (∀ Q : SX → Prop, Q u1 → wpX_goHome Q (nI cc, nI bc, nI dc, y_fault, nI mc, nI (fr_x y_kind fa ph p), nI (σ (wk (w - 1))), x_next, x_inHand, 1, 100, nI st, nI w, y_peak, nI sp, x_pendingCount, y_parent, y_fields, y_bound, x_tokenKind, x_tokenValue, x_globals, x_thingShown, x_thingClass, x_thingFields, x_thingToken, x_thingMaker, x_variables, x_homeOf, x_within, x_foundIn, x_baseFrame, x_frameToken, x_frameStage, x_frameLink, x_operands, y_heard, x_marked, x_pending) (nI (σ (wk g))) xv) ∧ (∀ Q : SY → Prop, Q v1 → ∃ n28, wY_leave_28 Q (nI (wk g)) yv (nI g) (nI cc) (nI bc) y_fault (nI mc) (nI w) y_peak (nI st) y_depth y_waiting y_code 1 0 y_got y_todos y_marks (-10000000000) (nI sp) y_parent y_fields y_bound y_kind y_word y_size y_sort y_number y_stands y_keeps y_cells y_globals y_within y_foundIn y_self y_args y_temps y_param y_live y_work y_under y_at y_in y_phase y_base y_goal y_operands y_marked y_todo y_heard n28 (nI p - 1)) ∧ rn_Lv B M u1 v1 := by
  have S := F.1
  have w12 := S.2.1
  obtain ⟨v, rfl⟩ : ∃ v, g = v + 1 := by
    cases g with
    | zero => have := S.2.2.1; omega
    | succ v => exact ⟨v, rfl⟩
  obtain ⟨q', q1, q2, q3, q4⟩ := S.2.2.2.2.2.2.2 v hg
  obtain rfl : q' = q := by omega
  obtain ⟨f1, f2, f3, f4, f5, f6, f7⟩ := S.2.2.2.2.1 q' q1
  obtain ⟨y1, y2, y3, y4, y5⟩ := F.2.1.1 q' q1
  obtain ⟨b1, b2, b3, b4⟩ := rn_fr A F q1
  have nt : ¬ fr_tail (y_kind (fa q')) (ph q') := fun z => by rcases z with ⟨_, z⟩ | ⟨_, z⟩ <;> omega
  have xr : fr_x y_kind fa ph (q' + 1) = fr_x y_kind fa ph q' + 1 := by
    show _ + ct_b _ = _
    rw [ct_bt nt]
  have xle := fr_xle (K := y_kind) (fa := fa) (ph := ph) q'
  have hxr : fr_x y_kind fa ph q' < 385 := by omega
  obtain ⟨xtk, xsg, xlk, _⟩ := (F.2.2.1.2 q' q1 nt).1 q3
  have xrc : (nI (fr_x y_kind fa ph q')).toNatClampNeg = fr_x y_kind fa ph q' := nI_clamp (by omega)
  have lo : fr_lo ph ow un (q' + 1) (v + 1) := ⟨fun e => by omega, fun r e => by
    obtain rfl : r = q' := by omega
    exact ⟨fun _ => ⟨by omega, hu⟩, fun z => absurd q3 z⟩⟩
  obtain ⟨vw, np', dX, dY⟩ := lv_down (x_next := x_next) (x_inHand := x_inHand) (x_pendingCount := x_pendingCount) (x_marked := x_marked) (x_pending := x_pending) (y_depth := y_depth) (y_waiting := y_waiting) (y_code := y_code) (y_got := y_got) (y_todos := y_todos) (y_marks := y_marks) (y_marked := y_marked) (y_todo := y_todo) (y_fault := y_fault) (y_peak := y_peak) (y_heard := y_heard) (st := st) (sp := sp) A F (xv := xv) (yv := yv) hg (t := q' + 1) (v' := v + 1) (by omega) (by omega) lo (fun s s1 s2 => no s (by omega) s2)
  have W' := cut_W A F (v := v + 1) (by omega)
  have S' := fr_res S q1
  rw [q4] at S'
  have F' := rn_low (d' := q') (w' := v + 1) (aat' := y_at) (ain' := y_in) (aph' := y_phase) (aba' := y_base) (ago' := y_goal) (xtk' := x_frameToken) (xsg' := x_frameStage) (xlk' := x_frameLink) (xop' := x_operands) (yop' := y_operands) F (by omega) (by omega) S' (fun _ _ => ⟨rfl, rfl, rfl, rfl, rfl⟩) (fun _ _ => ⟨rfl, rfl, rfl⟩) (fun _ _ => rfl) (fun _ _ => rfl) W'
  have cl := (A.2.2.1.2.1 _ (F.2.2.2.1 (v + 1) hg).1).2.1
  have l73 := fun (Q : SY → Prop) h => lv_73 (y_depth := y_depth) (y_waiting := y_waiting) (y_code := y_code) (y_got := y_got) (y_todos := y_todos) (y_marks := y_marks) (y_marked := y_marked) (y_todo := y_todo) (y_fault := y_fault) (y_peak := y_peak) (y_heard := y_heard) (st := st) (sp := sp) A F (yv := yv) hg (Q := Q) h
  rw [hu] at l73
  have mu : rn_n B M mc st sp (rn_mu (tk_nd y_kind y_word) fa un rt st q' (v + 1) (ex_e (tk_nd y_kind y_word) (fa q')) 2) := by
    obtain ⟨n1, n2, n3, n4⟩ := n
    refine ⟨n1, ?_⟩
    have sl := fr_sumle (f := fun i => 10 * (ex_e (tk_nd y_kind y_word) (rt i) - ex_e (tk_nd y_kind y_word) (fa (un (i + 1) - 1)))) (a := v + 1) (b := w - 1) (by omega)
    have ss : fr_sum (fun i => 10 * (ex_e (tk_nd y_kind y_word) (rt i) - ex_e (tk_nd y_kind y_word) (fa (un (i + 1) - 1)))) (v + 1) = fr_sum (fun i => 10 * (ex_e (tk_nd y_kind y_word) (rt i) - ex_e (tk_nd y_kind y_word) (fa (un (i + 1) - 1)))) v + 10 * (ex_e (tk_nd y_kind y_word) (rt v) - ex_e (tk_nd y_kind y_word) (fa q')) := by
      show fr_sum _ v + _ = _
      dsimp only
      rw [q2]; rfl
    rw [ss] at sl
    unfold rn_mu at n2 n3 n4 ⊢
    rw [show v + 1 - 1 = v by omega]
    omega
  refine ⟨(nI cc, nI bc, nI dc, y_fault, nI mc, nI (fr_x y_kind fa ph (q' + 1)), nI (σ (wk (v + 1))), np', xv, 1, 100, nI st, nI (v + 1 + 1), y_peak, nI sp, x_pendingCount, y_parent, y_fields, y_bound, x_tokenKind, x_tokenValue, x_globals, x_thingShown, x_thingClass, x_thingFields, x_thingToken, x_thingMaker, x_variables, x_homeOf, x_within, x_foundIn, ct_w x_baseFrame (fun i => σ (wk i)) w (-1) (w - (v + 1 + 1)), x_frameToken, x_frameStage, x_frameLink, x_operands, y_heard, x_marked, x_pending), (nI cc, nI bc, y_fault, nI mc, nI (v + 1), y_peak, nI st, nI q', nI (bs q'), y_code, 1, 1, yv, y_todos, y_marks, -10000000000, nI sp, y_parent, y_fields, y_bound, y_kind, y_word, y_size, y_sort, y_number, y_stands, y_keeps, y_cells, y_globals, y_within, y_foundIn, y_self, y_args, y_temps, y_param, ct_w y_live wk w 0 (w - (v + 1)), y_work, y_under, y_at, y_in, y_phase, y_base, y_goal, y_operands, y_marked, y_todo, y_heard), fun Q q => dX Q 1 ?_, fun Q q => dY Q (l73 Q (br_f (nI_ne0 (by omega) (by omega)) ?_)), Or.inr ⟨(nI cc, nI bc, nI dc, y_fault, nI mc, nI (fr_x y_kind fa ph q'), nI (σ (wk ((v + 1) - 1))), nI (ex_e (tk_nd y_kind y_word) (fa q')), xv, 1, 100, nI st, nI (v + 1), y_peak, nI sp, x_pendingCount, y_parent, y_fields, y_bound, x_tokenKind, x_tokenValue, x_globals, x_thingShown, x_thingClass, x_thingFields, x_thingToken, x_thingMaker, x_variables, x_homeOf, x_within, x_foundIn, ct_w x_baseFrame (fun i => σ (wk i)) w (-1) (w - (v + 1)), x_frameToken, x_frameStage, x_frameLink, x_operands, y_heard, x_marked, x_pending), (nI cc, nI bc, y_fault, nI mc, nI (v + 1), y_peak, nI st, nI q', nI (bs q'), y_code, 1, 1, yv, y_todos, y_marks, -10000000000, nI sp, y_parent, y_fields, y_bound, y_kind, y_word, y_size, y_sort, y_number, y_stands, y_keeps, y_cells, y_globals, y_within, y_foundIn, y_self, y_args, y_temps, y_param, ct_w y_live wk w 0 (w - (v + 1)), y_work, y_under, y_at, y_in, y_phase, y_base, y_goal, y_operands, y_marked, y_todo, y_heard), fun PX tm ht k => xt_hand (by omega) (fun Q q => ?_) k, fun PY m k => YL_mono k (by omega), Or.inr ⟨cc, bc, dc, mc, st, sp, q', v + 1, ex_e (tk_nd y_kind y_word) (fa q'), 2, T, ST, SA, lv, τ, σ, lev, ho, fa, ph, bs, ow, gg, wk, un, rt, ⟨rfl, rfl, rfl, rfl, rfl, rfl, rfl, rfl, rfl, rfl, rfl, rfl, rfl, rfl, rfl, rfl, rfl⟩, ⟨rfl, rfl, rfl, rfl, rfl, rfl, rfl, rfl, rfl, rfl⟩, A, F', Or.inl ⟨rfl, rfl, rfl, hv, fa q', by rw [show v + 1 - 1 = ow q' by omega]; exact f4, f1, rfl⟩, mu⟩⟩⟩
  · unfold wX_goHome_16
    rw [hu]
    refine br_t ?_ q
    rw [xr, nI_pred, Nat.add_sub_cancel]
    exact nI_le (Nat.le_refl _) (by omega)
  · exact yw_finish (by omega) y4 q
  · unfold wpX_handOn
    dsimp only
    rw [xr, nI_pred]
    refine nm_e ?_
    rw [xrc, xtk]
    refine ⟨vp_in_nI hxr (by decide), nm_e (br_t rfl ?_)⟩
    refine xw_endAct (fc := fr_x y_kind fa ph q') (c := σ (wk (v + 1))) (w := v + 1) hxr cl ?_
    refine br_f (nI_ne0 (by omega) (by omega)) ?_
    dsimp only
    rw [xsg, xlk, q4]
    rw [show upd (ct_w x_baseFrame (fun i => σ (wk i)) w (-1) (w - (v + 1 + 1))) (σ (wk (v + 1))) (-1) = ct_w x_baseFrame (fun i => σ (wk i)) w (-1) (w - (v + 1)) from ct_ws (pl := fun i => σ (wk i)) hg]
    exact q
theorem lv_core {p g : Nat} (A : rn_A cc bc dc mc T ST SA lv τ σ lev ho x_tokenKind x_tokenValue y_kind y_word y_size y_parent y_fields y_bound x_globals y_globals x_thingShown x_thingClass x_thingFields x_thingToken x_thingMaker x_variables x_homeOf x_within x_foundIn y_sort y_number y_stands y_keeps y_cells y_within y_foundIn y_self y_args y_temps y_param) (F0 : rn_F T ST SA lv σ lev ho y_kind y_word fa ph bs ow gg wk un rt (p + 1) w y_sort y_number x_frameToken x_frameStage x_frameLink x_operands x_baseFrame y_operands y_self y_at y_in y_phase y_base y_goal y_work y_under y_live) (hp : ph p ≠ 100) {xv yv : Int64} (hg : g < w) (hv : hp_v ST (hp_s y_sort y_number) xv yv) (hm : 1 ≤ md) (n : rn_n B (M + 1) mc st sp (rn_mu (tk_nd y_kind y_word) fa un rt st (p + 1) w (ex_e (tk_nd y_kind y_word) (fa p)) md)) :
    ∃ u1 v1, (∀ Q : SX → Prop, Q u1 → wpX_goHome Q (nI cc, nI bc, nI dc, y_fault, nI mc, nI (fr_x y_kind fa ph p), nI (σ (wk (w - 1))), x_next, x_inHand, 1, 100, nI st, nI w, y_peak, nI sp, x_pendingCount, y_parent, y_fields, y_bound, x_tokenKind, x_tokenValue, x_globals, x_thingShown, x_thingClass, x_thingFields, x_thingToken, x_thingMaker, x_variables, x_homeOf, x_within, x_foundIn, x_baseFrame, x_frameToken, x_frameStage, x_frameLink, x_operands, y_heard, x_marked, x_pending) (nI (σ (wk g))) xv) ∧ (∀ Q : SY → Prop, Q v1 → ∃ n28, wY_leave_28 Q (nI (wk g)) yv (nI g) (nI cc) (nI bc) y_fault (nI mc) (nI w) y_peak (nI st) y_depth y_waiting y_code 1 0 y_got y_todos y_marks (-10000000000) (nI sp) y_parent y_fields y_bound y_kind y_word y_size y_sort y_number y_stands y_keeps y_cells y_globals y_within y_foundIn y_self y_args y_temps y_param y_live y_work y_under y_at y_in y_phase y_base y_goal y_operands y_marked y_todo y_heard n28 (nI p - 1)) ∧ rn_Lv B M u1 v1 := by
  have F := rn_pop A F0 hp (aph' := y_phase) (fun _ _ => rfl)
  rcases lt_one (P := fun s => y_kind (fa s) = 27 ∧ ph s = 0) (u := un g) p with ⟨e, e1, e2, ⟨e3, e4⟩, e5⟩ | no
  · obtain ⟨u1, v1, a, b, c⟩ := lv_ens (x_next := x_next) (x_inHand := x_inHand) (x_pendingCount := x_pendingCount) (x_marked := x_marked) (x_pending := x_pending) (y_depth := y_depth) (y_waiting := y_waiting) (y_code := y_code) (y_got := y_got) (y_todos := y_todos) (y_marks := y_marks) (y_marked := y_marked) (y_todo := y_todo) (y_fault := y_fault) (y_peak := y_peak) (y_heard := y_heard) (st := st) (sp := sp) A F0 F hp hg hv e1 e2 e3 e4 (fun s s1 s2 => e5 s (by omega) s2) hm n
    exact ⟨u1, v1, a, b, Or.inl c⟩
  · cases hu : un g with
    | zero => exact lv_home0 A F hg hv hu no (by have := n.2.2.2; omega)
    | succ q => exact lv_home A F hg hv hu no hm n
end
