/-! making, its outcome named -/
section
variable {x_classCount x_bodyCount x_draftCount x_wrongPlace x_madeCount x_frameCount x_current x_next x_mode x_outcome x_stepCount x_atWork x_mostAtWork x_saidCount x_pendingCount : Int32} {x_inHand : Int64} {x_classParent x_classFields x_bound x_tokenKind x_tokenValue x_thingClass x_thingToken x_thingMaker x_homeOf x_within x_foundIn x_baseFrame x_frameToken x_frameStage x_frameLink x_marked x_pending : Nat → Int32} {x_globals x_thingShown x_thingFields x_variables x_operands x_saidValues : Nat → Int64}
variable {y_classes y_bodies y_fault y_made y_working y_peak y_steps y_depth y_waiting y_code y_running y_has y_todos y_marks y_spoken : Int32} {y_got y_shown : Int64} {y_parent y_fields y_bound y_kind y_word y_size y_sort y_number y_stands y_keeps y_within y_foundIn y_live y_work y_under y_at y_in y_phase y_base y_goal y_marked y_todo : Nat → Int32} {y_cells y_globals y_self y_args y_temps y_param y_operands y_heard : Nat → Int64}
variable {cc bc dc mc k : Nat} {T ST SA : Nat → Prop} {lv τ σ lev ho : Nat → Nat}
theorem xd_make {p0 : Int64} {c : Int32} {fc : Nat} (hfc : x_frameCount = nI fc) (hfl : fc * 3 ≤ 1155) (hm : ∀ m, m < 24 → gx_P (x_thingMaker m)) (hw : ∀ a, a < 128 → gx_P (x_within a)) :
    ∃ mk td t, (∀ n, n < 152 → (mk n = 1 ↔ cl_r (gx_R x_thingShown x_globals x_operands fc x_baseFrame) (gx_E x_thingShown x_thingFields x_thingMaker x_variables x_within) n)) ∧
    ((¬ ct_n (fun k => mk k = 1) 24 < 24 ∧ ∀ post : Int32 → SX → Prop, post (-1) (x_classCount, x_bodyCount, x_draftCount, x_wrongPlace, x_madeCount, x_frameCount, x_current, x_next, x_inHand, x_mode, x_outcome, x_stepCount, x_atWork, x_mostAtWork, x_saidCount, nI t, x_classParent, x_classFields, x_bound, x_tokenKind, x_tokenValue, x_globals, x_thingShown, x_thingClass, x_thingFields, x_thingToken, x_thingMaker, x_variables, x_homeOf, x_within, x_foundIn, x_baseFrame, x_frameToken, x_frameStage, x_frameLink, x_operands, x_saidValues, mk, td) → wpX_makeThing post (x_classCount, x_bodyCount, x_draftCount, x_wrongPlace, x_madeCount, x_frameCount, x_current, x_next, x_inHand, x_mode, x_outcome, x_stepCount, x_atWork, x_mostAtWork, x_saidCount, x_pendingCount, x_classParent, x_classFields, x_bound, x_tokenKind, x_tokenValue, x_globals, x_thingShown, x_thingClass, x_thingFields, x_thingToken, x_thingMaker, x_variables, x_homeOf, x_within, x_foundIn, x_baseFrame, x_frameToken, x_frameStage, x_frameLink, x_operands, x_saidValues, x_marked, x_pending) p0 c) ∨
     (ct_n (fun k => mk k = 1) 24 < 24 ∧ ∃ tt, tt < 24 ∧ ¬ mk tt = 1 ∧ ∀ post : Int32 → SX → Prop, post (nI tt) (x_classCount, x_bodyCount, x_draftCount, x_wrongPlace, x_madeCount + 1, x_frameCount, x_current, x_next, x_inHand, x_mode, x_outcome, x_stepCount, x_atWork, x_mostAtWork, x_saidCount, nI t, x_classParent, x_classFields, x_bound, x_tokenKind, x_tokenValue, x_globals, vp_updL x_thingShown tt (p0 + x_madeCount.toInt64), upd x_thingClass tt c, mk_c x_thingFields (tt * 4) 4 10000000000, x_thingToken, upd x_thingMaker tt (-1), x_variables, x_homeOf, x_within, x_foundIn, x_baseFrame, x_frameToken, x_frameStage, x_frameLink, x_operands, x_saidValues, mk, td) → wpX_makeThing post (x_classCount, x_bodyCount, x_draftCount, x_wrongPlace, x_madeCount, x_frameCount, x_current, x_next, x_inHand, x_mode, x_outcome, x_stepCount, x_atWork, x_mostAtWork, x_saidCount, x_pendingCount, x_classParent, x_classFields, x_bound, x_tokenKind, x_tokenValue, x_globals, x_thingShown, x_thingClass, x_thingFields, x_thingToken, x_thingMaker, x_variables, x_homeOf, x_within, x_foundIn, x_baseFrame, x_frameToken, x_frameStage, x_frameLink, x_operands, x_saidValues, x_marked, x_pending) p0 c)) := by
  obtain ⟨mk, td, t, mb, mi, hM⟩ := xd_mark (x_classCount := x_classCount) (x_bodyCount := x_bodyCount) (x_draftCount := x_draftCount) (x_wrongPlace := x_wrongPlace) (x_madeCount := x_madeCount) (x_frameCount := x_frameCount) (x_current := x_current) (x_next := x_next) (x_inHand := x_inHand) (x_mode := x_mode) (x_outcome := x_outcome) (x_stepCount := x_stepCount) (x_atWork := x_atWork) (x_mostAtWork := x_mostAtWork) (x_saidCount := x_saidCount) (x_pendingCount := x_pendingCount) (x_classParent := x_classParent) (x_classFields := x_classFields) (x_bound := x_bound) (x_tokenKind := x_tokenKind) (x_tokenValue := x_tokenValue) (x_globals := x_globals) (x_thingShown := x_thingShown) (x_thingClass := x_thingClass) (x_thingFields := x_thingFields) (x_thingToken := x_thingToken) (x_thingMaker := x_thingMaker) (x_variables := x_variables) (x_homeOf := x_homeOf) (x_within := x_within) (x_foundIn := x_foundIn) (x_baseFrame := x_baseFrame) (x_frameToken := x_frameToken) (x_frameStage := x_frameStage) (x_frameLink := x_frameLink) (x_operands := x_operands) (x_saidValues := x_saidValues) (x_marked := x_marked) (x_pending := x_pending) hfc hfl hm hw
  refine ⟨mk, td, t, mi, ?_⟩
  have cl := ct_le (fun k => mk k = 1) 24
  by_cases q : ct_n (fun k => mk k = 1) 24 < 24
  · obtain ⟨tt, t1, t2, t3⟩ := ct_first q
    refine Or.inr ⟨q, tt, t1, t2, fun post h2 => ?_⟩
    unfold wpX_makeThing
    dsimp only
    refine hM _ ?_
    refine br_t (nI_lt (b := 24) q (by decide)) ?_
    have tc : (nI tt).toNatClampNeg = tt := nI_clamp (by omega)
    have vt : vp_in (nI tt) 24 := vp_in_nI t1 (by decide)
    have l44 : ∃ n44 : Nat, wX_makeThing_44 post p0 c (nI tt) x_classCount x_bodyCount x_draftCount x_wrongPlace x_madeCount x_frameCount x_current x_next x_inHand x_mode x_outcome x_stepCount x_atWork x_mostAtWork x_saidCount (nI t) n44 0 x_classParent x_classFields x_bound x_tokenKind x_tokenValue x_globals x_thingShown x_thingClass x_thingFields x_thingToken x_thingMaker x_variables x_homeOf x_within x_foundIn x_baseFrame x_frameToken x_frameStage x_frameLink x_operands x_saidValues mk td := by
      refine loop_0 (fun n i f => wX_makeThing_44 post p0 c (nI tt) x_classCount x_bodyCount x_draftCount x_wrongPlace x_madeCount x_frameCount x_current x_next x_inHand x_mode x_outcome x_stepCount x_atWork x_mostAtWork x_saidCount (nI t) n (nI i) x_classParent x_classFields x_bound x_tokenKind x_tokenValue x_globals x_thingShown x_thingClass f x_thingToken x_thingMaker x_variables x_homeOf x_within x_foundIn x_baseFrame x_frameToken x_frameStage x_frameLink x_operands x_saidValues mk td) (fun i f => f = mk_c x_thingFields (tt * 4) i 10000000000) 4 x_thingFields (mk_c0 _ _ _).symm ?_ ?_
      · intro n f I
        subst I
        refine br_t (by decide) ⟨vt, ?_⟩
        rw [tc]
        exact nm_e ⟨vt, nm_e ⟨vt, nm_e (nm_e (h2))⟩⟩
      · intro n i f hi I k
        subst I
        have e : nI tt * (4 : Int32) + nI i = nI (tt * 4 + i) := ix_r 4 tt i
        refine br_f (nI_ge (b := 4) hi (by decide)) ⟨by rw [e]; exact vp_in_nI (by omega) (by decide), ?_⟩
        rw [e, nI_clamp (show tt * 4 + i < 2 ^ 31 by omega)]
        exact nm_r (mk_cs _ _ _ _) (nm_r (nI_1 i) (k _ rfl))
    refine ⟨25, ?_⟩
    have key : ∀ d i f, i + d = tt → d < f → wX_makeThing_18 post p0 c x_classCount x_bodyCount x_draftCount x_wrongPlace x_madeCount x_frameCount x_current x_next x_inHand x_mode x_outcome x_stepCount x_atWork x_mostAtWork x_saidCount (nI t) x_classParent x_classFields x_bound x_tokenKind x_tokenValue x_globals x_thingShown x_thingClass x_thingFields x_thingToken x_thingMaker x_variables x_homeOf x_within x_foundIn x_baseFrame x_frameToken x_frameStage x_frameLink x_operands x_saidValues mk td f (nI i) := by
      intro d
      induction d with
      | zero =>
        intro i f e hf
        obtain ⟨f', rfl⟩ : ∃ f', f = f' + 1 := ⟨f - 1, by omega⟩
        obtain rfl : i = tt := by omega
        refine br_c (fun _ => l44) (fun _ => ⟨vp_in_nI (by omega) (by decide), br_t ?_ l44⟩)
        rw [tc]
        exact (mb i (by omega)).resolve_right t2
      | succ d ih =>
        intro i f e hf
        obtain ⟨f', rfl⟩ : ∃ f', f = f' + 1 := ⟨f - 1, by omega⟩
        refine br_f (nI_ge (b := 23) (by omega) (by decide)) ⟨vp_in_nI (by omega) (by decide), br_f ?_ (nm_r (nI_1 i) (ih (i + 1) f' (by omega) (by omega)))⟩
        rw [nI_clamp (by omega), t3 i (by omega)]
        decide
    exact key tt 0 25 (by omega) (by omega)
  · refine Or.inl ⟨q, fun post h1 => ?_⟩
    unfold wpX_makeThing
    dsimp only
    exact hM _ (br_f (nI_nlt (b := 24) (by omega) (by omega)) h1)
theorem yd_make {c : Int32} {wt wk : Nat} (hw : y_waiting = nI wt) (hwt : wt ≤ 500) (hk : y_working = nI wk) (hwk : wk ≤ 12) (hgl : ∀ k, k < 4 → vv_V (y_globals k)) (hop : ∀ k, k < wt → vv_V (y_operands k)) (hwo : ∀ k, k < wk → ∃ a, a < 160 ∧ y_work k = nI a) (Y : hp_Y y_cells y_self y_args y_temps y_param y_keeps y_within) :
    ∃ mk td, (∀ n, n < 192 → (mk n = 1 ↔ cl_r (gy_R y_globals y_operands wt y_work wk) (gy_E y_sort y_keeps y_cells y_within y_self y_args y_temps y_param) n)) ∧
    ((¬ ct_n (fun k => mk k = 1) 32 < 24 ∧ ∀ post : Int32 → SY → Prop, post (-1) (y_classes, y_bodies, y_fault, y_made, y_working, y_peak, y_steps, y_depth, y_waiting, y_code, y_running, y_has, y_got, nI 0, nI (ct_n (fun k => mk k = 1) 32), y_shown, y_spoken, y_parent, y_fields, y_bound, y_kind, y_word, y_size, y_sort, y_number, y_stands, y_keeps, y_cells, y_globals, y_within, y_foundIn, y_self, y_args, y_temps, y_param, y_live, y_work, y_under, y_at, y_in, y_phase, y_base, y_goal, y_operands, mk, td, y_heard) → wpY_make post (y_classes, y_bodies, y_fault, y_made, y_working, y_peak, y_steps, y_depth, y_waiting, y_code, y_running, y_has, y_got, y_todos, y_marks, y_shown, y_spoken, y_parent, y_fields, y_bound, y_kind, y_word, y_size, y_sort, y_number, y_stands, y_keeps, y_cells, y_globals, y_within, y_foundIn, y_self, y_args, y_temps, y_param, y_live, y_work, y_under, y_at, y_in, y_phase, y_base, y_goal, y_operands, y_marked, y_todo, y_heard) c) ∨
     (ct_n (fun k => mk k = 1) 32 < 24 ∧ ∃ kk, kk < 32 ∧ ¬ mk kk = 1 ∧ ∀ post : Int32 → SY → Prop, post (nI kk) (y_classes, y_bodies, y_fault, y_made + 1, y_working, y_peak, y_steps, y_depth, y_waiting, y_code, y_running, y_has, y_got, nI 0, nI (ct_n (fun k => mk k = 1) 32), y_shown, y_spoken, y_parent, y_fields, y_bound, y_kind, y_word, y_size, upd y_sort kk c, upd y_number kk y_made, y_stands, y_keeps, mk_c y_cells (4 * kk) 4 4294967296, y_globals, y_within, y_foundIn, y_self, y_args, y_temps, y_param, y_live, y_work, y_under, y_at, y_in, y_phase, y_base, y_goal, y_operands, mk, td, y_heard) → wpY_make post (y_classes, y_bodies, y_fault, y_made, y_working, y_peak, y_steps, y_depth, y_waiting, y_code, y_running, y_has, y_got, y_todos, y_marks, y_shown, y_spoken, y_parent, y_fields, y_bound, y_kind, y_word, y_size, y_sort, y_number, y_stands, y_keeps, y_cells, y_globals, y_within, y_foundIn, y_self, y_args, y_temps, y_param, y_live, y_work, y_under, y_at, y_in, y_phase, y_base, y_goal, y_operands, y_marked, y_todo, y_heard) c)) := by
  obtain ⟨mk, td, mb, mi, hM⟩ := yd_mark (y_classes := y_classes) (y_bodies := y_bodies) (y_fault := y_fault) (y_made := y_made) (y_working := y_working) (y_peak := y_peak) (y_steps := y_steps) (y_depth := y_depth) (y_waiting := y_waiting) (y_code := y_code) (y_running := y_running) (y_has := y_has) (y_got := y_got) (y_todos := y_todos) (y_marks := y_marks) (y_shown := y_shown) (y_spoken := y_spoken) (y_parent := y_parent) (y_fields := y_fields) (y_bound := y_bound) (y_kind := y_kind) (y_word := y_word) (y_size := y_size) (y_sort := y_sort) (y_number := y_number) (y_stands := y_stands) (y_keeps := y_keeps) (y_cells := y_cells) (y_globals := y_globals) (y_within := y_within) (y_foundIn := y_foundIn) (y_self := y_self) (y_args := y_args) (y_temps := y_temps) (y_param := y_param) (y_live := y_live) (y_work := y_work) (y_under := y_under) (y_at := y_at) (y_in := y_in) (y_phase := y_phase) (y_base := y_base) (y_goal := y_goal) (y_operands := y_operands) (y_marked := y_marked) (y_todo := y_todo) (y_heard := y_heard) hw hwt hk hwk hgl hop hwo Y
  refine ⟨mk, td, mi, ?_⟩
  have cl := ct_le (fun k => mk k = 1) 32
  by_cases q : ct_n (fun k => mk k = 1) 32 < 24
  · obtain ⟨tt, t1, t2, t3⟩ := ct_first (P := fun k => mk k = 1) (N := 32) (by omega)
    refine Or.inr ⟨q, tt, t1, t2, fun post h2 => ?_⟩
    unfold wpY_make
    dsimp only
    refine hM _ ?_
    refine br_t (nI_lt (b := 24) q (by decide)) ?_
    have tc : (nI tt).toNatClampNeg = tt := nI_clamp (by omega)
    have vt : vp_in (nI tt) 32 := vp_in_nI t1 (by decide)
    refine ⟨33, ?_⟩
    have key : ∀ d i f, i + d = tt → d < f → wY_make_17 post c y_classes y_bodies y_fault y_made y_working y_peak y_steps y_depth y_waiting y_code y_running y_has y_got (nI 0) (nI (ct_n (fun k => mk k = 1) 32)) y_shown y_spoken y_parent y_fields y_bound y_kind y_word y_size y_sort y_number y_stands y_keeps y_cells y_globals y_within y_foundIn y_self y_args y_temps y_param y_live y_work y_under y_at y_in y_phase y_base y_goal y_operands mk td y_heard f (nI i) := by
      intro d
      induction d with
      | zero =>
        intro i f e hf
        obtain ⟨f', rfl⟩ : ∃ f', f = f' + 1 := ⟨f - 1, by omega⟩
        obtain rfl : i = tt := by omega
        refine ⟨vp_in_nI (by omega) (by decide), br_t ?_ ⟨vt, ?_⟩⟩
        · rw [tc]; exact (mb i (by omega)).resolve_right t2
        · rw [tc]
          refine nm_e (nm_e ⟨vt, nm_e ?_⟩)
          refine loop_0 (fun n j f => wY_make_58 post (nI i) y_classes y_bodies y_fault (y_made + 1) y_working y_peak y_steps y_depth y_waiting y_code y_running y_has y_got (nI 0) (nI (ct_n (fun k => mk k = 1) 32)) y_shown y_spoken n (nI j) y_parent y_fields y_bound y_kind y_word y_size (upd y_sort i c) (upd y_number i y_made) y_stands y_keeps f y_globals y_within y_foundIn y_self y_args y_temps y_param y_live y_work y_under y_at y_in y_phase y_base y_goal y_operands mk td y_heard) (fun j f => f = mk_c y_cells (4 * i) j 4294967296) 4 y_cells (mk_c0 _ _ _).symm ?_ ?_
          · intro n f I
            subst I
            exact br_t (by decide) (h2)
          · intro n j f hj I k
            subst I
            have e : (4 : Int32) * nI i + nI j = nI (4 * i + j) := ix_l 4 i j
            refine br_f (nI_ge (b := 4) hj (by decide)) ⟨by rw [e]; exact vp_in_nI (by omega) (by decide), ?_⟩
            rw [e, nI_clamp (show 4 * i + j < 2 ^ 31 by omega)]
            exact nm_r (mk_cs _ _ _ _) (nm_r (nI_1 j) (k _ rfl))
      | succ d ih =>
        intro i f e hf
        obtain ⟨f', rfl⟩ : ∃ f', f = f' + 1 := ⟨f - 1, by omega⟩
        refine ⟨vp_in_nI (by omega) (by decide), br_f ?_ (nm_r (nI_1 i) (ih (i + 1) f' (by omega) (by omega)))⟩
        rw [nI_clamp (by omega), t3 i (by omega)]
        decide
    exact key tt 0 33 (by omega) (by omega)
  · refine Or.inl ⟨q, fun post h1 => ?_⟩
    unfold wpY_make
    dsimp only
    exact hM _ (br_f (nI_nlt (b := 24) (by omega) (by omega)) h1)
end
