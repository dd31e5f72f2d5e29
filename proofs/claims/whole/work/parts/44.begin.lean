/-! an activation begins, the outcome named -/
def bg_mx (p : Int32) (w : Nat) : Int32 := if nI (w + 1) ≤ p then p else nI (w + 1)
theorem bg_t {p : Int32} {w : Nat} (h : nI (w + 1) ≤ p) : bg_mx p w = p := if_pos h
theorem bg_f {p : Int32} {w : Nat} (h : ¬ nI (w + 1) ≤ p) : bg_mx p w = nI (w + 1) := if_neg h
section
variable {x_classCount x_bodyCount x_draftCount x_wrongPlace x_madeCount x_frameCount x_current x_next x_mode x_outcome x_stepCount x_atWork x_mostAtWork x_saidCount x_pendingCount : Int32} {x_inHand : Int64} {x_classParent x_classFields x_bound x_tokenKind x_tokenValue x_thingClass x_thingToken x_thingMaker x_homeOf x_within x_foundIn x_baseFrame x_frameToken x_frameStage x_frameLink x_marked x_pending : Nat → Int32} {x_globals x_thingShown x_thingFields x_variables x_operands x_saidValues : Nat → Int64}
variable {y_classes y_bodies y_fault y_made y_working y_peak y_steps y_depth y_waiting y_code y_running y_has y_todos y_marks y_spoken : Int32} {y_got y_shown : Int64} {y_parent y_fields y_bound y_kind y_word y_size y_sort y_number y_stands y_keeps y_within y_foundIn y_live y_work y_under y_at y_in y_phase y_base y_goal y_marked y_todo : Nat → Int32} {y_cells y_globals y_self y_args y_temps y_param y_operands y_heard : Nat → Int64}
variable {cc bc dc mc k : Nat} {T ST SA : Nat → Prop} {lv τ σ lev ho : Nat → Nat}
theorem xd_begin0 {fc w st : Nat} (r : Int32) (hs : st ≤ 200) (hw : w ≤ 12) (h : st = 200 ∨ w = 12) : ∃ (st' : Nat) (o : Int32), ((st = 200 ∧ st' = 200 ∧ o = 4) ∨ (st ≠ 200 ∧ w = 12 ∧ st' = st + 1 ∧ o = 5)) ∧ ∀ post : Int32 → SX → Prop, post (-1) (x_classCount, x_bodyCount, x_draftCount, x_wrongPlace, x_madeCount, nI (fc + 1), x_current, x_next, x_inHand, x_mode, o, nI st', nI w, x_mostAtWork, x_saidCount, x_pendingCount, x_classParent, x_classFields, x_bound, x_tokenKind, x_tokenValue, x_globals, x_thingShown, x_thingClass, x_thingFields, x_thingToken, x_thingMaker, x_variables, x_homeOf, x_within, x_foundIn, x_baseFrame, x_frameToken, x_frameStage, x_frameLink, x_operands, x_saidValues, x_marked, x_pending) → wpX_beginActivation post (x_classCount, x_bodyCount, x_draftCount, x_wrongPlace, x_madeCount, nI (fc + 1), x_current, x_next, x_inHand, x_mode, x_outcome, nI st, nI w, x_mostAtWork, x_saidCount, x_pendingCount, x_classParent, x_classFields, x_bound, x_tokenKind, x_tokenValue, x_globals, x_thingShown, x_thingClass, x_thingFields, x_thingToken, x_thingMaker, x_variables, x_homeOf, x_within, x_foundIn, x_baseFrame, x_frameToken, x_frameStage, x_frameLink, x_operands, x_saidValues, x_marked, x_pending) r := by
  by_cases z : st = 200
  · subst z
    refine ⟨200, 4, Or.inl ⟨rfl, rfl, rfl⟩, fun post q => ?_⟩
    unfold wpX_beginActivation wpX_takeStep
    exact br_t rfl (br_t rfl q)
  · have s1 : ¬ nI st = 200 := fun y => z ((nI_eq (b := 200) (by omega) (by decide)).mp y)
    have w2 : w = 12 := h.resolve_left z
    subst w2
    refine ⟨st + 1, 5, Or.inr ⟨z, rfl, rfl, rfl⟩, fun post q => ?_⟩
    unfold wpX_beginActivation wpX_takeStep
    exact br_f s1 (nm_r (nI_1 st) (br_f (by decide) (br_t rfl q)))
theorem xd_begin {fc w st : Nat} (r : Int32) (hs : st < 200) (hw : w < 12) (hfc : fc < 385) (hm : ∀ m, m < 24 → gx_P (x_thingMaker m)) (hwi : ∀ a, a < 128 → gx_P (x_within a)) (free : ∃ b, b < 128 ∧ ¬ cl_r (gx_R x_thingShown x_globals x_operands (fc + 1) x_baseFrame) (gx_E x_thingShown x_thingFields x_thingMaker x_variables x_within) (24 + b)) :
    ∃ mk td t b, b < 128 ∧ ¬ cl_r (gx_R x_thingShown x_globals x_operands (fc + 1) x_baseFrame) (gx_E x_thingShown x_thingFields x_thingMaker x_variables x_within) (24 + b) ∧ ∀ post : Int32 → SX → Prop, post (nI b) (x_classCount, x_bodyCount, x_draftCount, x_wrongPlace, x_madeCount, nI (fc + 1), nI b, r, x_inHand, 0, x_outcome, nI (st + 1), nI (w + 1), bg_mx x_mostAtWork w, x_saidCount, nI t, x_classParent, x_classFields, x_bound, x_tokenKind, x_tokenValue, x_globals, x_thingShown, x_thingClass, x_thingFields, x_thingToken, x_thingMaker, mk_c x_variables (b * 7) 7 10000000000, x_homeOf, x_within, x_foundIn, upd x_baseFrame b (nI fc), upd x_frameToken fc (-1), upd x_frameStage fc x_next, upd x_frameLink fc x_current, mk_c x_operands (fc * 3) 3 10000000000, x_saidValues, mk, td) → wpX_beginActivation post (x_classCount, x_bodyCount, x_draftCount, x_wrongPlace, x_madeCount, nI (fc + 1), x_current, x_next, x_inHand, x_mode, x_outcome, nI st, nI w, x_mostAtWork, x_saidCount, x_pendingCount, x_classParent, x_classFields, x_bound, x_tokenKind, x_tokenValue, x_globals, x_thingShown, x_thingClass, x_thingFields, x_thingToken, x_thingMaker, x_variables, x_homeOf, x_within, x_foundIn, x_baseFrame, x_frameToken, x_frameStage, x_frameLink, x_operands, x_saidValues, x_marked, x_pending) r := by
  obtain ⟨mk, td, t, mb, mi, hM⟩ := xd_mark (x_classCount := x_classCount) (x_bodyCount := x_bodyCount) (x_draftCount := x_draftCount) (x_wrongPlace := x_wrongPlace) (x_madeCount := x_madeCount) (x_frameCount := nI (fc + 1)) (x_current := x_current) (x_next := x_next) (x_inHand := x_inHand) (x_mode := x_mode) (x_outcome := x_outcome) (x_stepCount := nI (st + 1)) (x_atWork := nI w) (x_mostAtWork := x_mostAtWork) (x_saidCount := x_saidCount) (x_pendingCount := x_pendingCount) (x_classParent := x_classParent) (x_classFields := x_classFields) (x_bound := x_bound) (x_tokenKind := x_tokenKind) (x_tokenValue := x_tokenValue) (x_globals := x_globals) (x_thingShown := x_thingShown) (x_thingClass := x_thingClass) (x_thingFields := x_thingFields) (x_thingToken := x_thingToken) (x_thingMaker := x_thingMaker) (x_variables := x_variables) (x_homeOf := x_homeOf) (x_within := x_within) (x_foundIn := x_foundIn) (x_baseFrame := x_baseFrame) (x_frameToken := x_frameToken) (x_frameStage := x_frameStage) (x_frameLink := x_frameLink) (x_operands := x_operands) (x_saidValues := x_saidValues) (x_marked := x_marked) (x_pending := x_pending) (fc := fc + 1) rfl (by omega) hm hwi
  obtain ⟨b0, b1, b2⟩ := free
  obtain ⟨b, hb1, hb2⟩ := pk_least (fun b => ¬ mk (24 + b) = 1) ⟨b0, fun z => b2 ((mi _ (by omega)).mp z)⟩
  have bl : b < 128 := by
    rcases Nat.lt_or_ge b0 b with q | q
    · exact absurd ((mi (24 + b0) (by omega)).mp (Classical.byContradiction fun z => hb2 b0 q z)) b2
    · omega
  refine ⟨mk, td, t, b, bl, fun z => hb1 ((mi _ (by omega)).mpr z), fun post q => ?_⟩
  have s1 : ¬ nI st = 200 := fun y => by have := (nI_eq (b := 200) (by omega) (by decide)).mp y; omega
  have w1 : ¬ nI w = 12 := fun y => by have := (nI_eq (b := 12) (by omega) (by decide)).mp y; omega
  have bcl : (nI b).toNatClampNeg = b := nI_clamp (by omega)
  have fcl : (nI fc).toNatClampNeg = fc := nI_clamp (by omega)
  have vf : vp_in (nI fc) 385 := vp_in_nI hfc (by decide)
  have l58 : ∃ n58 : Nat, wX_beginActivation_58 post r (nI b) x_classCount x_bodyCount x_draftCount x_wrongPlace x_madeCount (nI (fc + 1)) x_current x_next x_inHand x_mode x_outcome (nI (st + 1)) (nI w) x_mostAtWork x_saidCount (nI t) n58 0 x_classParent x_classFields x_bound x_tokenKind x_tokenValue x_globals x_thingShown x_thingClass x_thingFields x_thingToken x_thingMaker x_variables x_homeOf x_within x_foundIn x_baseFrame x_frameToken x_frameStage x_frameLink x_operands x_saidValues mk td := by
    refine loop_0 (fun n i f => wX_beginActivation_58 post r (nI b) x_classCount x_bodyCount x_draftCount x_wrongPlace x_madeCount (nI (fc + 1)) x_current x_next x_inHand x_mode x_outcome (nI (st + 1)) (nI w) x_mostAtWork x_saidCount (nI t) n (nI i) x_classParent x_classFields x_bound x_tokenKind x_tokenValue x_globals x_thingShown x_thingClass x_thingFields x_thingToken x_thingMaker f x_homeOf x_within x_foundIn x_baseFrame x_frameToken x_frameStage x_frameLink x_operands x_saidValues mk td) (fun i f => f = mk_c x_variables (b * 7) i 10000000000) 7 x_variables (mk_c0 _ _ _).symm ?_ ?_
    · intro n f I
      subst I
      refine br_t (by decide) (nm_r (nI_pred fc) (xw_clear hfc ?_))
      dsimp only
      rw [fcl, bcl]
      refine ⟨vf, nm_e ⟨vf, nm_e ⟨vf, nm_e ⟨vp_in_nI bl (by decide), nm_e (nm_r (nI_1 w) ?_)⟩⟩⟩⟩
      by_cases z : nI (w + 1) ≤ x_mostAtWork
      · rw [bg_t z] at q
        exact br_t z q
      · rw [bg_f z] at q
        exact br_f z q
    · intro n i f hi I k
      subst I
      have e : nI b * (7 : Int32) + nI i = nI (b * 7 + i) := ix_r 7 b i
      refine br_f (nI_ge (b := 7) hi (by decide)) ⟨by rw [e]; exact vp_in_nI (by omega) (by decide), ?_⟩
      rw [e, nI_clamp (show b * 7 + i < 2 ^ 31 by omega)]
      exact nm_r (mk_cs _ _ _ _) (nm_r (nI_1 i) (k _ rfl))
  unfold wpX_beginActivation wpX_takeStep
  refine br_f s1 (nm_r (nI_1 st) (br_f (by decide) (br_f w1 (hM _ ⟨129, ?_⟩))))
  have key : ∀ e i f, i + e = b → e < f → wX_beginActivation_32 post r x_classCount x_bodyCount x_draftCount x_wrongPlace x_madeCount (nI (fc + 1)) x_current x_next x_inHand x_mode x_outcome (nI (st + 1)) (nI w) x_mostAtWork x_saidCount (nI t) x_classParent x_classFields x_bound x_tokenKind x_tokenValue x_globals x_thingShown x_thingClass x_thingFields x_thingToken x_thingMaker x_variables x_homeOf x_within x_foundIn x_baseFrame x_frameToken x_frameStage x_frameLink x_operands x_saidValues mk td f (nI i) := by
    intro e
    induction e with
    | zero =>
      intro i f he hf
      obtain ⟨f', rfl⟩ : ∃ f', f = f' + 1 := ⟨f - 1, by omega⟩
      obtain rfl : i = b := by omega
      refine br_c (fun _ => l58) (fun _ => ?_)
      rw [gx_24, nI_clamp (show 24 + i < 2 ^ 31 by omega)]
      exact ⟨vp_in_nI (by omega) (by decide), br_t ((mb _ (by omega)).resolve_right hb1) l58⟩
    | succ e ih =>
      intro i f he hf
      obtain ⟨f', rfl⟩ : ∃ f', f = f' + 1 := ⟨f - 1, by omega⟩
      refine br_f (nI_ge (b := 127) (by omega) (by decide)) ?_
      rw [gx_24, nI_clamp (show 24 + i < 2 ^ 31 by omega)]
      refine ⟨vp_in_nI (by omega) (by decide), br_f ?_ (nm_r (nI_1 i) (ih (i + 1) f' (by omega) (by omega)))⟩
      rw [Classical.byContradiction fun z => hb2 i (by omega) z]
      decide
  exact key b 0 129 (by omega) (by omega)
theorem yd_begin0 {w st : Nat} (r : Int32) (hs : st ≤ 200) (hw : w ≤ 12) (h : st = 200 ∨ w = 12) : ∃ (st' : Nat) (o : Int32), ((st = 200 ∧ st' = 200 ∧ o = 4) ∨ (st ≠ 200 ∧ w = 12 ∧ st' = st + 1 ∧ o = 5)) ∧ ∀ post : Int32 → SY → Prop, post (-1) (y_classes, y_bodies, y_fault, y_made, nI w, y_peak, nI st', y_depth, y_waiting, o, 0, y_has, y_got, y_todos, y_marks, y_shown, y_spoken, y_parent, y_fields, y_bound, y_kind, y_word, y_size, y_sort, y_number, y_stands, y_keeps, y_cells, y_globals, y_within, y_foundIn, y_self, y_args, y_temps, y_param, y_live, y_work, y_under, y_at, y_in, y_phase, y_base, y_goal, y_operands, y_marked, y_todo, y_heard) → wpY_begin post (y_classes, y_bodies, y_fault, y_made, nI w, y_peak, nI st, y_depth, y_waiting, y_code, 1, y_has, y_got, y_todos, y_marks, y_shown, y_spoken, y_parent, y_fields, y_bound, y_kind, y_word, y_size, y_sort, y_number, y_stands, y_keeps, y_cells, y_globals, y_within, y_foundIn, y_self, y_args, y_temps, y_param, y_live, y_work, y_under, y_at, y_in, y_phase, y_base, y_goal, y_operands, y_marked, y_todo, y_heard) r := by
  by_cases z : st = 200
  · subst z
    refine ⟨200, 4, Or.inl ⟨rfl, rfl, rfl⟩, fun post q => ?_⟩
    unfold wpY_begin wpY_step
    exact br_t rfl ⟨rfl, br_t rfl q⟩
  · have s1 : ¬ nI st = 200 := fun y => z ((nI_eq (b := 200) (by omega) (by decide)).mp y)
    have w2 : w = 12 := h.resolve_left z
    subst w2
    refine ⟨st + 1, 5, Or.inr ⟨z, rfl, rfl, rfl⟩, fun post q => ?_⟩
    unfold wpY_begin wpY_step
    exact br_f s1 (nm_r (nI_1 st) ⟨rfl, br_f (by decide) (br_t rfl q)⟩)
theorem yd_begin {w st wt : Nat} (r : Int32) (hs : st < 200) (hw : w < 12) (hwt : y_waiting = nI wt) (hwl : wt ≤ 500) (hgl : ∀ k, k < 4 → vv_V (y_globals k)) (hop : ∀ k, k < wt → vv_V (y_operands k)) (hwo : ∀ k, k < w → ∃ a, a < 160 ∧ y_work k = nI a) (Y : hp_Y y_cells y_self y_args y_temps y_param y_keeps y_within) (free : ∃ a, a < 160 ∧ ¬ cl_r (gy_R y_globals y_operands wt y_work w) (gy_E y_sort y_keeps y_cells y_within y_self y_args y_temps y_param) (32 + a)) :
    ∃ mk td a, a < 160 ∧ ¬ cl_r (gy_R y_globals y_operands wt y_work w) (gy_E y_sort y_keeps y_cells y_within y_self y_args y_temps y_param) (32 + a) ∧ ∀ post : Int32 → SY → Prop, post (nI a) (y_classes, y_bodies, y_fault, y_made, nI (w + 1), bg_mx y_peak w, nI (st + 1), y_depth, y_waiting, y_code, 1, y_has, y_got, nI 0, nI (ct_n (fun k => mk k = 1) 32), y_shown, y_spoken, y_parent, y_fields, y_bound, y_kind, y_word, y_size, y_sort, y_number, y_stands, y_keeps, y_cells, y_globals, upd y_within a r, y_foundIn, y_self, y_args, mk_c y_temps (3 * a) 3 4294967296, vp_updL y_param a 4294967296, upd y_live a 1, upd y_work w (nI a), upd y_under w y_depth, y_at, y_in, y_phase, y_base, y_goal, y_operands, mk, td, y_heard) → wpY_begin post (y_classes, y_bodies, y_fault, y_made, nI w, y_peak, nI st, y_depth, y_waiting, y_code, 1, y_has, y_got, y_todos, y_marks, y_shown, y_spoken, y_parent, y_fields, y_bound, y_kind, y_word, y_size, y_sort, y_number, y_stands, y_keeps, y_cells, y_globals, y_within, y_foundIn, y_self, y_args, y_temps, y_param, y_live, y_work, y_under, y_at, y_in, y_phase, y_base, y_goal, y_operands, y_marked, y_todo, y_heard) r := by
  obtain ⟨mk, td, mb, mi, hM⟩ := yd_mark (y_classes := y_classes) (y_bodies := y_bodies) (y_fault := y_fault) (y_made := y_made) (y_working := nI w) (y_peak := y_peak) (y_steps := nI (st + 1)) (y_depth := y_depth) (y_waiting := y_waiting) (y_code := y_code) (y_running := 1) (y_has := y_has) (y_got := y_got) (y_todos := y_todos) (y_marks := y_marks) (y_shown := y_shown) (y_spoken := y_spoken) (y_parent := y_parent) (y_fields := y_fields) (y_bound := y_bound) (y_kind := y_kind) (y_word := y_word) (y_size := y_size) (y_sort := y_sort) (y_number := y_number) (y_stands := y_stands) (y_keeps := y_keeps) (y_cells := y_cells) (y_globals := y_globals) (y_within := y_within) (y_foundIn := y_foundIn) (y_self := y_self) (y_args := y_args) (y_temps := y_temps) (y_param := y_param) (y_live := y_live) (y_work := y_work) (y_under := y_under) (y_at := y_at) (y_in := y_in) (y_phase := y_phase) (y_base := y_base) (y_goal := y_goal) (y_operands := y_operands) (y_marked := y_marked) (y_todo := y_todo) (y_heard := y_heard) (wt := wt) (wk := w) hwt hwl rfl (by omega) hgl hop hwo Y
  obtain ⟨b0, b1, b2⟩ := free
  obtain ⟨b, hb1, hb2⟩ := pk_least (fun b => ¬ mk (32 + b) = 1) ⟨b0, fun z => b2 ((mi _ (by omega)).mp z)⟩
  have bl : b < 160 := by
    rcases Nat.lt_or_ge b0 b with q | q
    · exact absurd ((mi (32 + b0) (by omega)).mp (Classical.byContradiction fun z => hb2 b0 q z)) b2
    · omega
  refine ⟨mk, td, b, bl, fun z => hb1 ((mi _ (by omega)).mpr z), fun post q => ?_⟩
  have s1 : ¬ nI st = 200 := fun y => by have := (nI_eq (b := 200) (by omega) (by decide)).mp y; omega
  have w1 : ¬ nI w = 12 := fun y => by have := (nI_eq (b := 12) (by omega) (by decide)).mp y; omega
  have bcl : (nI b).toNatClampNeg = b := nI_clamp (by omega)
  have wcl : (nI w).toNatClampNeg = w := nI_clamp (by omega)
  have vb : vp_in (nI b) 160 := vp_in_nI bl (by decide)
  have vw : vp_in (nI w) 12 := vp_in_nI hw (by decide)
  have l123 : ∀ pk : Int32, pk = bg_mx y_peak w → ∃ n, wY_begin_123 post (nI b) y_classes y_bodies y_fault y_made (nI (w + 1)) pk (nI (st + 1)) y_depth y_waiting y_code 1 y_has y_got (nI 0) (nI (ct_n (fun k => mk k = 1) 32)) y_shown y_spoken n 0 y_parent y_fields y_bound y_kind y_word y_size y_sort y_number y_stands y_keeps y_cells y_globals (upd y_within b r) y_foundIn y_self y_args y_temps (vp_updL y_param b 4294967296) (upd y_live b 1) (upd y_work w (nI b)) (upd y_under w y_depth) y_at y_in y_phase y_base y_goal y_operands mk td y_heard := fun pk epk => by
    subst epk
    refine loop_0 (fun n i f => wY_begin_123 post (nI b) y_classes y_bodies y_fault y_made (nI (w + 1)) (bg_mx y_peak w) (nI (st + 1)) y_depth y_waiting y_code 1 y_has y_got (nI 0) (nI (ct_n (fun k => mk k = 1) 32)) y_shown y_spoken n (nI i) y_parent y_fields y_bound y_kind y_word y_size y_sort y_number y_stands y_keeps y_cells y_globals (upd y_within b r) y_foundIn y_self y_args f (vp_updL y_param b 4294967296) (upd y_live b 1) (upd y_work w (nI b)) (upd y_under w y_depth) y_at y_in y_phase y_base y_goal y_operands mk td y_heard) (fun i f => f = mk_c y_temps (3 * b) i 4294967296) 3 y_temps (mk_c0 _ _ _).symm ?_ ?_
    · intro n f I
      subst I
      exact br_t (by decide) q
    · intro n i f hi I k
      subst I
      have e : (3 : Int32) * nI b + nI i = nI (3 * b + i) := ix_l 3 b i
      refine br_f (nI_ge (b := 3) hi (by decide)) ⟨by rw [e]; exact vp_in_nI (by omega) (by decide), ?_⟩
      rw [e, nI_clamp (show 3 * b + i < 2 ^ 31 by omega)]
      exact nm_r (mk_cs _ _ _ _) (nm_r (nI_1 i) (k _ rfl))
  unfold wpY_begin wpY_step
  refine br_f s1 (nm_r (nI_1 st) ⟨rfl, br_f (by decide) (br_f w1 (hM _ ⟨161, ?_⟩))⟩)
  have key : ∀ e i f, i + e = b → e < f → wY_begin_31 post r y_classes y_bodies y_fault y_made (nI w) y_peak (nI (st + 1)) y_depth y_waiting y_code 1 y_has y_got (nI 0) (nI (ct_n (fun k => mk k = 1) 32)) y_shown y_spoken y_parent y_fields y_bound y_kind y_word y_size y_sort y_number y_stands y_keeps y_cells y_globals y_within y_foundIn y_self y_args y_temps y_param y_live y_work y_under y_at y_in y_phase y_base y_goal y_operands mk td y_heard f (nI i) := by
    intro e
    induction e with
    | zero =>
      intro i f he hf
      obtain ⟨f', rfl⟩ : ∃ f', f = f' + 1 := ⟨f - 1, by omega⟩
      obtain rfl : i = b := by omega
      unfold wY_begin_31
      rw [gy_32, nI_clamp (show 32 + i < 2 ^ 31 by omega), bcl, wcl, show vp_nar .boolean 1 = 1 by rfl]
      refine ⟨vp_in_nI (by omega) (by decide), br_t ((mb _ (by omega)).resolve_right hb1) ⟨vb, nm_e ⟨vb, nm_e ⟨vw, nm_e (nm_r (nI_1 w) ⟨vw, nm_e ?_⟩)⟩⟩⟩⟩
      by_cases z : nI (w + 1) ≤ y_peak
      · exact br_t z ⟨vb, nm_e (l123 _ (bg_t z).symm)⟩
      · exact br_f z ⟨vb, nm_e (l123 _ (bg_f z).symm)⟩
    | succ e ih =>
      intro i f he hf
      obtain ⟨f', rfl⟩ : ∃ f', f = f' + 1 := ⟨f - 1, by omega⟩
      unfold wY_begin_31
      rw [gy_32, nI_clamp (show 32 + i < 2 ^ 31 by omega)]
      refine ⟨vp_in_nI (by omega) (by decide), br_f ?_ (nm_r (nI_1 i) (ih (i + 1) f' (by omega) (by omega)))⟩
      rw [Classical.byContradiction fun z => hb2 i (by omega) z]
      decide
  exact key b 0 161 (by omega) (by omega)
end
