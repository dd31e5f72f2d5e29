/-! tokens on the component's side; wipe, global, cls, token, bind -/
section
variable {x_classCount x_bodyCount x_draftCount x_wrongPlace x_madeCount x_frameCount x_current x_next x_mode x_outcome x_stepCount x_atWork x_mostAtWork x_saidCount x_pendingCount : Int32} {x_inHand : Int64} {x_classParent x_classFields x_bound x_tokenKind x_tokenValue x_thingClass x_thingToken x_thingMaker x_homeOf x_within x_foundIn x_baseFrame x_frameToken x_frameStage x_frameLink x_marked x_pending : Nat → Int32} {x_globals x_thingShown x_thingFields x_variables x_operands x_saidValues : Nat → Int64}
variable {post : Int32 → Prop}
theorem xw_needs {k w : Int32} (ok : tk_ok k w) (h : post (nI (tk_need k w))) : wpX_operandsOf post (x_classCount, x_bodyCount, x_draftCount, x_wrongPlace, x_madeCount, x_frameCount, x_current, x_next, x_inHand, x_mode, x_outcome, x_stepCount, x_atWork, x_mostAtWork, x_saidCount, x_pendingCount, x_classParent, x_classFields, x_bound, x_tokenKind, x_tokenValue, x_globals, x_thingShown, x_thingClass, x_thingFields, x_thingToken, x_thingMaker, x_variables, x_homeOf, x_within, x_foundIn, x_baseFrame, x_frameToken, x_frameStage, x_frameLink, x_operands, x_saidValues, x_marked, x_pending) k w := by
  obtain ⟨kn, h1, h2, h3, -⟩ := ok
  unfold wpX_operandsOf
  dsimp only
  have h4 : kn = 10 ∨ kn = 11 → ∃ wn, wn < 12 ∧ w = nI wn := fun z => by
    obtain ⟨wn, w1, w2⟩ := h3 (by omega)
    rcases z with rfl | rfl
    · exact ⟨wn, w1, w2⟩
    · exact ⟨wn, w1, w2⟩
  clear h3
  revert h2 h4
  refine tk_cases (P := fun kn => k = nI kn → (kn = 10 ∨ kn = 11 → ∃ wn, wn < 12 ∧ w = nI wn) → _) ?_ ?_ ?_ ?_ ?_ ?_ ?_ ?_ ?_ ?_ ?_ ?_ ?_ ?_ ?_ ?_ ?_ ?_ ?_ ?_ ?_ ?_ ?_ ?_ ?_ ?_ ?_ ?_ ?_ ?_ kn h1
  all_goals intro e h4
  all_goals subst e
  case refine_11 =>
    obtain ⟨wn, w1, w2⟩ := h4 (Or.inl rfl)
    have e2 : tk_need (nI 10) w = 1 + wn / 4 := by
      show 1 + w.toNatClampNeg / 4 = _
      rw [w2, nI_clamp (by omega)]
    rw [e2] at h
    have e3 : (1 : Int32) + w / 4 = nI (1 + wn / 4) := by rw [w2, tk_div4 (by omega), ← nI_add]; rfl
    refine br_f (by decide) (br_f (by decide) (br_f (by decide) (br_f (by decide) (br_f (by decide) (br_f (by decide) (br_f (by decide) (br_t rfl ⟨by decide, ?_⟩)))))))
    rw [e3]; exact h
  case refine_12 =>
    obtain ⟨wn, w1, w2⟩ := h4 (Or.inr rfl)
    have e2 : tk_need (nI 11) w = wn / 4 := by
      show w.toNatClampNeg / 4 = _
      rw [w2, nI_clamp (by omega)]
    rw [e2] at h
    have e3 : w / 4 = nI (wn / 4) := by rw [w2, tk_div4 (by omega)]
    refine br_f (by decide) (br_f (by decide) (br_f (by decide) (br_f (by decide) (br_f (by decide) (br_f (by decide) (br_f (by decide) (br_f (by decide) (br_t rfl ⟨by decide, ?_⟩))))))))
    rw [e3]; exact h
  all_goals first
    | exact br_t (by decide) h
    | (refine br_f (by decide) (br_f (by decide) ?_)
       repeat first | exact br_t rfl h | refine br_f (by decide) ?_)
theorem xw_end4 {K W : Nat → Int32} : ∀ (n m t f : Nat), ex_s (tk_nd K W) n m t → n < f → t + n ≤ 416 → (∀ q, t ≤ q → q < t + n → x_tokenKind q = K q ∧ x_tokenValue q = W q ∧ tk_ok (K q) (W q)) → post (nI (t + n)) → wX_endOfExpression_4 post x_classCount x_bodyCount x_draftCount x_wrongPlace x_madeCount x_frameCount x_current x_next x_inHand x_mode x_outcome x_stepCount x_atWork x_mostAtWork x_saidCount x_pendingCount x_classParent x_classFields x_bound x_tokenKind x_tokenValue x_globals x_thingShown x_thingClass x_thingFields x_thingToken x_thingMaker x_variables x_homeOf x_within x_foundIn x_baseFrame x_frameToken x_frameStage x_frameLink x_operands x_saidValues x_marked x_pending f (nI m) (nI t)
  | 0, m, t, 0, _, hf, _, _, _ => by omega
  | 0, m, t, f + 1, hs, hf, h4, hok, h => by
    have e : m = 0 := hs
    subst e
    exact br_t (by decide) h
  | n + 1, m, t, 0, _, hf, _, _, _ => by omega
  | n + 1, m, t, f + 1, hs, hf, h4, hok, h => by
    have hm := ex_mle hs
    obtain ⟨q1, q2, q3⟩ := hok t (by omega) (by omega)
    refine br_f (nI_nle (by have := hs.1; omega) (by omega)) (br_f (nI_ge (b := 416) (by omega) (by decide)) ⟨vp_in_nI (by omega) (by decide), vp_in_nI (by omega) (by decide), ?_⟩)
    rw [nI_clamp (by omega), q1, q2]
    refine xw_needs q3 (nm_r (tk_mm hs.1) (nm_r (nI_1 t) ?_))
    exact xw_end4 n _ _ f hs.2 (by omega) (by omega) (fun q h1 h2 => hok q (by omega) (by omega)) (by rw [show t + 1 + n = t + (n + 1) by omega]; exact h)
theorem xw_end {K W : Nat → Int32} {n t : Nat} (hs : ex_s (tk_nd K W) n 1 t) (h4 : t + n ≤ 416) (hok : ∀ q, t ≤ q → q < t + n → x_tokenKind q = K q ∧ x_tokenValue q = W q ∧ tk_ok (K q) (W q)) (h : post (nI (t + n))) : wpX_endOfExpression post (x_classCount, x_bodyCount, x_draftCount, x_wrongPlace, x_madeCount, x_frameCount, x_current, x_next, x_inHand, x_mode, x_outcome, x_stepCount, x_atWork, x_mostAtWork, x_saidCount, x_pendingCount, x_classParent, x_classFields, x_bound, x_tokenKind, x_tokenValue, x_globals, x_thingShown, x_thingClass, x_thingFields, x_thingToken, x_thingMaker, x_variables, x_homeOf, x_within, x_foundIn, x_baseFrame, x_frameToken, x_frameStage, x_frameLink, x_operands, x_saidValues, x_marked, x_pending) (nI t) :=
  ⟨n + 1, xw_end4 n 1 t (n + 1) hs (by omega) h4 hok h⟩
end
section
variable {x_classCount x_bodyCount x_draftCount x_wrongPlace x_madeCount x_frameCount x_current x_next x_mode x_outcome x_stepCount x_atWork x_mostAtWork x_saidCount x_pendingCount : Int32} {x_inHand : Int64} {x_classParent x_classFields x_bound x_tokenKind x_tokenValue x_thingClass x_thingToken x_thingMaker x_homeOf x_within x_foundIn x_baseFrame x_frameToken x_frameStage x_frameLink x_marked x_pending : Nat → Int32} {x_globals x_thingShown x_thingFields x_variables x_operands x_saidValues : Nat → Int64}
variable {y_classes y_bodies y_fault y_made y_working y_peak y_steps y_depth y_waiting y_code y_running y_has y_todos y_marks y_spoken : Int32} {y_got y_shown : Int64} {y_parent y_fields y_bound y_kind y_word y_size y_sort y_number y_stands y_keeps y_within y_foundIn y_live y_work y_under y_at y_in y_phase y_base y_goal y_marked y_todo : Nat → Int32} {y_cells y_globals y_self y_args y_temps y_param y_operands y_heard : Nat → Int64}
variable {cc bc dc mc k : Nat} {T ST SA : Nat → Prop} {lv τ σ lev ho : Nat → Nat}
/-- does body b use an ARG from s / 4 on: both sides say the same -/
theorem xw_uses (TT : rl_T cc bc x_tokenKind x_tokenValue y_kind y_word y_size T lv) {b s : Nat} (hb : b < bc) (hs : s < 2 ^ 31) :
    ((∀ post : Int32 → Prop, post 0 → wpX_usesArgFrom post (x_classCount, x_bodyCount, x_draftCount, x_wrongPlace, x_madeCount, x_frameCount, x_current, x_next, x_inHand, x_mode, x_outcome, x_stepCount, x_atWork, x_mostAtWork, x_saidCount, x_pendingCount, x_classParent, x_classFields, x_bound, x_tokenKind, x_tokenValue, x_globals, x_thingShown, x_thingClass, x_thingFields, x_thingToken, x_thingMaker, x_variables, x_homeOf, x_within, x_foundIn, x_baseFrame, x_frameToken, x_frameStage, x_frameLink, x_operands, x_saidValues, x_marked, x_pending) (nI b) (nI (s / 4))) ∧ (∀ post : Int32 → Prop, post 1 → wpY_suits post (y_classes, y_bodies, y_fault, y_made, y_working, y_peak, y_steps, y_depth, y_waiting, y_code, y_running, y_has, y_got, y_todos, y_marks, y_shown, y_spoken, y_parent, y_fields, y_bound, y_kind, y_word, y_size, y_sort, y_number, y_stands, y_keeps, y_cells, y_globals, y_within, y_foundIn, y_self, y_args, y_temps, y_param, y_live, y_work, y_under, y_at, y_in, y_phase, y_base, y_goal, y_operands, y_marked, y_todo, y_heard) (nI b) (nI s))) ∨
    ((∀ post : Int32 → Prop, post 1 → wpX_usesArgFrom post (x_classCount, x_bodyCount, x_draftCount, x_wrongPlace, x_madeCount, x_frameCount, x_current, x_next, x_inHand, x_mode, x_outcome, x_stepCount, x_atWork, x_mostAtWork, x_saidCount, x_pendingCount, x_classParent, x_classFields, x_bound, x_tokenKind, x_tokenValue, x_globals, x_thingShown, x_thingClass, x_thingFields, x_thingToken, x_thingMaker, x_variables, x_homeOf, x_within, x_foundIn, x_baseFrame, x_frameToken, x_frameStage, x_frameLink, x_operands, x_saidValues, x_marked, x_pending) (nI b) (nI (s / 4))) ∧ (∀ post : Int32 → Prop, post 0 → wpY_suits post (y_classes, y_bodies, y_fault, y_made, y_working, y_peak, y_steps, y_depth, y_waiting, y_code, y_running, y_has, y_got, y_todos, y_marks, y_shown, y_spoken, y_parent, y_fields, y_bound, y_kind, y_word, y_size, y_sort, y_number, y_stands, y_keeps, y_cells, y_globals, y_within, y_foundIn, y_self, y_args, y_temps, y_param, y_live, y_work, y_under, y_at, y_in, y_phase, y_base, y_goal, y_operands, y_marked, y_todo, y_heard) (nI b) (nI s))) := by
  obtain ⟨b12, t1, t2, t3, _⟩ := TT
  obtain ⟨tb, _, n, n1, n2, n3⟩ := t3 b hb
  obtain ⟨m, m1, m2, m3⟩ := t2 _ tb
  obtain rfl : m = n := ex_u m1 n3
  have hb2 : 32 * b / 32 = b := by omega
  rw [hb2] at m2
  have hT : ∀ q, 32 * b ≤ q → q < 32 * b + m → x_tokenKind q = y_kind q ∧ x_tokenValue q = y_word q ∧ tk_ok (y_kind q) (y_word q) := fun q h1 h2 => ⟨(t1 q (m3 q h1 h2)).2.1, (t1 q (m3 q h1 h2)).2.2.1, (t1 q (m3 q h1 h2)).2.2.2.1⟩
  have key : ∀ d t, t + d = 32 * b + m → 32 * b ≤ t →
      ((∀ f (post : Int32 → Prop), d < f → post 0 → wX_usesArgFrom_15 post (nI (s / 4)) (nI (32 * b + m)) x_classCount x_bodyCount x_draftCount x_wrongPlace x_madeCount x_frameCount x_current x_next x_inHand x_mode x_outcome x_stepCount x_atWork x_mostAtWork x_saidCount x_pendingCount x_classParent x_classFields x_bound x_tokenKind x_tokenValue x_globals x_thingShown x_thingClass x_thingFields x_thingToken x_thingMaker x_variables x_homeOf x_within x_foundIn x_baseFrame x_frameToken x_frameStage x_frameLink x_operands x_saidValues x_marked x_pending f (nI t)) ∧ (∀ f (post : Int32 → Prop), d < f → post 1 → wY_suits_5 post (nI b) (nI s) y_classes y_bodies y_fault y_made y_working y_peak y_steps y_depth y_waiting y_code y_running y_has y_got y_todos y_marks y_shown y_spoken y_parent y_fields y_bound y_kind y_word y_size y_sort y_number y_stands y_keeps y_cells y_globals y_within y_foundIn y_self y_args y_temps y_param y_live y_work y_under y_at y_in y_phase y_base y_goal y_operands y_marked y_todo y_heard f (nI t))) ∨
      ((∀ f (post : Int32 → Prop), d < f → post 1 → wX_usesArgFrom_15 post (nI (s / 4)) (nI (32 * b + m)) x_classCount x_bodyCount x_draftCount x_wrongPlace x_madeCount x_frameCount x_current x_next x_inHand x_mode x_outcome x_stepCount x_atWork x_mostAtWork x_saidCount x_pendingCount x_classParent x_classFields x_bound x_tokenKind x_tokenValue x_globals x_thingShown x_thingClass x_thingFields x_thingToken x_thingMaker x_variables x_homeOf x_within x_foundIn x_baseFrame x_frameToken x_frameStage x_frameLink x_operands x_saidValues x_marked x_pending f (nI t)) ∧ (∀ f (post : Int32 → Prop), d < f → post 0 → wY_suits_5 post (nI b) (nI s) y_classes y_bodies y_fault y_made y_working y_peak y_steps y_depth y_waiting y_code y_running y_has y_got y_todos y_marks y_shown y_spoken y_parent y_fields y_bound y_kind y_word y_size y_sort y_number y_stands y_keeps y_cells y_globals y_within y_foundIn y_self y_args y_temps y_param y_live y_work y_under y_at y_in y_phase y_base y_goal y_operands y_marked y_todo y_heard f (nI t))) := by
    have ey : (32 : Int32) * nI b + y_size (nI b).toNatClampNeg = nI (32 * b + m) := by
      rw [nI_clamp (by omega), n2]; exact ix_l 32 b m
    have vb : vp_in (nI b) 13 := vp_in_nI (by omega) (by decide)
    intro d
    induction d with
    | zero =>
      intro t e1 e2
      refine Or.inl ⟨fun f post hf hp => ?_, fun f post hf hp => ?_⟩
      · obtain ⟨f', rfl⟩ : ∃ f', f = f' + 1 := ⟨f - 1, by omega⟩
        exact br_t (nI_le (by omega) (by omega)) hp
      · obtain ⟨f', rfl⟩ : ∃ f', f = f' + 1 := ⟨f - 1, by omega⟩
        refine ⟨vb, ?_⟩
        rw [ey]
        exact br_t (nI_le (by omega) (by omega)) hp
    | succ d ih =>
      intro t e1 e2
      obtain ⟨q1, q2, q3⟩ := hT t e2 (by omega)
      have tc : (nI t).toNatClampNeg = t := nI_clamp (by omega)
      have vt : vp_in (nI t) 416 := vp_in_nI (by omega) (by decide)
      have sX : ∀ f (post : Int32 → Prop), ((y_kind t = 3 → ((y_word t < nI (s / 4) → wX_usesArgFrom_15 post (nI (s / 4)) (nI (32 * b + m)) x_classCount x_bodyCount x_draftCount x_wrongPlace x_madeCount x_frameCount x_current x_next x_inHand x_mode x_outcome x_stepCount x_atWork x_mostAtWork x_saidCount x_pendingCount x_classParent x_classFields x_bound x_tokenKind x_tokenValue x_globals x_thingShown x_thingClass x_thingFields x_thingToken x_thingMaker x_variables x_homeOf x_within x_foundIn x_baseFrame x_frameToken x_frameStage x_frameLink x_operands x_saidValues x_marked x_pending f (nI (t + 1))) ∧ (¬ y_word t < nI (s / 4) → post 1))) ∧ (¬ y_kind t = 3 → wX_usesArgFrom_15 post (nI (s / 4)) (nI (32 * b + m)) x_classCount x_bodyCount x_draftCount x_wrongPlace x_madeCount x_frameCount x_current x_next x_inHand x_mode x_outcome x_stepCount x_atWork x_mostAtWork x_saidCount x_pendingCount x_classParent x_classFields x_bound x_tokenKind x_tokenValue x_globals x_thingShown x_thingClass x_thingFields x_thingToken x_thingMaker x_variables x_homeOf x_within x_foundIn x_baseFrame x_frameToken x_frameStage x_frameLink x_operands x_saidValues x_marked x_pending f (nI (t + 1)))) → wX_usesArgFrom_15 post (nI (s / 4)) (nI (32 * b + m)) x_classCount x_bodyCount x_draftCount x_wrongPlace x_madeCount x_frameCount x_current x_next x_inHand x_mode x_outcome x_stepCount x_atWork x_mostAtWork x_saidCount x_pendingCount x_classParent x_classFields x_bound x_tokenKind x_tokenValue x_globals x_thingShown x_thingClass x_thingFields x_thingToken x_thingMaker x_variables x_homeOf x_within x_foundIn x_baseFrame x_frameToken x_frameStage x_frameLink x_operands x_saidValues x_marked x_pending (f + 1) (nI t) := fun f post h => by
        refine br_f (nI_ge (by omega) (by omega)) ⟨vt, ?_⟩
        rw [tc, q1, q2]
        exact ⟨fun z => ⟨vt, fun y => nm_r (nI_1 t) ((h.1 z).1 y), (h.1 z).2⟩, fun z => nm_r (nI_1 t) (h.2 z)⟩
      have sY : ∀ f (post : Int32 → Prop), ((y_kind t = 3 → ((y_word t < nI (s / 4) → wY_suits_5 post (nI b) (nI s) y_classes y_bodies y_fault y_made y_working y_peak y_steps y_depth y_waiting y_code y_running y_has y_got y_todos y_marks y_shown y_spoken y_parent y_fields y_bound y_kind y_word y_size y_sort y_number y_stands y_keeps y_cells y_globals y_within y_foundIn y_self y_args y_temps y_param y_live y_work y_under y_at y_in y_phase y_base y_goal y_operands y_marked y_todo y_heard f (nI (t + 1))) ∧ (¬ y_word t < nI (s / 4) → post 0))) ∧ (¬ y_kind t = 3 → wY_suits_5 post (nI b) (nI s) y_classes y_bodies y_fault y_made y_working y_peak y_steps y_depth y_waiting y_code y_running y_has y_got y_todos y_marks y_shown y_spoken y_parent y_fields y_bound y_kind y_word y_size y_sort y_number y_stands y_keeps y_cells y_globals y_within y_foundIn y_self y_args y_temps y_param y_live y_work y_under y_at y_in y_phase y_base y_goal y_operands y_marked y_todo y_heard f (nI (t + 1)))) → wY_suits_5 post (nI b) (nI s) y_classes y_bodies y_fault y_made y_working y_peak y_steps y_depth y_waiting y_code y_running y_has y_got y_todos y_marks y_shown y_spoken y_parent y_fields y_bound y_kind y_word y_size y_sort y_number y_stands y_keeps y_cells y_globals y_within y_foundIn y_self y_args y_temps y_param y_live y_work y_under y_at y_in y_phase y_base y_goal y_operands y_marked y_todo y_heard (f + 1) (nI t) := fun f post h => by
        refine ⟨vb, ?_⟩
        rw [ey]
        refine br_f (nI_ge (by omega) (by omega)) ⟨vt, ?_⟩
        rw [tc, tk_div4 hs]
        exact ⟨fun z => ⟨vt, by decide, fun y => nm_r (nI_1 t) ((h.1 z).1 y), (h.1 z).2⟩, fun z => nm_r (nI_1 t) (h.2 z)⟩
      by_cases z : y_kind t = 3 ∧ ¬ y_word t < nI (s / 4)
      · refine Or.inr ⟨fun f post hf hp => ?_, fun f post hf hp => ?_⟩
        · obtain ⟨f', rfl⟩ : ∃ f', f = f' + 1 := ⟨f - 1, by omega⟩
          exact sX f' post (br_t z.1 (br_f z.2 hp))
        · obtain ⟨f', rfl⟩ : ∃ f', f = f' + 1 := ⟨f - 1, by omega⟩
          exact sY f' post (br_t z.1 (br_f z.2 hp))
      · have goX : ∀ f (post : Int32 → Prop), wX_usesArgFrom_15 post (nI (s / 4)) (nI (32 * b + m)) x_classCount x_bodyCount x_draftCount x_wrongPlace x_madeCount x_frameCount x_current x_next x_inHand x_mode x_outcome x_stepCount x_atWork x_mostAtWork x_saidCount x_pendingCount x_classParent x_classFields x_bound x_tokenKind x_tokenValue x_globals x_thingShown x_thingClass x_thingFields x_thingToken x_thingMaker x_variables x_homeOf x_within x_foundIn x_baseFrame x_frameToken x_frameStage x_frameLink x_operands x_saidValues x_marked x_pending f (nI (t + 1)) → wX_usesArgFrom_15 post (nI (s / 4)) (nI (32 * b + m)) x_classCount x_bodyCount x_draftCount x_wrongPlace x_madeCount x_frameCount x_current x_next x_inHand x_mode x_outcome x_stepCount x_atWork x_mostAtWork x_saidCount x_pendingCount x_classParent x_classFields x_bound x_tokenKind x_tokenValue x_globals x_thingShown x_thingClass x_thingFields x_thingToken x_thingMaker x_variables x_homeOf x_within x_foundIn x_baseFrame x_frameToken x_frameStage x_frameLink x_operands x_saidValues x_marked x_pending (f + 1) (nI t) := fun f post h => sX f post ⟨fun z3 => ⟨fun _ => h, fun z4 => absurd ⟨z3, z4⟩ z⟩, fun _ => h⟩
        have goY : ∀ f (post : Int32 → Prop), wY_suits_5 post (nI b) (nI s) y_classes y_bodies y_fault y_made y_working y_peak y_steps y_depth y_waiting y_code y_running y_has y_got y_todos y_marks y_shown y_spoken y_parent y_fields y_bound y_kind y_word y_size y_sort y_number y_stands y_keeps y_cells y_globals y_within y_foundIn y_self y_args y_temps y_param y_live y_work y_under y_at y_in y_phase y_base y_goal y_operands y_marked y_todo y_heard f (nI (t + 1)) → wY_suits_5 post (nI b) (nI s) y_classes y_bodies y_fault y_made y_working y_peak y_steps y_depth y_waiting y_code y_running y_has y_got y_todos y_marks y_shown y_spoken y_parent y_fields y_bound y_kind y_word y_size y_sort y_number y_stands y_keeps y_cells y_globals y_within y_foundIn y_self y_args y_temps y_param y_live y_work y_under y_at y_in y_phase y_base y_goal y_operands y_marked y_todo y_heard (f + 1) (nI t) := fun f post h => sY f post ⟨fun z3 => ⟨fun _ => h, fun z4 => absurd ⟨z3, z4⟩ z⟩, fun _ => h⟩
        rcases ih (t + 1) (by omega) (by omega) with ⟨a, c⟩ | ⟨a, c⟩
        · refine Or.inl ⟨fun f post hf hp => ?_, fun f post hf hp => ?_⟩
          · obtain ⟨f', rfl⟩ : ∃ f', f = f' + 1 := ⟨f - 1, by omega⟩
            exact goX f' post (a f' post (by omega) hp)
          · obtain ⟨f', rfl⟩ : ∃ f', f = f' + 1 := ⟨f - 1, by omega⟩
            exact goY f' post (c f' post (by omega) hp)
        · refine Or.inr ⟨fun f post hf hp => ?_, fun f post hf hp => ?_⟩
          · obtain ⟨f', rfl⟩ : ∃ f', f = f' + 1 := ⟨f - 1, by omega⟩
            exact goX f' post (a f' post (by omega) hp)
          · obtain ⟨f', rfl⟩ : ∃ f', f = f' + 1 := ⟨f - 1, by omega⟩
            exact goY f' post (c f' post (by omega) hp)
  have eX : nI b * (32 : Int32) = nI (32 * b) := by rw [Nat.mul_comm]; exact pk_mul b 32
  have eY : (32 : Int32) * nI b = nI (32 * b) := pk_mul 32 b
  have endX : ∀ post : Int32 → Prop, (∃ f, wX_usesArgFrom_15 post (nI (s / 4)) (nI (32 * b + m)) x_classCount x_bodyCount x_draftCount x_wrongPlace x_madeCount x_frameCount x_current x_next x_inHand x_mode x_outcome x_stepCount x_atWork x_mostAtWork x_saidCount x_pendingCount x_classParent x_classFields x_bound x_tokenKind x_tokenValue x_globals x_thingShown x_thingClass x_thingFields x_thingToken x_thingMaker x_variables x_homeOf x_within x_foundIn x_baseFrame x_frameToken x_frameStage x_frameLink x_operands x_saidValues x_marked x_pending f (nI (32 * b))) → wpX_usesArgFrom post (x_classCount, x_bodyCount, x_draftCount, x_wrongPlace, x_madeCount, x_frameCount, x_current, x_next, x_inHand, x_mode, x_outcome, x_stepCount, x_atWork, x_mostAtWork, x_saidCount, x_pendingCount, x_classParent, x_classFields, x_bound, x_tokenKind, x_tokenValue, x_globals, x_thingShown, x_thingClass, x_thingFields, x_thingToken, x_thingMaker, x_variables, x_homeOf, x_within, x_foundIn, x_baseFrame, x_frameToken, x_frameStage, x_frameLink, x_operands, x_saidValues, x_marked, x_pending) (nI b) (nI (s / 4)) := fun post h => by
    unfold wpX_usesArgFrom
    dsimp only
    rw [eX]
    exact xw_end m1 (by omega) hT (nm_e h)
  have endY : ∀ post : Int32 → Prop, (∃ f, wY_suits_5 post (nI b) (nI s) y_classes y_bodies y_fault y_made y_working y_peak y_steps y_depth y_waiting y_code y_running y_has y_got y_todos y_marks y_shown y_spoken y_parent y_fields y_bound y_kind y_word y_size y_sort y_number y_stands y_keeps y_cells y_globals y_within y_foundIn y_self y_args y_temps y_param y_live y_work y_under y_at y_in y_phase y_base y_goal y_operands y_marked y_todo y_heard f (nI (32 * b))) → wpY_suits post (y_classes, y_bodies, y_fault, y_made, y_working, y_peak, y_steps, y_depth, y_waiting, y_code, y_running, y_has, y_got, y_todos, y_marks, y_shown, y_spoken, y_parent, y_fields, y_bound, y_kind, y_word, y_size, y_sort, y_number, y_stands, y_keeps, y_cells, y_globals, y_within, y_foundIn, y_self, y_args, y_temps, y_param, y_live, y_work, y_under, y_at, y_in, y_phase, y_base, y_goal, y_operands, y_marked, y_todo, y_heard) (nI b) (nI s) := fun post h => nm_r eY h
  rcases key m (32 * b) rfl (Nat.le_refl _) with ⟨a, c⟩ | ⟨a, c⟩
  · exact Or.inl ⟨fun post hp => endX post ⟨m + 1, a _ post (by omega) hp⟩, fun post hp => endY post ⟨m + 1, c _ post (by omega) hp⟩⟩
  · exact Or.inr ⟨fun post hp => endX post ⟨m + 1, a _ post (by omega) hp⟩, fun post hp => endY post ⟨m + 1, c _ post (by omega) hp⟩⟩
/-- one that can have objects -/
theorem xw_made (h4 : 4 ≤ cc) (h10 : cc ≤ 10) (p : Int32) :
    ((∀ post : Int32 → Prop, post 0 → wpX_canHaveObjects post (nI cc, x_bodyCount, x_draftCount, x_wrongPlace, x_madeCount, x_frameCount, x_current, x_next, x_inHand, x_mode, x_outcome, x_stepCount, x_atWork, x_mostAtWork, x_saidCount, x_pendingCount, x_classParent, x_classFields, x_bound, x_tokenKind, x_tokenValue, x_globals, x_thingShown, x_thingClass, x_thingFields, x_thingToken, x_thingMaker, x_variables, x_homeOf, x_within, x_foundIn, x_baseFrame, x_frameToken, x_frameStage, x_frameLink, x_operands, x_saidValues, x_marked, x_pending) p) ∧ (∀ post : Int32 → Prop, post 0 → wpY_isMade post (nI cc, y_bodies, y_fault, y_made, y_working, y_peak, y_steps, y_depth, y_waiting, y_code, y_running, y_has, y_got, y_todos, y_marks, y_shown, y_spoken, y_parent, y_fields, y_bound, y_kind, y_word, y_size, y_sort, y_number, y_stands, y_keeps, y_cells, y_globals, y_within, y_foundIn, y_self, y_args, y_temps, y_param, y_live, y_work, y_under, y_at, y_in, y_phase, y_base, y_goal, y_operands, y_marked, y_todo, y_heard) p)) ∨
    (∃ c, c < cc ∧ p = nI c ∧ (c = 0 ∨ 4 ≤ c) ∧ (∀ post : Int32 → Prop, post 1 → wpX_canHaveObjects post (nI cc, x_bodyCount, x_draftCount, x_wrongPlace, x_madeCount, x_frameCount, x_current, x_next, x_inHand, x_mode, x_outcome, x_stepCount, x_atWork, x_mostAtWork, x_saidCount, x_pendingCount, x_classParent, x_classFields, x_bound, x_tokenKind, x_tokenValue, x_globals, x_thingShown, x_thingClass, x_thingFields, x_thingToken, x_thingMaker, x_variables, x_homeOf, x_within, x_foundIn, x_baseFrame, x_frameToken, x_frameStage, x_frameLink, x_operands, x_saidValues, x_marked, x_pending) p) ∧ (∀ post : Int32 → Prop, post 1 → wpY_isMade post (nI cc, y_bodies, y_fault, y_made, y_working, y_peak, y_steps, y_depth, y_waiting, y_code, y_running, y_has, y_got, y_todos, y_marks, y_shown, y_spoken, y_parent, y_fields, y_bound, y_kind, y_word, y_size, y_sort, y_number, y_stands, y_keeps, y_cells, y_globals, y_within, y_foundIn, y_self, y_args, y_temps, y_param, y_live, y_work, y_under, y_at, y_in, y_phase, y_base, y_goal, y_operands, y_marked, y_todo, y_heard) p)) := by
  rcases pk_ix p (n := cc) (by omega) with h | h | ⟨c, hc, rfl⟩
  · refine Or.inl ⟨fun post hp => br_f (fun z => by rw [z] at h; exact absurd h (by decide)) (br_t (Int32.lt_trans h (by decide)) hp), fun post hp => br_t h (br_t rfl hp)⟩
  · have h5 : nI 4 ≤ p := Int32.le_trans (nI_le h4 (by omega)) h
    have h0 : ¬ p < 0 := Int32.not_lt.mpr (Int32.le_trans (by decide) h5)
    refine Or.inl ⟨fun post hp => br_f (fun z => by rw [z] at h5; exact absurd h5 (by decide)) (br_f (Int32.not_lt.mpr h5) (br_t h hp)), fun post hp => br_f h0 (br_t h (br_t rfl hp))⟩
  · have h0 : ¬ nI c < 0 := nI_pos (by omega)
    have h1 : ¬ nI cc ≤ nI c := nI_ge hc (by omega)
    by_cases z : c = 0
    · subst z
      exact Or.inr ⟨0, hc, rfl, Or.inl rfl, fun post hp => br_t rfl hp, fun post hp => br_f h0 (br_f h1 (br_f (by decide) (br_t rfl hp)))⟩
    · have z0 : ¬ nI c = 0 := nI_ne0 (by omega) (by omega)
      by_cases z4 : 4 ≤ c
      · exact Or.inr ⟨c, hc, rfl, Or.inr z4, fun post hp => br_f z0 (br_f (nI_nlt (b := 4) z4 (by omega)) (br_f h1 hp)), fun post hp => br_f h0 (br_f h1 (br_f (by decide) (br_f z0 (br_f (nI_ge (a := 3) (by omega) (by omega)) hp))))⟩
      · exact Or.inl ⟨fun post hp => br_f z0 (br_t (nI_lt (b := 4) (by omega) (by decide)) hp), fun post hp => br_f h0 (br_f h1 (br_f (by decide) (br_f z0 (br_t (nI_le (b := 3) (by omega) (by decide)) hp))))⟩
theorem rl_Tsz {cc' : Nat} {KX' WX' K' W' sz' : Nat → Int32} (TT : rl_T cc bc x_tokenKind x_tokenValue y_kind y_word y_size T lv) (hc : cc ≤ cc') (h : ∀ p, p < 384 → p < 32 * bc → KX' p = x_tokenKind p ∧ WX' p = x_tokenValue p ∧ K' p = y_kind p ∧ W' p = y_word p) (hz : ∀ b, b < bc → sz' b = y_size b) : rl_T cc' bc KX' WX' K' W' sz' T lv := by
  obtain ⟨b12, t1, t2, t3, t4, t5⟩ := TT
  have hp : ∀ p, T p → KX' p = x_tokenKind p ∧ WX' p = x_tokenValue p ∧ K' p = y_kind p ∧ W' p = y_word p := fun p tp => h p (by have := (t1 p tp).1; omega) (t1 p tp).1
  have nd : ∀ p, T p → tk_nd K' W' p = tk_nd y_kind y_word p := fun p tp => by
    unfold tk_nd
    rw [(hp p tp).2.2.1, (hp p tp).2.2.2]
  have ee : ∀ p, T p → ex_e (tk_nd K' W') p = ex_e (tk_nd y_kind y_word) p := fun p tp => by
    obtain ⟨m, m1, m2, m3⟩ := t2 p tp
    exact ex_eloc m1 fun q h1 h2 => (nd q (m3 q h1 h2)).symm
  have es : ∀ p m, T p → ex_s (tk_nd y_kind y_word) m 1 p → ex_s (tk_nd K' W') m 1 p := fun p m tp hm => by
    obtain ⟨m', m1, m2, m3⟩ := t2 p tp
    obtain rfl : m' = m := ex_u m1 hm
    exact ex_cong (fun i hi => (nd (p + i) (m3 _ (by omega) (by omega))).symm) hm
  refine ⟨b12, fun p tp => ?_, fun p tp => ?_, fun b hb => ?_, fun p tp e => ?_, fun p j tp e hj => ?_⟩
  · obtain ⟨a1, a2, a3, a4⟩ := hp p tp
    obtain ⟨c1, c2, c3, c4, c5, c6, c7, c8⟩ := t1 p tp
    rw [a1, a2, a3, a4]
    exact ⟨c1, c2, c3, c4, c5, c6, fun z => by obtain ⟨c, d1, d2, d3⟩ := c7 z; exact ⟨c, by omega, d2, d3⟩, fun z => ⟨by have := (c8 z).1; omega, (c8 z).2⟩⟩
  · obtain ⟨m, m1, m2, m3⟩ := t2 p tp
    exact ⟨m, es p m tp m1, m2, m3⟩
  · obtain ⟨a1, a2, n, n1, n2, n3⟩ := t3 b hb
    exact ⟨a1, a2, n, n1, by rw [hz b hb]; exact n2, es _ _ a1 n3⟩
  · rw [(hp p tp).2.2.1] at e
    exact t4 p tp e
  · rw [(hp p tp).2.2.1] at e
    rw [nd p tp] at hj
    have key : ∀ i, i ≤ j → ex_pt (tk_nd K' W') p i = ex_pt (tk_nd y_kind y_word) p i := by
      intro i
      induction i with
      | zero => intro _; rfl
      | succ i ih =>
        intro hi
        show ex_e _ _ = ex_e _ _
        rw [ih (by omega)]
        obtain ⟨m, m1, m2, m3⟩ := t2 p tp
        obtain ⟨q1, q2, _⟩ := ex_part m1 (show i < tk_nd y_kind y_word p by omega)
        exact ee _ (m3 _ (by omega) q2)
    rw [key j (Nat.le_refl _)]
    exact t5 p j tp e hj
theorem hp_TK {T' : Nat → Prop} {lv' : Nat → Nat} {K' : Nat → Int32} (H : hp_R cc mc T y_kind lv ST SA τ σ lev ho x_thingShown x_thingClass x_thingFields x_thingToken x_thingMaker x_variables x_homeOf x_within x_foundIn y_sort y_number y_stands y_keeps y_cells y_within y_foundIn y_self y_args y_temps y_param) (h : ∀ p, T p → T' p ∧ lv' p = lv p ∧ K' p = y_kind p) : hp_R cc mc T' K' lv' ST SA τ σ lev ho x_thingShown x_thingClass x_thingFields x_thingToken x_thingMaker x_variables x_homeOf x_within x_foundIn y_sort y_number y_stands y_keeps y_cells y_within y_foundIn y_self y_args y_temps y_param := by
  refine ⟨fun k hk => ?_, H.2⟩
  obtain ⟨k1, k2, k3, k4, k5, k6, k7, k8⟩ := H.1 k hk
  refine ⟨k1, k2, k3, k4, k5, k6, fun s => ?_, k8⟩
  obtain ⟨p, a, p1, p2, p3, p4, p5, p6, p7, p8, p9⟩ := k7 s
  obtain ⟨q1, q2, q3⟩ := h p p1
  exact ⟨p, a, q1, by rw [q3]; exact p2, p3, p4, p5, p6, p7, by rw [q2]; exact p8, p9⟩
theorem hp_cc {cc' mc' : Nat} (H : hp_R cc mc T y_kind lv ST SA τ σ lev ho x_thingShown x_thingClass x_thingFields x_thingToken x_thingMaker x_variables x_homeOf x_within x_foundIn y_sort y_number y_stands y_keeps y_cells y_within y_foundIn y_self y_args y_temps y_param) (hc : cc ≤ cc') (hm : mc ≤ mc') : hp_R cc' mc' T y_kind lv ST SA τ σ lev ho x_thingShown x_thingClass x_thingFields x_thingToken x_thingMaker x_variables x_homeOf x_within x_foundIn y_sort y_number y_stands y_keeps y_cells y_within y_foundIn y_self y_args y_temps y_param := by
  refine ⟨fun k hk => ?_, fun a ha => ?_, H.2.2⟩
  · obtain ⟨k1, k2, ⟨c, c1, c2⟩, ⟨n, n1, n2⟩, k5⟩ := H.1 k hk
    exact ⟨k1, k2, ⟨c, by omega, c2⟩, ⟨n, by omega, n2⟩, k5⟩
  · obtain ⟨k1, k2, k3, k4, k5, k6, k7⟩ := H.2.1 a ha
    refine ⟨k1, k2, k3, k4, k5, k6, ?_⟩
    rcases k7 with ⟨a1, a2, a3, a4, ⟨c, c1, c2⟩, a5⟩ | z
    · exact Or.inl ⟨a1, a2, a3, a4, ⟨c, by omega, c2⟩, a5⟩
    · exact Or.inr z
end
theorem i_vc_wipe {k : Nat} {u : SX} {v : SY} (I : i_Rel k u v) (hk : k + 5 ≤ 2560) : wpX_wipe (fun r u' => wpY_wipe (fun r' v' => r' = r ∧ i_Rel (k + 5) u' v') v) u := by
  obtain ⟨x_classCount, x_bodyCount, x_draftCount, x_wrongPlace, x_madeCount, x_frameCount, x_current, x_next, x_inHand, x_mode, x_outcome, x_stepCount, x_atWork, x_mostAtWork, x_saidCount, x_pendingCount, x_classParent, x_classFields, x_bound, x_tokenKind, x_tokenValue, x_globals, x_thingShown, x_thingClass, x_thingFields, x_thingToken, x_thingMaker, x_variables, x_homeOf, x_within, x_foundIn, x_baseFrame, x_frameToken, x_frameStage, x_frameLink, x_operands, x_saidValues, x_marked, x_pending⟩ := u
  obtain ⟨y_classes, y_bodies, y_fault, y_made, y_working, y_peak, y_steps, y_depth, y_waiting, y_code, y_running, y_has, y_got, y_todos, y_marks, y_shown, y_spoken, y_parent, y_fields, y_bound, y_kind, y_word, y_size, y_sort, y_number, y_stands, y_keeps, y_cells, y_globals, y_within, y_foundIn, y_self, y_args, y_temps, y_param, y_live, y_work, y_under, y_at, y_in, y_phase, y_base, y_goal, y_operands, y_marked, y_todo, y_heard⟩ := v
  obtain ⟨cc, bc, dc, mc, T, ST, SA, lv, τ, σ, lev, ho, ⟨a1, a2, a3, a4, rfl, a6⟩, h2, h3, ⟨C, B, TT, D⟩, h5, g⟩ := I
  refine nm_r D.2.1 (nm_e ⟨rfl, cc, bc, 0, mc, T, ST, SA, lv, τ, σ, lev, ho, ⟨a1, a2, a3, a4, rfl, a6⟩, h2, h3, ⟨C, B, ?_, ?_⟩, by omega, g⟩)
  · exact rl_Tsz TT (Nat.le_refl _) (fun p _ _ => ⟨rfl, rfl, rfl, rfl⟩) (fun b hb => pk_un (by have := TT.1; omega))
  · exact ⟨by omega, pk_us, fun i hi => by omega⟩
theorem i_vc_global {k : Nat} {u : SX} {v : SY} (I : i_Rel k u v) (hk : k + 5 ≤ 2560) (v1 : Int32) (v2 : Int32) : wpX_global (fun r u' => wpY_global (fun r' v' => r' = r ∧ i_Rel (k + 5) u' v') v v1 v2) u v1 v2 := by
  have J := i_up I
  obtain ⟨x_classCount, x_bodyCount, x_draftCount, x_wrongPlace, x_madeCount, x_frameCount, x_current, x_next, x_inHand, x_mode, x_outcome, x_stepCount, x_atWork, x_mostAtWork, x_saidCount, x_pendingCount, x_classParent, x_classFields, x_bound, x_tokenKind, x_tokenValue, x_globals, x_thingShown, x_thingClass, x_thingFields, x_thingToken, x_thingMaker, x_variables, x_homeOf, x_within, x_foundIn, x_baseFrame, x_frameToken, x_frameStage, x_frameLink, x_operands, x_saidValues, x_marked, x_pending⟩ := u
  obtain ⟨y_classes, y_bodies, y_fault, y_made, y_working, y_peak, y_steps, y_depth, y_waiting, y_code, y_running, y_has, y_got, y_todos, y_marks, y_shown, y_spoken, y_parent, y_fields, y_bound, y_kind, y_word, y_size, y_sort, y_number, y_stands, y_keeps, y_cells, y_globals, y_within, y_foundIn, y_self, y_args, y_temps, y_param, y_live, y_work, y_under, y_at, y_in, y_phase, y_base, y_goal, y_operands, y_marked, y_todo, y_heard⟩ := v
  obtain ⟨cc, bc, dc, mc, T, ST, SA, lv, τ, σ, lev, ho, h1, h2, h3, h4, h5, g, h6⟩ := I
  rcases pk_ix v1 (n := 4) (by decide) with h | h | ⟨j, hj, rfl⟩
  · exact br_t h (br_t rfl (br_t h (br_t rfl ⟨rfl, J⟩)))
  · have h0 : ¬ v1 < 0 := Int32.not_lt.mpr (Int32.le_trans (by decide) h)
    exact br_f h0 (br_t h (br_t rfl (br_f h0 (br_t h (br_t rfl ⟨rfl, J⟩)))))
  · have h0 : ¬ nI j < 0 := nI_pos (by omega)
    have h7 : ¬ (4 : Int32) ≤ nI j := nI_ge (b := 4) hj (by decide)
    have jc : (nI j).toNatClampNeg = j := nI_clamp (by omega)
    refine br_f h0 (br_f h7 (br_f (by decide) ⟨vp_in_nI hj (by decide), nm_e ?_⟩))
    refine br_f h0 (br_f h7 (br_f (by decide) ⟨vp_in_nI hj (by decide), nm_e ⟨rfl, cc, bc, dc, mc, T, ST, SA, lv, τ, σ, lev, ho, h1, h2, h3, h4, by omega, fun i hi => ?_, h6⟩⟩))
    rw [jc]
    by_cases z : i = j
    · subst z
      rw [pk_uLs, pk_uLs, vv_w]
      exact ⟨.inl v2, fun k e => (by cases e), rfl, rfl⟩
    · rw [pk_uLn z, pk_uLn z]
      exact g i hi
