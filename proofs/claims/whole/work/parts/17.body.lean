/-! fits, and the whole of a draft -/
section
variable {x_classCount x_bodyCount x_draftCount x_wrongPlace x_madeCount x_frameCount x_current x_next x_mode x_outcome x_stepCount x_atWork x_mostAtWork x_saidCount x_pendingCount : Int32} {x_inHand : Int64} {x_classParent x_classFields x_bound x_tokenKind x_tokenValue x_thingClass x_thingToken x_thingMaker x_homeOf x_within x_foundIn x_baseFrame x_frameToken x_frameStage x_frameLink x_marked x_pending : Nat → Int32} {x_globals x_thingShown x_thingFields x_variables x_operands x_saidValues : Nat → Int64}
variable {y_classes y_bodies y_fault y_made y_working y_peak y_steps y_depth y_waiting y_code y_running y_has y_todos y_marks y_spoken : Int32} {y_got y_shown : Int64} {y_parent y_fields y_bound y_kind y_word y_size y_sort y_number y_stands y_keeps y_within y_foundIn y_live y_work y_under y_at y_in y_phase y_base y_goal y_marked y_todo : Nat → Int32} {y_cells y_globals y_self y_args y_temps y_param y_operands y_heard : Nat → Int64}
variable {cc bc dc : Nat} {T : Nat → Prop} {lv : Nat → Nat} {kd wd : Nat → Int32}
theorem sh_fits {i : Nat} (hi : i < dc) (h4 : 4 ≤ cc) (h10 : cc ≤ 10) (TT : rl_T cc bc x_tokenKind x_tokenValue y_kind y_word y_size T lv) (b11 : bc < 12) (d32 : dc ≤ 32) (hX : ∀ q, q < dc → x_tokenKind (32 * bc + q) = kd q ∧ x_tokenValue (32 * bc + q) = wd q ∧ tk_ok (kd q) (wd q)) (hY : ∀ q, q < dc → y_kind (384 + q) = kd q ∧ y_word (384 + q) = wd q ∧ tk_ok (kd q) (wd q)) :
    ((∀ post : Int32 → Prop, post 0 → wpX_tokenFits post (nI cc, nI bc, x_draftCount, x_wrongPlace, x_madeCount, x_frameCount, x_current, x_next, x_inHand, x_mode, x_outcome, x_stepCount, x_atWork, x_mostAtWork, x_saidCount, x_pendingCount, x_classParent, x_classFields, x_bound, x_tokenKind, x_tokenValue, x_globals, x_thingShown, x_thingClass, x_thingFields, x_thingToken, x_thingMaker, x_variables, x_homeOf, x_within, x_foundIn, x_baseFrame, x_frameToken, x_frameStage, x_frameLink, x_operands, x_saidValues, x_marked, x_pending) (nI (32 * bc)) (nI (32 * bc + i))) ∧ (∀ post : Int32 → Prop, post 0 → wpY_fits post (nI cc, nI bc, y_fault, y_made, y_working, y_peak, y_steps, y_depth, y_waiting, y_code, y_running, y_has, y_got, y_todos, y_marks, y_shown, y_spoken, y_parent, y_fields, y_bound, y_kind, y_word, y_size, y_sort, y_number, y_stands, y_keeps, y_cells, y_globals, y_within, y_foundIn, y_self, y_args, y_temps, y_param, y_live, y_work, y_under, y_at, y_in, y_phase, y_base, y_goal, y_operands, y_marked, y_todo, y_heard) (nI (384 + i)))) ∨
    (tk_fit cc bc (kd i) (wd i) (ct_n (sh_P kd wd i) i) ∧ (∀ post : Int32 → Prop, post 1 → wpX_tokenFits post (nI cc, nI bc, x_draftCount, x_wrongPlace, x_madeCount, x_frameCount, x_current, x_next, x_inHand, x_mode, x_outcome, x_stepCount, x_atWork, x_mostAtWork, x_saidCount, x_pendingCount, x_classParent, x_classFields, x_bound, x_tokenKind, x_tokenValue, x_globals, x_thingShown, x_thingClass, x_thingFields, x_thingToken, x_thingMaker, x_variables, x_homeOf, x_within, x_foundIn, x_baseFrame, x_frameToken, x_frameStage, x_frameLink, x_operands, x_saidValues, x_marked, x_pending) (nI (32 * bc)) (nI (32 * bc + i))) ∧ (∀ post : Int32 → Prop, post 1 → wpY_fits post (nI cc, nI bc, y_fault, y_made, y_working, y_peak, y_steps, y_depth, y_waiting, y_code, y_running, y_has, y_got, y_todos, y_marks, y_shown, y_spoken, y_parent, y_fields, y_bound, y_kind, y_word, y_size, y_sort, y_number, y_stands, y_keeps, y_cells, y_globals, y_within, y_foundIn, y_self, y_args, y_temps, y_param, y_live, y_work, y_under, y_at, y_in, y_phase, y_base, y_goal, y_operands, y_marked, y_todo, y_heard) (nI (384 + i)))) := by
  obtain ⟨x1, x2, ok⟩ := hX i hi
  obtain ⟨y1, y2, _⟩ := hY i hi
  have vX : vp_in (nI (32 * bc + i)) 416 := vp_in_nI (by omega) (by decide)
  have vY : vp_in (nI (384 + i)) 416 := vp_in_nI (by omega) (by decide)
  have cX : (nI (32 * bc + i)).toNatClampNeg = 32 * bc + i := nI_clamp (by omega)
  have cY : (nI (384 + i)).toNatClampNeg = 384 + i := nI_clamp (by omega)
  have m1X : nI (32 * bc + i) - 1 = nI (32 * bc + i) - 1 := rfl
  have ar := sh_around (x_classCount := nI cc) (x_bodyCount := nI bc) (x_draftCount := x_draftCount) (x_wrongPlace := x_wrongPlace) (x_madeCount := x_madeCount) (x_frameCount := x_frameCount) (x_current := x_current) (x_next := x_next) (x_inHand := x_inHand) (x_mode := x_mode) (x_outcome := x_outcome) (x_stepCount := x_stepCount) (x_atWork := x_atWork) (x_mostAtWork := x_mostAtWork) (x_saidCount := x_saidCount) (x_pendingCount := x_pendingCount) (x_classParent := x_classParent) (x_classFields := x_classFields) (x_bound := x_bound) (x_tokenKind := x_tokenKind) (x_tokenValue := x_tokenValue) (x_globals := x_globals) (x_thingShown := x_thingShown) (x_thingClass := x_thingClass) (x_thingFields := x_thingFields) (x_thingToken := x_thingToken) (x_thingMaker := x_thingMaker) (x_variables := x_variables) (x_homeOf := x_homeOf) (x_within := x_within) (x_foundIn := x_foundIn) (x_baseFrame := x_baseFrame) (x_frameToken := x_frameToken) (x_frameStage := x_frameStage) (x_frameLink := x_frameLink) (x_operands := x_operands) (x_saidValues := x_saidValues) (x_marked := x_marked) (x_pending := x_pending) (y_classes := nI cc) (y_bodies := nI bc) (y_fault := y_fault) (y_made := y_made) (y_working := y_working) (y_peak := y_peak) (y_steps := y_steps) (y_depth := y_depth) (y_waiting := y_waiting) (y_code := y_code) (y_running := y_running) (y_has := y_has) (y_got := y_got) (y_todos := y_todos) (y_marks := y_marks) (y_shown := y_shown) (y_spoken := y_spoken) (y_parent := y_parent) (y_fields := y_fields) (y_bound := y_bound) (y_kind := y_kind) (y_word := y_word) (y_size := y_size) (y_sort := y_sort) (y_number := y_number) (y_stands := y_stands) (y_keeps := y_keeps) (y_cells := y_cells) (y_globals := y_globals) (y_within := y_within) (y_foundIn := y_foundIn) (y_self := y_self) (y_args := y_args) (y_temps := y_temps) (y_param := y_param) (y_live := y_live) (y_work := y_work) (y_under := y_under) (y_at := y_at) (y_in := y_in) (y_phase := y_phase) (y_base := y_base) (y_goal := y_goal) (y_operands := y_operands) (y_marked := y_marked) (y_todo := y_todo) (y_heard := y_heard) (s := 32 * bc) (i := i) (by omega) (by omega) (fun q hq => hX q (by omega)) (fun q hq => hY q (by omega)) i (Nat.le_refl _)
  have ne : ∀ {a b : Nat}, a < 30 → b < 30 → a ≠ b → ¬ nI a = nI b := fun ha hb h z => h ((nI_eq (by omega) (by omega)).mp z)
  obtain ⟨kn, k30, ek, okl, ok28⟩ := ok
  by_cases k12 : kn = 12
  · subst k12
    obtain ⟨o, o1, o2, o3, o4⟩ := ar 2 (by omega)
    have goX : ∀ post : Int32 → Prop, ((sh_e (32 * bc) o = -1 → post 1) ∧ (¬ sh_e (32 * bc) o = -1 → post 0)) → wpX_tokenFits post (nI cc, nI bc, x_draftCount, x_wrongPlace, x_madeCount, x_frameCount, x_current, x_next, x_inHand, x_mode, x_outcome, x_stepCount, x_atWork, x_mostAtWork, x_saidCount, x_pendingCount, x_classParent, x_classFields, x_bound, x_tokenKind, x_tokenValue, x_globals, x_thingShown, x_thingClass, x_thingFields, x_thingToken, x_thingMaker, x_variables, x_homeOf, x_within, x_foundIn, x_baseFrame, x_frameToken, x_frameStage, x_frameLink, x_operands, x_saidValues, x_marked, x_pending) (nI (32 * bc)) (nI (32 * bc + i)) := fun post h => by
      unfold wpX_tokenFits
      dsimp only
      rw [cX, x1, x2, ek]
      exact ⟨vX, nm_e ⟨vX, nm_e (br_t rfl (nm_e ⟨i + 1, o3 _ _ (by omega) h⟩))⟩⟩
    have goY : ∀ post : Int32 → Prop, ((0 ≤ sh_e 384 o → post 0) ∧ (¬ 0 ≤ sh_e 384 o → post 1)) → wpY_fits post (nI cc, nI bc, y_fault, y_made, y_working, y_peak, y_steps, y_depth, y_waiting, y_code, y_running, y_has, y_got, y_todos, y_marks, y_shown, y_spoken, y_parent, y_fields, y_bound, y_kind, y_word, y_size, y_sort, y_number, y_stands, y_keeps, y_cells, y_globals, y_within, y_foundIn, y_self, y_args, y_temps, y_param, y_live, y_work, y_under, y_at, y_in, y_phase, y_base, y_goal, y_operands, y_marked, y_todo, y_heard) (nI (384 + i)) := fun post h => by
      unfold wpY_fits
      dsimp only
      rw [cY, y1, y2, ek]
      exact ⟨vY, nm_e ⟨vY, br_t rfl (nm_e ⟨i + 1, o4 _ _ (by omega) h⟩)⟩⟩
    cases o with
    | none =>
      refine Or.inr ⟨⟨fun _ => o1 rfl, fun z => ?_, fun z => ?_, fun z => ?_⟩, fun post hp => goX post (br_t rfl hp), fun post hp => goY post (br_f (by decide) hp)⟩
      · rw [ek] at z; exact absurd z (by decide)
      · rw [ek] at z; exact absurd z (by decide)
      · rw [ek] at z; exact absurd z (by decide)
    | some r =>
      have hr := o2 r rfl
      exact Or.inl ⟨fun post hp => goX post (br_f (gx_m1 (by omega)) hp), fun post hp => goY post (br_t (nI_pos' (by omega)) hp)⟩
  by_cases k13 : kn = 13
  · subst k13
    obtain ⟨v, v1, ev⟩ := okl (by omega)
    have v3 : v < 3 := v1
    obtain ⟨o, o1, o2, o3, o4⟩ := ar v (by omega)
    have goX : ∀ post : Int32 → Prop, ((sh_e (32 * bc) o = -1 → post 0) ∧ (¬ sh_e (32 * bc) o = -1 → vp_in (sh_e (32 * bc) o) 416 ∧ ((x_tokenValue (sh_e (32 * bc) o).toNatClampNeg = 1 → post 1) ∧ (¬ x_tokenValue (sh_e (32 * bc) o).toNatClampNeg = 1 → post 0)))) → wpX_tokenFits post (nI cc, nI bc, x_draftCount, x_wrongPlace, x_madeCount, x_frameCount, x_current, x_next, x_inHand, x_mode, x_outcome, x_stepCount, x_atWork, x_mostAtWork, x_saidCount, x_pendingCount, x_classParent, x_classFields, x_bound, x_tokenKind, x_tokenValue, x_globals, x_thingShown, x_thingClass, x_thingFields, x_thingToken, x_thingMaker, x_variables, x_homeOf, x_within, x_foundIn, x_baseFrame, x_frameToken, x_frameStage, x_frameLink, x_operands, x_saidValues, x_marked, x_pending) (nI (32 * bc)) (nI (32 * bc + i)) := fun post h => by
      unfold wpX_tokenFits
      dsimp only
      rw [cX, x1, x2, ek, ev]
      exact ⟨vX, nm_e ⟨vX, nm_e (br_f (by decide) (br_t rfl (nm_e ⟨i + 1, o3 _ _ (by omega) h⟩)))⟩⟩
    have goY : ∀ post : Int32 → Prop, ((sh_e 384 o < 0 → post 0) ∧ (¬ sh_e 384 o < 0 → vp_in (sh_e 384 o) 416 ∧ ((y_word (sh_e 384 o).toNatClampNeg = 1 → post 1) ∧ (¬ y_word (sh_e 384 o).toNatClampNeg = 1 → post 0)))) → wpY_fits post (nI cc, nI bc, y_fault, y_made, y_working, y_peak, y_steps, y_depth, y_waiting, y_code, y_running, y_has, y_got, y_todos, y_marks, y_shown, y_spoken, y_parent, y_fields, y_bound, y_kind, y_word, y_size, y_sort, y_number, y_stands, y_keeps, y_cells, y_globals, y_within, y_foundIn, y_self, y_args, y_temps, y_param, y_live, y_work, y_under, y_at, y_in, y_phase, y_base, y_goal, y_operands, y_marked, y_todo, y_heard) (nI (384 + i)) := fun post h => by
      unfold wpY_fits
      dsimp only
      rw [cY, y1, y2, ek, ev]
      exact ⟨vY, nm_e ⟨vY, br_f (by decide) ⟨vY, br_f (by decide) ⟨vY, br_f (by decide) ⟨vY, br_t rfl (nm_e ⟨i + 1, o4 _ _ (by omega) h⟩)⟩⟩⟩⟩⟩
    cases o with
    | none => exact Or.inl ⟨fun post hp => goX post (br_t rfl hp), fun post hp => goY post (br_t (by decide) hp)⟩
    | some r =>
      have hr := o2 r rfl
      have eX : (sh_e (32 * bc) (some r)).toNatClampNeg = 32 * bc + r := nI_clamp (by omega)
      have eY : (sh_e 384 (some r)).toNatClampNeg = 384 + r := nI_clamp (by omega)
      have wX := (hX r (by omega)).2.1
      have wY := (hY r (by omega)).2.1
      rw [eX, wX] at goX
      rw [eY, wY] at goY
      have vrX : vp_in (sh_e (32 * bc) (some r)) 416 := vp_in_nI (by omega) (by decide)
      have vrY : vp_in (sh_e 384 (some r)) 416 := vp_in_nI (by omega) (by decide)
      by_cases w1 : wd r = 1
      · refine Or.inr ⟨⟨fun z => ?_, fun _ => ?_, fun z => ?_, fun z => ?_⟩, fun post hp => goX post (br_f (gx_m1 (by omega)) ⟨vrX, br_t w1 hp⟩), fun post hp => goY post (br_f (nI_pos (by omega)) ⟨vrY, br_t w1 hp⟩)⟩
        · rw [ek] at z; exact absurd z (by decide)
        · rw [ev, nI_clamp (by omega)]; exact hr.2
        · rw [ek] at z; exact absurd z (by decide)
        · rw [ek] at z; exact absurd z (by decide)
      · exact Or.inl ⟨fun post hp => goX post (br_f (gx_m1 (by omega)) ⟨vrX, br_f w1 hp⟩), fun post hp => goY post (br_f (nI_pos (by omega)) ⟨vrY, br_f w1 hp⟩)⟩
  by_cases k25 : kn = 25
  · subst k25
    have goX : ∀ post : Int32 → Prop, wpX_canHaveObjects (fun r_92 => (narrow .boolean (.int r_92) = .int r_92 ∧ (post r_92))) (nI cc, nI bc, x_draftCount, x_wrongPlace, x_madeCount, x_frameCount, x_current, x_next, x_inHand, x_mode, x_outcome, x_stepCount, x_atWork, x_mostAtWork, x_saidCount, x_pendingCount, x_classParent, x_classFields, x_bound, x_tokenKind, x_tokenValue, x_globals, x_thingShown, x_thingClass, x_thingFields, x_thingToken, x_thingMaker, x_variables, x_homeOf, x_within, x_foundIn, x_baseFrame, x_frameToken, x_frameStage, x_frameLink, x_operands, x_saidValues, x_marked, x_pending) (wd i) → wpX_tokenFits post (nI cc, nI bc, x_draftCount, x_wrongPlace, x_madeCount, x_frameCount, x_current, x_next, x_inHand, x_mode, x_outcome, x_stepCount, x_atWork, x_mostAtWork, x_saidCount, x_pendingCount, x_classParent, x_classFields, x_bound, x_tokenKind, x_tokenValue, x_globals, x_thingShown, x_thingClass, x_thingFields, x_thingToken, x_thingMaker, x_variables, x_homeOf, x_within, x_foundIn, x_baseFrame, x_frameToken, x_frameStage, x_frameLink, x_operands, x_saidValues, x_marked, x_pending) (nI (32 * bc)) (nI (32 * bc + i)) := fun post h => by
      unfold wpX_tokenFits
      dsimp only
      rw [cX, x1, x2, ek]
      exact ⟨vX, nm_e ⟨vX, nm_e (br_f (by decide) (br_f (by decide) (br_t rfl h)))⟩⟩
    have goY : ∀ post : Int32 → Prop, wpY_isMade (fun r_113 => (narrow .boolean (.int r_113) = .int r_113 ∧ (post r_113))) (nI cc, nI bc, y_fault, y_made, y_working, y_peak, y_steps, y_depth, y_waiting, y_code, y_running, y_has, y_got, y_todos, y_marks, y_shown, y_spoken, y_parent, y_fields, y_bound, y_kind, y_word, y_size, y_sort, y_number, y_stands, y_keeps, y_cells, y_globals, y_within, y_foundIn, y_self, y_args, y_temps, y_param, y_live, y_work, y_under, y_at, y_in, y_phase, y_base, y_goal, y_operands, y_marked, y_todo, y_heard) (wd i) → wpY_fits post (nI cc, nI bc, y_fault, y_made, y_working, y_peak, y_steps, y_depth, y_waiting, y_code, y_running, y_has, y_got, y_todos, y_marks, y_shown, y_spoken, y_parent, y_fields, y_bound, y_kind, y_word, y_size, y_sort, y_number, y_stands, y_keeps, y_cells, y_globals, y_within, y_foundIn, y_self, y_args, y_temps, y_param, y_live, y_work, y_under, y_at, y_in, y_phase, y_base, y_goal, y_operands, y_marked, y_todo, y_heard) (nI (384 + i)) := fun post h => by
      unfold wpY_fits
      dsimp only
      rw [cY, y1, y2, ek]
      exact ⟨vY, nm_e ⟨vY, br_f (by decide) ⟨vY, br_t rfl h⟩⟩⟩
    rcases xw_made h4 h10 (wd i) with ⟨mX, mY⟩ | ⟨c, c1, c2, c3, mX, mY⟩
    · exact Or.inl ⟨fun post hp => goX post (mX _ ⟨rfl, hp⟩), fun post hp => goY post (mY _ ⟨rfl, hp⟩)⟩
    · refine Or.inr ⟨⟨fun z => ?_, fun z => ?_, fun _ => ⟨c, c1, c2, c3⟩, fun z => ?_⟩, fun post hp => goX post (mX _ ⟨rfl, hp⟩), fun post hp => goY post (mY _ ⟨rfl, hp⟩)⟩
      · rw [ek] at z; exact absurd z (by decide)
      · rw [ek] at z; exact absurd z (by decide)
      · rw [ek] at z; exact absurd z (by decide)
  by_cases k28 : kn = 28
  · subst k28
    obtain ⟨w, w1, w2, w3, ew⟩ := ok28 rfl
    have wl : w < 2 ^ 31 := by omega
    have f2 : (nI w / 16) - (nI w / 16) / 16 * 16 = nI (w / 16 % 16) := by rw [tk_d16 wl, tk_r16 (by omega)]
    have e2 : (nI w >>> ((4 : Int32) &&& 31)) &&& 15 = nI (w / 16 % 16) := by rw [tk_shr4 wl, tk_and15 (by omega)]
    have goX : ∀ post : Int32 → Prop, wpX_isClass (fun r => (r = 0 → post 0) ∧ (¬ r = 0 → (nI bc ≤ nI (w % 16) → post 0) ∧ (¬ nI bc ≤ nI (w % 16) → wpX_usesArgFrom (fun q => (q = 0 → post 1) ∧ (¬ q = 0 → post 0)) (nI cc, nI bc, x_draftCount, x_wrongPlace, x_madeCount, x_frameCount, x_current, x_next, x_inHand, x_mode, x_outcome, x_stepCount, x_atWork, x_mostAtWork, x_saidCount, x_pendingCount, x_classParent, x_classFields, x_bound, x_tokenKind, x_tokenValue, x_globals, x_thingShown, x_thingClass, x_thingFields, x_thingToken, x_thingMaker, x_variables, x_homeOf, x_within, x_foundIn, x_baseFrame, x_frameToken, x_frameStage, x_frameLink, x_operands, x_saidValues, x_marked, x_pending) (nI (w % 16)) (nI (w / 16 % 16 / 4))))) (nI cc, nI bc, x_draftCount, x_wrongPlace, x_madeCount, x_frameCount, x_current, x_next, x_inHand, x_mode, x_outcome, x_stepCount, x_atWork, x_mostAtWork, x_saidCount, x_pendingCount, x_classParent, x_classFields, x_bound, x_tokenKind, x_tokenValue, x_globals, x_thingShown, x_thingClass, x_thingFields, x_thingToken, x_thingMaker, x_variables, x_homeOf, x_within, x_foundIn, x_baseFrame, x_frameToken, x_frameStage, x_frameLink, x_operands, x_saidValues, x_marked, x_pending) (nI (w / 256)) → wpX_tokenFits post (nI cc, nI bc, x_draftCount, x_wrongPlace, x_madeCount, x_frameCount, x_current, x_next, x_inHand, x_mode, x_outcome, x_stepCount, x_atWork, x_mostAtWork, x_saidCount, x_pendingCount, x_classParent, x_classFields, x_bound, x_tokenKind, x_tokenValue, x_globals, x_thingShown, x_thingClass, x_thingFields, x_thingToken, x_thingMaker, x_variables, x_homeOf, x_within, x_foundIn, x_baseFrame, x_frameToken, x_frameStage, x_frameLink, x_operands, x_saidValues, x_marked, x_pending) (nI (32 * bc)) (nI (32 * bc + i)) := fun post h => by
      unfold wpX_tokenFits
      dsimp only
      rw [cX, x1, x2, ek, ew]
      refine ⟨vX, nm_e ⟨vX, nm_e (br_f (by decide) (br_f (by decide) (br_f (by decide) (br_t rfl ⟨by decide, ?_⟩))))⟩⟩
      rw [tk_d256 wl, tk_r16 wl, f2, tk_div4 (by omega)]
      rcases Nat.lt_or_ge (w / 256) cc with q | q
      · have h' := (h.2 (nI_pos (by omega))).2 (nI_ge q (by omega))
        exact br_f (nI_pos (by omega)) (br_f (nI_ge q (by omega)) (br_f (by decide) ⟨by decide, (h'.2 (by decide)).1, fun z => ⟨by decide, by decide, by decide, by decide, (h'.2 (by decide)).2 z⟩⟩))
      · have h' := (h.2 (nI_pos (by omega))).1 (nI_le q (by omega))
        exact br_f (nI_pos (by omega)) (br_t (nI_le q (by omega)) (br_t rfl (h'.1 rfl)))
    have goY : ∀ post : Int32 → Prop, ((nI cc ≤ nI (w / 256) → post 0) ∧ (¬ nI cc ≤ nI (w / 256) → (nI bc ≤ nI (w % 16) → post 0) ∧ (¬ nI bc ≤ nI (w % 16) → wpY_suits (fun q => (q = 0 → post 0) ∧ (¬ q = 0 → post 1)) (nI cc, nI bc, y_fault, y_made, y_working, y_peak, y_steps, y_depth, y_waiting, y_code, y_running, y_has, y_got, y_todos, y_marks, y_shown, y_spoken, y_parent, y_fields, y_bound, y_kind, y_word, y_size, y_sort, y_number, y_stands, y_keeps, y_cells, y_globals, y_within, y_foundIn, y_self, y_args, y_temps, y_param, y_live, y_work, y_under, y_at, y_in, y_phase, y_base, y_goal, y_operands, y_marked, y_todo, y_heard) (nI (w % 16)) (nI (w / 16 % 16))))) → wpY_fits post (nI cc, nI bc, y_fault, y_made, y_working, y_peak, y_steps, y_depth, y_waiting, y_code, y_running, y_has, y_got, y_todos, y_marks, y_shown, y_spoken, y_parent, y_fields, y_bound, y_kind, y_word, y_size, y_sort, y_number, y_stands, y_keeps, y_cells, y_globals, y_within, y_foundIn, y_self, y_args, y_temps, y_param, y_live, y_work, y_under, y_at, y_in, y_phase, y_base, y_goal, y_operands, y_marked, y_todo, y_heard) (nI (384 + i)) := fun post h => by
      unfold wpY_fits
      dsimp only
      rw [cY, y1, y2, ek, ew]
      refine ⟨vY, nm_e ⟨vY, br_f (by decide) ⟨vY, br_f (by decide) ⟨vY, br_t rfl ?_⟩⟩⟩⟩
      rw [tk_shr8 wl, tk_and15 wl, e2]
      exact h
    rcases Nat.lt_or_ge (w / 256) cc with q | q
    · have q1 : ¬ nI cc ≤ nI (w / 256) := nI_ge q (by omega)
      have q0 : ¬ nI (w / 256) < 0 := nI_pos (by omega)
      rcases Nat.lt_or_ge (w % 16) bc with p | p
      · have p1 : ¬ nI bc ≤ nI (w % 16) := nI_ge p (by omega)
        rcases xw_uses TT p (show w / 16 % 16 < 2 ^ 31 by omega) with ⟨uX, uY⟩ | ⟨uX, uY⟩
        · refine Or.inr ⟨⟨fun z => ?_, fun z => ?_, fun z => ?_, fun _ => ?_⟩, fun post hp => goX post (br_f q0 (br_f q1 (br_f (by decide) (br_f p1 (uX _ (br_t rfl hp)))))), fun post hp => goY post (br_f q1 (br_f p1 (uY _ (br_f (by decide) hp))))⟩
          · rw [ek] at z; exact absurd z (by decide)
          · rw [ek] at z; exact absurd z (by decide)
          · rw [ek] at z; exact absurd z (by decide)
          · rw [ew, nI_clamp wl]; exact ⟨q, p⟩
        · exact Or.inl ⟨fun post hp => goX post (br_f q0 (br_f q1 (br_f (by decide) (br_f p1 (uX _ (br_f (by decide) hp)))))), fun post hp => goY post (br_f q1 (br_f p1 (uY _ (br_t rfl hp))))⟩
      · have p1 : nI bc ≤ nI (w % 16) := nI_le p (by omega)
        exact Or.inl ⟨fun post hp => goX post (br_f q0 (br_f q1 (br_f (by decide) (br_t p1 hp)))), fun post hp => goY post (br_f q1 (br_t p1 hp))⟩
    · have q1 : nI cc ≤ nI (w / 256) := nI_le q (by omega)
      exact Or.inl ⟨fun post hp => goX post (br_f (nI_pos (by omega)) (br_t q1 (br_t rfl hp))), fun post hp => goY post (br_t q1 hp)⟩
  · have n12 : ¬ nI kn = 12 := ne k30 (b := 12) (by decide) k12
    have n13 : ¬ nI kn = 13 := ne k30 (b := 13) (by decide) k13
    have n25 : ¬ nI kn = 25 := ne k30 (b := 25) (by decide) k25
    have n28 : ¬ nI kn = 28 := ne k30 (b := 28) (by decide) k28
    refine Or.inr ⟨⟨fun z => ?_, fun z => ?_, fun z => ?_, fun z => ?_⟩, fun post hp => ?_, fun post hp => ?_⟩
    · rw [ek] at z; exact absurd z n12
    · rw [ek] at z; exact absurd z n13
    · rw [ek] at z; exact absurd z n25
    · rw [ek] at z; exact absurd z n28
    · unfold wpX_tokenFits
      dsimp only
      rw [cX, x1, x2, ek]
      exact ⟨vX, nm_e ⟨vX, nm_e (br_f n12 (br_f n13 (br_f n25 (br_f n28 hp))))⟩⟩
    · unfold wpY_fits
      dsimp only
      rw [cY, y1, y2, ek]
      exact ⟨vY, nm_e ⟨vY, br_f n12 ⟨vY, br_f n25 ⟨vY, br_f n28 ⟨vY, br_f n13 hp⟩⟩⟩⟩⟩
theorem sh_loop (h4 : 4 ≤ cc) (h10 : cc ≤ 10) (TT : rl_T cc bc x_tokenKind x_tokenValue y_kind y_word y_size T lv) (b11 : bc < 12) (d32 : dc ≤ 32) (hd : y_size 12 = nI dc) (hX : ∀ q, q < dc → x_tokenKind (32 * bc + q) = kd q ∧ x_tokenValue (32 * bc + q) = wd q ∧ tk_ok (kd q) (wd q)) (hY : ∀ q, q < dc → y_kind (384 + q) = kd q ∧ y_word (384 + q) = wd q ∧ tk_ok (kd q) (wd q)) :
    ∀ d i m, i + d = dc → m ≤ 1 + 2 * i → (∀ j, j < i → tk_fit cc bc (kd j) (wd j) (ct_n (sh_P kd wd j) j)) → (∀ n, ex_s (tk_nd kd wd) n m i → ex_s (tk_nd kd wd) (i + n) 1 0) →
    ∃ r : Int32, (r = -1 ∧ ex_s (tk_nd kd wd) dc 1 0 ∧ (∀ j, j < dc → tk_fit cc bc (kd j) (wd j) (ct_n (sh_P kd wd j) j)) ∨ ∃ q, q ≤ 32 ∧ r = nI q) ∧
    (∀ f (post : Int32 → Prop), d < f → post r → wX_findWrongPlace_12 post (nI (32 * bc)) (nI cc) (nI bc) (nI dc) x_wrongPlace x_madeCount x_frameCount x_current x_next x_inHand x_mode x_outcome x_stepCount x_atWork x_mostAtWork x_saidCount x_pendingCount x_classParent x_classFields x_bound x_tokenKind x_tokenValue x_globals x_thingShown x_thingClass x_thingFields x_thingToken x_thingMaker x_variables x_homeOf x_within x_foundIn x_baseFrame x_frameToken x_frameStage x_frameLink x_operands x_saidValues x_marked x_pending f (nI m) (nI i)) ∧
    (∀ f (post : Int32 → Prop), d < f → post r → wY_misfit_4 post (nI cc) (nI bc) y_fault y_made y_working y_peak y_steps y_depth y_waiting y_code y_running y_has y_got y_todos y_marks y_shown y_spoken y_parent y_fields y_bound y_kind y_word y_size y_sort y_number y_stands y_keeps y_cells y_globals y_within y_foundIn y_self y_args y_temps y_param y_live y_work y_under y_at y_in y_phase y_base y_goal y_operands y_marked y_todo y_heard f (nI m) (nI i)) := by
  intro d
  induction d with
  | zero =>
    intro i m e hm hf hp
    obtain rfl : i = dc := by omega
    by_cases z : m = 0
    · subst z
      refine ⟨-1, Or.inl ⟨rfl, hp 0 rfl, hf⟩, fun f post hf hp => ?_, fun f post hf hp => ?_⟩
      · obtain ⟨f', rfl⟩ : ∃ f', f = f' + 1 := ⟨f - 1, by omega⟩
        exact br_t (nI_le (Nat.le_refl _) (by omega)) (br_t rfl hp)
      · obtain ⟨f', rfl⟩ : ∃ f', f = f' + 1 := ⟨f - 1, by omega⟩
        exact br_t (by rw [hd]; exact nI_le (Nat.le_refl _) (by omega)) (br_t (by decide) hp)
    · refine ⟨nI i, Or.inr ⟨i, d32, rfl⟩, fun f post hf hp => ?_, fun f post hf hp => ?_⟩
      · obtain ⟨f', rfl⟩ : ∃ f', f = f' + 1 := ⟨f - 1, by omega⟩
        exact br_t (nI_le (Nat.le_refl _) (by omega)) (br_f (nI_ne0 (by omega) (by omega)) hp)
      · obtain ⟨f', rfl⟩ : ∃ f', f = f' + 1 := ⟨f - 1, by omega⟩
        refine br_t (by rw [hd]; exact nI_le (Nat.le_refl _) (by omega)) (br_f (nI_nle (by omega) (by omega)) ?_)
        rw [hd]; exact hp
  | succ d ih =>
    intro i m e hm hf hpre
    have eX : nI (32 * bc) + nI i = nI (32 * bc + i) := nI_add _ _
    have eY : (384 : Int32) + nI i = nI (384 + i) := nI_add 384 i
    have lX : ¬ nI dc ≤ nI i := nI_ge (by omega) (by omega)
    have lY : ¬ y_size 12 ≤ nI i := by rw [hd]; exact lX
    by_cases z : m = 0
    · subst z
      refine ⟨nI i, Or.inr ⟨i, by omega, rfl⟩, fun f post hf hp => ?_, fun f post hf hp => ?_⟩
      · obtain ⟨f', rfl⟩ : ∃ f', f = f' + 1 := ⟨f - 1, by omega⟩
        exact br_f lX (nm_r eX (br_t rfl hp))
      · obtain ⟨f', rfl⟩ : ∃ f', f = f' + 1 := ⟨f - 1, by omega⟩
        exact br_f lY (br_t rfl hp)
    · have z0 : ¬ nI m = 0 := nI_ne0 (by omega) (by omega)
      rcases sh_fits (by omega : i < dc) h4 h10 TT b11 d32 hX hY with ⟨fX, fY⟩ | ⟨F, fX, fY⟩
      · refine ⟨nI i, Or.inr ⟨i, by omega, rfl⟩, fun f post hf hp => ?_, fun f post hf hp => ?_⟩
        · obtain ⟨f', rfl⟩ : ∃ f', f = f' + 1 := ⟨f - 1, by omega⟩
          exact br_f lX (nm_r eX (br_f z0 (fX _ (br_t rfl hp))))
        · obtain ⟨f', rfl⟩ : ∃ f', f = f' + 1 := ⟨f - 1, by omega⟩
          refine br_f lY (br_f z0 ?_)
          rw [eY]
          exact fY _ (br_t rfl hp)
      · obtain ⟨x1, x2, ok⟩ := hX i (by omega)
        obtain ⟨y1, y2, _⟩ := hY i (by omega)
        have l3 := tk_need_le ok
        obtain ⟨r, r1, r2, r3⟩ := ih (i + 1) (m - 1 + tk_need (kd i) (wd i)) (by omega) (by omega) (fun j hj => by
            by_cases q : j = i
            · subst q; exact F
            · exact hf j (by omega)) (fun n hn => by
            have := hpre (n + 1) ⟨z, hn⟩
            rw [show i + 1 + n = i + (n + 1) by omega]; exact this)
        refine ⟨r, r1, fun f post hf hp => ?_, fun f post hf hp => ?_⟩
        · obtain ⟨f', rfl⟩ : ∃ f', f = f' + 1 := ⟨f - 1, by omega⟩
          refine br_f lX (nm_r eX (br_f z0 (fX _ (br_f (by decide) ⟨vp_in_nI (by omega) (by decide), vp_in_nI (by omega) (by decide), ?_⟩))))
          rw [nI_clamp (by omega), x1, x2]
          exact xw_needs ok (nm_r (tk_mm z) (nm_r (nI_1 i) (r2 f' post (by omega) hp)))
        · obtain ⟨f', rfl⟩ : ∃ f', f = f' + 1 := ⟨f - 1, by omega⟩
          refine br_f lY (br_f z0 ?_)
          rw [eY]
          refine fY _ (br_f (by decide) (yw_needs (by omega) (by rw [y1, y2]; exact ok) ?_))
          rw [y1, y2]
          exact nm_r (tk_mm z) (nm_r (nI_1 i) (r3 f' post (by omega) hp))
end
