/-! the relation between calls -/
def tk_fit (cc bc : Nat) (k w : Int32) (l : Nat) : Prop := (k = 12 → l ≤ 2) ∧ (k = 13 → w.toNatClampNeg < l) ∧ (k = 25 → ∃ c, c < cc ∧ w = nI c ∧ (c = 0 ∨ 4 ≤ c)) ∧ (k = 28 → w.toNatClampNeg / 256 < cc ∧ w.toNatClampNeg % 16 < bc)
def rl_T (cc bc : Nat) (KX WX K W sz : Nat → Int32) (T : Nat → Prop) (lv : Nat → Nat) : Prop :=
  bc ≤ 12 ∧
  (∀ p, T p → p < 32 * bc ∧ KX p = K p ∧ WX p = W p ∧ tk_ok (K p) (W p) ∧ tk_fit cc bc (K p) (W p) (lv p)) ∧
  (∀ p, T p → ∃ m, ex_s (tk_nd K W) m 1 p ∧ p + m ≤ 32 * (p / 32) + 32 ∧ ∀ q, p ≤ q → q < p + m → T q) ∧
  (∀ b, b < bc → T (32 * b) ∧ lv (32 * b) = 0 ∧ ∃ n, n ≤ 32 ∧ sz b = nI n ∧ ex_s (tk_nd K W) n 1 (32 * b)) ∧
  (∀ p, T p → K p = 12 → lv (p + 1) = lv p + 1) ∧ (∀ p j, T p → ¬ K p = 12 → j < tk_nd K W p → lv (ex_pt (tk_nd K W) p j) = lv p)
def rl_D (bc dc : Nat) (KX WX K W sz : Nat → Int32) : Prop :=
  dc ≤ 32 ∧ sz 12 = nI dc ∧ ∀ i, i < dc → KX (32 * bc + i) = K (384 + i) ∧ WX (32 * bc + i) = W (384 + i) ∧ tk_ok (K (384 + i)) (W (384 + i))
def hp_Y (ce se ar te pa : Nat → Int64) (kp wi : Nat → Int32) : Prop :=
  (∀ i, i < 128 → vv_V (ce i)) ∧ (∀ i, i < 160 → vv_V (se i)) ∧ (∀ i, i < 320 → vv_V (ar i)) ∧ (∀ i, i < 480 → vv_V (te i)) ∧ (∀ i, i < 160 → vv_V (pa i)) ∧ (∀ k, k < 32 → ∃ a, a < 160 ∧ kp k = nI a) ∧ (∀ a, a < 160 → wi a = -1 ∨ ∃ b, b < 160 ∧ wi a = nI b)
def hp_X (mr wi : Nat → Int32) : Prop := (∀ t, t < 24 → gx_P (mr t)) ∧ (∀ a, a < 128 → gx_P (wi a))
def rl_Q (k cc bc dc mc : Nat) (T ST SA : Nat → Prop) (lv τ σ lev ho : Nat → Nat) (u : SX) (v : SY) : Prop := match u, v with
  | (x_classCount, x_bodyCount, x_draftCount, x_wrongPlace, x_madeCount, x_frameCount, x_current, x_next, x_inHand, x_mode, x_outcome, x_stepCount, x_atWork, x_mostAtWork, x_saidCount, x_pendingCount, x_classParent, x_classFields, x_bound, x_tokenKind, x_tokenValue, x_globals, x_thingShown, x_thingClass, x_thingFields, x_thingToken, x_thingMaker, x_variables, x_homeOf, x_within, x_foundIn, x_baseFrame, x_frameToken, x_frameStage, x_frameLink, x_operands, x_saidValues, x_marked, x_pending), (y_classes, y_bodies, y_fault, y_made, y_working, y_peak, y_steps, y_depth, y_waiting, y_code, y_running, y_has, y_got, y_todos, y_marks, y_shown, y_spoken, y_parent, y_fields, y_bound, y_kind, y_word, y_size, y_sort, y_number, y_stands, y_keeps, y_cells, y_globals, y_within, y_foundIn, y_self, y_args, y_temps, y_param, y_live, y_work, y_under, y_at, y_in, y_phase, y_base, y_goal, y_operands, y_marked, y_todo, y_heard) =>
    (x_classCount = nI cc ∧ y_classes = nI cc ∧ x_bodyCount = nI bc ∧ y_bodies = nI bc ∧ x_draftCount = nI dc ∧ y_fault = x_wrongPlace ∧ x_madeCount = nI mc ∧ y_made = nI mc ∧
      y_steps = x_stepCount ∧ y_peak = x_mostAtWork ∧ y_spoken = x_saidCount ∧ y_parent = x_classParent ∧ y_fields = x_classFields ∧ y_bound = x_bound ∧ y_heard = x_saidValues) ∧
    (x_frameCount = 0 ∧ x_atWork = 0 ∧ y_working = 0 ∧ y_waiting = 0) ∧
    ((x_outcome = 0 ∧ y_shown = x_inHand) ∨ (¬ x_outcome = 0 ∧ y_shown = -10000000000)) ∧
    (rl_C cc x_classParent x_classFields ∧ rl_B bc x_bound ∧ rl_T cc bc x_tokenKind x_tokenValue y_kind y_word y_size T lv ∧ rl_D bc dc x_tokenKind x_tokenValue y_kind y_word y_size) ∧ mc ≤ 20000 * k ∧
    (∀ i, i < 4 → hp_v ST (hp_s y_sort y_number) (x_globals i) (y_globals i)) ∧
    (hp_R cc mc T y_kind lv ST SA τ σ lev ho x_thingShown x_thingClass x_thingFields x_thingToken x_thingMaker x_variables x_homeOf x_within x_foundIn y_sort y_number y_stands y_keeps y_cells y_within y_foundIn y_self y_args y_temps y_param ∧ hp_U mc x_thingShown ∧ hp_Y y_cells y_self y_args y_temps y_param y_keeps y_within ∧ hp_X x_thingMaker x_within) ∧
    (∀ a, a < 128 → x_baseFrame a = -1) ∧ (∀ a, a < 160 → y_live a = 0)
/-- the relation at the head of a turn -/
def i_Rel (k : Nat) (u : SX) (v : SY) : Prop := ∃ (cc bc dc mc : Nat) (T ST SA : Nat → Prop) (lv τ σ lev ho : Nat → Nat), rl_Q k cc bc dc mc T ST SA lv τ σ lev ho u v
theorem i_up {k : Nat} {u : SX} {v : SY} (h : i_Rel k u v) : i_Rel (k + 5) u v := by
  obtain ⟨x_classCount, x_bodyCount, x_draftCount, x_wrongPlace, x_madeCount, x_frameCount, x_current, x_next, x_inHand, x_mode, x_outcome, x_stepCount, x_atWork, x_mostAtWork, x_saidCount, x_pendingCount, x_classParent, x_classFields, x_bound, x_tokenKind, x_tokenValue, x_globals, x_thingShown, x_thingClass, x_thingFields, x_thingToken, x_thingMaker, x_variables, x_homeOf, x_within, x_foundIn, x_baseFrame, x_frameToken, x_frameStage, x_frameLink, x_operands, x_saidValues, x_marked, x_pending⟩ := u
  obtain ⟨y_classes, y_bodies, y_fault, y_made, y_working, y_peak, y_steps, y_depth, y_waiting, y_code, y_running, y_has, y_got, y_todos, y_marks, y_shown, y_spoken, y_parent, y_fields, y_bound, y_kind, y_word, y_size, y_sort, y_number, y_stands, y_keeps, y_cells, y_globals, y_within, y_foundIn, y_self, y_args, y_temps, y_param, y_live, y_work, y_under, y_at, y_in, y_phase, y_base, y_goal, y_operands, y_marked, y_todo, y_heard⟩ := v
  obtain ⟨cc, bc, dc, mc, T, ST, SA, lv, τ, σ, lev, ho, h1, h2, h3, h4, h5, h6⟩ := h
  exact ⟨cc, bc, dc, mc, T, ST, SA, lv, τ, σ, lev, ho, h1, h2, h3, h4, by omega, h6⟩
theorem i_vc_place {k : Nat} {u : SX} {v : SY} (I : i_Rel k u v) (hk : k + 5 ≤ 2560) : wpX_place (fun r => wpY_place (fun r' => r' = r ∧ i_Rel (k + 5) u v) v) u := by
  have J := i_up I
  obtain ⟨x_classCount, x_bodyCount, x_draftCount, x_wrongPlace, x_madeCount, x_frameCount, x_current, x_next, x_inHand, x_mode, x_outcome, x_stepCount, x_atWork, x_mostAtWork, x_saidCount, x_pendingCount, x_classParent, x_classFields, x_bound, x_tokenKind, x_tokenValue, x_globals, x_thingShown, x_thingClass, x_thingFields, x_thingToken, x_thingMaker, x_variables, x_homeOf, x_within, x_foundIn, x_baseFrame, x_frameToken, x_frameStage, x_frameLink, x_operands, x_saidValues, x_marked, x_pending⟩ := u
  obtain ⟨y_classes, y_bodies, y_fault, y_made, y_working, y_peak, y_steps, y_depth, y_waiting, y_code, y_running, y_has, y_got, y_todos, y_marks, y_shown, y_spoken, y_parent, y_fields, y_bound, y_kind, y_word, y_size, y_sort, y_number, y_stands, y_keeps, y_cells, y_globals, y_within, y_foundIn, y_self, y_args, y_temps, y_param, y_live, y_work, y_under, y_at, y_in, y_phase, y_base, y_goal, y_operands, y_marked, y_todo, y_heard⟩ := v
  obtain ⟨cc, bc, dc, mc, T, ST, SA, lv, τ, σ, lev, ho, h1, _⟩ := I
  exact ⟨h1.2.2.2.2.2.1, J⟩
theorem i_vc_says {k : Nat} {u : SX} {v : SY} (I : i_Rel k u v) (hk : k + 5 ≤ 2560) : wpX_says (fun r => wpY_says (fun r' => r' = r ∧ i_Rel (k + 5) u v) v) u := by
  have J := i_up I
  obtain ⟨x_classCount, x_bodyCount, x_draftCount, x_wrongPlace, x_madeCount, x_frameCount, x_current, x_next, x_inHand, x_mode, x_outcome, x_stepCount, x_atWork, x_mostAtWork, x_saidCount, x_pendingCount, x_classParent, x_classFields, x_bound, x_tokenKind, x_tokenValue, x_globals, x_thingShown, x_thingClass, x_thingFields, x_thingToken, x_thingMaker, x_variables, x_homeOf, x_within, x_foundIn, x_baseFrame, x_frameToken, x_frameStage, x_frameLink, x_operands, x_saidValues, x_marked, x_pending⟩ := u
  obtain ⟨y_classes, y_bodies, y_fault, y_made, y_working, y_peak, y_steps, y_depth, y_waiting, y_code, y_running, y_has, y_got, y_todos, y_marks, y_shown, y_spoken, y_parent, y_fields, y_bound, y_kind, y_word, y_size, y_sort, y_number, y_stands, y_keeps, y_cells, y_globals, y_within, y_foundIn, y_self, y_args, y_temps, y_param, y_live, y_work, y_under, y_at, y_in, y_phase, y_base, y_goal, y_operands, y_marked, y_todo, y_heard⟩ := v
  obtain ⟨cc, bc, dc, mc, T, ST, SA, lv, τ, σ, lev, ho, ⟨_, _, _, _, _, _, _, _, _, _, e, _⟩, _⟩ := I
  exact ⟨e, J⟩
theorem i_vc_said {k : Nat} {u : SX} {v : SY} (I : i_Rel k u v) (hk : k + 5 ≤ 2560) (v1 : Int32) : wpX_said (fun r => wpY_said (fun r' => r' = r ∧ i_Rel (k + 5) u v) v v1) u v1 := by
  have J := i_up I
  obtain ⟨x_classCount, x_bodyCount, x_draftCount, x_wrongPlace, x_madeCount, x_frameCount, x_current, x_next, x_inHand, x_mode, x_outcome, x_stepCount, x_atWork, x_mostAtWork, x_saidCount, x_pendingCount, x_classParent, x_classFields, x_bound, x_tokenKind, x_tokenValue, x_globals, x_thingShown, x_thingClass, x_thingFields, x_thingToken, x_thingMaker, x_variables, x_homeOf, x_within, x_foundIn, x_baseFrame, x_frameToken, x_frameStage, x_frameLink, x_operands, x_saidValues, x_marked, x_pending⟩ := u
  obtain ⟨y_classes, y_bodies, y_fault, y_made, y_working, y_peak, y_steps, y_depth, y_waiting, y_code, y_running, y_has, y_got, y_todos, y_marks, y_shown, y_spoken, y_parent, y_fields, y_bound, y_kind, y_word, y_size, y_sort, y_number, y_stands, y_keeps, y_cells, y_globals, y_within, y_foundIn, y_self, y_args, y_temps, y_param, y_live, y_work, y_under, y_at, y_in, y_phase, y_base, y_goal, y_operands, y_marked, y_todo, y_heard⟩ := v
  obtain ⟨cc, bc, dc, mc, T, ST, SA, lv, τ, σ, lev, ho, ⟨_, _, _, _, _, _, _, _, _, _, rfl, _, _, _, rfl⟩, _⟩ := I
  rcases pk_ix v1 (n := 20) (by decide) with h | h | ⟨j, hj, rfl⟩
  · exact br_t h (br_t h ⟨rfl, J⟩)
  · have h0 : ¬ v1 < 0 := Int32.not_lt.mpr (Int32.le_trans (by decide) h)
    refine br_f h0 (br_t h (br_f h0 ?_))
    exact br_c (fun _ => ⟨rfl, J⟩) (fun _ => br_t h ⟨rfl, J⟩)
  · have h0 : ¬ nI j < 0 := nI_pos (by omega)
    have h1 : ¬ (20 : Int32) ≤ nI j := nI_ge (b := 20) hj (by decide)
    refine br_f h0 (br_f h1 ?_)
    by_cases z : y_spoken ≤ nI j
    · exact br_t z (br_f h0 (br_t z ⟨rfl, J⟩))
    · exact br_f z ⟨vp_in_nI hj (by decide), br_f h0 (br_f z (br_f h1 ⟨vp_in_nI hj (by decide), rfl, J⟩))⟩
theorem i_vc_taken {k : Nat} {u : SX} {v : SY} (I : i_Rel k u v) (hk : k + 5 ≤ 2560) (v1 : Int32) : wpX_taken (fun r => wpY_taken (fun r' => r' = r ∧ i_Rel (k + 5) u v) v v1) u v1 := by
  have J := i_up I
  obtain ⟨x_classCount, x_bodyCount, x_draftCount, x_wrongPlace, x_madeCount, x_frameCount, x_current, x_next, x_inHand, x_mode, x_outcome, x_stepCount, x_atWork, x_mostAtWork, x_saidCount, x_pendingCount, x_classParent, x_classFields, x_bound, x_tokenKind, x_tokenValue, x_globals, x_thingShown, x_thingClass, x_thingFields, x_thingToken, x_thingMaker, x_variables, x_homeOf, x_within, x_foundIn, x_baseFrame, x_frameToken, x_frameStage, x_frameLink, x_operands, x_saidValues, x_marked, x_pending⟩ := u
  obtain ⟨y_classes, y_bodies, y_fault, y_made, y_working, y_peak, y_steps, y_depth, y_waiting, y_code, y_running, y_has, y_got, y_todos, y_marks, y_shown, y_spoken, y_parent, y_fields, y_bound, y_kind, y_word, y_size, y_sort, y_number, y_stands, y_keeps, y_cells, y_globals, y_within, y_foundIn, y_self, y_args, y_temps, y_param, y_live, y_work, y_under, y_at, y_in, y_phase, y_base, y_goal, y_operands, y_marked, y_todo, y_heard⟩ := v
  obtain ⟨cc, bc, dc, mc, T, ST, SA, lv, τ, σ, lev, ho, ⟨a1, a2, a3, a4, _, _, a5, a6, a7, a8, _⟩, _⟩ := I
  rcases pk_ix v1 (n := 5) (by decide) with h | h | ⟨j, hj, rfl⟩
  · exact br_t h (br_t h ⟨rfl, J⟩)
  · have h0 : ¬ v1 < 0 := Int32.not_lt.mpr (Int32.le_trans (by decide) h)
    have h4 : 4 < v1 := Int32.lt_of_lt_of_le (by decide) h
    exact br_f h0 (br_t h4 (br_f h0 (br_t h4 ⟨rfl, J⟩)))
  · rcases (show j = 0 ∨ j = 1 ∨ j = 2 ∨ j = 3 ∨ j = 4 by omega) with rfl | rfl | rfl | rfl | rfl
    · exact br_f (by decide) (br_f (by decide) (br_t rfl (br_f (by decide) (br_f (by decide) (br_t rfl ⟨a7, J⟩)))))
    · exact br_f (by decide) (br_f (by decide) (br_f (by decide) (br_t rfl (br_f (by decide) (br_f (by decide) (br_f (by decide) (br_t rfl ⟨a8, J⟩)))))))
    · exact br_f (by decide) (br_f (by decide) (br_f (by decide) (br_f (by decide) (br_t rfl (br_f (by decide) (br_f (by decide) (br_f (by decide) (br_f (by decide) (br_t rfl ⟨a6.trans a5.symm, J⟩)))))))))
    · exact br_f (by decide) (br_f (by decide) (br_f (by decide) (br_f (by decide) (br_f (by decide) (br_t rfl (br_f (by decide) (br_f (by decide) (br_f (by decide) (br_f (by decide) (br_f (by decide) (br_t rfl ⟨a2.trans a1.symm, J⟩)))))))))))
    · exact br_f (by decide) (br_f (by decide) (br_f (by decide) (br_f (by decide) (br_f (by decide) (br_f (by decide) (br_t rfl (br_f (by decide) (br_f (by decide) (br_f (by decide) (br_f (by decide) (br_f (by decide) (br_f (by decide) (br_t rfl ⟨a4.trans a3.symm, J⟩)))))))))))))
theorem i_vc_result {k : Nat} {u : SX} {v : SY} (I : i_Rel k u v) (hk : k + 5 ≤ 2560) : wpX_result (fun r => wpY_result (fun r' => r' = r ∧ i_Rel (k + 5) u v) v) u := by
  have J := i_up I
  obtain ⟨x_classCount, x_bodyCount, x_draftCount, x_wrongPlace, x_madeCount, x_frameCount, x_current, x_next, x_inHand, x_mode, x_outcome, x_stepCount, x_atWork, x_mostAtWork, x_saidCount, x_pendingCount, x_classParent, x_classFields, x_bound, x_tokenKind, x_tokenValue, x_globals, x_thingShown, x_thingClass, x_thingFields, x_thingToken, x_thingMaker, x_variables, x_homeOf, x_within, x_foundIn, x_baseFrame, x_frameToken, x_frameStage, x_frameLink, x_operands, x_saidValues, x_marked, x_pending⟩ := u
  obtain ⟨y_classes, y_bodies, y_fault, y_made, y_working, y_peak, y_steps, y_depth, y_waiting, y_code, y_running, y_has, y_got, y_todos, y_marks, y_shown, y_spoken, y_parent, y_fields, y_bound, y_kind, y_word, y_size, y_sort, y_number, y_stands, y_keeps, y_cells, y_globals, y_within, y_foundIn, y_self, y_args, y_temps, y_param, y_live, y_work, y_under, y_at, y_in, y_phase, y_base, y_goal, y_operands, y_marked, y_todo, y_heard⟩ := v
  obtain ⟨cc, bc, dc, mc, T, ST, SA, lv, τ, σ, lev, ho, _, _, h3, _⟩ := I
  rcases h3 with ⟨a, b⟩ | ⟨a, b⟩
  · exact br_t a ⟨b, J⟩
  · exact br_f a ⟨b, J⟩
theorem i_vc_read {k : Nat} {u : SX} {v : SY} (I : i_Rel k u v) (hk : k + 5 ≤ 2560) (v1 : Int32) : wpX_read (fun r => wpY_read (fun r' => r' = r ∧ i_Rel (k + 5) u v) v v1) u v1 := by
  have J := i_up I
  obtain ⟨x_classCount, x_bodyCount, x_draftCount, x_wrongPlace, x_madeCount, x_frameCount, x_current, x_next, x_inHand, x_mode, x_outcome, x_stepCount, x_atWork, x_mostAtWork, x_saidCount, x_pendingCount, x_classParent, x_classFields, x_bound, x_tokenKind, x_tokenValue, x_globals, x_thingShown, x_thingClass, x_thingFields, x_thingToken, x_thingMaker, x_variables, x_homeOf, x_within, x_foundIn, x_baseFrame, x_frameToken, x_frameStage, x_frameLink, x_operands, x_saidValues, x_marked, x_pending⟩ := u
  obtain ⟨y_classes, y_bodies, y_fault, y_made, y_working, y_peak, y_steps, y_depth, y_waiting, y_code, y_running, y_has, y_got, y_todos, y_marks, y_shown, y_spoken, y_parent, y_fields, y_bound, y_kind, y_word, y_size, y_sort, y_number, y_stands, y_keeps, y_cells, y_globals, y_within, y_foundIn, y_self, y_args, y_temps, y_param, y_live, y_work, y_under, y_at, y_in, y_phase, y_base, y_goal, y_operands, y_marked, y_todo, y_heard⟩ := v
  obtain ⟨cc, bc, dc, mc, T, ST, SA, lv, τ, σ, lev, ho, _, _, _, _, _, g, ⟨H, U, _⟩, _⟩ := I
  rcases pk_ix v1 (n := 4) (by decide) with h | h | ⟨j, hj, rfl⟩
  · exact br_t h (br_t rfl (br_t h (br_t rfl ⟨rfl, J⟩)))
  · have h0 : ¬ v1 < 0 := Int32.not_lt.mpr (Int32.le_trans (by decide) h)
    exact br_f h0 (br_t h (br_t rfl (br_f h0 (br_t h (br_t rfl ⟨rfl, J⟩)))))
  · have h0 : ¬ nI j < 0 := nI_pos (by omega)
    have h1 : ¬ (4 : Int32) ≤ nI j := nI_ge (b := 4) hj (by decide)
    refine br_f h0 (br_f h1 (br_f (by decide) ⟨vp_in_nI hj (by decide), br_f h0 (br_f h1 (br_f (by decide) ⟨vp_in_nI hj (by decide), ?_⟩))⟩))
    rw [nI_clamp (by omega)]
    exact yv_show H (by have := U.1; omega) (g j hj) ⟨rfl, J⟩
theorem i_vc_field {k : Nat} {u : SX} {v : SY} (I : i_Rel k u v) (hk : k + 5 ≤ 2560) (v1 : Int32) (v2 : Int32) : wpX_field (fun r => wpY_field (fun r' => r' = r ∧ i_Rel (k + 5) u v) v v1 v2) u v1 v2 := by
  have J := i_up I
  obtain ⟨x_classCount, x_bodyCount, x_draftCount, x_wrongPlace, x_madeCount, x_frameCount, x_current, x_next, x_inHand, x_mode, x_outcome, x_stepCount, x_atWork, x_mostAtWork, x_saidCount, x_pendingCount, x_classParent, x_classFields, x_bound, x_tokenKind, x_tokenValue, x_globals, x_thingShown, x_thingClass, x_thingFields, x_thingToken, x_thingMaker, x_variables, x_homeOf, x_within, x_foundIn, x_baseFrame, x_frameToken, x_frameStage, x_frameLink, x_operands, x_saidValues, x_marked, x_pending⟩ := u
  obtain ⟨y_classes, y_bodies, y_fault, y_made, y_working, y_peak, y_steps, y_depth, y_waiting, y_code, y_running, y_has, y_got, y_todos, y_marks, y_shown, y_spoken, y_parent, y_fields, y_bound, y_kind, y_word, y_size, y_sort, y_number, y_stands, y_keeps, y_cells, y_globals, y_within, y_foundIn, y_self, y_args, y_temps, y_param, y_live, y_work, y_under, y_at, y_in, y_phase, y_base, y_goal, y_operands, y_marked, y_todo, y_heard⟩ := v
  obtain ⟨cc, bc, dc, mc, T, ST, SA, lv, τ, σ, lev, ho, ⟨_, _, _, _, _, _, _, _, _, _, _, rfl, rfl, _⟩, _, _, ⟨C, _⟩, _, g, ⟨H, U, _⟩, _⟩ := I
  rcases pk_ix v1 (n := 4) (by decide) with h | h | ⟨j, hj, rfl⟩
  · exact br_t h (br_t rfl (br_t h (br_t rfl ⟨rfl, J⟩)))
  · have h0 : ¬ v1 < 0 := Int32.not_lt.mpr (Int32.le_trans (by decide) h)
    exact br_f h0 (br_t h (br_t rfl (br_f h0 (br_t h (br_t rfl ⟨rfl, J⟩)))))
  · have h0 : ¬ nI j < 0 := nI_pos (by omega)
    have h1 : ¬ (4 : Int32) ≤ nI j := nI_ge (b := 4) hj (by decide)
    have hc : (nI j).toNatClampNeg = j := nI_clamp (by omega)
    refine br_f h0 (br_f h1 (br_f (by decide) ⟨vp_in_nI hj (by decide), ?_⟩))
    rw [hc]
    have Y0 : ∀ (P : Int64 → Prop), ((v2 < 0 → P (-10000000000)) ∧ (¬ v2 < 0 → vp_in (nI j) 4 ∧ wpY_hasField (fun r_5 => (((r_5 = 0 → (P (-10000000000))) ∧ (¬ r_5 = 0 → (vp_in (nI j) 4 ∧ (vp_in ((4 * ((y_globals j).toInt32)) + v2) 128 ∧ (wpY_show (fun r_56 => (P r_56)) (y_classes, y_bodies, y_fault, y_made, y_working, y_peak, y_steps, y_depth, y_waiting, y_code, y_running, y_has, y_got, y_todos, y_marks, y_shown, y_spoken, y_parent, y_fields, y_bound, y_kind, y_word, y_size, y_sort, y_number, y_stands, y_keeps, y_cells, y_globals, y_within, y_foundIn, y_self, y_args, y_temps, y_param, y_live, y_work, y_under, y_at, y_in, y_phase, y_base, y_goal, y_operands, y_marked, y_todo, y_heard) (y_cells ((4 * ((y_globals j).toInt32)) + v2).toNatClampNeg)))))))) (y_classes, y_bodies, y_fault, y_made, y_working, y_peak, y_steps, y_depth, y_waiting, y_code, y_running, y_has, y_got, y_todos, y_marks, y_shown, y_spoken, y_parent, y_fields, y_bound, y_kind, y_word, y_size, y_sort, y_number, y_stands, y_keeps, y_cells, y_globals, y_within, y_foundIn, y_self, y_args, y_temps, y_param, y_live, y_work, y_under, y_at, y_in, y_phase, y_base, y_goal, y_operands, y_marked, y_todo, y_heard) (y_globals j) v2)) → wpY_field P (y_classes, y_bodies, y_fault, y_made, y_working, y_peak, y_steps, y_depth, y_waiting, y_code, y_running, y_has, y_got, y_todos, y_marks, y_shown, y_spoken, y_parent, y_fields, y_bound, y_kind, y_word, y_size, y_sort, y_number, y_stands, y_keeps, y_cells, y_globals, y_within, y_foundIn, y_self, y_args, y_temps, y_param, y_live, y_work, y_under, y_at, y_in, y_phase, y_base, y_goal, y_operands, y_marked, y_todo, y_heard) (nI j) v2 := fun P hP => by
      refine br_f h0 (br_f h1 (br_f (by decide) ?_))
      rw [hc]; exact hP
    by_cases n2 : v2 < 0
    · unfold wpX_fieldPlace
      obtain ⟨a, q1, q2, q3⟩ := g j hj
      have fin : wpY_field (fun r' => r' = -10000000000 ∧ i_Rel (k + 5) (x_classCount, x_bodyCount, x_draftCount, x_wrongPlace, x_madeCount, x_frameCount, x_current, x_next, x_inHand, x_mode, x_outcome, x_stepCount, x_atWork, x_mostAtWork, x_saidCount, x_pendingCount, y_parent, y_fields, x_bound, x_tokenKind, x_tokenValue, x_globals, x_thingShown, x_thingClass, x_thingFields, x_thingToken, x_thingMaker, x_variables, x_homeOf, x_within, x_foundIn, x_baseFrame, x_frameToken, x_frameStage, x_frameLink, x_operands, x_saidValues, x_marked, x_pending) (y_classes, y_bodies, y_fault, y_made, y_working, y_peak, y_steps, y_depth, y_waiting, y_code, y_running, y_has, y_got, y_todos, y_marks, y_shown, y_spoken, y_parent, y_fields, y_bound, y_kind, y_word, y_size, y_sort, y_number, y_stands, y_keeps, y_cells, y_globals, y_within, y_foundIn, y_self, y_args, y_temps, y_param, y_live, y_work, y_under, y_at, y_in, y_phase, y_base, y_goal, y_operands, y_marked, y_todo, y_heard)) (y_classes, y_bodies, y_fault, y_made, y_working, y_peak, y_steps, y_depth, y_waiting, y_code, y_running, y_has, y_got, y_todos, y_marks, y_shown, y_spoken, y_parent, y_fields, y_bound, y_kind, y_word, y_size, y_sort, y_number, y_stands, y_keeps, y_cells, y_globals, y_within, y_foundIn, y_self, y_args, y_temps, y_param, y_live, y_work, y_under, y_at, y_in, y_phase, y_base, y_goal, y_operands, y_marked, y_todo, y_heard) (nI j) v2 := Y0 _ (br_t n2 ⟨rfl, J⟩)
      by_cases z : 20000000000 ≤ x_globals j
      · obtain ⟨kk, _, sk, e⟩ := hp_vX (g j hj) z
        rw [e]
        exact xv_thing U H sk (br_f (gx_m1 (by have := (H.1 kk sk).2.1; omega)) (br_t n2 (br_t rfl fin)))
      · exact xv_thing_n z (br_t rfl (br_t rfl fin))
    · obtain ⟨jn, hjn, rfl⟩ := nI_of n2
      rcases xv_field U H C (g j hj) hjn with ⟨fX, fY⟩ | ⟨kk, kl, sk, s3, j4, ey, fX, fY⟩
      · exact fX _ (br_t rfl (Y0 _ (br_f n2 ⟨vp_in_nI hj (by decide), fY _ (br_t rfl ⟨rfl, J⟩)⟩)))
      · obtain ⟨k1, k2, _, _, _, _, _, k8⟩ := H.1 kk sk
        have e4 : (4 : Int32) * nI kk + nI jn = nI (4 * kk + jn) := ix_l 4 kk jn
        refine fX _ (br_f (gx_m1 (by omega)) ⟨vp_in_nI (by omega) (by decide), Y0 _ (br_f n2 ⟨vp_in_nI hj (by decide), fY _ (br_f (by decide) ⟨vp_in_nI hj (by decide), ?_⟩)⟩)⟩)
        rw [ey, vv_t (by omega), e4, nI_clamp (show τ kk * 4 + jn < 2 ^ 31 by omega), nI_clamp (show 4 * kk + jn < 2 ^ 31 by omega)]
        exact ⟨vp_in_nI (by omega) (by decide), yv_show H (by have := U.1; omega) ((k8 s3).2 jn j4) ⟨rfl, J⟩⟩
theorem i_vc_finds {k : Nat} {u : SX} {v : SY} (I : i_Rel k u v) (hk : k + 5 ≤ 2560) (v1 : Int32) (v2 : Int32) : wpX_finds (fun r => wpY_finds (fun r' => r' = r ∧ i_Rel (k + 5) u v) v v1 v2) u v1 v2 := by
  have J := i_up I
  obtain ⟨x_classCount, x_bodyCount, x_draftCount, x_wrongPlace, x_madeCount, x_frameCount, x_current, x_next, x_inHand, x_mode, x_outcome, x_stepCount, x_atWork, x_mostAtWork, x_saidCount, x_pendingCount, x_classParent, x_classFields, x_bound, x_tokenKind, x_tokenValue, x_globals, x_thingShown, x_thingClass, x_thingFields, x_thingToken, x_thingMaker, x_variables, x_homeOf, x_within, x_foundIn, x_baseFrame, x_frameToken, x_frameStage, x_frameLink, x_operands, x_saidValues, x_marked, x_pending⟩ := u
  obtain ⟨y_classes, y_bodies, y_fault, y_made, y_working, y_peak, y_steps, y_depth, y_waiting, y_code, y_running, y_has, y_got, y_todos, y_marks, y_shown, y_spoken, y_parent, y_fields, y_bound, y_kind, y_word, y_size, y_sort, y_number, y_stands, y_keeps, y_cells, y_globals, y_within, y_foundIn, y_self, y_args, y_temps, y_param, y_live, y_work, y_under, y_at, y_in, y_phase, y_base, y_goal, y_operands, y_marked, y_todo, y_heard⟩ := v
  obtain ⟨cc, bc, dc, mc, T, ST, SA, lv, τ, σ, lev, ho, ⟨rfl, rfl, _, _, _, _, _, _, _, _, _, rfl, rfl, rfl, _⟩, _, _, ⟨C, B, _⟩, _⟩ := I
  rcases pk_ix v1 (n := cc) (by have := C.2.1; omega) with h | h | ⟨c, hc, rfl⟩
  · exact br_t h (br_t rfl (br_t h (br_t rfl ⟨rfl, J⟩)))
  · have h0 : ¬ v1 < 0 := Int32.not_lt.mpr (Int32.le_trans (nI_pos' (by have := C.2.1; omega)) h)
    exact br_f h0 (br_t h (br_t rfl (br_f h0 (br_t h (br_t rfl ⟨rfl, J⟩)))))
  · have h0 : ¬ nI c < 0 := nI_pos (by have := C.2.1; omega)
    have h1 : ¬ nI cc ≤ nI c := nI_ge hc (by have := C.2.1; omega)
    refine br_f h0 (br_f h1 (br_f (by decide) ?_))
    rcases pk_ix v2 (n := 12) (by decide) with q | q | ⟨s, hs, rfl⟩
    · exact br_t q (br_t rfl (br_f h0 (br_f h1 (br_f (by decide) (br_t q (br_t rfl ⟨rfl, J⟩))))))
    · have q0 : ¬ v2 < 0 := Int32.not_lt.mpr (Int32.le_trans (by decide) q)
      exact br_f q0 (br_t q (br_t rfl (br_f h0 (br_f h1 (br_f (by decide) (br_f q0 (br_t q (br_t rfl ⟨rfl, J⟩))))))))
    · have q0 : ¬ nI s < 0 := nI_pos (by omega)
      have q1 : ¬ (12 : Int32) ≤ nI s := nI_ge (b := 12) hs (by decide)
      obtain ⟨r, _, r2, r3⟩ := xv_found C B hs hc
      exact br_f q0 (br_f q1 (br_f (by decide) (r2 _ (br_f h0 (br_f h1 (br_f (by decide) (br_f q0 (br_f q1 (br_f (by decide) (r3 _ ⟨rfl, J⟩))))))))))
