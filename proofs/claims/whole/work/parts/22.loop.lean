/-! the run as a whole: from step to step to its end -/
def rn_H (ST : Nat → Prop) (so nu' : Nat → Int32) (K : Nat → Int32) (nd : Nat → Nat) (T : Nat → Prop) (fa ph rt : Nat → Nat) (d w np md : Nat) (xmode yhas : Int32) (xin ygot : Int64) : Prop :=
  xmode = 1 ∧ yhas = 1 ∧ md = 2 ∧ hp_v ST (hp_s so nu') xin ygot ∧ ∃ t, fr_lt K nd fa ph rt d t (w - 1) ∧ T t ∧ np = ex_e nd t
def rn_N (K : Nat → Int32) (nd : Nat → Nat) (fa ph : Nat → Nat) (d np md : Nat) (xmode yhas : Int32) : Prop :=
  yhas = 0 ∧ ∃ p, d = p + 1 ∧ ph p ≠ 100 ∧ np = ex_pt nd (fa p) (fr_pt (K (fa p)) (ph p)) ∧ ((fr_pt (K (fa p)) (ph p) < nd (fa p) ∧ xmode = 0 ∧ md = 0) ∨ (fr_pt (K (fa p)) (ph p) = nd (fa p) ∧ xmode = 2 ∧ md = 1))
/-- a run under way, with less than M to go; B bounds what is made -/
def rn_St (B M : Nat) (u : SX) (v : SY) : Prop := match u, v with
  | (x_classCount, x_bodyCount, x_draftCount, x_wrongPlace, x_madeCount, x_frameCount, x_current, x_next, x_inHand, x_mode, x_outcome, x_stepCount, x_atWork, x_mostAtWork, x_saidCount, x_pendingCount, x_classParent, x_classFields, x_bound, x_tokenKind, x_tokenValue, x_globals, x_thingShown, x_thingClass, x_thingFields, x_thingToken, x_thingMaker, x_variables, x_homeOf, x_within, x_foundIn, x_baseFrame, x_frameToken, x_frameStage, x_frameLink, x_operands, x_saidValues, x_marked, x_pending), (y_classes, y_bodies, y_fault, y_made, y_working, y_peak, y_steps, y_depth, y_waiting, y_code, y_running, y_has, y_got, y_todos, y_marks, y_shown, y_spoken, y_parent, y_fields, y_bound, y_kind, y_word, y_size, y_sort, y_number, y_stands, y_keeps, y_cells, y_globals, y_within, y_foundIn, y_self, y_args, y_temps, y_param, y_live, y_work, y_under, y_at, y_in, y_phase, y_base, y_goal, y_operands, y_marked, y_todo, y_heard) => ∃ (cc bc dc mc st sp d w np md : Nat) (T ST SA : Nat → Prop) (lv τ σ lev ho fa ph bs ow gg wk un rt : Nat → Nat),
    (x_classCount = nI cc ∧ x_bodyCount = nI bc ∧ x_draftCount = nI dc ∧ y_fault = x_wrongPlace ∧ x_madeCount = nI mc ∧ x_frameCount = nI (fr_x y_kind fa ph d) ∧ x_current = nI (σ (wk (w - 1))) ∧ x_outcome = 100 ∧ x_stepCount = nI st ∧ x_atWork = nI w ∧ y_peak = x_mostAtWork ∧ x_saidCount = nI sp ∧ y_parent = x_classParent ∧ y_fields = x_classFields ∧ y_bound = x_bound ∧ y_heard = x_saidValues ∧ x_next = nI np) ∧
    (y_classes = nI cc ∧ y_bodies = nI bc ∧ y_made = nI mc ∧ y_working = nI w ∧ y_steps = nI st ∧ y_depth = nI d ∧ y_waiting = nI (bs d) ∧ y_running = 1 ∧ y_spoken = nI sp ∧ y_shown = -10000000000) ∧
    rn_A cc bc dc mc T ST SA lv τ σ lev ho x_tokenKind x_tokenValue y_kind y_word y_size y_parent y_fields y_bound x_globals y_globals x_thingShown x_thingClass x_thingFields x_thingToken x_thingMaker x_variables x_homeOf x_within x_foundIn y_sort y_number y_stands y_keeps y_cells y_within y_foundIn y_self y_args y_temps y_param ∧ rn_F T ST SA lv σ lev ho y_kind y_word fa ph bs ow gg wk un rt d w y_sort y_number x_frameToken x_frameStage x_frameLink x_operands x_baseFrame y_operands y_self y_at y_in y_phase y_base y_goal y_work y_under y_live ∧ (rn_H ST y_sort y_number y_kind (tk_nd y_kind y_word) T fa ph rt d w np md x_mode y_has x_inHand y_got ∨ rn_N y_kind (tk_nd y_kind y_word) fa ph d np md x_mode y_has) ∧
    st ≤ 200 ∧ sp < 2 ^ 30 - rn_mu (tk_nd y_kind y_word) fa un rt st d w np md ∧ rn_mu (tk_nd y_kind y_word) fa un rt st d w np md < M ∧ mc + rn_mu (tk_nd y_kind y_word) fa un rt st d w np md ≤ B
/-- a run that has ended -/
def rn_E (B : Nat) (u : SX) (v : SY) : Prop := match u, v with
  | (x_classCount, x_bodyCount, x_draftCount, x_wrongPlace, x_madeCount, x_frameCount, x_current, x_next, x_inHand, x_mode, x_outcome, x_stepCount, x_atWork, x_mostAtWork, x_saidCount, x_pendingCount, x_classParent, x_classFields, x_bound, x_tokenKind, x_tokenValue, x_globals, x_thingShown, x_thingClass, x_thingFields, x_thingToken, x_thingMaker, x_variables, x_homeOf, x_within, x_foundIn, x_baseFrame, x_frameToken, x_frameStage, x_frameLink, x_operands, x_saidValues, x_marked, x_pending), (y_classes, y_bodies, y_fault, y_made, y_working, y_peak, y_steps, y_depth, y_waiting, y_code, y_running, y_has, y_got, y_todos, y_marks, y_shown, y_spoken, y_parent, y_fields, y_bound, y_kind, y_word, y_size, y_sort, y_number, y_stands, y_keeps, y_cells, y_globals, y_within, y_foundIn, y_self, y_args, y_temps, y_param, y_live, y_work, y_under, y_at, y_in, y_phase, y_base, y_goal, y_operands, y_marked, y_todo, y_heard) => ∃ (cc bc dc mc w : Nat) (T ST SA : Nat → Prop) (lv τ σ lev ho : Nat → Nat),
    (x_classCount = nI cc ∧ x_bodyCount = nI bc ∧ x_draftCount = nI dc ∧ y_fault = x_wrongPlace ∧ x_madeCount = nI mc ∧ y_peak = x_mostAtWork ∧ y_spoken = x_saidCount ∧ y_steps = x_stepCount ∧ y_parent = x_classParent ∧ y_fields = x_classFields ∧ y_bound = x_bound ∧ y_heard = x_saidValues) ∧
    (y_classes = nI cc ∧ y_bodies = nI bc ∧ y_made = nI mc ∧ y_working = nI w ∧ y_running = 0 ∧ w ≤ 12) ∧
    (¬ x_outcome = 100 ∧ y_code = x_outcome ∧ ((x_outcome = 0 ∧ y_shown = x_inHand) ∨ (¬ x_outcome = 0 ∧ y_shown = -10000000000))) ∧
    rn_A cc bc dc mc T ST SA lv τ σ lev ho x_tokenKind x_tokenValue y_kind y_word y_size y_parent y_fields y_bound x_globals y_globals x_thingShown x_thingClass x_thingFields x_thingToken x_thingMaker x_variables x_homeOf x_within x_foundIn y_sort y_number y_stands y_keeps y_cells y_within y_foundIn y_self y_args y_temps y_param ∧ mc ≤ B ∧ (∀ i, i < w → ∃ a, a < 160 ∧ y_work i = nI a) ∧ (∀ a, a < 160 → y_live a = 0 ∨ ∃ i, i < w ∧ y_work i = nI a)
/-- one step -/
def rn_Go (B M t : Nat) (u : SX) (v : SY) : Prop := ∃ u1 v1 t1, t1 ≤ t + 2 ∧ (∀ PX, XL PX t1 u1 → XL PX t u) ∧ (∀ PY m, YL PY m v1 → YL PY (m + 2) v) ∧ (rn_E B u1 v1 ∨ rn_St B M u1 v1)
theorem rn_main {B : Nat} (step : ∀ M t u v, t + 2 ≤ 1000000 → rn_St B (M + 1) u v → rn_Go B M t u v) : ∀ M t u v, t + 2 * M ≤ 1000000 → rn_St B M u v → ∃ u' v' t', t' ≤ 1000000 ∧ rn_E B u' v' ∧ (∀ PX, XL PX t' u' → XL PX t u) ∧ (∀ PY, YL PY 0 v' → YL PY (2 * M) v)
  | 0, t, u, v, _, h => by
    obtain ⟨x_classCount, x_bodyCount, x_draftCount, x_wrongPlace, x_madeCount, x_frameCount, x_current, x_next, x_inHand, x_mode, x_outcome, x_stepCount, x_atWork, x_mostAtWork, x_saidCount, x_pendingCount, x_classParent, x_classFields, x_bound, x_tokenKind, x_tokenValue, x_globals, x_thingShown, x_thingClass, x_thingFields, x_thingToken, x_thingMaker, x_variables, x_homeOf, x_within, x_foundIn, x_baseFrame, x_frameToken, x_frameStage, x_frameLink, x_operands, x_saidValues, x_marked, x_pending⟩ := u
    obtain ⟨y_classes, y_bodies, y_fault, y_made, y_working, y_peak, y_steps, y_depth, y_waiting, y_code, y_running, y_has, y_got, y_todos, y_marks, y_shown, y_spoken, y_parent, y_fields, y_bound, y_kind, y_word, y_size, y_sort, y_number, y_stands, y_keeps, y_cells, y_globals, y_within, y_foundIn, y_self, y_args, y_temps, y_param, y_live, y_work, y_under, y_at, y_in, y_phase, y_base, y_goal, y_operands, y_marked, y_todo, y_heard⟩ := v
    obtain ⟨_, _, _, _, _, _, _, _, _, _, _, _, _, _, _, _, _, _, _, _, _, _, _, _, _, _, _, _, _, _, _, _, _, z, _⟩ := h
    omega
  | M + 1, t, u, v, ht, h => by
    obtain ⟨u1, v1, t1, a, b, c, e | s⟩ := step M t u v (by omega) h
    · exact ⟨u1, v1, t1, by omega, e, b, fun PY q => YL_mono (c PY 0 q) (by omega)⟩
    · obtain ⟨u', v', t', a', e', b', c'⟩ := rn_main step M t1 u1 v1 (by omega) s
      exact ⟨u', v', t', a', e', fun PX q => b PX (b' PX q), fun PY q => YL_mono (c PY _ (c' PY q)) (by omega)⟩
def zf_c (f : Nat → Int32) (n : Nat) (v : Int32) : Nat → Int32 := fun j => if j < n then v else f j
theorem zf_c0 (f : Nat → Int32) (v : Int32) : zf_c f 0 v = f := by funext j; unfold zf_c; rw [if_neg (by omega)]
theorem zf_cs (f : Nat → Int32) (n : Nat) (v : Int32) : upd (zf_c f n v) n v = zf_c f (n + 1) v := by
  funext j
  unfold upd zf_c
  by_cases h : j = n
  · rw [if_pos h, if_pos (by omega)]
  · rw [if_neg h]
    by_cases q : j < n
    · rw [if_pos q, if_pos (by omega)]
    · rw [if_neg q, if_neg (by omega)]
section
variable {x_classCount x_bodyCount x_draftCount x_wrongPlace x_madeCount x_frameCount x_current x_next x_mode x_outcome x_stepCount x_atWork x_mostAtWork x_saidCount x_pendingCount : Int32} {x_inHand : Int64} {x_classParent x_classFields x_bound x_tokenKind x_tokenValue x_thingClass x_thingToken x_thingMaker x_homeOf x_within x_foundIn x_baseFrame x_frameToken x_frameStage x_frameLink x_marked x_pending : Nat → Int32} {x_globals x_thingShown x_thingFields x_variables x_operands x_saidValues : Nat → Int64}
variable {y_classes y_bodies y_fault y_made y_working y_peak y_steps y_depth y_waiting y_code y_running y_has y_todos y_marks y_spoken : Int32} {y_got y_shown : Int64} {y_parent y_fields y_bound y_kind y_word y_size y_sort y_number y_stands y_keeps y_within y_foundIn y_live y_work y_under y_at y_in y_phase y_base y_goal y_marked y_todo : Nat → Int32} {y_cells y_globals y_self y_args y_temps y_param y_operands y_heard : Nat → Int64}
theorem xe_end {post : Int32 → SX → Prop} {t : Nat} (ht : t ≤ 1000000) (ho : ¬ x_outcome = 100) (h : post x_outcome (x_classCount, x_bodyCount, x_draftCount, x_wrongPlace, x_madeCount, 0, x_current, x_next, x_inHand, x_mode, x_outcome, x_stepCount, 0, x_mostAtWork, x_saidCount, x_pendingCount, x_classParent, x_classFields, x_bound, x_tokenKind, x_tokenValue, x_globals, x_thingShown, x_thingClass, x_thingFields, x_thingToken, x_thingMaker, x_variables, x_homeOf, x_within, x_foundIn, zf_c x_baseFrame 128 (-1), x_frameToken, x_frameStage, x_frameLink, x_operands, x_saidValues, x_marked, x_pending)) : XL post t (x_classCount, x_bodyCount, x_draftCount, x_wrongPlace, x_madeCount, x_frameCount, x_current, x_next, x_inHand, x_mode, x_outcome, x_stepCount, x_atWork, x_mostAtWork, x_saidCount, x_pendingCount, x_classParent, x_classFields, x_bound, x_tokenKind, x_tokenValue, x_globals, x_thingShown, x_thingClass, x_thingFields, x_thingToken, x_thingMaker, x_variables, x_homeOf, x_within, x_foundIn, x_baseFrame, x_frameToken, x_frameStage, x_frameLink, x_operands, x_saidValues, x_marked, x_pending) := by
  have e146 : wX_send_146 post x_classCount x_bodyCount x_draftCount x_wrongPlace x_madeCount x_frameCount x_current x_next x_inHand x_mode x_outcome x_stepCount x_atWork x_mostAtWork x_saidCount x_pendingCount x_classParent x_classFields x_bound x_tokenKind x_tokenValue x_globals x_thingShown x_thingClass x_thingFields x_thingToken x_thingMaker x_variables x_homeOf x_within x_foundIn x_baseFrame x_frameToken x_frameStage x_frameLink x_operands x_saidValues x_marked x_pending := by
    unfold wX_send_146 wpX_endRun
    dsimp only
    refine loop_0 (fun n i f => wX_endRun_2 _ x_classCount x_bodyCount x_draftCount x_wrongPlace x_madeCount x_frameCount x_current x_next x_inHand x_mode x_outcome x_stepCount x_atWork x_mostAtWork x_saidCount x_pendingCount n (nI i) x_classParent x_classFields x_bound x_tokenKind x_tokenValue x_globals x_thingShown x_thingClass x_thingFields x_thingToken x_thingMaker x_variables x_homeOf x_within x_foundIn f x_frameToken x_frameStage x_frameLink x_operands x_saidValues x_marked x_pending) (fun i f => f = zf_c x_baseFrame i (-1)) 128 x_baseFrame (zf_c0 _ _).symm ?_ ?_
    · intro n f I
      subst I
      exact br_t (by decide) h
    · intro n i f hi I k
      subst I
      refine br_f (nI_ge (b := 128) hi (by decide)) ⟨vp_in_nI hi (by decide), ?_⟩
      rw [nI_clamp (by omega)]
      exact nm_r (zf_cs _ _ _) (nm_r (nI_1 i) (k _ rfl))
  intro n hn
  obtain ⟨n', rfl⟩ : ∃ n', n = n' + 1 := ⟨n - 1, by omega⟩
  exact br_c (fun _ => e146) (fun _ => br_f ho e146)
theorem ye_end {post : Int32 → SY → Prop} {w : Nat} (hw : w ≤ 12) (hwk : ∀ i, i < w → ∃ a, a < 160 ∧ y_work i = nI a) (h : ∀ lv, (∀ a, a < 160 → (lv a = y_live a ∨ lv a = 0) ∧ ((∃ i, i < w ∧ y_work i = nI a) → lv a = 0)) → post y_code (y_classes, y_bodies, y_fault, y_made, 0, y_peak, y_steps, y_depth, 0, y_code, 0, y_has, y_got, y_todos, y_marks, y_shown, y_spoken, y_parent, y_fields, y_bound, y_kind, y_word, y_size, y_sort, y_number, y_stands, y_keeps, y_cells, y_globals, y_within, y_foundIn, y_self, y_args, y_temps, y_param, lv, y_work, y_under, y_at, y_in, y_phase, y_base, y_goal, y_operands, y_marked, y_todo, y_heard)) : YL post 0 (y_classes, y_bodies, y_fault, y_made, nI w, y_peak, y_steps, y_depth, y_waiting, y_code, 0, y_has, y_got, y_todos, y_marks, y_shown, y_spoken, y_parent, y_fields, y_bound, y_kind, y_word, y_size, y_sort, y_number, y_stands, y_keeps, y_cells, y_globals, y_within, y_foundIn, y_self, y_args, y_temps, y_param, y_live, y_work, y_under, y_at, y_in, y_phase, y_base, y_goal, y_operands, y_marked, y_todo, y_heard) := by
  intro n hn
  obtain ⟨n', rfl⟩ : ∃ n', n = n' + 1 := ⟨n - 1, by omega⟩
  refine br_t rfl ?_
  refine loop_0 (fun n i f => wY_send_157 post y_classes y_bodies y_fault y_made (nI w) y_peak y_steps y_depth y_waiting y_code 0 y_has y_got y_todos y_marks y_shown y_spoken n (nI i) y_parent y_fields y_bound y_kind y_word y_size y_sort y_number y_stands y_keeps y_cells y_globals y_within y_foundIn y_self y_args y_temps y_param f y_work y_under y_at y_in y_phase y_base y_goal y_operands y_marked y_todo y_heard) (fun i f => i ≤ w → ∀ a, a < 160 → (f a = y_live a ∨ f a = 0) ∧ ((∃ j, j < i ∧ y_work j = nI a) → f a = 0)) w y_live (fun _ a _ => ⟨Or.inl rfl, fun ⟨j, hj, _⟩ => by omega⟩) ?_ ?_
  · intro n f I
    exact br_t (nI_le (Nat.le_refl _) (by omega)) (h f (I (Nat.le_refl _)))
  · intro n i f hi I k
    obtain ⟨b, b1, b2⟩ := hwk i hi
    refine br_f (nI_ge hi (by omega)) ⟨vp_in_nI (by omega) (by decide), ?_⟩
    rw [nI_clamp (show i < 2 ^ 31 by omega), b2, nI_clamp (show b < 2 ^ 31 by omega), show vp_nar .boolean 0 = 0 by rfl]
    refine ⟨vp_in_nI b1 (by decide), nm_e (nm_r (nI_1 i) (k _ fun _ a ha => ?_))⟩
    have I := I (by omega) a ha
    by_cases e : a = b
    · subst e
      rw [pk_us]
      exact ⟨Or.inr rfl, fun _ => rfl⟩
    · rw [pk_un e]
      refine ⟨I.1, fun ⟨j, j1, j2⟩ => I.2 ⟨j, ?_, j2⟩⟩
      by_cases q : j = i
      · subst q
        exact absurd ((nI_eq (by omega) (by omega)).mp (j2.symm.trans b2)) e
      · omega
end
/-- the end of a run, seen from outside -/
theorem rn_fin {k B : Nat} {u : SX} {v : SY} {t : Nat} (ht : t ≤ 1000000) (hB : B ≤ 20000 * (k + 5)) (h : rn_E B u v) : ∃ (r : Int32) (u' : SX), (∀ PX : Int32 → SX → Prop, PX r u' → XL PX t u) ∧ (∀ PY : Int32 → SY → Prop, (∀ v', i_Rel (k + 5) u' v' → PY r v') → YL PY 0 v) := by
  obtain ⟨x_classCount, x_bodyCount, x_draftCount, x_wrongPlace, x_madeCount, x_frameCount, x_current, x_next, x_inHand, x_mode, x_outcome, x_stepCount, x_atWork, x_mostAtWork, x_saidCount, x_pendingCount, x_classParent, x_classFields, x_bound, x_tokenKind, x_tokenValue, x_globals, x_thingShown, x_thingClass, x_thingFields, x_thingToken, x_thingMaker, x_variables, x_homeOf, x_within, x_foundIn, x_baseFrame, x_frameToken, x_frameStage, x_frameLink, x_operands, x_saidValues, x_marked, x_pending⟩ := u
  obtain ⟨y_classes, y_bodies, y_fault, y_made, y_working, y_peak, y_steps, y_depth, y_waiting, y_code, y_running, y_has, y_got, y_todos, y_marks, y_shown, y_spoken, y_parent, y_fields, y_bound, y_kind, y_word, y_size, y_sort, y_number, y_stands, y_keeps, y_cells, y_globals, y_within, y_foundIn, y_self, y_args, y_temps, y_param, y_live, y_work, y_under, y_at, y_in, y_phase, y_base, y_goal, y_operands, y_marked, y_todo, y_heard⟩ := v
  obtain ⟨cc, bc, dc, mc, w, T, ST, SA, lv, τ, σ, lev, ho, ⟨rfl, rfl, rfl, rfl, rfl, rfl, rfl, rfl, rfl, rfl, rfl, rfl⟩, ⟨rfl, rfl, rfl, rfl, rfl, w12⟩, ⟨o1, rfl, o3⟩, ⟨st, g, H, U, Y, X⟩, hm, wk, li⟩ := h
  refine ⟨_, _, fun PX q => xe_end ht o1 q, fun PY q => ye_end w12 wk fun lv' hl => q _ ?_⟩
  refine ⟨cc, bc, dc, mc, T, ST, SA, lv, τ, σ, lev, ho, ⟨rfl, rfl, rfl, rfl, rfl, rfl, rfl, rfl, rfl, rfl, rfl, rfl, rfl, rfl, rfl⟩, ⟨rfl, rfl, rfl, rfl⟩, o3, st, by omega, g, ⟨H, U, Y, X⟩, fun a ha => if_pos ha, fun a ha => ?_⟩
  obtain ⟨l1, l2⟩ := hl a ha
  rcases li a ha with z | z
  · rcases l1 with y | y
    · rw [y]; exact z
    · exact y
  · exact l2 z
