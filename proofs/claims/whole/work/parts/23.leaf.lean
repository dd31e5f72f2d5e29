/-! tokens without operands -/
section
variable {x_classCount x_bodyCount x_draftCount x_wrongPlace x_madeCount x_frameCount x_current x_next x_mode x_outcome x_stepCount x_atWork x_mostAtWork x_saidCount x_pendingCount : Int32} {x_inHand : Int64} {x_classParent x_classFields x_bound x_tokenKind x_tokenValue x_thingClass x_thingToken x_thingMaker x_homeOf x_within x_foundIn x_baseFrame x_frameToken x_frameStage x_frameLink x_marked x_pending : Nat → Int32} {x_globals x_thingShown x_thingFields x_variables x_operands x_saidValues : Nat → Int64}
variable {y_classes y_bodies y_fault y_made y_working y_peak y_steps y_depth y_waiting y_code y_running y_has y_todos y_marks y_spoken : Int32} {y_got y_shown : Int64} {y_parent y_fields y_bound y_kind y_word y_size y_sort y_number y_stands y_keeps y_within y_foundIn y_live y_work y_under y_at y_in y_phase y_base y_goal y_marked y_todo : Nat → Int32} {y_cells y_globals y_self y_args y_temps y_param y_operands y_heard : Nat → Int64}
variable {cc bc dc mc st sp d w np md B M : Nat} {T ST SA : Nat → Prop} {lv τ σ lev ho fa ph bs ow gg wk un rt : Nat → Nat}
theorem yh_home (H : hp_R cc mc T y_kind lv ST SA τ σ lev ho x_thingShown x_thingClass x_thingFields x_thingToken x_thingMaker x_variables x_homeOf x_within x_foundIn y_sort y_number y_stands y_keeps y_cells y_within y_foundIn y_self y_args y_temps y_param) {post : Int32 → Prop} : ∀ (n a f : Nat), lev a ≤ n → n < f → SA a → post (nI (ho a)) → wY_home_2 post y_classes y_bodies y_fault y_made y_working y_peak y_steps y_depth y_waiting y_code y_running y_has y_got y_todos y_marks y_shown y_spoken y_parent y_fields y_bound y_kind y_word y_size y_sort y_number y_stands y_keeps y_cells y_globals y_within y_foundIn y_self y_args y_temps y_param y_live y_work y_under y_at y_in y_phase y_base y_goal y_operands y_marked y_todo y_heard f (nI a) := by
  intro n
  induction n with
  | zero =>
    intro a f hl hf sa hp
    obtain ⟨f', rfl⟩ : ∃ f', f = f' + 1 := ⟨f - 1, by omega⟩
    obtain ⟨k1, _, _, _, _, _, z⟩ := H.2.1 a sa
    have ac : (nI a).toNatClampNeg = a := nI_clamp (by omega)
    refine ⟨vp_in_nI k1 (by decide), ?_⟩
    rw [ac]
    rcases z with ⟨e, _, e2, _⟩ | ⟨b, _, _, z, _⟩
    · rw [e2] at hp
      exact br_t (by rw [e]; decide) hp
    · omega
  | succ n ih =>
    intro a f hl hf sa hp
    obtain ⟨f', rfl⟩ : ∃ f', f = f' + 1 := ⟨f - 1, by omega⟩
    obtain ⟨k1, _, _, _, _, _, z⟩ := H.2.1 a sa
    have ac : (nI a).toNatClampNeg = a := nI_clamp (by omega)
    refine ⟨vp_in_nI k1 (by decide), ?_⟩
    rw [ac]
    rcases z with ⟨e, _, e2, _⟩ | ⟨b, e, sb, z, e2, _⟩
    · rw [e2] at hp
      exact br_t (by rw [e]; decide) hp
    · have hb := (H.2.1 b sb).1
      rw [e2] at hp
      exact br_f (by rw [e]; exact nI_pos (by omega)) ⟨vp_in_nI k1 (by decide), nm_r e (ih b f' (by omega) (by omega) sb hp)⟩
theorem yw_home (H : hp_R cc mc T y_kind lv ST SA τ σ lev ho x_thingShown x_thingClass x_thingFields x_thingToken x_thingMaker x_variables x_homeOf x_within x_foundIn y_sort y_number y_stands y_keeps y_cells y_within y_foundIn y_self y_args y_temps y_param) {post : Int32 → Prop} {a : Nat} (sa : SA a) (hp : post (nI (ho a))) : wpY_home post (y_classes, y_bodies, y_fault, y_made, y_working, y_peak, y_steps, y_depth, y_waiting, y_code, y_running, y_has, y_got, y_todos, y_marks, y_shown, y_spoken, y_parent, y_fields, y_bound, y_kind, y_word, y_size, y_sort, y_number, y_stands, y_keeps, y_cells, y_globals, y_within, y_foundIn, y_self, y_args, y_temps, y_param, y_live, y_work, y_under, y_at, y_in, y_phase, y_base, y_goal, y_operands, y_marked, y_todo, y_heard) (nI a) := ⟨lev a + 1, yh_home H (lev a) a _ (Nat.le_refl _) (by omega) sa hp⟩
theorem rn_TF (A : rn_A cc bc dc mc T ST SA lv τ σ lev ho x_tokenKind x_tokenValue y_kind y_word y_size y_parent y_fields y_bound x_globals y_globals x_thingShown x_thingClass x_thingFields x_thingToken x_thingMaker x_variables x_homeOf x_within x_foundIn y_sort y_number y_stands y_keeps y_cells y_within y_foundIn y_self y_args y_temps y_param) : fr_T y_kind (tk_nd y_kind y_word) T := fun p tp => by
  obtain ⟨b12, t1, t2, _⟩ := A.1.2.2.1
  obtain ⟨c1, _, _, c4, _⟩ := t1 p tp
  exact ⟨by omega, tk_need_le c4, t2 p tp⟩
/-- the activation at work and its home -/
theorem rn_cur (A : rn_A cc bc dc mc T ST SA lv τ σ lev ho x_tokenKind x_tokenValue y_kind y_word y_size y_parent y_fields y_bound x_globals y_globals x_thingShown x_thingClass x_thingFields x_thingToken x_thingMaker x_variables x_homeOf x_within x_foundIn y_sort y_number y_stands y_keeps y_cells y_within y_foundIn y_self y_args y_temps y_param) (F : rn_F T ST SA lv σ lev ho y_kind y_word fa ph bs ow gg wk un rt d w y_sort y_number x_frameToken x_frameStage x_frameLink x_operands x_baseFrame y_operands y_self y_at y_in y_phase y_base y_goal y_work y_under y_live) : SA (wk (w - 1)) ∧ wk (w - 1) < 160 ∧ σ (wk (w - 1)) < 128 ∧ SA (ho (wk (w - 1))) ∧ ho (wk (w - 1)) < 160 ∧ σ (ho (wk (w - 1))) < 128 ∧ x_homeOf (σ (wk (w - 1))) = nI (σ (ho (wk (w - 1)))) ∧
    (∃ c, c < cc ∧ y_foundIn (ho (wk (w - 1))) = nI c ∧ x_foundIn (σ (ho (wk (w - 1)))) = nI c) ∧ hp_v ST (hp_s y_sort y_number) (x_variables (σ (ho (wk (w - 1))) * 7)) (y_self (ho (wk (w - 1)))) ∧ (∀ j, j < 2 → hp_v ST (hp_s y_sort y_number) (x_variables (σ (ho (wk (w - 1))) * 7 + 1 + j)) (y_args (2 * ho (wk (w - 1)) + j))) ∧ (∀ j, j < 3 → hp_v ST (hp_s y_sort y_number) (x_variables (σ (ho (wk (w - 1))) * 7 + 3 + j)) (y_temps (3 * ho (wk (w - 1)) + j))) := by
  have H := A.2.2.1
  have w1 := F.1.1
  have sa := (F.2.2.2.1 (w - 1) (by omega)).1
  obtain ⟨k1, k2, k3, k4, k5, k6, k7⟩ := H.2.1 _ sa
  obtain ⟨h1, h2, h3, h4, h5, h6, h7⟩ := H.2.1 _ k4
  rcases h7 with ⟨e, _, _, _, c, v0, v1, v2, _⟩ | ⟨b, e, sb, _⟩
  · exact ⟨sa, k1, k2, k4, h1, h2, k5, c, v0, v1, v2⟩
  · rw [k6] at e
    exact absurd e.symm (gx_m1 (by have := (H.2.1 b sb).1; omega))
theorem xr_leaf {Q : SX → Prop} {t : Nat} {xv : Int64} {bd' : Nat → Int32} {oc' : Int32} (ht : t < 416) (ok : tk_ok (x_tokenKind t) (x_tokenValue t)) (n0 : tk_need (x_tokenKind t) (x_tokenValue t) = 0) (k12 : ¬ x_tokenKind t = 12) (k25 : ¬ x_tokenKind t = 25) (k11 : ¬ x_tokenKind t = 11)
    (h : ∀ P : Int64 → SX → Prop, P xv (x_classCount, x_bodyCount, x_draftCount, x_wrongPlace, x_madeCount, x_frameCount, x_current, nI t, x_inHand, 1, oc', x_stepCount, x_atWork, x_mostAtWork, x_saidCount, x_pendingCount, x_classParent, x_classFields, bd', x_tokenKind, x_tokenValue, x_globals, x_thingShown, x_thingClass, x_thingFields, x_thingToken, x_thingMaker, x_variables, x_homeOf, x_within, x_foundIn, x_baseFrame, x_frameToken, x_frameStage, x_frameLink, x_operands, x_saidValues, x_marked, x_pending) → wpX_simpleValue P (x_classCount, x_bodyCount, x_draftCount, x_wrongPlace, x_madeCount, x_frameCount, x_current, nI t, x_inHand, 1, x_outcome, x_stepCount, x_atWork, x_mostAtWork, x_saidCount, x_pendingCount, x_classParent, x_classFields, x_bound, x_tokenKind, x_tokenValue, x_globals, x_thingShown, x_thingClass, x_thingFields, x_thingToken, x_thingMaker, x_variables, x_homeOf, x_within, x_foundIn, x_baseFrame, x_frameToken, x_frameStage, x_frameLink, x_operands, x_saidValues, x_marked, x_pending) (x_tokenKind t) (x_tokenValue t)) (q : Q (x_classCount, x_bodyCount, x_draftCount, x_wrongPlace, x_madeCount, x_frameCount, x_current, nI (t + 1), xv, 1, oc', x_stepCount, x_atWork, x_mostAtWork, x_saidCount, x_pendingCount, x_classParent, x_classFields, bd', x_tokenKind, x_tokenValue, x_globals, x_thingShown, x_thingClass, x_thingFields, x_thingToken, x_thingMaker, x_variables, x_homeOf, x_within, x_foundIn, x_baseFrame, x_frameToken, x_frameStage, x_frameLink, x_operands, x_saidValues, x_marked, x_pending)) : wpX_readToken Q (x_classCount, x_bodyCount, x_draftCount, x_wrongPlace, x_madeCount, x_frameCount, x_current, nI t, x_inHand, x_mode, x_outcome, x_stepCount, x_atWork, x_mostAtWork, x_saidCount, x_pendingCount, x_classParent, x_classFields, x_bound, x_tokenKind, x_tokenValue, x_globals, x_thingShown, x_thingClass, x_thingFields, x_thingToken, x_thingMaker, x_variables, x_homeOf, x_within, x_foundIn, x_baseFrame, x_frameToken, x_frameStage, x_frameLink, x_operands, x_saidValues, x_marked, x_pending) := by
  have vt : vp_in (nI t) 416 := vp_in_nI ht (by decide)
  unfold wpX_readToken
  dsimp only
  rw [nI_clamp (show t < 2 ^ 31 by omega)]
  refine ⟨vt, nm_e ⟨vt, nm_e (xw_needs ok ?_)⟩⟩
  rw [n0]
  refine br_f k12 (br_f k25 (br_f k11 (br_t (by decide) (h _ ?_))))
  exact br_f k12 (nm_r (nI_1 t) q)
theorem ev_self {P : Int64 → SX → Prop} (A : rn_A cc bc dc mc T ST SA lv τ σ lev ho x_tokenKind x_tokenValue y_kind y_word y_size y_parent y_fields y_bound x_globals y_globals x_thingShown x_thingClass x_thingFields x_thingToken x_thingMaker x_variables x_homeOf x_within x_foundIn y_sort y_number y_stands y_keeps y_cells y_within y_foundIn y_self y_args y_temps y_param) (F : rn_F T ST SA lv σ lev ho y_kind y_word fa ph bs ow gg wk un rt d w y_sort y_number x_frameToken x_frameStage x_frameLink x_operands x_baseFrame y_operands y_self y_at y_in y_phase y_base y_goal y_work y_under y_live) {Q : Int64 → Prop} (q : Q (x_variables (σ (ho (wk (w - 1))) * 7))) : wpX_selfOfHome Q (x_classCount, x_bodyCount, x_draftCount, x_wrongPlace, x_madeCount, x_frameCount, nI (σ (wk (w - 1))), x_next, x_inHand, x_mode, x_outcome, x_stepCount, x_atWork, x_mostAtWork, x_saidCount, x_pendingCount, x_classParent, x_classFields, x_bound, x_tokenKind, x_tokenValue, x_globals, x_thingShown, x_thingClass, x_thingFields, x_thingToken, x_thingMaker, x_variables, x_homeOf, x_within, x_foundIn, x_baseFrame, x_frameToken, x_frameStage, x_frameLink, x_operands, x_saidValues, x_marked, x_pending) := by
  obtain ⟨_, _, c3, _, _, c6, c7, _⟩ := rn_cur A F
  unfold wpX_selfOfHome
  dsimp only
  have e : nI (σ (ho (wk (w - 1)))) * (7 : Int32) + 0 = nI (σ (ho (wk (w - 1))) * 7) := by
    rw [show nI (σ (ho (wk (w - 1)))) * (7 : Int32) = nI (σ (ho (wk (w - 1))) * 7) from pk_mul _ 7, Int32.add_zero]
  rw [nI_clamp (by omega), c7, e, nI_clamp (by omega)]
  exact ⟨vp_in_nI c3 (by decide), vp_in_nI (by omega) (by decide), q⟩
end
