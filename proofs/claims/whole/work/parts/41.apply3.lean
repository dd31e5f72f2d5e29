/-! an operator is applied: ADD, SUB, MUL, LESS, SET, PUT -/
section
variable {x_classCount x_bodyCount x_draftCount x_wrongPlace x_madeCount x_frameCount x_current x_next x_mode x_outcome x_stepCount x_atWork x_mostAtWork x_saidCount x_pendingCount : Int32} {x_inHand : Int64} {x_classParent x_classFields x_bound x_tokenKind x_tokenValue x_thingClass x_thingToken x_thingMaker x_homeOf x_within x_foundIn x_baseFrame x_frameToken x_frameStage x_frameLink x_marked x_pending : Nat → Int32} {x_globals x_thingShown x_thingFields x_variables x_operands x_saidValues : Nat → Int64}
variable {y_classes y_bodies y_fault y_made y_working y_peak y_steps y_depth y_waiting y_code y_running y_has y_todos y_marks y_spoken : Int32} {y_got y_shown : Int64} {y_parent y_fields y_bound y_kind y_word y_size y_sort y_number y_stands y_keeps y_within y_foundIn y_live y_work y_under y_at y_in y_phase y_base y_goal y_marked y_todo : Nat → Int32} {y_cells y_globals y_self y_args y_temps y_param y_operands y_heard : Nat → Int64}
variable {cc bc dc mc st sp d w np md B M : Nat} {T ST SA : Nat → Prop} {lv τ σ lev ho fa ph bs ow gg wk un rt : Nat → Nat}
/-- of INTS, or not -/
theorem hp_vcase (H : hp_R cc mc T y_kind lv ST SA τ σ lev ho x_thingShown x_thingClass x_thingFields x_thingToken x_thingMaker x_variables x_homeOf x_within x_foundIn y_sort y_number y_stands y_keeps y_cells y_within y_foundIn y_self y_args y_temps y_param) (hmc : mc < 2 ^ 31) {x y : Int64} (hv : hp_v ST (hp_s y_sort y_number) x y) :
    (∃ i : Int32, x = i.toInt64 ∧ y = lN i.toBitVec.toNat) ∨ ((∀ post : Int32 → Prop, post 0 → wpX_isInt post (x_classCount, x_bodyCount, x_draftCount, x_wrongPlace, x_madeCount, x_frameCount, x_current, x_next, x_inHand, x_mode, x_outcome, x_stepCount, x_atWork, x_mostAtWork, x_saidCount, x_pendingCount, x_classParent, x_classFields, x_bound, x_tokenKind, x_tokenValue, x_globals, x_thingShown, x_thingClass, x_thingFields, x_thingToken, x_thingMaker, x_variables, x_homeOf, x_within, x_foundIn, x_baseFrame, x_frameToken, x_frameStage, x_frameLink, x_operands, x_saidValues, x_marked, x_pending) x) ∧ (∀ post : Int32 → Prop, post 0 → wpY_isInt post y)) := by
  obtain ⟨a, h1, rfl, rfl⟩ := hv
  rcases a with i | _ | k
  · exact Or.inl ⟨i, rfl, rfl⟩
  · exact Or.inr ⟨fun post hp => br_t (show (10000000000 : Int64) ≤ 10000000000 by decide) hp, fun post hp => yv_isInt_o (n := 4294967296) (by omega) (by omega) hp⟩
  · obtain ⟨hk, sk⟩ := h1 k rfl
    obtain ⟨_, _, _, ⟨n, n1, n2⟩, _⟩ := H.1 k sk
    exact Or.inr ⟨fun post hp => br_t (hp_s1 n2 (by omega)) hp, fun post hp => yv_isInt_o (n := 8589934592 + k) (by omega) (by omega) hp⟩
theorem rk_le (i j : Int32) : j.toInt64 ≤ i.toInt64 ↔ j ≤ i := by
  rw [Int64.le_iff_toInt_le, Int32.le_iff_toInt_le, Int32.toInt_toInt64, Int32.toInt_toInt64]
theorem go_add {p tm : Nat} (A : rn_A cc bc dc mc T ST SA lv τ σ lev ho x_tokenKind x_tokenValue y_kind y_word y_size y_parent y_fields y_bound x_globals y_globals x_thingShown x_thingClass x_thingFields x_thingToken x_thingMaker x_variables x_homeOf x_within x_foundIn y_sort y_number y_stands y_keeps y_cells y_within y_foundIn y_self y_args y_temps y_param) (F : rn_F T ST SA lv σ lev ho y_kind y_word fa ph bs ow gg wk un rt (p + 1) w y_sort y_number x_frameToken x_frameStage x_frameLink x_operands x_baseFrame y_operands y_self y_at y_in y_phase y_base y_goal y_work y_under y_live) (ek : y_kind (fa p) = 18) (hp : ph p ≠ 100) (hph : ph p = tk_nd y_kind y_word (fa p)) (n : rn_n B (M + 1) mc st sp (rn_mu (tk_nd y_kind y_word) fa un rt st (p + 1) w (ex_e (tk_nd y_kind y_word) (fa p)) 1)) (ht : tm + 2 ≤ 1000000) :
    rn_Go B M tm (nI cc, nI bc, nI dc, y_fault, nI mc, nI (fr_x y_kind fa ph (p + 1)), nI (σ (wk (w - 1))), nI (ex_e (tk_nd y_kind y_word) (fa p)), x_inHand, 2, 100, nI st, nI w, y_peak, nI sp, x_pendingCount, y_parent, y_fields, y_bound, x_tokenKind, x_tokenValue, x_globals, x_thingShown, x_thingClass, x_thingFields, x_thingToken, x_thingMaker, x_variables, x_homeOf, x_within, x_foundIn, x_baseFrame, x_frameToken, x_frameStage, x_frameLink, x_operands, y_heard, x_marked, x_pending) (nI cc, nI bc, y_fault, nI mc, nI w, y_peak, nI st, nI (p + 1), nI (bs (p + 1)), y_code, 1, 0, y_got, y_todos, y_marks, -10000000000, nI sp, y_parent, y_fields, y_bound, y_kind, y_word, y_size, y_sort, y_number, y_stands, y_keeps, y_cells, y_globals, y_within, y_foundIn, y_self, y_args, y_temps, y_param, y_live, y_work, y_under, y_at, y_in, y_phase, y_base, y_goal, y_operands, y_marked, y_todo, y_heard) := by
  have kg : fr_gen (y_kind (fa p)) := by unfold fr_gen; rw [ek]; decide
  have nt : ¬ fr_tail (y_kind (fa p)) (ph p) := fun z => by
    rcases z with ⟨z, _⟩ | ⟨z, _⟩ <;> (rw [ek] at z; exact absurd z (by decide))
  obtain ⟨f1, eo, f5, p3, p5, b3, y1, y2, y3, y4, a3, n3, p383⟩ := rn_top A F hp
  have hxr := rn_xr A F hp
  have TF := rn_TF A
  have pc : (nI p).toNatClampNeg = p := nI_clamp (by omega)
  have vp : vp_in (nI p) 500 := vp_in_nI p5 (by decide)
  have fac : (nI (fa p)).toNatClampNeg = fa p := nI_clamp (by omega)
  have vfa : vp_in (nI (fa p)) 416 := vp_in_nI (by omega) (by decide)
  have xr : fr_x y_kind fa ph (p + 1) = fr_x y_kind fa ph p + 1 := by
    show _ + ct_b _ = _
    rw [ct_bt nt]
  have xrc : (nI (fr_x y_kind fa ph p)).toNatClampNeg = fr_x y_kind fa ph p := nI_clamp (by omega)
  have vxr : vp_in (nI (fr_x y_kind fa ph p)) 385 := vp_in_nI hxr (by decide)
  have e3 : nI (fr_x y_kind fa ph p) * (3 : Int32) = nI (fr_x y_kind fa ph p * 3) := pk_mul _ 3
  have e31 : nI (fr_x y_kind fa ph p * 3) + 1 = nI (fr_x y_kind fa ph p * 3 + 1) := nI_1 _
  have c3 : (nI (fr_x y_kind fa ph p * 3)).toNatClampNeg = fr_x y_kind fa ph p * 3 := nI_clamp (by omega)
  have c31 : (nI (fr_x y_kind fa ph p * 3 + 1)).toNatClampNeg = fr_x y_kind fa ph p * 3 + 1 := nI_clamp (by omega)
  have v3 : vp_in (nI (fr_x y_kind fa ph p * 3)) 1155 := vp_in_nI (by omega) (by decide)
  have v31 : vp_in (nI (fr_x y_kind fa ph p * 3 + 1)) 1155 := vp_in_nI (by omega) (by decide)
  have bc0 : (nI (bs p)).toNatClampNeg = bs p := nI_clamp (by omega)
  have bc1 : (nI (bs p + 1)).toNatClampNeg = bs p + 1 := nI_clamp (by omega)
  have vb0 : vp_in (nI (bs p)) 500 := vp_in_nI (by omega) (by decide)
  have vb1 : vp_in (nI (bs p + 1)) 500 := vp_in_nI (by omega) (by decide)
  obtain ⟨xtk, xsg, xlk, xO⟩ := (F.2.2.1.2 p (by omega) nt).2 hp
  have xkd : x_tokenKind (fa p) = y_kind (fa p) := (A.1.2.2.1.2.1 _ f1).2.1
  have xvl : x_tokenValue (fa p) = y_word (fa p) := (A.1.2.2.1.2.1 _ f1).2.2.1
  obtain ⟨ce, pe⟩ := fr_genc kg hp
  rw [ce] at xO
  have hpt : fr_pt (y_kind (fa p)) (ph p) = tk_nd y_kind y_word (fa p) := by rw [pe]; exact hph
  have enp : ex_pt (tk_nd y_kind y_word) (fa p) (ph p) = ex_e (tk_nd y_kind y_word) (fa p) := by rw [hph]; exact (fr_en TF f1).2.2
  have goX : ∀ Q : SX → Prop, _ → wpX_applyOperator Q (nI cc, nI bc, nI dc, y_fault, nI mc, nI (fr_x y_kind fa ph (p + 1)), nI (σ (wk (w - 1))), nI (ex_e (tk_nd y_kind y_word) (fa p)), x_inHand, 2, 100, nI st, nI w, y_peak, nI sp, x_pendingCount, y_parent, y_fields, y_bound, x_tokenKind, x_tokenValue, x_globals, x_thingShown, x_thingClass, x_thingFields, x_thingToken, x_thingMaker, x_variables, x_homeOf, x_within, x_foundIn, x_baseFrame, x_frameToken, x_frameStage, x_frameLink, x_operands, y_heard, x_marked, x_pending) := fun Q h => by
    unfold wpX_applyOperator
    dsimp only
    rw [xr, nI_pred]
    refine nm_e ?_
    rw [xrc, xtk, e3, e31, c3, c31]
    refine ⟨vxr, nm_e ⟨vfa, ?_⟩⟩
    rw [fac, xkd, ek]
    exact nm_e ⟨v3, nm_e ⟨v31, nm_e h⟩⟩
  have goY : ∀ Q : SY → Prop, _ → wpY_next Q (nI cc, nI bc, y_fault, nI mc, nI w, y_peak, nI st, nI (p + 1), nI (bs (p + 1)), y_code, 1, 0, y_got, y_todos, y_marks, -10000000000, nI sp, y_parent, y_fields, y_bound, y_kind, y_word, y_size, y_sort, y_number, y_stands, y_keeps, y_cells, y_globals, y_within, y_foundIn, y_self, y_args, y_temps, y_param, y_live, y_work, y_under, y_at, y_in, y_phase, y_base, y_goal, y_operands, y_marked, y_todo, y_heard) := fun Q h => by
    refine yn_apply A F hp hpt ?_
    unfold wpY_apply
    dsimp only
    rw [pc, y1, y2, y4]
    refine ⟨vp, nm_e ⟨vfa, ?_⟩⟩
    rw [fac]
    refine nm_e ⟨vp, nm_e ⟨vp, yw_home A.2.2.1 (rn_cur A F).1 ⟨vb0, ?_⟩⟩⟩
    rw [bc0, nI_1, bc1]
    refine nm_e ⟨vb1, nm_e ⟨vfa, ?_⟩⟩
    rw [ek]
    exact nm_e h
  have s0 : fr_s (y_kind (fa p)) = 0 := by unfold fr_s; rw [ek, if_neg (by decide)]
  have nd1 : tk_nd y_kind y_word (fa p) = 2 := by unfold tk_nd; rw [ek]; rfl
  have v0 := (xO 0 (by omega)).2.1 (by omega) (by omega)
  rw [s0, Nat.add_zero, show bs p + (0 - 0) = bs p from rfl] at v0
  have v1 := (xO 1 (by omega)).2.1 (by omega) (by omega)
  rw [s0, show bs p + (1 - 0) = bs p + 1 from rfl] at v1
  have mcl := A.2.2.2.1.1
  have goX2 : ∀ Q : SX → Prop, wpX_reckon (fun r u => match u with | (x_classCount, x_bodyCount, x_draftCount, x_wrongPlace, x_madeCount, x_frameCount, x_current, x_next, x_inHand, x_mode, x_outcome, x_stepCount, x_atWork, x_mostAtWork, x_saidCount, x_pendingCount, x_classParent, x_classFields, x_bound, x_tokenKind, x_tokenValue, x_globals, x_thingShown, x_thingClass, x_thingFields, x_thingToken, x_thingMaker, x_variables, x_homeOf, x_within, x_foundIn, x_baseFrame, x_frameToken, x_frameStage, x_frameLink, x_operands, x_saidValues, x_marked, x_pending) => Q (x_classCount, x_bodyCount, x_draftCount, x_wrongPlace, x_madeCount, x_frameCount, x_current, x_next, r, x_mode, x_outcome, x_stepCount, x_atWork, x_mostAtWork, x_saidCount, x_pendingCount, x_classParent, x_classFields, x_bound, x_tokenKind, x_tokenValue, x_globals, x_thingShown, x_thingClass, x_thingFields, x_thingToken, x_thingMaker, x_variables, x_homeOf, x_within, x_foundIn, x_baseFrame, x_frameToken, x_frameStage, x_frameLink, x_operands, x_saidValues, x_marked, x_pending)) (nI cc, nI bc, nI dc, y_fault, nI mc, nI (fr_x y_kind fa ph p), nI (σ (wk (w - 1))), nI (ex_e (tk_nd y_kind y_word) (fa p)), x_inHand, 1, 100, nI st, nI w, y_peak, nI sp, x_pendingCount, y_parent, y_fields, y_bound, x_tokenKind, x_tokenValue, x_globals, x_thingShown, x_thingClass, x_thingFields, x_thingToken, x_thingMaker, x_variables, x_homeOf, x_within, x_foundIn, x_baseFrame, x_frameToken, x_frameStage, x_frameLink, x_operands, y_heard, x_marked, x_pending) 18 (x_operands (fr_x y_kind fa ph p * 3)) (x_operands (fr_x y_kind fa ph p * 3 + 1)) → wpX_applyOperator Q (nI cc, nI bc, nI dc, y_fault, nI mc, nI (fr_x y_kind fa ph (p + 1)), nI (σ (wk (w - 1))), nI (ex_e (tk_nd y_kind y_word) (fa p)), x_inHand, 2, 100, nI st, nI w, y_peak, nI sp, x_pendingCount, y_parent, y_fields, y_bound, x_tokenKind, x_tokenValue, x_globals, x_thingShown, x_thingClass, x_thingFields, x_thingToken, x_thingMaker, x_variables, x_homeOf, x_within, x_foundIn, x_baseFrame, x_frameToken, x_frameStage, x_frameLink, x_operands, y_heard, x_marked, x_pending) := fun Q h => goX Q (br_f (by decide) (br_f (by decide) (br_f (by decide) (br_f (by decide) (nm_e (br_f (by decide) (br_f (by decide) (br_f (by decide) (br_f (by decide) h)))))))))
  have goY2 : ∀ Q : SY → Prop, wpY_reckon (fun u => match u with | (y_classes, y_bodies, y_fault, y_made, y_working, y_peak, y_steps, y_depth, y_waiting, y_code, y_running, y_has, y_got, y_todos, y_marks, y_shown, y_spoken, y_parent, y_fields, y_bound, y_kind, y_word, y_size, y_sort, y_number, y_stands, y_keeps, y_cells, y_globals, y_within, y_foundIn, y_self, y_args, y_temps, y_param, y_live, y_work, y_under, y_at, y_in, y_phase, y_base, y_goal, y_operands, y_marked, y_todo, y_heard) => Q (y_classes, y_bodies, y_fault, y_made, y_working, y_peak, y_steps, y_depth, y_waiting, y_code, y_running, y_has, y_got, y_todos, y_marks, y_shown, y_spoken, y_parent, y_fields, y_bound, y_kind, y_word, y_size, y_sort, y_number, y_stands, y_keeps, y_cells, y_globals, y_within, y_foundIn, y_self, y_args, y_temps, y_param, y_live, y_work, y_under, y_at, y_in, y_phase, y_base, y_goal, y_operands, y_marked, y_todo, y_heard)) (nI cc, nI bc, y_fault, nI mc, nI w, y_peak, nI st, nI (p + 1), nI (bs (p + 1)), y_code, 1, 0, y_got, y_todos, y_marks, -10000000000, nI sp, y_parent, y_fields, y_bound, y_kind, y_word, y_size, y_sort, y_number, y_stands, y_keeps, y_cells, y_globals, y_within, y_foundIn, y_self, y_args, y_temps, y_param, y_live, y_work, y_under, y_at, y_in, y_phase, y_base, y_goal, y_operands, y_marked, y_todo, y_heard) 18 (y_operands (bs p)) (y_operands (bs p + 1)) → wpY_next Q (nI cc, nI bc, y_fault, nI mc, nI w, y_peak, nI st, nI (p + 1), nI (bs (p + 1)), y_code, 1, 0, y_got, y_todos, y_marks, -10000000000, nI sp, y_parent, y_fields, y_bound, y_kind, y_word, y_size, y_sort, y_number, y_stands, y_keeps, y_cells, y_globals, y_within, y_foundIn, y_self, y_args, y_temps, y_param, y_live, y_work, y_under, y_at, y_in, y_phase, y_base, y_goal, y_operands, y_marked, y_todo, y_heard) := fun Q h => goY Q (by
    iterate 15 refine br_f (by decide) ?_
    refine br_t rfl ?_
    unfold wY_apply_509
    rw [fac, ek]
    exact ⟨vfa, h⟩)
  have kind : ((∀ Q : SX → Prop, Q (nI cc, nI bc, nI dc, y_fault, nI mc, nI (fr_x y_kind fa ph p), nI (σ (wk (w - 1))), nI (ex_e (tk_nd y_kind y_word) (fa p)), 10000000000, 1, 2, nI st, nI w, y_peak, nI sp, x_pendingCount, y_parent, y_fields, y_bound, x_tokenKind, x_tokenValue, x_globals, x_thingShown, x_thingClass, x_thingFields, x_thingToken, x_thingMaker, x_variables, x_homeOf, x_within, x_foundIn, x_baseFrame, x_frameToken, x_frameStage, x_frameLink, x_operands, y_heard, x_marked, x_pending) → wpX_applyOperator Q (nI cc, nI bc, nI dc, y_fault, nI mc, nI (fr_x y_kind fa ph (p + 1)), nI (σ (wk (w - 1))), nI (ex_e (tk_nd y_kind y_word) (fa p)), x_inHand, 2, 100, nI st, nI w, y_peak, nI sp, x_pendingCount, y_parent, y_fields, y_bound, x_tokenKind, x_tokenValue, x_globals, x_thingShown, x_thingClass, x_thingFields, x_thingToken, x_thingMaker, x_variables, x_homeOf, x_within, x_foundIn, x_baseFrame, x_frameToken, x_frameStage, x_frameLink, x_operands, y_heard, x_marked, x_pending)) ∧ (∀ Q : SY → Prop, Q (nI cc, nI bc, y_fault, nI mc, nI w, y_peak, nI st, nI (p + 1), nI (bs (p + 1)), 2, 0, 0, y_got, y_todos, y_marks, -10000000000, nI sp, y_parent, y_fields, y_bound, y_kind, y_word, y_size, y_sort, y_number, y_stands, y_keeps, y_cells, y_globals, y_within, y_foundIn, y_self, y_args, y_temps, y_param, y_live, y_work, y_under, y_at, y_in, y_phase, y_base, y_goal, y_operands, y_marked, y_todo, y_heard) → wpY_next Q (nI cc, nI bc, y_fault, nI mc, nI w, y_peak, nI st, nI (p + 1), nI (bs (p + 1)), y_code, 1, 0, y_got, y_todos, y_marks, -10000000000, nI sp, y_parent, y_fields, y_bound, y_kind, y_word, y_size, y_sort, y_number, y_stands, y_keeps, y_cells, y_globals, y_within, y_foundIn, y_self, y_args, y_temps, y_param, y_live, y_work, y_under, y_at, y_in, y_phase, y_base, y_goal, y_operands, y_marked, y_todo, y_heard))) → rn_Go B M tm (nI cc, nI bc, nI dc, y_fault, nI mc, nI (fr_x y_kind fa ph (p + 1)), nI (σ (wk (w - 1))), nI (ex_e (tk_nd y_kind y_word) (fa p)), x_inHand, 2, 100, nI st, nI w, y_peak, nI sp, x_pendingCount, y_parent, y_fields, y_bound, x_tokenKind, x_tokenValue, x_globals, x_thingShown, x_thingClass, x_thingFields, x_thingToken, x_thingMaker, x_variables, x_homeOf, x_within, x_foundIn, x_baseFrame, x_frameToken, x_frameStage, x_frameLink, x_operands, y_heard, x_marked, x_pending) (nI cc, nI bc, y_fault, nI mc, nI w, y_peak, nI st, nI (p + 1), nI (bs (p + 1)), y_code, 1, 0, y_got, y_todos, y_marks, -10000000000, nI sp, y_parent, y_fields, y_bound, y_kind, y_word, y_size, y_sort, y_number, y_stands, y_keeps, y_cells, y_globals, y_within, y_foundIn, y_self, y_args, y_temps, y_param, y_live, y_work, y_under, y_at, y_in, y_phase, y_base, y_goal, y_operands, y_marked, y_todo, y_heard) := fun h =>
    ⟨_, _, tm + 1, by omega, fun PX k => xt_apply (by omega) h.1 k, fun PY m k => YL_mono (yt_next h.2 k) (by omega), Or.inl (rn_stop2 A (rn_wl A F) (by decide) (by decide) (by have := n.2.2.2; omega))⟩
  rcases hp_vcase (x_classCount := nI cc) (x_bodyCount := nI bc) (x_draftCount := nI dc) (x_wrongPlace := y_fault) (x_madeCount := nI mc) (x_frameCount := nI (fr_x y_kind fa ph p)) (x_current := nI (σ (wk (w - 1)))) (x_next := nI (ex_e (tk_nd y_kind y_word) (fa p))) (x_inHand := x_inHand) (x_mode := 1) (x_outcome := 100) (x_stepCount := nI st) (x_atWork := nI w) (x_mostAtWork := y_peak) (x_saidCount := nI sp) (x_pendingCount := x_pendingCount) (x_classParent := y_parent) (x_classFields := y_fields) (x_bound := y_bound) (x_tokenKind := x_tokenKind) (x_tokenValue := x_tokenValue) (x_globals := x_globals) (x_thingShown := x_thingShown) (x_thingClass := x_thingClass) (x_thingFields := x_thingFields) (x_thingToken := x_thingToken) (x_thingMaker := x_thingMaker) (x_variables := x_variables) (x_homeOf := x_homeOf) (x_within := x_within) (x_foundIn := x_foundIn) (x_baseFrame := x_baseFrame) (x_frameToken := x_frameToken) (x_frameStage := x_frameStage) (x_frameLink := x_frameLink) (x_operands := x_operands) (x_saidValues := y_heard) (x_marked := x_marked) (x_pending := x_pending) A.2.2.1 (by omega) v0 with ⟨i, xi, yi⟩ | ⟨bX, bY⟩
  · rcases hp_vcase (x_classCount := nI cc) (x_bodyCount := nI bc) (x_draftCount := nI dc) (x_wrongPlace := y_fault) (x_madeCount := nI mc) (x_frameCount := nI (fr_x y_kind fa ph p)) (x_current := nI (σ (wk (w - 1)))) (x_next := nI (ex_e (tk_nd y_kind y_word) (fa p))) (x_inHand := x_inHand) (x_mode := 1) (x_outcome := 100) (x_stepCount := nI st) (x_atWork := nI w) (x_mostAtWork := y_peak) (x_saidCount := nI sp) (x_pendingCount := x_pendingCount) (x_classParent := y_parent) (x_classFields := y_fields) (x_bound := y_bound) (x_tokenKind := x_tokenKind) (x_tokenValue := x_tokenValue) (x_globals := x_globals) (x_thingShown := x_thingShown) (x_thingClass := x_thingClass) (x_thingFields := x_thingFields) (x_thingToken := x_thingToken) (x_thingMaker := x_thingMaker) (x_variables := x_variables) (x_homeOf := x_homeOf) (x_within := x_within) (x_foundIn := x_foundIn) (x_baseFrame := x_baseFrame) (x_frameToken := x_frameToken) (x_frameStage := x_frameStage) (x_frameLink := x_frameLink) (x_operands := x_operands) (x_saidValues := y_heard) (x_marked := x_marked) (x_pending := x_pending) A.2.2.1 (by omega) v1 with ⟨j, xj, yj⟩ | ⟨bX, bY⟩
    · rw [xi, xj] at goX2
      rw [yi, yj] at goY2
      have iX : ∀ (l : Int32) (post : Int32 → Prop), post 1 → wpX_isInt post (nI cc, nI bc, nI dc, y_fault, nI mc, nI (fr_x y_kind fa ph p), nI (σ (wk (w - 1))), nI (ex_e (tk_nd y_kind y_word) (fa p)), x_inHand, 1, 100, nI st, nI w, y_peak, nI sp, x_pendingCount, y_parent, y_fields, y_bound, x_tokenKind, x_tokenValue, x_globals, x_thingShown, x_thingClass, x_thingFields, x_thingToken, x_thingMaker, x_variables, x_homeOf, x_within, x_foundIn, x_baseFrame, x_frameToken, x_frameStage, x_frameLink, x_operands, y_heard, x_marked, x_pending) l.toInt64 := fun l post hp => br_f (hp_int1 l) hp
      obtain ⟨n1, n2, n3', n4⟩ := mu_fin (Nat.le_refl _) (by omega) n
      refine ⟨(nI cc, nI bc, nI dc, y_fault, nI mc, nI (fr_x y_kind fa ph p), nI (σ (wk (w - 1))), nI (ex_e (tk_nd y_kind y_word) (fa p)), (i + j).toInt64, 1, 100, nI st, nI w, y_peak, nI sp, x_pendingCount, y_parent, y_fields, y_bound, x_tokenKind, x_tokenValue, x_globals, x_thingShown, x_thingClass, x_thingFields, x_thingToken, x_thingMaker, x_variables, x_homeOf, x_within, x_foundIn, x_baseFrame, x_frameToken, x_frameStage, x_frameLink, x_operands, y_heard, x_marked, x_pending), (nI cc, nI bc, y_fault, nI mc, nI w, y_peak, nI st, nI p, nI (bs p), y_code, 1, 1, lN (i + j).toBitVec.toNat, y_todos, y_marks, -10000000000, nI sp, y_parent, y_fields, y_bound, y_kind, y_word, y_size, y_sort, y_number, y_stands, y_keeps, y_cells, y_globals, y_within, y_foundIn, y_self, y_args, y_temps, y_param, y_live, y_work, y_under, y_at, y_in, y_phase, y_base, y_goal, y_operands, y_marked, y_todo, y_heard), tm + 1, by omega, fun PX k => xt_apply (by omega) (fun Q q => goX2 Q ?_) k, fun PY m k => YL_mono (yt_next (fun Q q => goY2 Q ?_) k) (by omega), Or.inr (fin_H A F hp (fun q hq => rfl) (hp_vint (i + j)) n3' n1 n2 n4)⟩
      · unfold wpX_reckon
        refine iX i _ (br_f (by decide) (iX j _ (br_f (by decide) (br_f (by decide) (br_f (by decide) (br_t rfl ?_))))))
        rw [Int64.toInt32_add, Int32.toInt32_toInt64, Int32.toInt32_toInt64]
        exact q
      · unfold wpY_reckon
        refine yv_isInt_i i (br_f (by decide) (yv_isInt_i j (br_f (by decide) (br_t rfl ?_))))
        unfold wY_reckon_84
        rw [vv_i, vv_i, vv_w]
        exact yw_finish p5 y4 q
    · rw [xi] at goX2
      rw [yi] at goY2
      refine kind ⟨fun Q q => goX2 Q ?_, fun Q q => goY2 Q ?_⟩
      · unfold wpX_reckon
        exact br_f (hp_int1 i) (br_f (by decide) (bX _ (br_t rfl q)))
      · unfold wpY_reckon
        exact yv_isInt_i i (br_f (by decide) (bY _ (br_t rfl q)))
  · refine kind ⟨fun Q q => goX2 Q ?_, fun Q q => goY2 Q ?_⟩
    · unfold wpX_reckon
      exact bX _ (br_t rfl q)
    · unfold wpY_reckon
      exact bY _ (br_t rfl q)
theorem go_sub {p tm : Nat} (A : rn_A cc bc dc mc T ST SA lv τ σ lev ho x_tokenKind x_tokenValue y_kind y_word y_size y_parent y_fields y_bound x_globals y_globals x_thingShown x_thingClass x_thingFields x_thingToken x_thingMaker x_variables x_homeOf x_within x_foundIn y_sort y_number y_stands y_keeps y_cells y_within y_foundIn y_self y_args y_temps y_param) (F : rn_F T ST SA lv σ lev ho y_kind y_word fa ph bs ow gg wk un rt (p + 1) w y_sort y_number x_frameToken x_frameStage x_frameLink x_operands x_baseFrame y_operands y_self y_at y_in y_phase y_base y_goal y_work y_under y_live) (ek : y_kind (fa p) = 19) (hp : ph p ≠ 100) (hph : ph p = tk_nd y_kind y_word (fa p)) (n : rn_n B (M + 1) mc st sp (rn_mu (tk_nd y_kind y_word) fa un rt st (p + 1) w (ex_e (tk_nd y_kind y_word) (fa p)) 1)) (ht : tm + 2 ≤ 1000000) :
    rn_Go B M tm (nI cc, nI bc, nI dc, y_fault, nI mc, nI (fr_x y_kind fa ph (p + 1)), nI (σ (wk (w - 1))), nI (ex_e (tk_nd y_kind y_word) (fa p)), x_inHand, 2, 100, nI st, nI w, y_peak, nI sp, x_pendingCount, y_parent, y_fields, y_bound, x_tokenKind, x_tokenValue, x_globals, x_thingShown, x_thingClass, x_thingFields, x_thingToken, x_thingMaker, x_variables, x_homeOf, x_within, x_foundIn, x_baseFrame, x_frameToken, x_frameStage, x_frameLink, x_operands, y_heard, x_marked, x_pending) (nI cc, nI bc, y_fault, nI mc, nI w, y_peak, nI st, nI (p + 1), nI (bs (p + 1)), y_code, 1, 0, y_got, y_todos, y_marks, -10000000000, nI sp, y_parent, y_fields, y_bound, y_kind, y_word, y_size, y_sort, y_number, y_stands, y_keeps, y_cells, y_globals, y_within, y_foundIn, y_self, y_args, y_temps, y_param, y_live, y_work, y_under, y_at, y_in, y_phase, y_base, y_goal, y_operands, y_marked, y_todo, y_heard) := by
  have kg : fr_gen (y_kind (fa p)) := by unfold fr_gen; rw [ek]; decide
  have nt : ¬ fr_tail (y_kind (fa p)) (ph p) := fun z => by
    rcases z with ⟨z, _⟩ | ⟨z, _⟩ <;> (rw [ek] at z; exact absurd z (by decide))
  obtain ⟨f1, eo, f5, p3, p5, b3, y1, y2, y3, y4, a3, n3, p383⟩ := rn_top A F hp
  have hxr := rn_xr A F hp
  have TF := rn_TF A
  have pc : (nI p).toNatClampNeg = p := nI_clamp (by omega)
  have vp : vp_in (nI p) 500 := vp_in_nI p5 (by decide)
  have fac : (nI (fa p)).toNatClampNeg = fa p := nI_clamp (by omega)
  have vfa : vp_in (nI (fa p)) 416 := vp_in_nI (by omega) (by decide)
  have xr : fr_x y_kind fa ph (p + 1) = fr_x y_kind fa ph p + 1 := by
    show _ + ct_b _ = _
    rw [ct_bt nt]
  have xrc : (nI (fr_x y_kind fa ph p)).toNatClampNeg = fr_x y_kind fa ph p := nI_clamp (by omega)
  have vxr : vp_in (nI (fr_x y_kind fa ph p)) 385 := vp_in_nI hxr (by decide)
  have e3 : nI (fr_x y_kind fa ph p) * (3 : Int32) = nI (fr_x y_kind fa ph p * 3) := pk_mul _ 3
  have e31 : nI (fr_x y_kind fa ph p * 3) + 1 = nI (fr_x y_kind fa ph p * 3 + 1) := nI_1 _
  have c3 : (nI (fr_x y_kind fa ph p * 3)).toNatClampNeg = fr_x y_kind fa ph p * 3 := nI_clamp (by omega)
  have c31 : (nI (fr_x y_kind fa ph p * 3 + 1)).toNatClampNeg = fr_x y_kind fa ph p * 3 + 1 := nI_clamp (by omega)
  have v3 : vp_in (nI (fr_x y_kind fa ph p * 3)) 1155 := vp_in_nI (by omega) (by decide)
  have v31 : vp_in (nI (fr_x y_kind fa ph p * 3 + 1)) 1155 := vp_in_nI (by omega) (by decide)
  have bc0 : (nI (bs p)).toNatClampNeg = bs p := nI_clamp (by omega)
  have bc1 : (nI (bs p + 1)).toNatClampNeg = bs p + 1 := nI_clamp (by omega)
  have vb0 : vp_in (nI (bs p)) 500 := vp_in_nI (by omega) (by decide)
  have vb1 : vp_in (nI (bs p + 1)) 500 := vp_in_nI (by omega) (by decide)
  obtain ⟨xtk, xsg, xlk, xO⟩ := (F.2.2.1.2 p (by omega) nt).2 hp
  have xkd : x_tokenKind (fa p) = y_kind (fa p) := (A.1.2.2.1.2.1 _ f1).2.1
  have xvl : x_tokenValue (fa p) = y_word (fa p) := (A.1.2.2.1.2.1 _ f1).2.2.1
  obtain ⟨ce, pe⟩ := fr_genc kg hp
  rw [ce] at xO
  have hpt : fr_pt (y_kind (fa p)) (ph p) = tk_nd y_kind y_word (fa p) := by rw [pe]; exact hph
  have enp : ex_pt (tk_nd y_kind y_word) (fa p) (ph p) = ex_e (tk_nd y_kind y_word) (fa p) := by rw [hph]; exact (fr_en TF f1).2.2
  have goX : ∀ Q : SX → Prop, _ → wpX_applyOperator Q (nI cc, nI bc, nI dc, y_fault, nI mc, nI (fr_x y_kind fa ph (p + 1)), nI (σ (wk (w - 1))), nI (ex_e (tk_nd y_kind y_word) (fa p)), x_inHand, 2, 100, nI st, nI w, y_peak, nI sp, x_pendingCount, y_parent, y_fields, y_bound, x_tokenKind, x_tokenValue, x_globals, x_thingShown, x_thingClass, x_thingFields, x_thingToken, x_thingMaker, x_variables, x_homeOf, x_within, x_foundIn, x_baseFrame, x_frameToken, x_frameStage, x_frameLink, x_operands, y_heard, x_marked, x_pending) := fun Q h => by
    unfold wpX_applyOperator
    dsimp only
    rw [xr, nI_pred]
    refine nm_e ?_
    rw [xrc, xtk, e3, e31, c3, c31]
    refine ⟨vxr, nm_e ⟨vfa, ?_⟩⟩
    rw [fac, xkd, ek]
    exact nm_e ⟨v3, nm_e ⟨v31, nm_e h⟩⟩
  have goY : ∀ Q : SY → Prop, _ → wpY_next Q (nI cc, nI bc, y_fault, nI mc, nI w, y_peak, nI st, nI (p + 1), nI (bs (p + 1)), y_code, 1, 0, y_got, y_todos, y_marks, -10000000000, nI sp, y_parent, y_fields, y_bound, y_kind, y_word, y_size, y_sort, y_number, y_stands, y_keeps, y_cells, y_globals, y_within, y_foundIn, y_self, y_args, y_temps, y_param, y_live, y_work, y_under, y_at, y_in, y_phase, y_base, y_goal, y_operands, y_marked, y_todo, y_heard) := fun Q h => by
    refine yn_apply A F hp hpt ?_
    unfold wpY_apply
    dsimp only
    rw [pc, y1, y2, y4]
    refine ⟨vp, nm_e ⟨vfa, ?_⟩⟩
    rw [fac]
    refine nm_e ⟨vp, nm_e ⟨vp, yw_home A.2.2.1 (rn_cur A F).1 ⟨vb0, ?_⟩⟩⟩
    rw [bc0, nI_1, bc1]
    refine nm_e ⟨vb1, nm_e ⟨vfa, ?_⟩⟩
    rw [ek]
    exact nm_e h
  have s0 : fr_s (y_kind (fa p)) = 0 := by unfold fr_s; rw [ek, if_neg (by decide)]
  have nd1 : tk_nd y_kind y_word (fa p) = 2 := by unfold tk_nd; rw [ek]; rfl
  have v0 := (xO 0 (by omega)).2.1 (by omega) (by omega)
  rw [s0, Nat.add_zero, show bs p + (0 - 0) = bs p from rfl] at v0
  have v1 := (xO 1 (by omega)).2.1 (by omega) (by omega)
  rw [s0, show bs p + (1 - 0) = bs p + 1 from rfl] at v1
  have mcl := A.2.2.2.1.1
  have goX2 : ∀ Q : SX → Prop, wpX_reckon (fun r u => match u with | (x_classCount, x_bodyCount, x_draftCount, x_wrongPlace, x_madeCount, x_frameCount, x_current, x_next, x_inHand, x_mode, x_outcome, x_stepCount, x_atWork, x_mostAtWork, x_saidCount, x_pendingCount, x_classParent, x_classFields, x_bound, x_tokenKind, x_tokenValue, x_globals, x_thingShown, x_thingClass, x_thingFields, x_thingToken, x_thingMaker, x_variables, x_homeOf, x_within, x_foundIn, x_baseFrame, x_frameToken, x_frameStage, x_frameLink, x_operands, x_saidValues, x_marked, x_pending) => Q (x_classCount, x_bodyCount, x_draftCount, x_wrongPlace, x_madeCount, x_frameCount, x_current, x_next, r, x_mode, x_outcome, x_stepCount, x_atWork, x_mostAtWork, x_saidCount, x_pendingCount, x_classParent, x_classFields, x_bound, x_tokenKind, x_tokenValue, x_globals, x_thingShown, x_thingClass, x_thingFields, x_thingToken, x_thingMaker, x_variables, x_homeOf, x_within, x_foundIn, x_baseFrame, x_frameToken, x_frameStage, x_frameLink, x_operands, x_saidValues, x_marked, x_pending)) (nI cc, nI bc, nI dc, y_fault, nI mc, nI (fr_x y_kind fa ph p), nI (σ (wk (w - 1))), nI (ex_e (tk_nd y_kind y_word) (fa p)), x_inHand, 1, 100, nI st, nI w, y_peak, nI sp, x_pendingCount, y_parent, y_fields, y_bound, x_tokenKind, x_tokenValue, x_globals, x_thingShown, x_thingClass, x_thingFields, x_thingToken, x_thingMaker, x_variables, x_homeOf, x_within, x_foundIn, x_baseFrame, x_frameToken, x_frameStage, x_frameLink, x_operands, y_heard, x_marked, x_pending) 19 (x_operands (fr_x y_kind fa ph p * 3)) (x_operands (fr_x y_kind fa ph p * 3 + 1)) → wpX_applyOperator Q (nI cc, nI bc, nI dc, y_fault, nI mc, nI (fr_x y_kind fa ph (p + 1)), nI (σ (wk (w - 1))), nI (ex_e (tk_nd y_kind y_word) (fa p)), x_inHand, 2, 100, nI st, nI w, y_peak, nI sp, x_pendingCount, y_parent, y_fields, y_bound, x_tokenKind, x_tokenValue, x_globals, x_thingShown, x_thingClass, x_thingFields, x_thingToken, x_thingMaker, x_variables, x_homeOf, x_within, x_foundIn, x_baseFrame, x_frameToken, x_frameStage, x_frameLink, x_operands, y_heard, x_marked, x_pending) := fun Q h => goX Q (br_f (by decide) (br_f (by decide) (br_f (by decide) (br_f (by decide) (nm_e (br_f (by decide) (br_f (by decide) (br_f (by decide) (br_f (by decide) h)))))))))
  have goY2 : ∀ Q : SY → Prop, wpY_reckon (fun u => match u with | (y_classes, y_bodies, y_fault, y_made, y_working, y_peak, y_steps, y_depth, y_waiting, y_code, y_running, y_has, y_got, y_todos, y_marks, y_shown, y_spoken, y_parent, y_fields, y_bound, y_kind, y_word, y_size, y_sort, y_number, y_stands, y_keeps, y_cells, y_globals, y_within, y_foundIn, y_self, y_args, y_temps, y_param, y_live, y_work, y_under, y_at, y_in, y_phase, y_base, y_goal, y_operands, y_marked, y_todo, y_heard) => Q (y_classes, y_bodies, y_fault, y_made, y_working, y_peak, y_steps, y_depth, y_waiting, y_code, y_running, y_has, y_got, y_todos, y_marks, y_shown, y_spoken, y_parent, y_fields, y_bound, y_kind, y_word, y_size, y_sort, y_number, y_stands, y_keeps, y_cells, y_globals, y_within, y_foundIn, y_self, y_args, y_temps, y_param, y_live, y_work, y_under, y_at, y_in, y_phase, y_base, y_goal, y_operands, y_marked, y_todo, y_heard)) (nI cc, nI bc, y_fault, nI mc, nI w, y_peak, nI st, nI (p + 1), nI (bs (p + 1)), y_code, 1, 0, y_got, y_todos, y_marks, -10000000000, nI sp, y_parent, y_fields, y_bound, y_kind, y_word, y_size, y_sort, y_number, y_stands, y_keeps, y_cells, y_globals, y_within, y_foundIn, y_self, y_args, y_temps, y_param, y_live, y_work, y_under, y_at, y_in, y_phase, y_base, y_goal, y_operands, y_marked, y_todo, y_heard) 19 (y_operands (bs p)) (y_operands (bs p + 1)) → wpY_next Q (nI cc, nI bc, y_fault, nI mc, nI w, y_peak, nI st, nI (p + 1), nI (bs (p + 1)), y_code, 1, 0, y_got, y_todos, y_marks, -10000000000, nI sp, y_parent, y_fields, y_bound, y_kind, y_word, y_size, y_sort, y_number, y_stands, y_keeps, y_cells, y_globals, y_within, y_foundIn, y_self, y_args, y_temps, y_param, y_live, y_work, y_under, y_at, y_in, y_phase, y_base, y_goal, y_operands, y_marked, y_todo, y_heard) := fun Q h => goY Q (by
    iterate 16 refine br_f (by decide) ?_
    refine br_t rfl ?_
    unfold wY_apply_509
    rw [fac, ek]
    exact ⟨vfa, h⟩)
  have kind : ((∀ Q : SX → Prop, Q (nI cc, nI bc, nI dc, y_fault, nI mc, nI (fr_x y_kind fa ph p), nI (σ (wk (w - 1))), nI (ex_e (tk_nd y_kind y_word) (fa p)), 10000000000, 1, 2, nI st, nI w, y_peak, nI sp, x_pendingCount, y_parent, y_fields, y_bound, x_tokenKind, x_tokenValue, x_globals, x_thingShown, x_thingClass, x_thingFields, x_thingToken, x_thingMaker, x_variables, x_homeOf, x_within, x_foundIn, x_baseFrame, x_frameToken, x_frameStage, x_frameLink, x_operands, y_heard, x_marked, x_pending) → wpX_applyOperator Q (nI cc, nI bc, nI dc, y_fault, nI mc, nI (fr_x y_kind fa ph (p + 1)), nI (σ (wk (w - 1))), nI (ex_e (tk_nd y_kind y_word) (fa p)), x_inHand, 2, 100, nI st, nI w, y_peak, nI sp, x_pendingCount, y_parent, y_fields, y_bound, x_tokenKind, x_tokenValue, x_globals, x_thingShown, x_thingClass, x_thingFields, x_thingToken, x_thingMaker, x_variables, x_homeOf, x_within, x_foundIn, x_baseFrame, x_frameToken, x_frameStage, x_frameLink, x_operands, y_heard, x_marked, x_pending)) ∧ (∀ Q : SY → Prop, Q (nI cc, nI bc, y_fault, nI mc, nI w, y_peak, nI st, nI (p + 1), nI (bs (p + 1)), 2, 0, 0, y_got, y_todos, y_marks, -10000000000, nI sp, y_parent, y_fields, y_bound, y_kind, y_word, y_size, y_sort, y_number, y_stands, y_keeps, y_cells, y_globals, y_within, y_foundIn, y_self, y_args, y_temps, y_param, y_live, y_work, y_under, y_at, y_in, y_phase, y_base, y_goal, y_operands, y_marked, y_todo, y_heard) → wpY_next Q (nI cc, nI bc, y_fault, nI mc, nI w, y_peak, nI st, nI (p + 1), nI (bs (p + 1)), y_code, 1, 0, y_got, y_todos, y_marks, -10000000000, nI sp, y_parent, y_fields, y_bound, y_kind, y_word, y_size, y_sort, y_number, y_stands, y_keeps, y_cells, y_globals, y_within, y_foundIn, y_self, y_args, y_temps, y_param, y_live, y_work, y_under, y_at, y_in, y_phase, y_base, y_goal, y_operands, y_marked, y_todo, y_heard))) → rn_Go B M tm (nI cc, nI bc, nI dc, y_fault, nI mc, nI (fr_x y_kind fa ph (p + 1)), nI (σ (wk (w - 1))), nI (ex_e (tk_nd y_kind y_word) (fa p)), x_inHand, 2, 100, nI st, nI w, y_peak, nI sp, x_pendingCount, y_parent, y_fields, y_bound, x_tokenKind, x_tokenValue, x_globals, x_thingShown, x_thingClass, x_thingFields, x_thingToken, x_thingMaker, x_variables, x_homeOf, x_within, x_foundIn, x_baseFrame, x_frameToken, x_frameStage, x_frameLink, x_operands, y_heard, x_marked, x_pending) (nI cc, nI bc, y_fault, nI mc, nI w, y_peak, nI st, nI (p + 1), nI (bs (p + 1)), y_code, 1, 0, y_got, y_todos, y_marks, -10000000000, nI sp, y_parent, y_fields, y_bound, y_kind, y_word, y_size, y_sort, y_number, y_stands, y_keeps, y_cells, y_globals, y_within, y_foundIn, y_self, y_args, y_temps, y_param, y_live, y_work, y_under, y_at, y_in, y_phase, y_base, y_goal, y_operands, y_marked, y_todo, y_heard) := fun h =>
    ⟨_, _, tm + 1, by omega, fun PX k => xt_apply (by omega) h.1 k, fun PY m k => YL_mono (yt_next h.2 k) (by omega), Or.inl (rn_stop2 A (rn_wl A F) (by decide) (by decide) (by have := n.2.2.2; omega))⟩
  rcases hp_vcase (x_classCount := nI cc) (x_bodyCount := nI bc) (x_draftCount := nI dc) (x_wrongPlace := y_fault) (x_madeCount := nI mc) (x_frameCount := nI (fr_x y_kind fa ph p)) (x_current := nI (σ (wk (w - 1)))) (x_next := nI (ex_e (tk_nd y_kind y_word) (fa p))) (x_inHand := x_inHand) (x_mode := 1) (x_outcome := 100) (x_stepCount := nI st) (x_atWork := nI w) (x_mostAtWork := y_peak) (x_saidCount := nI sp) (x_pendingCount := x_pendingCount) (x_classParent := y_parent) (x_classFields := y_fields) (x_bound := y_bound) (x_tokenKind := x_tokenKind) (x_tokenValue := x_tokenValue) (x_globals := x_globals) (x_thingShown := x_thingShown) (x_thingClass := x_thingClass) (x_thingFields := x_thingFields) (x_thingToken := x_thingToken) (x_thingMaker := x_thingMaker) (x_variables := x_variables) (x_homeOf := x_homeOf) (x_within := x_within) (x_foundIn := x_foundIn) (x_baseFrame := x_baseFrame) (x_frameToken := x_frameToken) (x_frameStage := x_frameStage) (x_frameLink := x_frameLink) (x_operands := x_operands) (x_saidValues := y_heard) (x_marked := x_marked) (x_pending := x_pending) A.2.2.1 (by omega) v0 with ⟨i, xi, yi⟩ | ⟨bX, bY⟩
  · rcases hp_vcase (x_classCount := nI cc) (x_bodyCount := nI bc) (x_draftCount := nI dc) (x_wrongPlace := y_fault) (x_madeCount := nI mc) (x_frameCount := nI (fr_x y_kind fa ph p)) (x_current := nI (σ (wk (w - 1)))) (x_next := nI (ex_e (tk_nd y_kind y_word) (fa p))) (x_inHand := x_inHand) (x_mode := 1) (x_outcome := 100) (x_stepCount := nI st) (x_atWork := nI w) (x_mostAtWork := y_peak) (x_saidCount := nI sp) (x_pendingCount := x_pendingCount) (x_classParent := y_parent) (x_classFields := y_fields) (x_bound := y_bound) (x_tokenKind := x_tokenKind) (x_tokenValue := x_tokenValue) (x_globals := x_globals) (x_thingShown := x_thingShown) (x_thingClass := x_thingClass) (x_thingFields := x_thingFields) (x_thingToken := x_thingToken) (x_thingMaker := x_thingMaker) (x_variables := x_variables) (x_homeOf := x_homeOf) (x_within := x_within) (x_foundIn := x_foundIn) (x_baseFrame := x_baseFrame) (x_frameToken := x_frameToken) (x_frameStage := x_frameStage) (x_frameLink := x_frameLink) (x_operands := x_operands) (x_saidValues := y_heard) (x_marked := x_marked) (x_pending := x_pending) A.2.2.1 (by omega) v1 with ⟨j, xj, yj⟩ | ⟨bX, bY⟩
    · rw [xi, xj] at goX2
      rw [yi, yj] at goY2
      have iX : ∀ (l : Int32) (post : Int32 → Prop), post 1 → wpX_isInt post (nI cc, nI bc, nI dc, y_fault, nI mc, nI (fr_x y_kind fa ph p), nI (σ (wk (w - 1))), nI (ex_e (tk_nd y_kind y_word) (fa p)), x_inHand, 1, 100, nI st, nI w, y_peak, nI sp, x_pendingCount, y_parent, y_fields, y_bound, x_tokenKind, x_tokenValue, x_globals, x_thingShown, x_thingClass, x_thingFields, x_thingToken, x_thingMaker, x_variables, x_homeOf, x_within, x_foundIn, x_baseFrame, x_frameToken, x_frameStage, x_frameLink, x_operands, y_heard, x_marked, x_pending) l.toInt64 := fun l post hp => br_f (hp_int1 l) hp
      obtain ⟨n1, n2, n3', n4⟩ := mu_fin (Nat.le_refl _) (by omega) n
      refine ⟨(nI cc, nI bc, nI dc, y_fault, nI mc, nI (fr_x y_kind fa ph p), nI (σ (wk (w - 1))), nI (ex_e (tk_nd y_kind y_word) (fa p)), (i - j).toInt64, 1, 100, nI st, nI w, y_peak, nI sp, x_pendingCount, y_parent, y_fields, y_bound, x_tokenKind, x_tokenValue, x_globals, x_thingShown, x_thingClass, x_thingFields, x_thingToken, x_thingMaker, x_variables, x_homeOf, x_within, x_foundIn, x_baseFrame, x_frameToken, x_frameStage, x_frameLink, x_operands, y_heard, x_marked, x_pending), (nI cc, nI bc, y_fault, nI mc, nI w, y_peak, nI st, nI p, nI (bs p), y_code, 1, 1, lN (i - j).toBitVec.toNat, y_todos, y_marks, -10000000000, nI sp, y_parent, y_fields, y_bound, y_kind, y_word, y_size, y_sort, y_number, y_stands, y_keeps, y_cells, y_globals, y_within, y_foundIn, y_self, y_args, y_temps, y_param, y_live, y_work, y_under, y_at, y_in, y_phase, y_base, y_goal, y_operands, y_marked, y_todo, y_heard), tm + 1, by omega, fun PX k => xt_apply (by omega) (fun Q q => goX2 Q ?_) k, fun PY m k => YL_mono (yt_next (fun Q q => goY2 Q ?_) k) (by omega), Or.inr (fin_H A F hp (fun q hq => rfl) (hp_vint (i - j)) n3' n1 n2 n4)⟩
      · unfold wpX_reckon
        refine iX i _ (br_f (by decide) (iX j _ (br_f (by decide) (br_f (by decide) (br_f (by decide) (br_f (by decide) (br_t rfl ?_)))))))
        rw [Int64.toInt32_sub, Int32.toInt32_toInt64, Int32.toInt32_toInt64]
        exact q
      · unfold wpY_reckon
        refine yv_isInt_i i (br_f (by decide) (yv_isInt_i j (br_f (by decide) (br_f (by decide) (br_t rfl ?_)))))
        unfold wY_reckon_84
        rw [vv_i, vv_i, vv_w]
        exact yw_finish p5 y4 q
    · rw [xi] at goX2
      rw [yi] at goY2
      refine kind ⟨fun Q q => goX2 Q ?_, fun Q q => goY2 Q ?_⟩
      · unfold wpX_reckon
        exact br_f (hp_int1 i) (br_f (by decide) (bX _ (br_t rfl q)))
      · unfold wpY_reckon
        exact yv_isInt_i i (br_f (by decide) (bY _ (br_t rfl q)))
  · refine kind ⟨fun Q q => goX2 Q ?_, fun Q q => goY2 Q ?_⟩
    · unfold wpX_reckon
      exact bX _ (br_t rfl q)
    · unfold wpY_reckon
      exact bY _ (br_t rfl q)
theorem go_mul {p tm : Nat} (A : rn_A cc bc dc mc T ST SA lv τ σ lev ho x_tokenKind x_tokenValue y_kind y_word y_size y_parent y_fields y_bound x_globals y_globals x_thingShown x_thingClass x_thingFields x_thingToken x_thingMaker x_variables x_homeOf x_within x_foundIn y_sort y_number y_stands y_keeps y_cells y_within y_foundIn y_self y_args y_temps y_param) (F : rn_F T ST SA lv σ lev ho y_kind y_word fa ph bs ow gg wk un rt (p + 1) w y_sort y_number x_frameToken x_frameStage x_frameLink x_operands x_baseFrame y_operands y_self y_at y_in y_phase y_base y_goal y_work y_under y_live) (ek : y_kind (fa p) = 20) (hp : ph p ≠ 100) (hph : ph p = tk_nd y_kind y_word (fa p)) (n : rn_n B (M + 1) mc st sp (rn_mu (tk_nd y_kind y_word) fa un rt st (p + 1) w (ex_e (tk_nd y_kind y_word) (fa p)) 1)) (ht : tm + 2 ≤ 1000000) :
    rn_Go B M tm (nI cc, nI bc, nI dc, y_fault, nI mc, nI (fr_x y_kind fa ph (p + 1)), nI (σ (wk (w - 1))), nI (ex_e (tk_nd y_kind y_word) (fa p)), x_inHand, 2, 100, nI st, nI w, y_peak, nI sp, x_pendingCount, y_parent, y_fields, y_bound, x_tokenKind, x_tokenValue, x_globals, x_thingShown, x_thingClass, x_thingFields, x_thingToken, x_thingMaker, x_variables, x_homeOf, x_within, x_foundIn, x_baseFrame, x_frameToken, x_frameStage, x_frameLink, x_operands, y_heard, x_marked, x_pending) (nI cc, nI bc, y_fault, nI mc, nI w, y_peak, nI st, nI (p + 1), nI (bs (p + 1)), y_code, 1, 0, y_got, y_todos, y_marks, -10000000000, nI sp, y_parent, y_fields, y_bound, y_kind, y_word, y_size, y_sort, y_number, y_stands, y_keeps, y_cells, y_globals, y_within, y_foundIn, y_self, y_args, y_temps, y_param, y_live, y_work, y_under, y_at, y_in, y_phase, y_base, y_goal, y_operands, y_marked, y_todo, y_heard) := by
  have kg : fr_gen (y_kind (fa p)) := by unfold fr_gen; rw [ek]; decide
  have nt : ¬ fr_tail (y_kind (fa p)) (ph p) := fun z => by
    rcases z with ⟨z, _⟩ | ⟨z, _⟩ <;> (rw [ek] at z; exact absurd z (by decide))
  obtain ⟨f1, eo, f5, p3, p5, b3, y1, y2, y3, y4, a3, n3, p383⟩ := rn_top A F hp
  have hxr := rn_xr A F hp
  have TF := rn_TF A
  have pc : (nI p).toNatClampNeg = p := nI_clamp (by omega)
  have vp : vp_in (nI p) 500 := vp_in_nI p5 (by decide)
  have fac : (nI (fa p)).toNatClampNeg = fa p := nI_clamp (by omega)
  have vfa : vp_in (nI (fa p)) 416 := vp_in_nI (by omega) (by decide)
  have xr : fr_x y_kind fa ph (p + 1) = fr_x y_kind fa ph p + 1 := by
    show _ + ct_b _ = _
    rw [ct_bt nt]
  have xrc : (nI (fr_x y_kind fa ph p)).toNatClampNeg = fr_x y_kind fa ph p := nI_clamp (by omega)
  have vxr : vp_in (nI (fr_x y_kind fa ph p)) 385 := vp_in_nI hxr (by decide)
  have e3 : nI (fr_x y_kind fa ph p) * (3 : Int32) = nI (fr_x y_kind fa ph p * 3) := pk_mul _ 3
  have e31 : nI (fr_x y_kind fa ph p * 3) + 1 = nI (fr_x y_kind fa ph p * 3 + 1) := nI_1 _
  have c3 : (nI (fr_x y_kind fa ph p * 3)).toNatClampNeg = fr_x y_kind fa ph p * 3 := nI_clamp (by omega)
  have c31 : (nI (fr_x y_kind fa ph p * 3 + 1)).toNatClampNeg = fr_x y_kind fa ph p * 3 + 1 := nI_clamp (by omega)
  have v3 : vp_in (nI (fr_x y_kind fa ph p * 3)) 1155 := vp_in_nI (by omega) (by decide)
  have v31 : vp_in (nI (fr_x y_kind fa ph p * 3 + 1)) 1155 := vp_in_nI (by omega) (by decide)
  have bc0 : (nI (bs p)).toNatClampNeg = bs p := nI_clamp (by omega)
  have bc1 : (nI (bs p + 1)).toNatClampNeg = bs p + 1 := nI_clamp (by omega)
  have vb0 : vp_in (nI (bs p)) 500 := vp_in_nI (by omega) (by decide)
  have vb1 : vp_in (nI (bs p + 1)) 500 := vp_in_nI (by omega) (by decide)
  obtain ⟨xtk, xsg, xlk, xO⟩ := (F.2.2.1.2 p (by omega) nt).2 hp
  have xkd : x_tokenKind (fa p) = y_kind (fa p) := (A.1.2.2.1.2.1 _ f1).2.1
  have xvl : x_tokenValue (fa p) = y_word (fa p) := (A.1.2.2.1.2.1 _ f1).2.2.1
  obtain ⟨ce, pe⟩ := fr_genc kg hp
  rw [ce] at xO
  have hpt : fr_pt (y_kind (fa p)) (ph p) = tk_nd y_kind y_word (fa p) := by rw [pe]; exact hph
  have enp : ex_pt (tk_nd y_kind y_word) (fa p) (ph p) = ex_e (tk_nd y_kind y_word) (fa p) := by rw [hph]; exact (fr_en TF f1).2.2
  have goX : ∀ Q : SX → Prop, _ → wpX_applyOperator Q (nI cc, nI bc, nI dc, y_fault, nI mc, nI (fr_x y_kind fa ph (p + 1)), nI (σ (wk (w - 1))), nI (ex_e (tk_nd y_kind y_word) (fa p)), x_inHand, 2, 100, nI st, nI w, y_peak, nI sp, x_pendingCount, y_parent, y_fields, y_bound, x_tokenKind, x_tokenValue, x_globals, x_thingShown, x_thingClass, x_thingFields, x_thingToken, x_thingMaker, x_variables, x_homeOf, x_within, x_foundIn, x_baseFrame, x_frameToken, x_frameStage, x_frameLink, x_operands, y_heard, x_marked, x_pending) := fun Q h => by
    unfold wpX_applyOperator
    dsimp only
    rw [xr, nI_pred]
    refine nm_e ?_
    rw [xrc, xtk, e3, e31, c3, c31]
    refine ⟨vxr, nm_e ⟨vfa, ?_⟩⟩
    rw [fac, xkd, ek]
    exact nm_e ⟨v3, nm_e ⟨v31, nm_e h⟩⟩
  have goY : ∀ Q : SY → Prop, _ → wpY_next Q (nI cc, nI bc, y_fault, nI mc, nI w, y_peak, nI st, nI (p + 1), nI (bs (p + 1)), y_code, 1, 0, y_got, y_todos, y_marks, -10000000000, nI sp, y_parent, y_fields, y_bound, y_kind, y_word, y_size, y_sort, y_number, y_stands, y_keeps, y_cells, y_globals, y_within, y_foundIn, y_self, y_args, y_temps, y_param, y_live, y_work, y_under, y_at, y_in, y_phase, y_base, y_goal, y_operands, y_marked, y_todo, y_heard) := fun Q h => by
    refine yn_apply A F hp hpt ?_
    unfold wpY_apply
    dsimp only
    rw [pc, y1, y2, y4]
    refine ⟨vp, nm_e ⟨vfa, ?_⟩⟩
    rw [fac]
    refine nm_e ⟨vp, nm_e ⟨vp, yw_home A.2.2.1 (rn_cur A F).1 ⟨vb0, ?_⟩⟩⟩
    rw [bc0, nI_1, bc1]
    refine nm_e ⟨vb1, nm_e ⟨vfa, ?_⟩⟩
    rw [ek]
    exact nm_e h
  have s0 : fr_s (y_kind (fa p)) = 0 := by unfold fr_s; rw [ek, if_neg (by decide)]
  have nd1 : tk_nd y_kind y_word (fa p) = 2 := by unfold tk_nd; rw [ek]; rfl
  have v0 := (xO 0 (by omega)).2.1 (by omega) (by omega)
  rw [s0, Nat.add_zero, show bs p + (0 - 0) = bs p from rfl] at v0
  have v1 := (xO 1 (by omega)).2.1 (by omega) (by omega)
  rw [s0, show bs p + (1 - 0) = bs p + 1 from rfl] at v1
  have mcl := A.2.2.2.1.1
  have goX2 : ∀ Q : SX → Prop, wpX_reckon (fun r u => match u with | (x_classCount, x_bodyCount, x_draftCount, x_wrongPlace, x_madeCount, x_frameCount, x_current, x_next, x_inHand, x_mode, x_outcome, x_stepCount, x_atWork, x_mostAtWork, x_saidCount, x_pendingCount, x_classParent, x_classFields, x_bound, x_tokenKind, x_tokenValue, x_globals, x_thingShown, x_thingClass, x_thingFields, x_thingToken, x_thingMaker, x_variables, x_homeOf, x_within, x_foundIn, x_baseFrame, x_frameToken, x_frameStage, x_frameLink, x_operands, x_saidValues, x_marked, x_pending) => Q (x_classCount, x_bodyCount, x_draftCount, x_wrongPlace, x_madeCount, x_frameCount, x_current, x_next, r, x_mode, x_outcome, x_stepCount, x_atWork, x_mostAtWork, x_saidCount, x_pendingCount, x_classParent, x_classFields, x_bound, x_tokenKind, x_tokenValue, x_globals, x_thingShown, x_thingClass, x_thingFields, x_thingToken, x_thingMaker, x_variables, x_homeOf, x_within, x_foundIn, x_baseFrame, x_frameToken, x_frameStage, x_frameLink, x_operands, x_saidValues, x_marked, x_pending)) (nI cc, nI bc, nI dc, y_fault, nI mc, nI (fr_x y_kind fa ph p), nI (σ (wk (w - 1))), nI (ex_e (tk_nd y_kind y_word) (fa p)), x_inHand, 1, 100, nI st, nI w, y_peak, nI sp, x_pendingCount, y_parent, y_fields, y_bound, x_tokenKind, x_tokenValue, x_globals, x_thingShown, x_thingClass, x_thingFields, x_thingToken, x_thingMaker, x_variables, x_homeOf, x_within, x_foundIn, x_baseFrame, x_frameToken, x_frameStage, x_frameLink, x_operands, y_heard, x_marked, x_pending) 20 (x_operands (fr_x y_kind fa ph p * 3)) (x_operands (fr_x y_kind fa ph p * 3 + 1)) → wpX_applyOperator Q (nI cc, nI bc, nI dc, y_fault, nI mc, nI (fr_x y_kind fa ph (p + 1)), nI (σ (wk (w - 1))), nI (ex_e (tk_nd y_kind y_word) (fa p)), x_inHand, 2, 100, nI st, nI w, y_peak, nI sp, x_pendingCount, y_parent, y_fields, y_bound, x_tokenKind, x_tokenValue, x_globals, x_thingShown, x_thingClass, x_thingFields, x_thingToken, x_thingMaker, x_variables, x_homeOf, x_within, x_foundIn, x_baseFrame, x_frameToken, x_frameStage, x_frameLink, x_operands, y_heard, x_marked, x_pending) := fun Q h => goX Q (br_f (by decide) (br_f (by decide) (br_f (by decide) (br_f (by decide) (nm_e (br_f (by decide) (br_f (by decide) (br_f (by decide) (br_f (by decide) h)))))))))
  have goY2 : ∀ Q : SY → Prop, wpY_reckon (fun u => match u with | (y_classes, y_bodies, y_fault, y_made, y_working, y_peak, y_steps, y_depth, y_waiting, y_code, y_running, y_has, y_got, y_todos, y_marks, y_shown, y_spoken, y_parent, y_fields, y_bound, y_kind, y_word, y_size, y_sort, y_number, y_stands, y_keeps, y_cells, y_globals, y_within, y_foundIn, y_self, y_args, y_temps, y_param, y_live, y_work, y_under, y_at, y_in, y_phase, y_base, y_goal, y_operands, y_marked, y_todo, y_heard) => Q (y_classes, y_bodies, y_fault, y_made, y_working, y_peak, y_steps, y_depth, y_waiting, y_code, y_running, y_has, y_got, y_todos, y_marks, y_shown, y_spoken, y_parent, y_fields, y_bound, y_kind, y_word, y_size, y_sort, y_number, y_stands, y_keeps, y_cells, y_globals, y_within, y_foundIn, y_self, y_args, y_temps, y_param, y_live, y_work, y_under, y_at, y_in, y_phase, y_base, y_goal, y_operands, y_marked, y_todo, y_heard)) (nI cc, nI bc, y_fault, nI mc, nI w, y_peak, nI st, nI (p + 1), nI (bs (p + 1)), y_code, 1, 0, y_got, y_todos, y_marks, -10000000000, nI sp, y_parent, y_fields, y_bound, y_kind, y_word, y_size, y_sort, y_number, y_stands, y_keeps, y_cells, y_globals, y_within, y_foundIn, y_self, y_args, y_temps, y_param, y_live, y_work, y_under, y_at, y_in, y_phase, y_base, y_goal, y_operands, y_marked, y_todo, y_heard) 20 (y_operands (bs p)) (y_operands (bs p + 1)) → wpY_next Q (nI cc, nI bc, y_fault, nI mc, nI w, y_peak, nI st, nI (p + 1), nI (bs (p + 1)), y_code, 1, 0, y_got, y_todos, y_marks, -10000000000, nI sp, y_parent, y_fields, y_bound, y_kind, y_word, y_size, y_sort, y_number, y_stands, y_keeps, y_cells, y_globals, y_within, y_foundIn, y_self, y_args, y_temps, y_param, y_live, y_work, y_under, y_at, y_in, y_phase, y_base, y_goal, y_operands, y_marked, y_todo, y_heard) := fun Q h => goY Q (by
    iterate 17 refine br_f (by decide) ?_
    refine br_t rfl ?_
    unfold wY_apply_509
    rw [fac, ek]
    exact ⟨vfa, h⟩)
  have kind : ((∀ Q : SX → Prop, Q (nI cc, nI bc, nI dc, y_fault, nI mc, nI (fr_x y_kind fa ph p), nI (σ (wk (w - 1))), nI (ex_e (tk_nd y_kind y_word) (fa p)), 10000000000, 1, 2, nI st, nI w, y_peak, nI sp, x_pendingCount, y_parent, y_fields, y_bound, x_tokenKind, x_tokenValue, x_globals, x_thingShown, x_thingClass, x_thingFields, x_thingToken, x_thingMaker, x_variables, x_homeOf, x_within, x_foundIn, x_baseFrame, x_frameToken, x_frameStage, x_frameLink, x_operands, y_heard, x_marked, x_pending) → wpX_applyOperator Q (nI cc, nI bc, nI dc, y_fault, nI mc, nI (fr_x y_kind fa ph (p + 1)), nI (σ (wk (w - 1))), nI (ex_e (tk_nd y_kind y_word) (fa p)), x_inHand, 2, 100, nI st, nI w, y_peak, nI sp, x_pendingCount, y_parent, y_fields, y_bound, x_tokenKind, x_tokenValue, x_globals, x_thingShown, x_thingClass, x_thingFields, x_thingToken, x_thingMaker, x_variables, x_homeOf, x_within, x_foundIn, x_baseFrame, x_frameToken, x_frameStage, x_frameLink, x_operands, y_heard, x_marked, x_pending)) ∧ (∀ Q : SY → Prop, Q (nI cc, nI bc, y_fault, nI mc, nI w, y_peak, nI st, nI (p + 1), nI (bs (p + 1)), 2, 0, 0, y_got, y_todos, y_marks, -10000000000, nI sp, y_parent, y_fields, y_bound, y_kind, y_word, y_size, y_sort, y_number, y_stands, y_keeps, y_cells, y_globals, y_within, y_foundIn, y_self, y_args, y_temps, y_param, y_live, y_work, y_under, y_at, y_in, y_phase, y_base, y_goal, y_operands, y_marked, y_todo, y_heard) → wpY_next Q (nI cc, nI bc, y_fault, nI mc, nI w, y_peak, nI st, nI (p + 1), nI (bs (p + 1)), y_code, 1, 0, y_got, y_todos, y_marks, -10000000000, nI sp, y_parent, y_fields, y_bound, y_kind, y_word, y_size, y_sort, y_number, y_stands, y_keeps, y_cells, y_globals, y_within, y_foundIn, y_self, y_args, y_temps, y_param, y_live, y_work, y_under, y_at, y_in, y_phase, y_base, y_goal, y_operands, y_marked, y_todo, y_heard))) → rn_Go B M tm (nI cc, nI bc, nI dc, y_fault, nI mc, nI (fr_x y_kind fa ph (p + 1)), nI (σ (wk (w - 1))), nI (ex_e (tk_nd y_kind y_word) (fa p)), x_inHand, 2, 100, nI st, nI w, y_peak, nI sp, x_pendingCount, y_parent, y_fields, y_bound, x_tokenKind, x_tokenValue, x_globals, x_thingShown, x_thingClass, x_thingFields, x_thingToken, x_thingMaker, x_variables, x_homeOf, x_within, x_foundIn, x_baseFrame, x_frameToken, x_frameStage, x_frameLink, x_operands, y_heard, x_marked, x_pending) (nI cc, nI bc, y_fault, nI mc, nI w, y_peak, nI st, nI (p + 1), nI (bs (p + 1)), y_code, 1, 0, y_got, y_todos, y_marks, -10000000000, nI sp, y_parent, y_fields, y_bound, y_kind, y_word, y_size, y_sort, y_number, y_stands, y_keeps, y_cells, y_globals, y_within, y_foundIn, y_self, y_args, y_temps, y_param, y_live, y_work, y_under, y_at, y_in, y_phase, y_base, y_goal, y_operands, y_marked, y_todo, y_heard) := fun h =>
    ⟨_, _, tm + 1, by omega, fun PX k => xt_apply (by omega) h.1 k, fun PY m k => YL_mono (yt_next h.2 k) (by omega), Or.inl (rn_stop2 A (rn_wl A F) (by decide) (by decide) (by have := n.2.2.2; omega))⟩
  rcases hp_vcase (x_classCount := nI cc) (x_bodyCount := nI bc) (x_draftCount := nI dc) (x_wrongPlace := y_fault) (x_madeCount := nI mc) (x_frameCount := nI (fr_x y_kind fa ph p)) (x_current := nI (σ (wk (w - 1)))) (x_next := nI (ex_e (tk_nd y_kind y_word) (fa p))) (x_inHand := x_inHand) (x_mode := 1) (x_outcome := 100) (x_stepCount := nI st) (x_atWork := nI w) (x_mostAtWork := y_peak) (x_saidCount := nI sp) (x_pendingCount := x_pendingCount) (x_classParent := y_parent) (x_classFields := y_fields) (x_bound := y_bound) (x_tokenKind := x_tokenKind) (x_tokenValue := x_tokenValue) (x_globals := x_globals) (x_thingShown := x_thingShown) (x_thingClass := x_thingClass) (x_thingFields := x_thingFields) (x_thingToken := x_thingToken) (x_thingMaker := x_thingMaker) (x_variables := x_variables) (x_homeOf := x_homeOf) (x_within := x_within) (x_foundIn := x_foundIn) (x_baseFrame := x_baseFrame) (x_frameToken := x_frameToken) (x_frameStage := x_frameStage) (x_frameLink := x_frameLink) (x_operands := x_operands) (x_saidValues := y_heard) (x_marked := x_marked) (x_pending := x_pending) A.2.2.1 (by omega) v0 with ⟨i, xi, yi⟩ | ⟨bX, bY⟩
  · rcases hp_vcase (x_classCount := nI cc) (x_bodyCount := nI bc) (x_draftCount := nI dc) (x_wrongPlace := y_fault) (x_madeCount := nI mc) (x_frameCount := nI (fr_x y_kind fa ph p)) (x_current := nI (σ (wk (w - 1)))) (x_next := nI (ex_e (tk_nd y_kind y_word) (fa p))) (x_inHand := x_inHand) (x_mode := 1) (x_outcome := 100) (x_stepCount := nI st) (x_atWork := nI w) (x_mostAtWork := y_peak) (x_saidCount := nI sp) (x_pendingCount := x_pendingCount) (x_classParent := y_parent) (x_classFields := y_fields) (x_bound := y_bound) (x_tokenKind := x_tokenKind) (x_tokenValue := x_tokenValue) (x_globals := x_globals) (x_thingShown := x_thingShown) (x_thingClass := x_thingClass) (x_thingFields := x_thingFields) (x_thingToken := x_thingToken) (x_thingMaker := x_thingMaker) (x_variables := x_variables) (x_homeOf := x_homeOf) (x_within := x_within) (x_foundIn := x_foundIn) (x_baseFrame := x_baseFrame) (x_frameToken := x_frameToken) (x_frameStage := x_frameStage) (x_frameLink := x_frameLink) (x_operands := x_operands) (x_saidValues := y_heard) (x_marked := x_marked) (x_pending := x_pending) A.2.2.1 (by omega) v1 with ⟨j, xj, yj⟩ | ⟨bX, bY⟩
    · rw [xi, xj] at goX2
      rw [yi, yj] at goY2
      have iX : ∀ (l : Int32) (post : Int32 → Prop), post 1 → wpX_isInt post (nI cc, nI bc, nI dc, y_fault, nI mc, nI (fr_x y_kind fa ph p), nI (σ (wk (w - 1))), nI (ex_e (tk_nd y_kind y_word) (fa p)), x_inHand, 1, 100, nI st, nI w, y_peak, nI sp, x_pendingCount, y_parent, y_fields, y_bound, x_tokenKind, x_tokenValue, x_globals, x_thingShown, x_thingClass, x_thingFields, x_thingToken, x_thingMaker, x_variables, x_homeOf, x_within, x_foundIn, x_baseFrame, x_frameToken, x_frameStage, x_frameLink, x_operands, y_heard, x_marked, x_pending) l.toInt64 := fun l post hp => br_f (hp_int1 l) hp
      obtain ⟨n1, n2, n3', n4⟩ := mu_fin (Nat.le_refl _) (by omega) n
      refine ⟨(nI cc, nI bc, nI dc, y_fault, nI mc, nI (fr_x y_kind fa ph p), nI (σ (wk (w - 1))), nI (ex_e (tk_nd y_kind y_word) (fa p)), (i * j).toInt64, 1, 100, nI st, nI w, y_peak, nI sp, x_pendingCount, y_parent, y_fields, y_bound, x_tokenKind, x_tokenValue, x_globals, x_thingShown, x_thingClass, x_thingFields, x_thingToken, x_thingMaker, x_variables, x_homeOf, x_within, x_foundIn, x_baseFrame, x_frameToken, x_frameStage, x_frameLink, x_operands, y_heard, x_marked, x_pending), (nI cc, nI bc, y_fault, nI mc, nI w, y_peak, nI st, nI p, nI (bs p), y_code, 1, 1, lN (i * j).toBitVec.toNat, y_todos, y_marks, -10000000000, nI sp, y_parent, y_fields, y_bound, y_kind, y_word, y_size, y_sort, y_number, y_stands, y_keeps, y_cells, y_globals, y_within, y_foundIn, y_self, y_args, y_temps, y_param, y_live, y_work, y_under, y_at, y_in, y_phase, y_base, y_goal, y_operands, y_marked, y_todo, y_heard), tm + 1, by omega, fun PX k => xt_apply (by omega) (fun Q q => goX2 Q ?_) k, fun PY m k => YL_mono (yt_next (fun Q q => goY2 Q ?_) k) (by omega), Or.inr (fin_H A F hp (fun q hq => rfl) (hp_vint (i * j)) n3' n1 n2 n4)⟩
      · unfold wpX_reckon
        refine iX i _ (br_f (by decide) (iX j _ (br_f (by decide) (br_f (by decide) (br_f (by decide) (br_f (by decide) (br_f (by decide) (br_t rfl ?_))))))))
        rw [Int64.toInt32_mul, Int32.toInt32_toInt64, Int32.toInt32_toInt64]
        exact q
      · unfold wpY_reckon
        refine yv_isInt_i i (br_f (by decide) (yv_isInt_i j (br_f (by decide) (br_f (by decide) (br_f (by decide) (br_t rfl ?_))))))
        unfold wY_reckon_84
        rw [vv_i, vv_i, vv_w]
        exact yw_finish p5 y4 q
    · rw [xi] at goX2
      rw [yi] at goY2
      refine kind ⟨fun Q q => goX2 Q ?_, fun Q q => goY2 Q ?_⟩
      · unfold wpX_reckon
        exact br_f (hp_int1 i) (br_f (by decide) (bX _ (br_t rfl q)))
      · unfold wpY_reckon
        exact yv_isInt_i i (br_f (by decide) (bY _ (br_t rfl q)))
  · refine kind ⟨fun Q q => goX2 Q ?_, fun Q q => goY2 Q ?_⟩
    · unfold wpX_reckon
      exact bX _ (br_t rfl q)
    · unfold wpY_reckon
      exact bY _ (br_t rfl q)
theorem go_less {p tm : Nat} (A : rn_A cc bc dc mc T ST SA lv τ σ lev ho x_tokenKind x_tokenValue y_kind y_word y_size y_parent y_fields y_bound x_globals y_globals x_thingShown x_thingClass x_thingFields x_thingToken x_thingMaker x_variables x_homeOf x_within x_foundIn y_sort y_number y_stands y_keeps y_cells y_within y_foundIn y_self y_args y_temps y_param) (F : rn_F T ST SA lv σ lev ho y_kind y_word fa ph bs ow gg wk un rt (p + 1) w y_sort y_number x_frameToken x_frameStage x_frameLink x_operands x_baseFrame y_operands y_self y_at y_in y_phase y_base y_goal y_work y_under y_live) (ek : y_kind (fa p) = 21) (hp : ph p ≠ 100) (hph : ph p = tk_nd y_kind y_word (fa p)) (n : rn_n B (M + 1) mc st sp (rn_mu (tk_nd y_kind y_word) fa un rt st (p + 1) w (ex_e (tk_nd y_kind y_word) (fa p)) 1)) (ht : tm + 2 ≤ 1000000) :
    rn_Go B M tm (nI cc, nI bc, nI dc, y_fault, nI mc, nI (fr_x y_kind fa ph (p + 1)), nI (σ (wk (w - 1))), nI (ex_e (tk_nd y_kind y_word) (fa p)), x_inHand, 2, 100, nI st, nI w, y_peak, nI sp, x_pendingCount, y_parent, y_fields, y_bound, x_tokenKind, x_tokenValue, x_globals, x_thingShown, x_thingClass, x_thingFields, x_thingToken, x_thingMaker, x_variables, x_homeOf, x_within, x_foundIn, x_baseFrame, x_frameToken, x_frameStage, x_frameLink, x_operands, y_heard, x_marked, x_pending) (nI cc, nI bc, y_fault, nI mc, nI w, y_peak, nI st, nI (p + 1), nI (bs (p + 1)), y_code, 1, 0, y_got, y_todos, y_marks, -10000000000, nI sp, y_parent, y_fields, y_bound, y_kind, y_word, y_size, y_sort, y_number, y_stands, y_keeps, y_cells, y_globals, y_within, y_foundIn, y_self, y_args, y_temps, y_param, y_live, y_work, y_under, y_at, y_in, y_phase, y_base, y_goal, y_operands, y_marked, y_todo, y_heard) := by
  have kg : fr_gen (y_kind (fa p)) := by unfold fr_gen; rw [ek]; decide
  have nt : ¬ fr_tail (y_kind (fa p)) (ph p) := fun z => by
    rcases z with ⟨z, _⟩ | ⟨z, _⟩ <;> (rw [ek] at z; exact absurd z (by decide))
  obtain ⟨f1, eo, f5, p3, p5, b3, y1, y2, y3, y4, a3, n3, p383⟩ := rn_top A F hp
  have hxr := rn_xr A F hp
  have TF := rn_TF A
  have pc : (nI p).toNatClampNeg = p := nI_clamp (by omega)
  have vp : vp_in (nI p) 500 := vp_in_nI p5 (by decide)
  have fac : (nI (fa p)).toNatClampNeg = fa p := nI_clamp (by omega)
  have vfa : vp_in (nI (fa p)) 416 := vp_in_nI (by omega) (by decide)
  have xr : fr_x y_kind fa ph (p + 1) = fr_x y_kind fa ph p + 1 := by
    show _ + ct_b _ = _
    rw [ct_bt nt]
  have xrc : (nI (fr_x y_kind fa ph p)).toNatClampNeg = fr_x y_kind fa ph p := nI_clamp (by omega)
  have vxr : vp_in (nI (fr_x y_kind fa ph p)) 385 := vp_in_nI hxr (by decide)
  have e3 : nI (fr_x y_kind fa ph p) * (3 : Int32) = nI (fr_x y_kind fa ph p * 3) := pk_mul _ 3
  have e31 : nI (fr_x y_kind fa ph p * 3) + 1 = nI (fr_x y_kind fa ph p * 3 + 1) := nI_1 _
  have c3 : (nI (fr_x y_kind fa ph p * 3)).toNatClampNeg = fr_x y_kind fa ph p * 3 := nI_clamp (by omega)
  have c31 : (nI (fr_x y_kind fa ph p * 3 + 1)).toNatClampNeg = fr_x y_kind fa ph p * 3 + 1 := nI_clamp (by omega)
  have v3 : vp_in (nI (fr_x y_kind fa ph p * 3)) 1155 := vp_in_nI (by omega) (by decide)
  have v31 : vp_in (nI (fr_x y_kind fa ph p * 3 + 1)) 1155 := vp_in_nI (by omega) (by decide)
  have bc0 : (nI (bs p)).toNatClampNeg = bs p := nI_clamp (by omega)
  have bc1 : (nI (bs p + 1)).toNatClampNeg = bs p + 1 := nI_clamp (by omega)
  have vb0 : vp_in (nI (bs p)) 500 := vp_in_nI (by omega) (by decide)
  have vb1 : vp_in (nI (bs p + 1)) 500 := vp_in_nI (by omega) (by decide)
  obtain ⟨xtk, xsg, xlk, xO⟩ := (F.2.2.1.2 p (by omega) nt).2 hp
  have xkd : x_tokenKind (fa p) = y_kind (fa p) := (A.1.2.2.1.2.1 _ f1).2.1
  have xvl : x_tokenValue (fa p) = y_word (fa p) := (A.1.2.2.1.2.1 _ f1).2.2.1
  obtain ⟨ce, pe⟩ := fr_genc kg hp
  rw [ce] at xO
  have hpt : fr_pt (y_kind (fa p)) (ph p) = tk_nd y_kind y_word (fa p) := by rw [pe]; exact hph
  have enp : ex_pt (tk_nd y_kind y_word) (fa p) (ph p) = ex_e (tk_nd y_kind y_word) (fa p) := by rw [hph]; exact (fr_en TF f1).2.2
  have goX : ∀ Q : SX → Prop, _ → wpX_applyOperator Q (nI cc, nI bc, nI dc, y_fault, nI mc, nI (fr_x y_kind fa ph (p + 1)), nI (σ (wk (w - 1))), nI (ex_e (tk_nd y_kind y_word) (fa p)), x_inHand, 2, 100, nI st, nI w, y_peak, nI sp, x_pendingCount, y_parent, y_fields, y_bound, x_tokenKind, x_tokenValue, x_globals, x_thingShown, x_thingClass, x_thingFields, x_thingToken, x_thingMaker, x_variables, x_homeOf, x_within, x_foundIn, x_baseFrame, x_frameToken, x_frameStage, x_frameLink, x_operands, y_heard, x_marked, x_pending) := fun Q h => by
    unfold wpX_applyOperator
    dsimp only
    rw [xr, nI_pred]
    refine nm_e ?_
    rw [xrc, xtk, e3, e31, c3, c31]
    refine ⟨vxr, nm_e ⟨vfa, ?_⟩⟩
    rw [fac, xkd, ek]
    exact nm_e ⟨v3, nm_e ⟨v31, nm_e h⟩⟩
  have goY : ∀ Q : SY → Prop, _ → wpY_next Q (nI cc, nI bc, y_fault, nI mc, nI w, y_peak, nI st, nI (p + 1), nI (bs (p + 1)), y_code, 1, 0, y_got, y_todos, y_marks, -10000000000, nI sp, y_parent, y_fields, y_bound, y_kind, y_word, y_size, y_sort, y_number, y_stands, y_keeps, y_cells, y_globals, y_within, y_foundIn, y_self, y_args, y_temps, y_param, y_live, y_work, y_under, y_at, y_in, y_phase, y_base, y_goal, y_operands, y_marked, y_todo, y_heard) := fun Q h => by
    refine yn_apply A F hp hpt ?_
    unfold wpY_apply
    dsimp only
    rw [pc, y1, y2, y4]
    refine ⟨vp, nm_e ⟨vfa, ?_⟩⟩
    rw [fac]
    refine nm_e ⟨vp, nm_e ⟨vp, yw_home A.2.2.1 (rn_cur A F).1 ⟨vb0, ?_⟩⟩⟩
    rw [bc0, nI_1, bc1]
    refine nm_e ⟨vb1, nm_e ⟨vfa, ?_⟩⟩
    rw [ek]
    exact nm_e h
  have s0 : fr_s (y_kind (fa p)) = 0 := by unfold fr_s; rw [ek, if_neg (by decide)]
  have nd1 : tk_nd y_kind y_word (fa p) = 2 := by unfold tk_nd; rw [ek]; rfl
  have v0 := (xO 0 (by omega)).2.1 (by omega) (by omega)
  rw [s0, Nat.add_zero, show bs p + (0 - 0) = bs p from rfl] at v0
  have v1 := (xO 1 (by omega)).2.1 (by omega) (by omega)
  rw [s0, show bs p + (1 - 0) = bs p + 1 from rfl] at v1
  have mcl := A.2.2.2.1.1
  have goX2 : ∀ Q : SX → Prop, wpX_reckon (fun r u => match u with | (x_classCount, x_bodyCount, x_draftCount, x_wrongPlace, x_madeCount, x_frameCount, x_current, x_next, x_inHand, x_mode, x_outcome, x_stepCount, x_atWork, x_mostAtWork, x_saidCount, x_pendingCount, x_classParent, x_classFields, x_bound, x_tokenKind, x_tokenValue, x_globals, x_thingShown, x_thingClass, x_thingFields, x_thingToken, x_thingMaker, x_variables, x_homeOf, x_within, x_foundIn, x_baseFrame, x_frameToken, x_frameStage, x_frameLink, x_operands, x_saidValues, x_marked, x_pending) => Q (x_classCount, x_bodyCount, x_draftCount, x_wrongPlace, x_madeCount, x_frameCount, x_current, x_next, r, x_mode, x_outcome, x_stepCount, x_atWork, x_mostAtWork, x_saidCount, x_pendingCount, x_classParent, x_classFields, x_bound, x_tokenKind, x_tokenValue, x_globals, x_thingShown, x_thingClass, x_thingFields, x_thingToken, x_thingMaker, x_variables, x_homeOf, x_within, x_foundIn, x_baseFrame, x_frameToken, x_frameStage, x_frameLink, x_operands, x_saidValues, x_marked, x_pending)) (nI cc, nI bc, nI dc, y_fault, nI mc, nI (fr_x y_kind fa ph p), nI (σ (wk (w - 1))), nI (ex_e (tk_nd y_kind y_word) (fa p)), x_inHand, 1, 100, nI st, nI w, y_peak, nI sp, x_pendingCount, y_parent, y_fields, y_bound, x_tokenKind, x_tokenValue, x_globals, x_thingShown, x_thingClass, x_thingFields, x_thingToken, x_thingMaker, x_variables, x_homeOf, x_within, x_foundIn, x_baseFrame, x_frameToken, x_frameStage, x_frameLink, x_operands, y_heard, x_marked, x_pending) 21 (x_operands (fr_x y_kind fa ph p * 3)) (x_operands (fr_x y_kind fa ph p * 3 + 1)) → wpX_applyOperator Q (nI cc, nI bc, nI dc, y_fault, nI mc, nI (fr_x y_kind fa ph (p + 1)), nI (σ (wk (w - 1))), nI (ex_e (tk_nd y_kind y_word) (fa p)), x_inHand, 2, 100, nI st, nI w, y_peak, nI sp, x_pendingCount, y_parent, y_fields, y_bound, x_tokenKind, x_tokenValue, x_globals, x_thingShown, x_thingClass, x_thingFields, x_thingToken, x_thingMaker, x_variables, x_homeOf, x_within, x_foundIn, x_baseFrame, x_frameToken, x_frameStage, x_frameLink, x_operands, y_heard, x_marked, x_pending) := fun Q h => goX Q (br_f (by decide) (br_f (by decide) (br_f (by decide) (br_f (by decide) (nm_e (br_f (by decide) (br_f (by decide) (br_f (by decide) (br_f (by decide) h)))))))))
  have goY2 : ∀ Q : SY → Prop, wpY_reckon (fun u => match u with | (y_classes, y_bodies, y_fault, y_made, y_working, y_peak, y_steps, y_depth, y_waiting, y_code, y_running, y_has, y_got, y_todos, y_marks, y_shown, y_spoken, y_parent, y_fields, y_bound, y_kind, y_word, y_size, y_sort, y_number, y_stands, y_keeps, y_cells, y_globals, y_within, y_foundIn, y_self, y_args, y_temps, y_param, y_live, y_work, y_under, y_at, y_in, y_phase, y_base, y_goal, y_operands, y_marked, y_todo, y_heard) => Q (y_classes, y_bodies, y_fault, y_made, y_working, y_peak, y_steps, y_depth, y_waiting, y_code, y_running, y_has, y_got, y_todos, y_marks, y_shown, y_spoken, y_parent, y_fields, y_bound, y_kind, y_word, y_size, y_sort, y_number, y_stands, y_keeps, y_cells, y_globals, y_within, y_foundIn, y_self, y_args, y_temps, y_param, y_live, y_work, y_under, y_at, y_in, y_phase, y_base, y_goal, y_operands, y_marked, y_todo, y_heard)) (nI cc, nI bc, y_fault, nI mc, nI w, y_peak, nI st, nI (p + 1), nI (bs (p + 1)), y_code, 1, 0, y_got, y_todos, y_marks, -10000000000, nI sp, y_parent, y_fields, y_bound, y_kind, y_word, y_size, y_sort, y_number, y_stands, y_keeps, y_cells, y_globals, y_within, y_foundIn, y_self, y_args, y_temps, y_param, y_live, y_work, y_under, y_at, y_in, y_phase, y_base, y_goal, y_operands, y_marked, y_todo, y_heard) 21 (y_operands (bs p)) (y_operands (bs p + 1)) → wpY_next Q (nI cc, nI bc, y_fault, nI mc, nI w, y_peak, nI st, nI (p + 1), nI (bs (p + 1)), y_code, 1, 0, y_got, y_todos, y_marks, -10000000000, nI sp, y_parent, y_fields, y_bound, y_kind, y_word, y_size, y_sort, y_number, y_stands, y_keeps, y_cells, y_globals, y_within, y_foundIn, y_self, y_args, y_temps, y_param, y_live, y_work, y_under, y_at, y_in, y_phase, y_base, y_goal, y_operands, y_marked, y_todo, y_heard) := fun Q h => goY Q (by
    iterate 18 refine br_f (by decide) ?_
    refine br_t rfl ?_
    unfold wY_apply_509
    rw [fac, ek]
    exact ⟨vfa, h⟩)
  have kind : ((∀ Q : SX → Prop, Q (nI cc, nI bc, nI dc, y_fault, nI mc, nI (fr_x y_kind fa ph p), nI (σ (wk (w - 1))), nI (ex_e (tk_nd y_kind y_word) (fa p)), 10000000000, 1, 2, nI st, nI w, y_peak, nI sp, x_pendingCount, y_parent, y_fields, y_bound, x_tokenKind, x_tokenValue, x_globals, x_thingShown, x_thingClass, x_thingFields, x_thingToken, x_thingMaker, x_variables, x_homeOf, x_within, x_foundIn, x_baseFrame, x_frameToken, x_frameStage, x_frameLink, x_operands, y_heard, x_marked, x_pending) → wpX_applyOperator Q (nI cc, nI bc, nI dc, y_fault, nI mc, nI (fr_x y_kind fa ph (p + 1)), nI (σ (wk (w - 1))), nI (ex_e (tk_nd y_kind y_word) (fa p)), x_inHand, 2, 100, nI st, nI w, y_peak, nI sp, x_pendingCount, y_parent, y_fields, y_bound, x_tokenKind, x_tokenValue, x_globals, x_thingShown, x_thingClass, x_thingFields, x_thingToken, x_thingMaker, x_variables, x_homeOf, x_within, x_foundIn, x_baseFrame, x_frameToken, x_frameStage, x_frameLink, x_operands, y_heard, x_marked, x_pending)) ∧ (∀ Q : SY → Prop, Q (nI cc, nI bc, y_fault, nI mc, nI w, y_peak, nI st, nI (p + 1), nI (bs (p + 1)), 2, 0, 0, y_got, y_todos, y_marks, -10000000000, nI sp, y_parent, y_fields, y_bound, y_kind, y_word, y_size, y_sort, y_number, y_stands, y_keeps, y_cells, y_globals, y_within, y_foundIn, y_self, y_args, y_temps, y_param, y_live, y_work, y_under, y_at, y_in, y_phase, y_base, y_goal, y_operands, y_marked, y_todo, y_heard) → wpY_next Q (nI cc, nI bc, y_fault, nI mc, nI w, y_peak, nI st, nI (p + 1), nI (bs (p + 1)), y_code, 1, 0, y_got, y_todos, y_marks, -10000000000, nI sp, y_parent, y_fields, y_bound, y_kind, y_word, y_size, y_sort, y_number, y_stands, y_keeps, y_cells, y_globals, y_within, y_foundIn, y_self, y_args, y_temps, y_param, y_live, y_work, y_under, y_at, y_in, y_phase, y_base, y_goal, y_operands, y_marked, y_todo, y_heard))) → rn_Go B M tm (nI cc, nI bc, nI dc, y_fault, nI mc, nI (fr_x y_kind fa ph (p + 1)), nI (σ (wk (w - 1))), nI (ex_e (tk_nd y_kind y_word) (fa p)), x_inHand, 2, 100, nI st, nI w, y_peak, nI sp, x_pendingCount, y_parent, y_fields, y_bound, x_tokenKind, x_tokenValue, x_globals, x_thingShown, x_thingClass, x_thingFields, x_thingToken, x_thingMaker, x_variables, x_homeOf, x_within, x_foundIn, x_baseFrame, x_frameToken, x_frameStage, x_frameLink, x_operands, y_heard, x_marked, x_pending) (nI cc, nI bc, y_fault, nI mc, nI w, y_peak, nI st, nI (p + 1), nI (bs (p + 1)), y_code, 1, 0, y_got, y_todos, y_marks, -10000000000, nI sp, y_parent, y_fields, y_bound, y_kind, y_word, y_size, y_sort, y_number, y_stands, y_keeps, y_cells, y_globals, y_within, y_foundIn, y_self, y_args, y_temps, y_param, y_live, y_work, y_under, y_at, y_in, y_phase, y_base, y_goal, y_operands, y_marked, y_todo, y_heard) := fun h =>
    ⟨_, _, tm + 1, by omega, fun PX k => xt_apply (by omega) h.1 k, fun PY m k => YL_mono (yt_next h.2 k) (by omega), Or.inl (rn_stop2 A (rn_wl A F) (by decide) (by decide) (by have := n.2.2.2; omega))⟩
  rcases hp_vcase (x_classCount := nI cc) (x_bodyCount := nI bc) (x_draftCount := nI dc) (x_wrongPlace := y_fault) (x_madeCount := nI mc) (x_frameCount := nI (fr_x y_kind fa ph p)) (x_current := nI (σ (wk (w - 1)))) (x_next := nI (ex_e (tk_nd y_kind y_word) (fa p))) (x_inHand := x_inHand) (x_mode := 1) (x_outcome := 100) (x_stepCount := nI st) (x_atWork := nI w) (x_mostAtWork := y_peak) (x_saidCount := nI sp) (x_pendingCount := x_pendingCount) (x_classParent := y_parent) (x_classFields := y_fields) (x_bound := y_bound) (x_tokenKind := x_tokenKind) (x_tokenValue := x_tokenValue) (x_globals := x_globals) (x_thingShown := x_thingShown) (x_thingClass := x_thingClass) (x_thingFields := x_thingFields) (x_thingToken := x_thingToken) (x_thingMaker := x_thingMaker) (x_variables := x_variables) (x_homeOf := x_homeOf) (x_within := x_within) (x_foundIn := x_foundIn) (x_baseFrame := x_baseFrame) (x_frameToken := x_frameToken) (x_frameStage := x_frameStage) (x_frameLink := x_frameLink) (x_operands := x_operands) (x_saidValues := y_heard) (x_marked := x_marked) (x_pending := x_pending) A.2.2.1 (by omega) v0 with ⟨i, xi, yi⟩ | ⟨bX, bY⟩
  · rcases hp_vcase (x_classCount := nI cc) (x_bodyCount := nI bc) (x_draftCount := nI dc) (x_wrongPlace := y_fault) (x_madeCount := nI mc) (x_frameCount := nI (fr_x y_kind fa ph p)) (x_current := nI (σ (wk (w - 1)))) (x_next := nI (ex_e (tk_nd y_kind y_word) (fa p))) (x_inHand := x_inHand) (x_mode := 1) (x_outcome := 100) (x_stepCount := nI st) (x_atWork := nI w) (x_mostAtWork := y_peak) (x_saidCount := nI sp) (x_pendingCount := x_pendingCount) (x_classParent := y_parent) (x_classFields := y_fields) (x_bound := y_bound) (x_tokenKind := x_tokenKind) (x_tokenValue := x_tokenValue) (x_globals := x_globals) (x_thingShown := x_thingShown) (x_thingClass := x_thingClass) (x_thingFields := x_thingFields) (x_thingToken := x_thingToken) (x_thingMaker := x_thingMaker) (x_variables := x_variables) (x_homeOf := x_homeOf) (x_within := x_within) (x_foundIn := x_foundIn) (x_baseFrame := x_baseFrame) (x_frameToken := x_frameToken) (x_frameStage := x_frameStage) (x_frameLink := x_frameLink) (x_operands := x_operands) (x_saidValues := y_heard) (x_marked := x_marked) (x_pending := x_pending) A.2.2.1 (by omega) v1 with ⟨j, xj, yj⟩ | ⟨bX, bY⟩
    · rw [xi, xj] at goX2
      rw [yi, yj] at goY2
      have iX : ∀ (l : Int32) (post : Int32 → Prop), post 1 → wpX_isInt post (nI cc, nI bc, nI dc, y_fault, nI mc, nI (fr_x y_kind fa ph p), nI (σ (wk (w - 1))), nI (ex_e (tk_nd y_kind y_word) (fa p)), x_inHand, 1, 100, nI st, nI w, y_peak, nI sp, x_pendingCount, y_parent, y_fields, y_bound, x_tokenKind, x_tokenValue, x_globals, x_thingShown, x_thingClass, x_thingFields, x_thingToken, x_thingMaker, x_variables, x_homeOf, x_within, x_foundIn, x_baseFrame, x_frameToken, x_frameStage, x_frameLink, x_operands, y_heard, x_marked, x_pending) l.toInt64 := fun l post hp => br_f (hp_int1 l) hp
      obtain ⟨n1, n2, n3', n4⟩ := mu_fin (Nat.le_refl _) (by omega) n
      have lt1 := rk_le i j
      by_cases z : j ≤ i
      · refine ⟨(nI cc, nI bc, nI dc, y_fault, nI mc, nI (fr_x y_kind fa ph p), nI (σ (wk (w - 1))), nI (ex_e (tk_nd y_kind y_word) (fa p)), 0, 1, 100, nI st, nI w, y_peak, nI sp, x_pendingCount, y_parent, y_fields, y_bound, x_tokenKind, x_tokenValue, x_globals, x_thingShown, x_thingClass, x_thingFields, x_thingToken, x_thingMaker, x_variables, x_homeOf, x_within, x_foundIn, x_baseFrame, x_frameToken, x_frameStage, x_frameLink, x_operands, y_heard, x_marked, x_pending), (nI cc, nI bc, y_fault, nI mc, nI w, y_peak, nI st, nI p, nI (bs p), y_code, 1, 1, lN (0 : Int32).toBitVec.toNat, y_todos, y_marks, -10000000000, nI sp, y_parent, y_fields, y_bound, y_kind, y_word, y_size, y_sort, y_number, y_stands, y_keeps, y_cells, y_globals, y_within, y_foundIn, y_self, y_args, y_temps, y_param, y_live, y_work, y_under, y_at, y_in, y_phase, y_base, y_goal, y_operands, y_marked, y_todo, y_heard), tm + 1, by omega, fun PX k => xt_apply (by omega) (fun Q q => goX2 Q ?_) k, fun PY m k => YL_mono (yt_next (fun Q q => goY2 Q ?_) k) (by omega), Or.inr (fin_H A F hp (fun q hq => rfl) (hp_vint 0) n3' n1 n2 n4)⟩
        · unfold wpX_reckon
          exact iX i _ (br_f (by decide) (iX j _ (br_f (by decide) (br_f (by decide) (br_t (by decide) (br_t (lt1.mpr z) q))))))
        · unfold wpY_reckon
          refine yv_isInt_i i (br_f (by decide) (yv_isInt_i j (br_f (by decide) (br_f (by decide) (br_f (by decide) (br_f (by decide) (br_t (by rw [vv_i, vv_i]; exact z) ?_)))))))
          unfold wY_reckon_84
          rw [vv_w]
          exact yw_finish p5 y4 q
      · refine ⟨(nI cc, nI bc, nI dc, y_fault, nI mc, nI (fr_x y_kind fa ph p), nI (σ (wk (w - 1))), nI (ex_e (tk_nd y_kind y_word) (fa p)), 1, 1, 100, nI st, nI w, y_peak, nI sp, x_pendingCount, y_parent, y_fields, y_bound, x_tokenKind, x_tokenValue, x_globals, x_thingShown, x_thingClass, x_thingFields, x_thingToken, x_thingMaker, x_variables, x_homeOf, x_within, x_foundIn, x_baseFrame, x_frameToken, x_frameStage, x_frameLink, x_operands, y_heard, x_marked, x_pending), (nI cc, nI bc, y_fault, nI mc, nI w, y_peak, nI st, nI p, nI (bs p), y_code, 1, 1, lN (1 : Int32).toBitVec.toNat, y_todos, y_marks, -10000000000, nI sp, y_parent, y_fields, y_bound, y_kind, y_word, y_size, y_sort, y_number, y_stands, y_keeps, y_cells, y_globals, y_within, y_foundIn, y_self, y_args, y_temps, y_param, y_live, y_work, y_under, y_at, y_in, y_phase, y_base, y_goal, y_operands, y_marked, y_todo, y_heard), tm + 1, by omega, fun PX k => xt_apply (by omega) (fun Q q => goX2 Q ?_) k, fun PY m k => YL_mono (yt_next (fun Q q => goY2 Q ?_) k) (by omega), Or.inr (fin_H A F hp (fun q hq => rfl) (hp_vint 1) n3' n1 n2 n4)⟩
        · unfold wpX_reckon
          exact iX i _ (br_f (by decide) (iX j _ (br_f (by decide) (br_f (by decide) (br_t (by decide) (br_f (fun y => z (lt1.mp y)) q))))))
        · unfold wpY_reckon
          refine yv_isInt_i i (br_f (by decide) (yv_isInt_i j (br_f (by decide) (br_f (by decide) (br_f (by decide) (br_f (by decide) (br_f (by rw [vv_i, vv_i]; exact z) ?_)))))))
          unfold wY_reckon_84
          rw [vv_w]
          exact yw_finish p5 y4 q
    · rw [xi] at goX2
      rw [yi] at goY2
      refine kind ⟨fun Q q => goX2 Q ?_, fun Q q => goY2 Q ?_⟩
      · unfold wpX_reckon
        exact br_f (hp_int1 i) (br_f (by decide) (bX _ (br_t rfl q)))
      · unfold wpY_reckon
        exact yv_isInt_i i (br_f (by decide) (bY _ (br_t rfl q)))
  · refine kind ⟨fun Q q => goX2 Q ?_, fun Q q => goY2 Q ?_⟩
    · unfold wpX_reckon
      exact bX _ (br_t rfl q)
    · unfold wpY_reckon
      exact bY _ (br_t rfl q)
end
