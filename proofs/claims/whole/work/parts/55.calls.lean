/-! an operator is applied: CALL, GIVE -/
section
variable {x_classCount x_bodyCount x_draftCount x_wrongPlace x_madeCount x_frameCount x_current x_next x_mode x_outcome x_stepCount x_atWork x_mostAtWork x_saidCount x_pendingCount : Int32} {x_inHand : Int64} {x_classParent x_classFields x_bound x_tokenKind x_tokenValue x_thingClass x_thingToken x_thingMaker x_homeOf x_within x_foundIn x_baseFrame x_frameToken x_frameStage x_frameLink x_marked x_pending : Nat → Int32} {x_globals x_thingShown x_thingFields x_variables x_operands x_saidValues : Nat → Int64}
variable {y_classes y_bodies y_fault y_made y_working y_peak y_steps y_depth y_waiting y_code y_running y_has y_todos y_marks y_spoken : Int32} {y_got y_shown : Int64} {y_parent y_fields y_bound y_kind y_word y_size y_sort y_number y_stands y_keeps y_within y_foundIn y_live y_work y_under y_at y_in y_phase y_base y_goal y_marked y_todo : Nat → Int32} {y_cells y_globals y_self y_args y_temps y_param y_operands y_heard : Nat → Int64}
variable {cc bc dc mc st sp d w np md B M : Nat} {T ST SA : Nat → Prop} {lv τ σ lev ho fa ph bs ow gg wk un rt : Nat → Nat}
theorem go_call {p tm : Nat} (A : rn_A cc bc dc mc T ST SA lv τ σ lev ho x_tokenKind x_tokenValue y_kind y_word y_size y_parent y_fields y_bound x_globals y_globals x_thingShown x_thingClass x_thingFields x_thingToken x_thingMaker x_variables x_homeOf x_within x_foundIn y_sort y_number y_stands y_keeps y_cells y_within y_foundIn y_self y_args y_temps y_param) (F : rn_F T ST SA lv σ lev ho y_kind y_word fa ph bs ow gg wk un rt (p + 1) w y_sort y_number x_frameToken x_frameStage x_frameLink x_operands x_baseFrame y_operands y_self y_at y_in y_phase y_base y_goal y_work y_under y_live) (ek : y_kind (fa p) = 14) (hp : ph p ≠ 100) (hph : ph p = tk_nd y_kind y_word (fa p)) (n : rn_n B (M + 1) mc st sp (rn_mu (tk_nd y_kind y_word) fa un rt st (p + 1) w (ex_e (tk_nd y_kind y_word) (fa p)) 1)) (hB : B < 2 ^ 30) (ht : tm + 2 ≤ 1000000) :
    rn_Go B M tm (nI cc, nI bc, nI dc, y_fault, nI mc, nI (fr_x y_kind fa ph (p + 1)), nI (σ (wk (w - 1))), nI (ex_e (tk_nd y_kind y_word) (fa p)), x_inHand, 2, 100, nI st, nI w, y_peak, nI sp, x_pendingCount, y_parent, y_fields, y_bound, x_tokenKind, x_tokenValue, x_globals, x_thingShown, x_thingClass, x_thingFields, x_thingToken, x_thingMaker, x_variables, x_homeOf, x_within, x_foundIn, x_baseFrame, x_frameToken, x_frameStage, x_frameLink, x_operands, y_heard, x_marked, x_pending) (nI cc, nI bc, y_fault, nI mc, nI w, y_peak, nI st, nI (p + 1), nI (bs (p + 1)), y_code, 1, 0, y_got, y_todos, y_marks, -10000000000, nI sp, y_parent, y_fields, y_bound, y_kind, y_word, y_size, y_sort, y_number, y_stands, y_keeps, y_cells, y_globals, y_within, y_foundIn, y_self, y_args, y_temps, y_param, y_live, y_work, y_under, y_at, y_in, y_phase, y_base, y_goal, y_operands, y_marked, y_todo, y_heard) := by
  have kg : fr_gen (y_kind (fa p)) := by unfold fr_gen; rw [ek]; decide
  have nt : ¬ fr_tail (y_kind (fa p)) (ph p) := fun z => by
    rcases z with ⟨z, _⟩ | ⟨z, _⟩ <;> (rw [ek] at z; exact absurd z (by decide))
  obtain ⟨f1, eo, f5, p3, p5, b3, y1, y2, y3, y4, a3, n3, p383⟩ := rn_top A F hp
  have hxr := rn_xr A F hp
  have TF := rn_TF A
  have pc : (nI p).toNatClampNeg = p := nI_clamp (by omega)
  have vp : vp_in (nI p) 500 := vp_in_nI p5 (by decide)
  have fac : (nI (fa p)).toNatClampNeg = fa p := nI_clamp (by omega)
  have vfa : vp_in (nI (fa p)) 416 := vp_in_nI (by omega) (by decide)
  have xr : fr_x y_kind fa ph (p + 1) = fr_x y_kind fa ph p + 1 := by
    show _ + ct_b _ = _
    rw [ct_bt nt]
  have xrc : (nI (fr_x y_kind fa ph p)).toNatClampNeg = fr_x y_kind fa ph p := nI_clamp (by omega)
  have vxr : vp_in (nI (fr_x y_kind fa ph p)) 385 := vp_in_nI hxr (by decide)
  have e3 : nI (fr_x y_kind fa ph p) * (3 : Int32) = nI (fr_x y_kind fa ph p * 3) := pk_mul _ 3
  have e31 : nI (fr_x y_kind fa ph p * 3) + 1 = nI (fr_x y_kind fa ph p * 3 + 1) := nI_1 _
  have c3 : (nI (fr_x y_kind fa ph p * 3)).toNatClampNeg = fr_x y_kind fa ph p * 3 := nI_clamp (by omega)
  have c31 : (nI (fr_x y_kind fa ph p * 3 + 1)).toNatClampNeg = fr_x y_kind fa ph p * 3 + 1 := nI_clamp (by omega)
  have v3 : vp_in (nI (fr_x y_kind fa ph p * 3)) 1155 := vp_in_nI (by omega) (by decide)
  have v31 : vp_in (nI (fr_x y_kind fa ph p * 3 + 1)) 1155 := vp_in_nI (by omega) (by decide)
  have bc0 : (nI (bs p)).toNatClampNeg = bs p := nI_clamp (by omega)
  have bc1 : (nI (bs p + 1)).toNatClampNeg = bs p + 1 := nI_clamp (by omega)
  have vb0 : vp_in (nI (bs p)) 500 := vp_in_nI (by omega) (by decide)
  have vb1 : vp_in (nI (bs p + 1)) 500 := vp_in_nI (by omega) (by decide)
  obtain ⟨xtk, xsg, xlk, xO⟩ := (F.2.2.1.2 p (by omega) nt).2 hp
  have xkd : x_tokenKind (fa p) = y_kind (fa p) := (A.1.2.2.1.2.1 _ f1).2.1
  have xvl : x_tokenValue (fa p) = y_word (fa p) := (A.1.2.2.1.2.1 _ f1).2.2.1
  obtain ⟨ce, pe⟩ := fr_genc kg hp
  rw [ce] at xO
  have hpt : fr_pt (y_kind (fa p)) (ph p) = tk_nd y_kind y_word (fa p) := by rw [pe]; exact hph
  have enp : ex_pt (tk_nd y_kind y_word) (fa p) (ph p) = ex_e (tk_nd y_kind y_word) (fa p) := by rw [hph]; exact (fr_en TF f1).2.2
  have goX : ∀ Q : SX → Prop, _ → wpX_applyOperator Q (nI cc, nI bc, nI dc, y_fault, nI mc, nI (fr_x y_kind fa ph (p + 1)), nI (σ (wk (w - 1))), nI (ex_e (tk_nd y_kind y_word) (fa p)), x_inHand, 2, 100, nI st, nI w, y_peak, nI sp, x_pendingCount, y_parent, y_fields, y_bound, x_tokenKind, x_tokenValue, x_globals, x_thingShown, x_thingClass, x_thingFields, x_thingToken, x_thingMaker, x_variables, x_homeOf, x_within, x_foundIn, x_baseFrame, x_frameToken, x_frameStage, x_frameLink, x_operands, y_heard, x_marked, x_pending) := fun Q h => by
    unfold wpX_applyOperator
    dsimp only
    rw [xr, nI_pred]
    refine nm_e ?_
    rw [xrc, xtk, e3, e31, c3, c31]
    refine ⟨vxr, nm_e ⟨vfa, ?_⟩⟩
    rw [fac, xkd, ek]
    exact nm_e ⟨v3, nm_e ⟨v31, nm_e h⟩⟩
  have goY : ∀ Q : SY → Prop, _ → wpY_next Q (nI cc, nI bc, y_fault, nI mc, nI w, y_peak, nI st, nI (p + 1), nI (bs (p + 1)), y_code, 1, 0, y_got, y_todos, y_marks, -10000000000, nI sp, y_parent, y_fields, y_bound, y_kind, y_word, y_size, y_sort, y_number, y_stands, y_keeps, y_cells, y_globals, y_within, y_foundIn, y_self, y_args, y_temps, y_param, y_live, y_work, y_under, y_at, y_in, y_phase, y_base, y_goal, y_operands, y_marked, y_todo, y_heard) := fun Q h => by
    refine yn_apply A F hp hpt ?_
    unfold wpY_apply
    dsimp only
    rw [pc, y1, y2, y4]
    refine ⟨vp, nm_e ⟨vfa, ?_⟩⟩
    rw [fac]
    refine nm_e ⟨vp, nm_e ⟨vp, yw_home A.2.2.1 (rn_cur A F).1 ⟨vb0, ?_⟩⟩⟩
    rw [bc0, nI_1, bc1]
    refine nm_e ⟨vb1, nm_e ⟨vfa, ?_⟩⟩
    rw [ek]
    exact nm_e h
  rw [xr] at goX ⊢
  have s0 : fr_s (y_kind (fa p)) = 0 := by unfold fr_s; rw [ek, if_neg (by decide)]
  have nd1 : tk_nd y_kind y_word (fa p) = 1 := by unfold tk_nd; rw [ek]; rfl
  have bse : bs (p + 1) = bs p + ph p := by rw [(F.1.2.2.2.2.1 p (by omega)).2.2.2.2.2.1, ce]
  have rop : ∀ j, j < ph p → ∀ k, vv_T (y_operands (bs p + j)) k → cl_r (gy_R y_globals y_operands (bs (p + 1)) y_work w) (gy_E y_sort y_keeps y_cells y_within y_self y_args y_temps y_param) k := fun j hj k hT => cl_root (Or.inr (Or.inl ⟨bs p + j, by omega, hT⟩))
  have v0 := (xO 0 (by omega)).2.1 (by omega) (by omega)
  rw [s0, Nat.add_zero, show bs p + (0 - 0) = bs p from rfl] at v0
  have v1 := (xO 1 (by omega)).2.2 (by omega) (by omega)
  refine go_cb (pr := 0) (xp := x_operands (fr_x y_kind fa ph p * 3 + 1)) A F hp (Or.inr (Or.inr (Or.inl ek))) nt v0 (rop 0 (by omega)) (by rw [v1]; exact hp_nil) (fun k hT => absurd hT (vv_nil k)) n hB ht (fun Q h => goX Q ?_) (fun Q h => goY Q ?_)
  · exact br_f (by decide) (br_f (by decide) (br_t rfl (br_f (by decide) h)))
  · iterate 11 refine br_f (by decide) ?_
    exact br_t rfl h
theorem go_give {p tm : Nat} (A : rn_A cc bc dc mc T ST SA lv τ σ lev ho x_tokenKind x_tokenValue y_kind y_word y_size y_parent y_fields y_bound x_globals y_globals x_thingShown x_thingClass x_thingFields x_thingToken x_thingMaker x_variables x_homeOf x_within x_foundIn y_sort y_number y_stands y_keeps y_cells y_within y_foundIn y_self y_args y_temps y_param) (F : rn_F T ST SA lv σ lev ho y_kind y_word fa ph bs ow gg wk un rt (p + 1) w y_sort y_number x_frameToken x_frameStage x_frameLink x_operands x_baseFrame y_operands y_self y_at y_in y_phase y_base y_goal y_work y_under y_live) (ek : y_kind (fa p) = 15) (hp : ph p ≠ 100) (hph : ph p = tk_nd y_kind y_word (fa p)) (n : rn_n B (M + 1) mc st sp (rn_mu (tk_nd y_kind y_word) fa un rt st (p + 1) w (ex_e (tk_nd y_kind y_word) (fa p)) 1)) (hB : B < 2 ^ 30) (ht : tm + 2 ≤ 1000000) :
    rn_Go B M tm (nI cc, nI bc, nI dc, y_fault, nI mc, nI (fr_x y_kind fa ph (p + 1)), nI (σ (wk (w - 1))), nI (ex_e (tk_nd y_kind y_word) (fa p)), x_inHand, 2, 100, nI st, nI w, y_peak, nI sp, x_pendingCount, y_parent, y_fields, y_bound, x_tokenKind, x_tokenValue, x_globals, x_thingShown, x_thingClass, x_thingFields, x_thingToken, x_thingMaker, x_variables, x_homeOf, x_within, x_foundIn, x_baseFrame, x_frameToken, x_frameStage, x_frameLink, x_operands, y_heard, x_marked, x_pending) (nI cc, nI bc, y_fault, nI mc, nI w, y_peak, nI st, nI (p + 1), nI (bs (p + 1)), y_code, 1, 0, y_got, y_todos, y_marks, -10000000000, nI sp, y_parent, y_fields, y_bound, y_kind, y_word, y_size, y_sort, y_number, y_stands, y_keeps, y_cells, y_globals, y_within, y_foundIn, y_self, y_args, y_temps, y_param, y_live, y_work, y_under, y_at, y_in, y_phase, y_base, y_goal, y_operands, y_marked, y_todo, y_heard) := by
  have kg : fr_gen (y_kind (fa p)) := by unfold fr_gen; rw [ek]; decide
  have nt : ¬ fr_tail (y_kind (fa p)) (ph p) := fun z => by
    rcases z with ⟨z, _⟩ | ⟨z, _⟩ <;> (rw [ek] at z; exact absurd z (by decide))
  obtain ⟨f1, eo, f5, p3, p5, b3, y1, y2, y3, y4, a3, n3, p383⟩ := rn_top A F hp
  have hxr := rn_xr A F hp
  have TF := rn_TF A
  have pc : (nI p).toNatClampNeg = p := nI_clamp (by omega)
  have vp : vp_in (nI p) 500 := vp_in_nI p5 (by decide)
  have fac : (nI (fa p)).toNatClampNeg = fa p := nI_clamp (by omega)
  have vfa : vp_in (nI (fa p)) 416 := vp_in_nI (by omega) (by decide)
  have xr : fr_x y_kind fa ph (p + 1) = fr_x y_kind fa ph p + 1 := by
    show _ + ct_b _ = _
    rw [ct_bt nt]
  have xrc : (nI (fr_x y_kind fa ph p)).toNatClampNeg = fr_x y_kind fa ph p := nI_clamp (by omega)
  have vxr : vp_in (nI (fr_x y_kind fa ph p)) 385 := vp_in_nI hxr (by decide)
  have e3 : nI (fr_x y_kind fa ph p) * (3 : Int32) = nI (fr_x y_kind fa ph p * 3) := pk_mul _ 3
  have e31 : nI (fr_x y_kind fa ph p * 3) + 1 = nI (fr_x y_kind fa ph p * 3 + 1) := nI_1 _
  have c3 : (nI (fr_x y_kind fa ph p * 3)).toNatClampNeg = fr_x y_kind fa ph p * 3 := nI_clamp (by omega)
  have c31 : (nI (fr_x y_kind fa ph p * 3 + 1)).toNatClampNeg = fr_x y_kind fa ph p * 3 + 1 := nI_clamp (by omega)
  have v3 : vp_in (nI (fr_x y_kind fa ph p * 3)) 1155 := vp_in_nI (by omega) (by decide)
  have v31 : vp_in (nI (fr_x y_kind fa ph p * 3 + 1)) 1155 := vp_in_nI (by omega) (by decide)
  have bc0 : (nI (bs p)).toNatClampNeg = bs p := nI_clamp (by omega)
  have bc1 : (nI (bs p + 1)).toNatClampNeg = bs p + 1 := nI_clamp (by omega)
  have vb0 : vp_in (nI (bs p)) 500 := vp_in_nI (by omega) (by decide)
  have vb1 : vp_in (nI (bs p + 1)) 500 := vp_in_nI (by omega) (by decide)
  obtain ⟨xtk, xsg, xlk, xO⟩ := (F.2.2.1.2 p (by omega) nt).2 hp
  have xkd : x_tokenKind (fa p) = y_kind (fa p) := (A.1.2.2.1.2.1 _ f1).2.1
  have xvl : x_tokenValue (fa p) = y_word (fa p) := (A.1.2.2.1.2.1 _ f1).2.2.1
  obtain ⟨ce, pe⟩ := fr_genc kg hp
  rw [ce] at xO
  have hpt : fr_pt (y_kind (fa p)) (ph p) = tk_nd y_kind y_word (fa p) := by rw [pe]; exact hph
  have enp : ex_pt (tk_nd y_kind y_word) (fa p) (ph p) = ex_e (tk_nd y_kind y_word) (fa p) := by rw [hph]; exact (fr_en TF f1).2.2
  have goX : ∀ Q : SX → Prop, _ → wpX_applyOperator Q (nI cc, nI bc, nI dc, y_fault, nI mc, nI (fr_x y_kind fa ph (p + 1)), nI (σ (wk (w - 1))), nI (ex_e (tk_nd y_kind y_word) (fa p)), x_inHand, 2, 100, nI st, nI w, y_peak, nI sp, x_pendingCount, y_parent, y_fields, y_bound, x_tokenKind, x_tokenValue, x_globals, x_thingShown, x_thingClass, x_thingFields, x_thingToken, x_thingMaker, x_variables, x_homeOf, x_within, x_foundIn, x_baseFrame, x_frameToken, x_frameStage, x_frameLink, x_operands, y_heard, x_marked, x_pending) := fun Q h => by
    unfold wpX_applyOperator
    dsimp only
    rw [xr, nI_pred]
    refine nm_e ?_
    rw [xrc, xtk, e3, e31, c3, c31]
    refine ⟨vxr, nm_e ⟨vfa, ?_⟩⟩
    rw [fac, xkd, ek]
    exact nm_e ⟨v3, nm_e ⟨v31, nm_e h⟩⟩
  have goY : ∀ Q : SY → Prop, _ → wpY_next Q (nI cc, nI bc, y_fault, nI mc, nI w, y_peak, nI st, nI (p + 1), nI (bs (p + 1)), y_code, 1, 0, y_got, y_todos, y_marks, -10000000000, nI sp, y_parent, y_fields, y_bound, y_kind, y_word, y_size, y_sort, y_number, y_stands, y_keeps, y_cells, y_globals, y_within, y_foundIn, y_self, y_args, y_temps, y_param, y_live, y_work, y_under, y_at, y_in, y_phase, y_base, y_goal, y_operands, y_marked, y_todo, y_heard) := fun Q h => by
    refine yn_apply A F hp hpt ?_
    unfold wpY_apply
    dsimp only
    rw [pc, y1, y2, y4]
    refine ⟨vp, nm_e ⟨vfa, ?_⟩⟩
    rw [fac]
    refine nm_e ⟨vp, nm_e ⟨vp, yw_home A.2.2.1 (rn_cur A F).1 ⟨vb0, ?_⟩⟩⟩
    rw [bc0, nI_1, bc1]
    refine nm_e ⟨vb1, nm_e ⟨vfa, ?_⟩⟩
    rw [ek]
    exact nm_e h
  rw [xr] at goX ⊢
  have s0 : fr_s (y_kind (fa p)) = 0 := by unfold fr_s; rw [ek, if_neg (by decide)]
  have nd1 : tk_nd y_kind y_word (fa p) = 2 := by unfold tk_nd; rw [ek]; rfl
  have bse : bs (p + 1) = bs p + ph p := by rw [(F.1.2.2.2.2.1 p (by omega)).2.2.2.2.2.1, ce]
  have rop : ∀ j, j < ph p → ∀ k, vv_T (y_operands (bs p + j)) k → cl_r (gy_R y_globals y_operands (bs (p + 1)) y_work w) (gy_E y_sort y_keeps y_cells y_within y_self y_args y_temps y_param) k := fun j hj k hT => cl_root (Or.inr (Or.inl ⟨bs p + j, by omega, hT⟩))
  have v0 := (xO 0 (by omega)).2.1 (by omega) (by omega)
  rw [s0, Nat.add_zero, show bs p + (0 - 0) = bs p from rfl] at v0
  have v1 := (xO 1 (by omega)).2.1 (by omega) (by omega)
  rw [s0, show bs p + (1 - 0) = bs p + 1 from rfl] at v1
  refine go_cb (pr := 1) (xp := x_operands (fr_x y_kind fa ph p * 3 + 1)) A F hp (Or.inr (Or.inr (Or.inr ek))) nt v0 (rop 0 (by omega)) v1 (rop 1 (by omega)) n hB ht (fun Q h => goX Q ?_) (fun Q h => goY Q ?_)
  · exact br_f (by decide) (br_f (by decide) (br_f (by decide) (br_t rfl (br_t rfl h))))
  · iterate 12 refine br_f (by decide) ?_
    exact br_t rfl h
end
