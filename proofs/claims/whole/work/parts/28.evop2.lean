/-! the operators' first turn -/
section
variable {x_classCount x_bodyCount x_draftCount x_wrongPlace x_madeCount x_frameCount x_current x_next x_mode x_outcome x_stepCount x_atWork x_mostAtWork x_saidCount x_pendingCount : Int32} {x_inHand : Int64} {x_classParent x_classFields x_bound x_tokenKind x_tokenValue x_thingClass x_thingToken x_thingMaker x_homeOf x_within x_foundIn x_baseFrame x_frameToken x_frameStage x_frameLink x_marked x_pending : Nat → Int32} {x_globals x_thingShown x_thingFields x_variables x_operands x_saidValues : Nat → Int64}
variable {y_classes y_bodies y_fault y_made y_working y_peak y_steps y_depth y_waiting y_code y_running y_has y_todos y_marks y_spoken : Int32} {y_got y_shown : Int64} {y_parent y_fields y_bound y_kind y_word y_size y_sort y_number y_stands y_keeps y_within y_foundIn y_live y_work y_under y_at y_in y_phase y_base y_goal y_marked y_todo : Nat → Int32} {y_cells y_globals y_self y_args y_temps y_param y_operands y_heard : Nat → Int64}
variable {cc bc dc mc st sp d w np md B M : Nat} {T ST SA : Nat → Prop} {lv τ σ lev ho fa ph bs ow gg wk un rt : Nat → Nat}
theorem xr_open {Q : SX → Prop} {t fc : Nat} (ht : t < 416) (hf : fc < 385) (ok : tk_ok (x_tokenKind t) (x_tokenValue t)) (n0 : 0 < tk_need (x_tokenKind t) (x_tokenValue t)) (k12 : ¬ x_tokenKind t = 12) (k25 : ¬ x_tokenKind t = 25) (k11 : ¬ x_tokenKind t = 11)
    (hs : x_tokenKind t = 24 → (x_stepCount = 200 → Q (x_classCount, x_bodyCount, x_draftCount, x_wrongPlace, x_madeCount, nI fc, x_current, nI (t + 1), x_inHand, 1, 4, x_stepCount, x_atWork, x_mostAtWork, x_saidCount, x_pendingCount, x_classParent, x_classFields, x_bound, x_tokenKind, x_tokenValue, x_globals, x_thingShown, x_thingClass, x_thingFields, x_thingToken, x_thingMaker, x_variables, x_homeOf, x_within, x_foundIn, x_baseFrame, x_frameToken, x_frameStage, x_frameLink, x_operands, x_saidValues, x_marked, x_pending)) ∧ (¬ x_stepCount = 200 → Q (x_classCount, x_bodyCount, x_draftCount, x_wrongPlace, x_madeCount, nI (fc + 1), x_current, nI (t + 1), x_inHand, 0, x_outcome, x_stepCount + 1, x_atWork, x_mostAtWork, x_saidCount, x_pendingCount, x_classParent, x_classFields, x_bound, x_tokenKind, x_tokenValue, x_globals, x_thingShown, x_thingClass, x_thingFields, x_thingToken, x_thingMaker, x_variables, x_homeOf, x_within, x_foundIn, x_baseFrame, upd x_frameToken fc (nI t), upd x_frameStage fc 0, upd x_frameLink fc (-1), mk_c x_operands (fc * 3) 3 10000000000, x_saidValues, x_marked, x_pending)))
    (q : ¬ x_tokenKind t = 24 → Q (x_classCount, x_bodyCount, x_draftCount, x_wrongPlace, x_madeCount, nI (fc + 1), x_current, nI (t + 1), x_inHand, 0, x_outcome, x_stepCount, x_atWork, x_mostAtWork, x_saidCount, x_pendingCount, x_classParent, x_classFields, x_bound, x_tokenKind, x_tokenValue, x_globals, x_thingShown, x_thingClass, x_thingFields, x_thingToken, x_thingMaker, x_variables, x_homeOf, x_within, x_foundIn, x_baseFrame, upd x_frameToken fc (nI t), upd x_frameStage fc 0, upd x_frameLink fc (-1), mk_c x_operands (fc * 3) 3 10000000000, x_saidValues, x_marked, x_pending)) : wpX_readToken Q (x_classCount, x_bodyCount, x_draftCount, x_wrongPlace, x_madeCount, nI fc, x_current, nI t, x_inHand, x_mode, x_outcome, x_stepCount, x_atWork, x_mostAtWork, x_saidCount, x_pendingCount, x_classParent, x_classFields, x_bound, x_tokenKind, x_tokenValue, x_globals, x_thingShown, x_thingClass, x_thingFields, x_thingToken, x_thingMaker, x_variables, x_homeOf, x_within, x_foundIn, x_baseFrame, x_frameToken, x_frameStage, x_frameLink, x_operands, x_saidValues, x_marked, x_pending) := by
  have vt : vp_in (nI t) 416 := vp_in_nI ht (by decide)
  have l3 := tk_need_le ok
  unfold wpX_readToken
  dsimp only
  rw [nI_clamp (show t < 2 ^ 31 by omega)]
  refine ⟨vt, nm_e ⟨vt, nm_e (xw_needs ok ?_)⟩⟩
  refine br_f k12 (br_f k25 (br_f k11 (br_f (nI_nle n0 (by omega)) ?_)))
  unfold wpX_openOperator
  dsimp only
  by_cases z : x_tokenKind t = 24
  · obtain ⟨h1, h2⟩ := hs z
    refine br_t z ?_
    unfold wpX_takeStep
    dsimp only
    by_cases y : x_stepCount = 200
    · exact br_t y (br_t rfl (br_f k12 (nm_r (nI_1 t) (h1 y))))
    · exact br_f y (nm_e (br_f (by decide) (xw_push hf (br_f k12 (nm_r (nI_1 t) (h2 y))))))
  · exact br_f z (xw_push hf (br_f k12 (nm_r (nI_1 t) (q z))))
theorem xr_super {Q : SX → Prop} {t fc c h : Nat} (ht : t < 416) (hf : fc < 385) (ok : tk_ok (x_tokenKind t) (x_tokenValue t)) (k11 : x_tokenKind t = 11) (hc : c < 128) (hh : h < 128) (hm : x_homeOf c = nI h)
    (q : ∀ m : Int32, ((0 < tk_need (x_tokenKind t) (x_tokenValue t) ∧ m = 0) ∨ (tk_need (x_tokenKind t) (x_tokenValue t) = 0 ∧ m = 2)) → Q (x_classCount, x_bodyCount, x_draftCount, x_wrongPlace, x_madeCount, nI (fc + 1), nI c, nI (t + 1), x_inHand, m, x_outcome, x_stepCount, x_atWork, x_mostAtWork, x_saidCount, x_pendingCount, x_classParent, x_classFields, x_bound, x_tokenKind, x_tokenValue, x_globals, x_thingShown, x_thingClass, x_thingFields, x_thingToken, x_thingMaker, x_variables, x_homeOf, x_within, x_foundIn, x_baseFrame, upd x_frameToken fc (nI t), upd (upd x_frameStage fc 0) fc 1, upd x_frameLink fc (-1), vp_updL (mk_c x_operands (fc * 3) 3 10000000000) (fc * 3) (x_variables (h * 7)), x_saidValues, x_marked, x_pending)) : wpX_readToken Q (x_classCount, x_bodyCount, x_draftCount, x_wrongPlace, x_madeCount, nI fc, nI c, nI t, x_inHand, x_mode, x_outcome, x_stepCount, x_atWork, x_mostAtWork, x_saidCount, x_pendingCount, x_classParent, x_classFields, x_bound, x_tokenKind, x_tokenValue, x_globals, x_thingShown, x_thingClass, x_thingFields, x_thingToken, x_thingMaker, x_variables, x_homeOf, x_within, x_foundIn, x_baseFrame, x_frameToken, x_frameStage, x_frameLink, x_operands, x_saidValues, x_marked, x_pending) := by
  have vt : vp_in (nI t) 416 := vp_in_nI ht (by decide)
  have l3 := tk_need_le ok
  have k12 : ¬ x_tokenKind t = 12 := by rw [k11]; decide
  have e3 : nI fc * (3 : Int32) = nI (fc * 3) := pk_mul fc 3
  have e7 : nI h * (7 : Int32) + 0 = nI (h * 7) := by rw [show nI h * (7 : Int32) = nI (h * 7) from pk_mul h 7, Int32.add_zero]
  unfold wpX_readToken
  dsimp only
  rw [nI_clamp (show t < 2 ^ 31 by omega)]
  refine ⟨vt, nm_e ⟨vt, nm_e (xw_needs ok ?_)⟩⟩
  refine br_f k12 (br_f (by rw [k11]; decide) (br_t k11 ?_))
  unfold wpX_openSuper
  dsimp only
  refine xw_push hf ?_
  dsimp only
  unfold wpX_selfOfHome
  dsimp only
  rw [nI_clamp (show c < 2 ^ 31 by omega), hm, e7, nI_clamp (show h * 7 < 2 ^ 31 by omega), e3, nI_clamp (show fc * 3 < 2 ^ 31 by omega), nI_clamp (show fc < 2 ^ 31 by omega)]
  refine ⟨vp_in_nI hc (by decide), vp_in_nI (by omega) (by decide), vp_in_nI (by omega) (by decide), nm_e ⟨vp_in_nI hf (by decide), nm_e ?_⟩⟩
  rcases Nat.eq_zero_or_pos (tk_need (x_tokenKind t) (x_tokenValue t)) with z | z
  · exact br_t (by rw [z]; rfl) (br_f k12 (nm_r (nI_1 t) (q 2 (Or.inr ⟨z, rfl⟩))))
  · exact br_f (nI_ne0 z (by omega)) (br_f k12 (nm_r (nI_1 t) (q 0 (Or.inl ⟨z, rfl⟩))))
theorem ev_op (A : rn_A cc bc dc mc T ST SA lv τ σ lev ho x_tokenKind x_tokenValue y_kind y_word y_size y_parent y_fields y_bound x_globals y_globals x_thingShown x_thingClass x_thingFields x_thingToken x_thingMaker x_variables x_homeOf x_within x_foundIn y_sort y_number y_stands y_keeps y_cells y_within y_foundIn y_self y_args y_temps y_param) (F : rn_F T ST SA lv σ lev ho y_kind y_word fa ph bs ow gg wk un rt d w y_sort y_number x_frameToken x_frameStage x_frameLink x_operands x_baseFrame y_operands y_self y_at y_in y_phase y_base y_goal y_work y_under y_live) {t : Nat} (tt : T t) (lt : fr_lt y_kind (tk_nd y_kind y_word) fa ph rt d t (w - 1)) (n : rn_n B (M + 1) mc st sp (rn_mu (tk_nd y_kind y_word) fa un rt st d w t 0)) {kn : Nat} (hk : fr_op kn) (ek : y_kind t = nI kn) :
    rn_Ev B M (nI cc, nI bc, nI dc, y_fault, nI mc, nI (fr_x y_kind fa ph d), nI (σ (wk (w - 1))), nI t, x_inHand, 0, 100, nI st, nI w, y_peak, nI sp, x_pendingCount, y_parent, y_fields, y_bound, x_tokenKind, x_tokenValue, x_globals, x_thingShown, x_thingClass, x_thingFields, x_thingToken, x_thingMaker, x_variables, x_homeOf, x_within, x_foundIn, x_baseFrame, x_frameToken, x_frameStage, x_frameLink, x_operands, y_heard, x_marked, x_pending) (nI cc, nI bc, y_fault, nI mc, nI w, y_peak, nI st, nI d, nI (bs d), y_code, 1, 0, y_got, y_todos, y_marks, -10000000000, nI sp, y_parent, y_fields, y_bound, y_kind, y_word, y_size, y_sort, y_number, y_stands, y_keeps, y_cells, y_globals, y_within, y_foundIn, y_self, y_args, y_temps, y_param, y_live, y_work, y_under, y_at, y_in, y_phase, y_base, y_goal, y_operands, y_marked, y_todo, y_heard) t (wk (w - 1)) := by
  obtain ⟨c1, c2, c3, c4, c5, c6, c7, _, v0, v1, v2⟩ := rn_cur A F
  obtain ⟨b12, t1, t2, _⟩ := A.1.2.2.1
  obtain ⟨l1, x1, x2, ok, fit⟩ := t1 t tt
  obtain ⟨_, _, d3, _⟩ := rn_le A F tt lt
  have hf := rn_frm A F tt lt
  have kb := fr_opb hk
  have ne : ∀ b, b < 30 → kn ≠ b → ¬ y_kind t = nI b := fun b hb h z => h ((nI_eq (by omega) (by omega)).mp (ek.symm.trans z))
  have k12 : ¬ y_kind t = 12 := ne 12 (by decide) (fun z => by subst z; rcases hk with h | h | h | h | h | h | h | h | h | h | h | h | h | h | h | h | h | h | h <;> omega)
  have k25 : ¬ y_kind t = 25 := ne 25 (by decide) (fun z => by subst z; rcases hk with h | h | h | h | h | h | h | h | h | h | h | h | h | h | h | h | h | h | h <;> omega)
  obtain ⟨n1, n2, n3, n4⟩ := n
  have vt : vp_in (nI t) 416 := vp_in_nI (by omega) (by decide)
  have tc : (nI t).toNatClampNeg = t := nI_clamp (by omega)
  have htk : upd x_frameToken (fr_x y_kind fa ph d) (nI t) (fr_x y_kind fa ph d) = nI t ∧ ∀ j, j ≠ fr_x y_kind fa ph d → upd x_frameToken (fr_x y_kind fa ph d) (nI t) j = x_frameToken j := ⟨pk_us, fun j hj => pk_un hj⟩
  have hlk : ∀ j, j ≠ fr_x y_kind fa ph d → upd x_frameLink (fr_x y_kind fa ph d) (-1) j = x_frameLink j := fun j hj => pk_un hj
  have opl : ∀ j, j < fr_x y_kind fa ph d * 3 → mk_c x_operands (fr_x y_kind fa ph d * 3) 3 10000000000 j = x_operands j := fun j hj => mk_co (Or.inl hj)
  by_cases k11 : kn = 11
  · subst k11
    have k11 : y_kind t = 11 := ek
    have s1 : fr_s (y_kind t) = 1 := by unfold fr_s; rw [if_pos k11]
    have nn : tk_need (x_tokenKind t) (x_tokenValue t) = tk_nd y_kind y_word t := by rw [x1, x2]; rfl
    rcases Nat.eq_zero_or_pos (tk_nd y_kind y_word t) with z | z
    · refine ⟨(nI cc, nI bc, nI dc, y_fault, nI mc, nI (fr_x y_kind fa ph d + 1), nI (σ (wk (w - 1))), nI (t + 1), x_inHand, 2, 100, nI st, nI w, y_peak, nI sp, x_pendingCount, y_parent, y_fields, y_bound, x_tokenKind, x_tokenValue, x_globals, x_thingShown, x_thingClass, x_thingFields, x_thingToken, x_thingMaker, x_variables, x_homeOf, x_within, x_foundIn, x_baseFrame, upd x_frameToken (fr_x y_kind fa ph d) (nI t), upd (upd x_frameStage (fr_x y_kind fa ph d) 0) (fr_x y_kind fa ph d) 1, upd x_frameLink (fr_x y_kind fa ph d) (-1), vp_updL (mk_c x_operands (fr_x y_kind fa ph d * 3) 3 10000000000) (fr_x y_kind fa ph d * 3) (x_variables (σ (ho (wk (w - 1))) * 7)), y_heard, x_marked, x_pending), (nI cc, nI bc, y_fault, nI mc, nI w, y_peak, nI st, nI (d + 1), nI (bs d), y_code, 1, 0, y_got, y_todos, y_marks, -10000000000, nI sp, y_parent, y_fields, y_bound, y_kind, y_word, y_size, y_sort, y_number, y_stands, y_keeps, y_cells, y_globals, y_within, y_foundIn, y_self, y_args, y_temps, y_param, y_live, y_work, y_under, upd y_at d (nI t), upd y_in d (nI (wk (w - 1))), upd y_phase d 0, upd y_base d (nI (bs d)), y_goal, y_operands, y_marked, y_todo, y_heard), fun Q q => xr_super (by omega) hf (by rw [x1, x2]; exact ok) (by rw [x1]; exact k11) c3 c6 c7 (fun m hm => ?_), fun Q q => ev_368 A F (by omega) hk ek ?_, Or.inr (ev_N A F tt lt hk ek htk (xsg' := upd (upd x_frameStage (fr_x y_kind fa ph d) 0) (fr_x y_kind fa ph d) 1) ⟨by rw [s1]; exact pk_us, fun j hj => by rw [pk_un hj, pk_un hj]⟩ hlk (xop' := vp_updL (mk_c x_operands (fr_x y_kind fa ph d * 3) 3 10000000000) (fr_x y_kind fa ph d * 3) (x_variables (σ (ho (wk (w - 1))) * 7))) ⟨fun j hj => by rw [pk_uLn (by omega)]; exact opl j hj, fun i hi => ?_⟩ n1 n2 n3 n4 (Or.inr ⟨z, rfl⟩))⟩
      · rw [nn] at hm
        rcases hm with ⟨a, _⟩ | ⟨_, a⟩
        · omega
        · subst a; exact q
      · unfold wY_evaluate_368
        rw [tc]
        exact ⟨vt, br_f (by rw [k11]; decide) (ev_387 (by omega) q)⟩
      · rw [s1]
        refine ⟨fun h => ?_, fun _ h => by omega, fun h _ => ?_⟩
        · obtain rfl : i = 0 := by omega
          rw [Nat.add_zero, pk_uLs]; exact v0
        · rw [pk_uLn (by omega)]; exact mk_ci (by omega) (by omega)
    · refine ⟨(nI cc, nI bc, nI dc, y_fault, nI mc, nI (fr_x y_kind fa ph d + 1), nI (σ (wk (w - 1))), nI (t + 1), x_inHand, 0, 100, nI st, nI w, y_peak, nI sp, x_pendingCount, y_parent, y_fields, y_bound, x_tokenKind, x_tokenValue, x_globals, x_thingShown, x_thingClass, x_thingFields, x_thingToken, x_thingMaker, x_variables, x_homeOf, x_within, x_foundIn, x_baseFrame, upd x_frameToken (fr_x y_kind fa ph d) (nI t), upd (upd x_frameStage (fr_x y_kind fa ph d) 0) (fr_x y_kind fa ph d) 1, upd x_frameLink (fr_x y_kind fa ph d) (-1), vp_updL (mk_c x_operands (fr_x y_kind fa ph d * 3) 3 10000000000) (fr_x y_kind fa ph d * 3) (x_variables (σ (ho (wk (w - 1))) * 7)), y_heard, x_marked, x_pending), (nI cc, nI bc, y_fault, nI mc, nI w, y_peak, nI st, nI (d + 1), nI (bs d), y_code, 1, 0, y_got, y_todos, y_marks, -10000000000, nI sp, y_parent, y_fields, y_bound, y_kind, y_word, y_size, y_sort, y_number, y_stands, y_keeps, y_cells, y_globals, y_within, y_foundIn, y_self, y_args, y_temps, y_param, y_live, y_work, y_under, upd y_at d (nI t), upd y_in d (nI (wk (w - 1))), upd y_phase d 0, upd y_base d (nI (bs d)), y_goal, y_operands, y_marked, y_todo, y_heard), fun Q q => xr_super (by omega) hf (by rw [x1, x2]; exact ok) (by rw [x1]; exact k11) c3 c6 c7 (fun m hm => ?_), fun Q q => ev_368 A F (by omega) hk ek ?_, Or.inr (ev_N A F tt lt hk ek htk (xsg' := upd (upd x_frameStage (fr_x y_kind fa ph d) 0) (fr_x y_kind fa ph d) 1) ⟨by rw [s1]; exact pk_us, fun j hj => by rw [pk_un hj, pk_un hj]⟩ hlk (xop' := vp_updL (mk_c x_operands (fr_x y_kind fa ph d * 3) 3 10000000000) (fr_x y_kind fa ph d * 3) (x_variables (σ (ho (wk (w - 1))) * 7))) ⟨fun j hj => by rw [pk_uLn (by omega)]; exact opl j hj, fun i hi => ?_⟩ n1 n2 n3 n4 (Or.inl ⟨z, rfl⟩))⟩
      · rw [nn] at hm
        rcases hm with ⟨_, a⟩ | ⟨a, _⟩
        · subst a; exact q
        · omega
      · unfold wY_evaluate_368
        rw [tc]
        exact ⟨vt, br_f (by rw [k11]; decide) (ev_387 (by omega) q)⟩
      · rw [s1]
        refine ⟨fun h => ?_, fun _ h => by omega, fun h _ => ?_⟩
        · obtain rfl : i = 0 := by omega
          rw [Nat.add_zero, pk_uLs]; exact v0
        · rw [pk_uLn (by omega)]; exact mk_ci (by omega) (by omega)
  · have k11' : ¬ y_kind t = 11 := ne 11 (by decide) k11
    have s0 : fr_s (y_kind t) = 0 := by unfold fr_s; rw [if_neg k11']
    have nz : 0 < tk_nd y_kind y_word t := by
      unfold tk_nd
      rw [ek]
      rcases hk with rfl | rfl | rfl | rfl | rfl | rfl | rfl | rfl | rfl | rfl | rfl | rfl | rfl | rfl | rfl | rfl | rfl | rfl | rfl
      all_goals first
        | exact absurd rfl k11
        | exact Nat.lt_of_lt_of_le Nat.zero_lt_one (Nat.le_add_right 1 _)
        | exact (by decide : 0 < 1)
        | exact (by decide : 0 < 2)
        | exact (by decide : 0 < 3)
    have n0 : 0 < tk_need (x_tokenKind t) (x_tokenValue t) := by rw [x1, x2]; exact nz
    have hsg : upd x_frameStage (fr_x y_kind fa ph d) 0 (fr_x y_kind fa ph d) = nI (fr_s (y_kind t)) ∧ ∀ j, j ≠ fr_x y_kind fa ph d → upd x_frameStage (fr_x y_kind fa ph d) 0 j = x_frameStage j := ⟨by rw [s0]; exact pk_us, fun j hj => pk_un hj⟩
    have hop : (∀ j, j < fr_x y_kind fa ph d * 3 → mk_c x_operands (fr_x y_kind fa ph d * 3) 3 10000000000 j = x_operands j) ∧ fr_O ST (hp_s y_sort y_number) (mk_c x_operands (fr_x y_kind fa ph d * 3) 3 10000000000) y_operands (y_self (ho (wk (w - 1)))) (y_kind t) (fr_x y_kind fa ph d) (bs d) 0 := ⟨opl, fun i hi => by
      rw [s0]
      exact ⟨fun h => by omega, fun _ h => by omega, fun _ _ => mk_ci (by omega) (by omega)⟩⟩
    by_cases k24 : y_kind t = 24
    · by_cases s200 : st = 200
      · subst s200
        refine ⟨_, (nI cc, nI bc, y_fault, nI mc, nI w, y_peak, nI 200, nI d, nI (bs d), 4, 0, 0, y_got, y_todos, y_marks, -10000000000, nI sp, y_parent, y_fields, y_bound, y_kind, y_word, y_size, y_sort, y_number, y_stands, y_keeps, y_cells, y_globals, y_within, y_foundIn, y_self, y_args, y_temps, y_param, y_live, y_work, y_under, y_at, y_in, y_phase, y_base, y_goal, y_operands, y_marked, y_todo, y_heard), fun Q q => xr_open (by omega) hf (by rw [x1, x2]; exact ok) n0 (by rw [x1]; exact k12) (by rw [x1]; exact k25) (by rw [x1]; exact k11') (fun _ => ⟨fun _ => q, fun z => absurd rfl z⟩) (fun z => absurd (by rw [x1]; exact k24) z), fun Q q => ev_368 A F (by omega) hk ek ?_, Or.inl (rn_stop A F (by decide) (by decide) (by omega))⟩
        unfold wY_evaluate_368
        rw [tc]
        refine ⟨vt, br_t k24 ?_⟩
        unfold wpY_step
        exact br_t rfl ⟨rfl, br_t rfl q⟩
      · have s1 : ¬ nI st = 200 := fun z => s200 ((nI_eq (b := 200) (by omega) (by decide)).mp z)
        have mst : rn_mu (tk_nd y_kind y_word) fa un rt (st + 1) d w t 0 ≤ rn_mu (tk_nd y_kind y_word) fa un rt st d w t 0 := by unfold rn_mu; omega
        refine ⟨(nI cc, nI bc, nI dc, y_fault, nI mc, nI (fr_x y_kind fa ph d + 1), nI (σ (wk (w - 1))), nI (t + 1), x_inHand, 0, 100, nI (st + 1), nI w, y_peak, nI sp, x_pendingCount, y_parent, y_fields, y_bound, x_tokenKind, x_tokenValue, x_globals, x_thingShown, x_thingClass, x_thingFields, x_thingToken, x_thingMaker, x_variables, x_homeOf, x_within, x_foundIn, x_baseFrame, upd x_frameToken (fr_x y_kind fa ph d) (nI t), upd x_frameStage (fr_x y_kind fa ph d) 0, upd x_frameLink (fr_x y_kind fa ph d) (-1), mk_c x_operands (fr_x y_kind fa ph d * 3) 3 10000000000, y_heard, x_marked, x_pending), (nI cc, nI bc, y_fault, nI mc, nI w, y_peak, nI (st + 1), nI (d + 1), nI (bs d), y_code, 1, 0, y_got, y_todos, y_marks, -10000000000, nI sp, y_parent, y_fields, y_bound, y_kind, y_word, y_size, y_sort, y_number, y_stands, y_keeps, y_cells, y_globals, y_within, y_foundIn, y_self, y_args, y_temps, y_param, y_live, y_work, y_under, upd y_at d (nI t), upd y_in d (nI (wk (w - 1))), upd y_phase d 0, upd y_base d (nI (bs d)), y_goal, y_operands, y_marked, y_todo, y_heard), fun Q q => xr_open (by omega) hf (by rw [x1, x2]; exact ok) n0 (by rw [x1]; exact k12) (by rw [x1]; exact k25) (by rw [x1]; exact k11') (fun _ => ⟨fun z => absurd z s1, fun _ => ?_⟩) (fun z => absurd (by rw [x1]; exact k24) z), fun Q q => ev_368 A F (by omega) hk ek ?_, Or.inr (ev_N A F tt lt hk ek htk hsg hlk hop (st' := st + 1) (by omega) (by omega) (by omega) (by omega) (Or.inl ⟨nz, rfl⟩))⟩
        · rw [nI_1]; exact q
        · unfold wY_evaluate_368
          rw [tc]
          refine ⟨vt, br_t k24 ?_⟩
          unfold wpY_step
          exact br_f s1 (nm_r (nI_1 st) ⟨rfl, br_f (by decide) (ev_387 (st := st + 1) (by omega) q)⟩)
    · refine ⟨(nI cc, nI bc, nI dc, y_fault, nI mc, nI (fr_x y_kind fa ph d + 1), nI (σ (wk (w - 1))), nI (t + 1), x_inHand, 0, 100, nI st, nI w, y_peak, nI sp, x_pendingCount, y_parent, y_fields, y_bound, x_tokenKind, x_tokenValue, x_globals, x_thingShown, x_thingClass, x_thingFields, x_thingToken, x_thingMaker, x_variables, x_homeOf, x_within, x_foundIn, x_baseFrame, upd x_frameToken (fr_x y_kind fa ph d) (nI t), upd x_frameStage (fr_x y_kind fa ph d) 0, upd x_frameLink (fr_x y_kind fa ph d) (-1), mk_c x_operands (fr_x y_kind fa ph d * 3) 3 10000000000, y_heard, x_marked, x_pending), (nI cc, nI bc, y_fault, nI mc, nI w, y_peak, nI st, nI (d + 1), nI (bs d), y_code, 1, 0, y_got, y_todos, y_marks, -10000000000, nI sp, y_parent, y_fields, y_bound, y_kind, y_word, y_size, y_sort, y_number, y_stands, y_keeps, y_cells, y_globals, y_within, y_foundIn, y_self, y_args, y_temps, y_param, y_live, y_work, y_under, upd y_at d (nI t), upd y_in d (nI (wk (w - 1))), upd y_phase d 0, upd y_base d (nI (bs d)), y_goal, y_operands, y_marked, y_todo, y_heard), fun Q q => xr_open (by omega) hf (by rw [x1, x2]; exact ok) n0 (by rw [x1]; exact k12) (by rw [x1]; exact k25) (by rw [x1]; exact k11') (fun z => absurd (by rw [← x1]; exact z) k24) (fun _ => q), fun Q q => ev_368 A F (by omega) hk ek ?_, Or.inr (ev_N A F tt lt hk ek htk hsg hlk hop n1 n2 n3 n4 (Or.inl ⟨nz, rfl⟩))⟩
      unfold wY_evaluate_368
      rw [tc]
      exact ⟨vt, br_f k24 (ev_387 (by omega) q)⟩
end
