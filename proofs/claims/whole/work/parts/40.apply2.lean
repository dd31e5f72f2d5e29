/-! an operator is applied: SAY, CLASS, SAME, ADD, SUB, MUL, LESS -/
section
variable {x_classCount x_bodyCount x_draftCount x_wrongPlace x_madeCount x_frameCount x_current x_next x_mode x_outcome x_stepCount x_atWork x_mostAtWork x_saidCount x_pendingCount : Int32} {x_inHand : Int64} {x_classParent x_classFields x_bound x_tokenKind x_tokenValue x_thingClass x_thingToken x_thingMaker x_homeOf x_within x_foundIn x_baseFrame x_frameToken x_frameStage x_frameLink x_marked x_pending : Nat → Int32} {x_globals x_thingShown x_thingFields x_variables x_operands x_saidValues : Nat → Int64}
variable {y_classes y_bodies y_fault y_made y_working y_peak y_steps y_depth y_waiting y_code y_running y_has y_todos y_marks y_spoken : Int32} {y_got y_shown : Int64} {y_parent y_fields y_bound y_kind y_word y_size y_sort y_number y_stands y_keeps y_within y_foundIn y_live y_work y_under y_at y_in y_phase y_base y_goal y_marked y_todo : Nat → Int32} {y_cells y_globals y_self y_args y_temps y_param y_operands y_heard : Nat → Int64}
variable {cc bc dc mc st sp d w np md B M : Nat} {T ST SA : Nat → Prop} {lv τ σ lev ho fa ph bs ow gg wk un rt : Nat → Nat}
theorem hp_veq (U : hp_U mc x_thingShown) (H : hp_R cc mc T y_kind lv ST SA τ σ lev ho x_thingShown x_thingClass x_thingFields x_thingToken x_thingMaker x_variables x_homeOf x_within x_foundIn y_sort y_number y_stands y_keeps y_cells y_within y_foundIn y_self y_args y_temps y_param) {x1 y1 x2 y2 : Int64} (h1 : hp_v ST (hp_s y_sort y_number) x1 y1) (h2 : hp_v ST (hp_s y_sort y_number) x2 y2) : x1 = x2 ↔ y1 = y2 := by
  constructor
  · intro e
    obtain ⟨a, a1, rfl, rfl⟩ := h1
    obtain ⟨b, b1, rfl, rfl⟩ := h2
    have thing : ∀ k, ST k → (20000000000 : Int64) ≤ hp_s y_sort y_number k := fun k hk => ((hp_shT U H hk).mpr rfl).2.1
    rcases a with i | _ | k <;> rcases b with j | _ | l
    · have e : i.toInt64 = j.toInt64 := e
      have := congrArg Int64.toInt32 e
      rw [Int32.toInt32_toInt64, Int32.toInt32_toInt64] at this
      rw [this]
    · exact absurd (show (10000000000 : Int64) ≤ i.toInt64 by rw [show i.toInt64 = (10000000000 : Int64) from e]; decide) (hp_int1 i)
    · exact absurd (show (20000000000 : Int64) ≤ i.toInt64 by rw [show i.toInt64 = hp_s y_sort y_number l from e]; exact thing l (b1 l rfl).2) (hp_int i)
    · exact absurd (show (10000000000 : Int64) ≤ j.toInt64 by rw [← show (10000000000 : Int64) = j.toInt64 from e]; decide) (hp_int1 j)
    · rfl
    · have := thing l (b1 l rfl).2
      rw [← show (10000000000 : Int64) = hp_s y_sort y_number l from e] at this
      exact absurd this (by decide)
    · exact absurd (show (20000000000 : Int64) ≤ j.toInt64 by rw [← show hp_s y_sort y_number k = j.toInt64 from e]; exact thing k (a1 k rfl).2) (hp_int j)
    · have := thing k (a1 k rfl).2
      rw [show hp_s y_sort y_number k = (10000000000 : Int64) from e] at this
      exact absurd this (by decide)
    · have e : hp_s y_sort y_number k = hp_s y_sort y_number l := e
      have sk := (a1 k rfl).2
      have sl := (b1 l rfl).2
      have q := (hp_shT U H sk (t := τ k)).mpr rfl
      rw [e] at q
      rw [H.2.2.2 k l sk sl ((hp_shT U H sl).mp q)]
  · intro e
    obtain ⟨a, a1, rfl, rfl⟩ := h1
    obtain ⟨b, b1, rfl, rfl⟩ := h2
    rw [vv_inj (fun k z => (a1 k z).1) (fun k z => (b1 k z).1) e]
theorem hp_vint (i : Int32) : hp_v ST (hp_s y_sort y_number) i.toInt64 (lN i.toBitVec.toNat) := ⟨.inl i, fun k e => (by cases e), rfl, rfl⟩
theorem go_say {p tm : Nat} (A : rn_A cc bc dc mc T ST SA lv τ σ lev ho x_tokenKind x_tokenValue y_kind y_word y_size y_parent y_fields y_bound x_globals y_globals x_thingShown x_thingClass x_thingFields x_thingToken x_thingMaker x_variables x_homeOf x_within x_foundIn y_sort y_number y_stands y_keeps y_cells y_within y_foundIn y_self y_args y_temps y_param) (F : rn_F T ST SA lv σ lev ho y_kind y_word fa ph bs ow gg wk un rt (p + 1) w y_sort y_number x_frameToken x_frameStage x_frameLink x_operands x_baseFrame y_operands y_self y_at y_in y_phase y_base y_goal y_work y_under y_live) (ek : y_kind (fa p) = 26) (hp : ph p ≠ 100) (hph : ph p = tk_nd y_kind y_word (fa p)) (n : rn_n B (M + 1) mc st sp (rn_mu (tk_nd y_kind y_word) fa un rt st (p + 1) w (ex_e (tk_nd y_kind y_word) (fa p)) 1)) (ht : tm + 2 ≤ 1000000) :
    rn_Go B M tm (nI cc, nI bc, nI dc, y_fault, nI mc, nI (fr_x y_kind fa ph (p + 1)), nI (σ (wk (w - 1))), nI (ex_e (tk_nd y_kind y_word) (fa p)), x_inHand, 2, 100, nI st, nI w, y_peak, nI sp, x_pendingCount, y_parent, y_fields, y_bound, x_tokenKind, x_tokenValue, x_globals, x_thingShown, x_thingClass, x_thingFields, x_thingToken, x_thingMaker, x_variables, x_homeOf, x_within, x_foundIn, x_baseFrame, x_frameToken, x_frameStage, x_frameLink, x_operands, y_heard, x_marked, x_pending) (nI cc, nI bc, y_fault, nI mc, nI w, y_peak, nI st, nI (p + 1), nI (bs (p + 1)), y_code, 1, 0, y_got, y_todos, y_marks, -10000000000, nI sp, y_parent, y_fields, y_bound, y_kind, y_word, y_size, y_sort, y_number, y_stands, y_keeps, y_cells, y_globals, y_within, y_foundIn, y_self, y_args, y_temps, y_param, y_live, y_work, y_under, y_at, y_in, y_phase, y_base, y_goal, y_operands, y_marked, y_todo, y_heard) := by
  have kg : fr_gen (y_kind (fa p)) := by unfold fr_gen; rw [ek]; decide
  have nt : ¬ fr_tail (y_kind (fa p)) (ph p) := fun z => by
    rcases z with ⟨z, _⟩ | ⟨z, _⟩ <;> (rw [ek] at z; exact absurd z (by decide))
  obtain ⟨f1, eo, f5, p3, p5, b3, y1, y2, y3, y4, a3, n3, p383⟩ := rn_top A F hp
  have hxr := rn_xr A F hp
  have TF := rn_TF A
  have pc : (nI p).toNatClampNeg = p := nI_clamp (by omega)
  have vp : vp_in (nI p) 500 := vp_in_nI p5 (by decide)
  have fac : (nI (fa p)).toNatClampNeg = fa p := nI_clamp (by omega)
  have vfa : vp_in (nI (fa p)) 416 := vp_in_nI (by omega) (by decide)
  have xr : fr_x y_kind fa ph (p + 1) = fr_x y_kind fa ph p + 1 := by
    show _ + ct_b _ = _
    rw [ct_bt nt]
  have xrc : (nI (fr_x y_kind fa ph p)).toNatClampNeg = fr_x y_kind fa ph p := nI_clamp (by omega)
  have vxr : vp_in (nI (fr_x y_kind fa ph p)) 385 := vp_in_nI hxr (by decide)
  have e3 : nI (fr_x y_kind fa ph p) * (3 : Int32) = nI (fr_x y_kind fa ph p * 3) := pk_mul _ 3
  have e31 : nI (fr_x y_kind fa ph p * 3) + 1 = nI (fr_x y_kind fa ph p * 3 + 1) := nI_1 _
  have c3 : (nI (fr_x y_kind fa ph p * 3)).toNatClampNeg = fr_x y_kind fa ph p * 3 := nI_clamp (by omega)
  have c31 : (nI (fr_x y_kind fa ph p * 3 + 1)).toNatClampNeg = fr_x y_kind fa ph p * 3 + 1 := nI_clamp (by omega)
  have v3 : vp_in (nI (fr_x y_kind fa ph p * 3)) 1155 := vp_in_nI (by omega) (by decide)
  have v31 : vp_in (nI (fr_x y_kind fa ph p * 3 + 1)) 1155 := vp_in_nI (by omega) (by decide)
  have bc0 : (nI (bs p)).toNatClampNeg = bs p := nI_clamp (by omega)
  have bc1 : (nI (bs p + 1)).toNatClampNeg = bs p + 1 := nI_clamp (by omega)
  have vb0 : vp_in (nI (bs p)) 500 := vp_in_nI (by omega) (by decide)
  have vb1 : vp_in (nI (bs p + 1)) 500 := vp_in_nI (by omega) (by decide)
  obtain ⟨xtk, xsg, xlk, xO⟩ := (F.2.2.1.2 p (by omega) nt).2 hp
  have xkd : x_tokenKind (fa p) = y_kind (fa p) := (A.1.2.2.1.2.1 _ f1).2.1
  have xvl : x_tokenValue (fa p) = y_word (fa p) := (A.1.2.2.1.2.1 _ f1).2.2.1
  obtain ⟨ce, pe⟩ := fr_genc kg hp
  rw [ce] at xO
  have hpt : fr_pt (y_kind (fa p)) (ph p) = tk_nd y_kind y_word (fa p) := by rw [pe]; exact hph
  have enp : ex_pt (tk_nd y_kind y_word) (fa p) (ph p) = ex_e (tk_nd y_kind y_word) (fa p) := by rw [hph]; exact (fr_en TF f1).2.2
  have goX : ∀ Q : SX → Prop, _ → wpX_applyOperator Q (nI cc, nI bc, nI dc, y_fault, nI mc, nI (fr_x y_kind fa ph (p + 1)), nI (σ (wk (w - 1))), nI (ex_e (tk_nd y_kind y_word) (fa p)), x_inHand, 2, 100, nI st, nI w, y_peak, nI sp, x_pendingCount, y_parent, y_fields, y_bound, x_tokenKind, x_tokenValue, x_globals, x_thingShown, x_thingClass, x_thingFields, x_thingToken, x_thingMaker, x_variables, x_homeOf, x_within, x_foundIn, x_baseFrame, x_frameToken, x_frameStage, x_frameLink, x_operands, y_heard, x_marked, x_pending) := fun Q h => by
    unfold wpX_applyOperator
    dsimp only
    rw [xr, nI_pred]
    refine nm_e ?_
    rw [xrc, xtk, e3, e31, c3, c31]
    refine ⟨vxr, nm_e ⟨vfa, ?_⟩⟩
    rw [fac, xkd, ek]
    exact nm_e ⟨v3, nm_e ⟨v31, nm_e h⟩⟩
  have goY : ∀ Q : SY → Prop, _ → wpY_next Q (nI cc, nI bc, y_fault, nI mc, nI w, y_peak, nI st, nI (p + 1), nI (bs (p + 1)), y_code, 1, 0, y_got, y_todos, y_marks, -10000000000, nI sp, y_parent, y_fields, y_bound, y_kind, y_word, y_size, y_sort, y_number, y_stands, y_keeps, y_cells, y_globals, y_within, y_foundIn, y_self, y_args, y_temps, y_param, y_live, y_work, y_under, y_at, y_in, y_phase, y_base, y_goal, y_operands, y_marked, y_todo, y_heard) := fun Q h => by
    refine yn_apply A F hp hpt ?_
    unfold wpY_apply
    dsimp only
    rw [pc, y1, y2, y4]
    refine ⟨vp, nm_e ⟨vfa, ?_⟩⟩
    rw [fac]
    refine nm_e ⟨vp, nm_e ⟨vp, yw_home A.2.2.1 (rn_cur A F).1 ⟨vb0, ?_⟩⟩⟩
    rw [bc0, nI_1, bc1]
    refine nm_e ⟨vb1, nm_e ⟨vfa, ?_⟩⟩
    rw [ek]
    exact nm_e h
  have s0 : fr_s (y_kind (fa p)) = 0 := by unfold fr_s; rw [ek, if_neg (by decide)]
  have nd1 : tk_nd y_kind y_word (fa p) = 1 := by unfold tk_nd; rw [ek]; rfl
  have v0 := (xO 0 (by omega)).2.1 (by omega) (by omega)
  rw [s0, Nat.add_zero, show bs p + (0 - 0) = bs p from rfl] at v0
  have mcl := A.2.2.2.1.1
  have nn := n
  obtain ⟨n1, n2, n3', n4⟩ := mu_fin (Nat.le_refl _) (by omega) n
  have n2' : sp + 1 < 2 ^ 30 - (rn_mu (tk_nd y_kind y_word) fa un rt st p w (ex_e (tk_nd y_kind y_word) (fa p)) 2) := by
    have := nn.2.1
    unfold rn_mu at this ⊢
    omega
  by_cases z : 20 ≤ sp
  · refine ⟨(nI cc, nI bc, nI dc, y_fault, nI mc, nI (fr_x y_kind fa ph p), nI (σ (wk (w - 1))), nI (ex_e (tk_nd y_kind y_word) (fa p)), x_operands (fr_x y_kind fa ph p * 3), 1, 100, nI st, nI w, y_peak, nI (sp + 1), x_pendingCount, y_parent, y_fields, y_bound, x_tokenKind, x_tokenValue, x_globals, x_thingShown, x_thingClass, x_thingFields, x_thingToken, x_thingMaker, x_variables, x_homeOf, x_within, x_foundIn, x_baseFrame, x_frameToken, x_frameStage, x_frameLink, x_operands, y_heard, x_marked, x_pending), (nI cc, nI bc, y_fault, nI mc, nI w, y_peak, nI st, nI p, nI (bs p), y_code, 1, 1, y_operands (bs p), y_todos, y_marks, -10000000000, nI (sp + 1), y_parent, y_fields, y_bound, y_kind, y_word, y_size, y_sort, y_number, y_stands, y_keeps, y_cells, y_globals, y_within, y_foundIn, y_self, y_args, y_temps, y_param, y_live, y_work, y_under, y_at, y_in, y_phase, y_base, y_goal, y_operands, y_marked, y_todo, y_heard), tm + 1, by omega, fun PX k => xt_apply (by omega) (fun Q q => goX Q (br_f (by decide) (br_f (by decide) (br_f (by decide) (br_f (by decide) (nm_e (br_f (by decide) (br_f (by decide) (br_f (by decide) (br_t (by decide) ?_)))))))))) k, fun PY m k => YL_mono (yt_next (fun Q q => goY Q ?_) k) (by omega), Or.inr (fin_H (sp := sp + 1) A F hp (fun q hq => rfl) v0 n3' n1 n2' n4)⟩
    · unfold wX_applyOperator_222 wpX_effect
      dsimp only
      refine ⟨vfa, br_f (by decide) (br_f (by decide) (br_f (by decide) (br_t rfl ?_)))⟩
      unfold wpX_say
      exact br_t (nI_le (a := 20) z (by omega)) (nm_r (nI_1 sp) q)
    · iterate 23 refine br_f (by decide) ?_
      refine br_t rfl (br_t (nI_le (a := 20) z (by omega)) ?_)
      unfold wY_apply_452
      exact nm_r (nI_1 sp) (yw_finish p5 y4 q)
  · refine ⟨(nI cc, nI bc, nI dc, y_fault, nI mc, nI (fr_x y_kind fa ph p), nI (σ (wk (w - 1))), nI (ex_e (tk_nd y_kind y_word) (fa p)), x_operands (fr_x y_kind fa ph p * 3), 1, 100, nI st, nI w, y_peak, nI (sp + 1), x_pendingCount, y_parent, y_fields, y_bound, x_tokenKind, x_tokenValue, x_globals, x_thingShown, x_thingClass, x_thingFields, x_thingToken, x_thingMaker, x_variables, x_homeOf, x_within, x_foundIn, x_baseFrame, x_frameToken, x_frameStage, x_frameLink, x_operands, vp_updL y_heard sp (x_operands (fr_x y_kind fa ph p * 3)), x_marked, x_pending), (nI cc, nI bc, y_fault, nI mc, nI w, y_peak, nI st, nI p, nI (bs p), y_code, 1, 1, y_operands (bs p), y_todos, y_marks, -10000000000, nI (sp + 1), y_parent, y_fields, y_bound, y_kind, y_word, y_size, y_sort, y_number, y_stands, y_keeps, y_cells, y_globals, y_within, y_foundIn, y_self, y_args, y_temps, y_param, y_live, y_work, y_under, y_at, y_in, y_phase, y_base, y_goal, y_operands, y_marked, y_todo, vp_updL y_heard sp (x_operands (fr_x y_kind fa ph p * 3))), tm + 1, by omega, fun PX k => xt_apply (by omega) (fun Q q => goX Q (br_f (by decide) (br_f (by decide) (br_f (by decide) (br_f (by decide) (nm_e (br_f (by decide) (br_f (by decide) (br_f (by decide) (br_t (by decide) ?_)))))))))) k, fun PY m k => YL_mono (yt_next (fun Q q => goY Q ?_) k) (by omega), Or.inr (fin_H (sp := sp + 1) A F hp (fun q hq => rfl) v0 n3' n1 n2' n4)⟩
    · unfold wX_applyOperator_222 wpX_effect
      dsimp only
      refine ⟨vfa, br_f (by decide) (br_f (by decide) (br_f (by decide) (br_t rfl ?_)))⟩
      unfold wpX_say
      dsimp only
      rw [nI_clamp (show sp < 2 ^ 31 by omega)]
      exact br_f (nI_ge (b := 20) (by omega) (by decide)) ⟨vp_in_nI (by omega) (by decide), nm_e (nm_r (nI_1 sp) q)⟩
    · iterate 23 refine br_f (by decide) ?_
      refine br_t rfl (br_f (nI_ge (b := 20) (by omega) (by decide)) (yv_show A.2.2.1 (by omega) v0 ⟨vp_in_nI (by omega) (by decide), ?_⟩))
      rw [nI_clamp (show sp < 2 ^ 31 by omega)]
      refine nm_e ?_
      unfold wY_apply_452
      exact nm_r (nI_1 sp) (yw_finish p5 y4 q)
theorem go_class {p tm : Nat} (A : rn_A cc bc dc mc T ST SA lv τ σ lev ho x_tokenKind x_tokenValue y_kind y_word y_size y_parent y_fields y_bound x_globals y_globals x_thingShown x_thingClass x_thingFields x_thingToken x_thingMaker x_variables x_homeOf x_within x_foundIn y_sort y_number y_stands y_keeps y_cells y_within y_foundIn y_self y_args y_temps y_param) (F : rn_F T ST SA lv σ lev ho y_kind y_word fa ph bs ow gg wk un rt (p + 1) w y_sort y_number x_frameToken x_frameStage x_frameLink x_operands x_baseFrame y_operands y_self y_at y_in y_phase y_base y_goal y_work y_under y_live) (ek : y_kind (fa p) = 29) (hp : ph p ≠ 100) (hph : ph p = tk_nd y_kind y_word (fa p)) (n : rn_n B (M + 1) mc st sp (rn_mu (tk_nd y_kind y_word) fa un rt st (p + 1) w (ex_e (tk_nd y_kind y_word) (fa p)) 1)) (ht : tm + 2 ≤ 1000000) :
    rn_Go B M tm (nI cc, nI bc, nI dc, y_fault, nI mc, nI (fr_x y_kind fa ph (p + 1)), nI (σ (wk (w - 1))), nI (ex_e (tk_nd y_kind y_word) (fa p)), x_inHand, 2, 100, nI st, nI w, y_peak, nI sp, x_pendingCount, y_parent, y_fields, y_bound, x_tokenKind, x_tokenValue, x_globals, x_thingShown, x_thingClass, x_thingFields, x_thingToken, x_thingMaker, x_variables, x_homeOf, x_within, x_foundIn, x_baseFrame, x_frameToken, x_frameStage, x_frameLink, x_operands, y_heard, x_marked, x_pending) (nI cc, nI bc, y_fault, nI mc, nI w, y_peak, nI st, nI (p + 1), nI (bs (p + 1)), y_code, 1, 0, y_got, y_todos, y_marks, -10000000000, nI sp, y_parent, y_fields, y_bound, y_kind, y_word, y_size, y_sort, y_number, y_stands, y_keeps, y_cells, y_globals, y_within, y_foundIn, y_self, y_args, y_temps, y_param, y_live, y_work, y_under, y_at, y_in, y_phase, y_base, y_goal, y_operands, y_marked, y_todo, y_heard) := by
  have kg : fr_gen (y_kind (fa p)) := by unfold fr_gen; rw [ek]; decide
  have nt : ¬ fr_tail (y_kind (fa p)) (ph p) := fun z => by
    rcases z with ⟨z, _⟩ | ⟨z, _⟩ <;> (rw [ek] at z; exact absurd z (by decide))
  obtain ⟨f1, eo, f5, p3, p5, b3, y1, y2, y3, y4, a3, n3, p383⟩ := rn_top A F hp
  have hxr := rn_xr A F hp
  have TF := rn_TF A
  have pc : (nI p).toNatClampNeg = p := nI_clamp (by omega)
  have vp : vp_in (nI p) 500 := vp_in_nI p5 (by decide)
  have fac : (nI (fa p)).toNatClampNeg = fa p := nI_clamp (by omega)
  have vfa : vp_in (nI (fa p)) 416 := vp_in_nI (by omega) (by decide)
  have xr : fr_x y_kind fa ph (p + 1) = fr_x y_kind fa ph p + 1 := by
    show _ + ct_b _ = _
    rw [ct_bt nt]
  have xrc : (nI (fr_x y_kind fa ph p)).toNatClampNeg = fr_x y_kind fa ph p := nI_clamp (by omega)
  have vxr : vp_in (nI (fr_x y_kind fa ph p)) 385 := vp_in_nI hxr (by decide)
  have e3 : nI (fr_x y_kind fa ph p) * (3 : Int32) = nI (fr_x y_kind fa ph p * 3) := pk_mul _ 3
  have e31 : nI (fr_x y_kind fa ph p * 3) + 1 = nI (fr_x y_kind fa ph p * 3 + 1) := nI_1 _
  have c3 : (nI (fr_x y_kind fa ph p * 3)).toNatClampNeg = fr_x y_kind fa ph p * 3 := nI_clamp (by omega)
  have c31 : (nI (fr_x y_kind fa ph p * 3 + 1)).toNatClampNeg = fr_x y_kind fa ph p * 3 + 1 := nI_clamp (by omega)
  have v3 : vp_in (nI (fr_x y_kind fa ph p * 3)) 1155 := vp_in_nI (by omega) (by decide)
  have v31 : vp_in (nI (fr_x y_kind fa ph p * 3 + 1)) 1155 := vp_in_nI (by omega) (by decide)
  have bc0 : (nI (bs p)).toNatClampNeg = bs p := nI_clamp (by omega)
  have bc1 : (nI (bs p + 1)).toNatClampNeg = bs p + 1 := nI_clamp (by omega)
  have vb0 : vp_in (nI (bs p)) 500 := vp_in_nI (by omega) (by decide)
  have vb1 : vp_in (nI (bs p + 1)) 500 := vp_in_nI (by omega) (by decide)
  obtain ⟨xtk, xsg, xlk, xO⟩ := (F.2.2.1.2 p (by omega) nt).2 hp
  have xkd : x_tokenKind (fa p) = y_kind (fa p) := (A.1.2.2.1.2.1 _ f1).2.1
  have xvl : x_tokenValue (fa p) = y_word (fa p) := (A.1.2.2.1.2.1 _ f1).2.2.1
  obtain ⟨ce, pe⟩ := fr_genc kg hp
  rw [ce] at xO
  have hpt : fr_pt (y_kind (fa p)) (ph p) = tk_nd y_kind y_word (fa p) := by rw [pe]; exact hph
  have enp : ex_pt (tk_nd y_kind y_word) (fa p) (ph p) = ex_e (tk_nd y_kind y_word) (fa p) := by rw [hph]; exact (fr_en TF f1).2.2
  have goX : ∀ Q : SX → Prop, _ → wpX_applyOperator Q (nI cc, nI bc, nI dc, y_fault, nI mc, nI (fr_x y_kind fa ph (p + 1)), nI (σ (wk (w - 1))), nI (ex_e (tk_nd y_kind y_word) (fa p)), x_inHand, 2, 100, nI st, nI w, y_peak, nI sp, x_pendingCount, y_parent, y_fields, y_bound, x_tokenKind, x_tokenValue, x_globals, x_thingShown, x_thingClass, x_thingFields, x_thingToken, x_thingMaker, x_variables, x_homeOf, x_within, x_foundIn, x_baseFrame, x_frameToken, x_frameStage, x_frameLink, x_operands, y_heard, x_marked, x_pending) := fun Q h => by
    unfold wpX_applyOperator
    dsimp only
    rw [xr, nI_pred]
    refine nm_e ?_
    rw [xrc, xtk, e3, e31, c3, c31]
    refine ⟨vxr, nm_e ⟨vfa, ?_⟩⟩
    rw [fac, xkd, ek]
    exact nm_e ⟨v3, nm_e ⟨v31, nm_e h⟩⟩
  have goY : ∀ Q : SY → Prop, _ → wpY_next Q (nI cc, nI bc, y_fault, nI mc, nI w, y_peak, nI st, nI (p + 1), nI (bs (p + 1)), y_code, 1, 0, y_got, y_todos, y_marks, -10000000000, nI sp, y_parent, y_fields, y_bound, y_kind, y_word, y_size, y_sort, y_number, y_stands, y_keeps, y_cells, y_globals, y_within, y_foundIn, y_self, y_args, y_temps, y_param, y_live, y_work, y_under, y_at, y_in, y_phase, y_base, y_goal, y_operands, y_marked, y_todo, y_heard) := fun Q h => by
    refine yn_apply A F hp hpt ?_
    unfold wpY_apply
    dsimp only
    rw [pc, y1, y2, y4]
    refine ⟨vp, nm_e ⟨vfa, ?_⟩⟩
    rw [fac]
    refine nm_e ⟨vp, nm_e ⟨vp, yw_home A.2.2.1 (rn_cur A F).1 ⟨vb0, ?_⟩⟩⟩
    rw [bc0, nI_1, bc1]
    refine nm_e ⟨vb1, nm_e ⟨vfa, ?_⟩⟩
    rw [ek]
    exact nm_e h
  have s0 : fr_s (y_kind (fa p)) = 0 := by unfold fr_s; rw [ek, if_neg (by decide)]
  have nd1 : tk_nd y_kind y_word (fa p) = 1 := by unfold tk_nd; rw [ek]; rfl
  have v0 := (xO 0 (by omega)).2.1 (by omega) (by omega)
  rw [s0, Nat.add_zero, show bs p + (0 - 0) = bs p from rfl] at v0
  obtain ⟨n1, n2, n3', n4⟩ := mu_fin (Nat.le_refl _) (by omega) n
  obtain ⟨c, hc, cX, cY⟩ := xv_class (x_classCount := nI cc) (x_bodyCount := nI bc) (x_draftCount := nI dc) (x_wrongPlace := y_fault) (x_madeCount := nI mc) (x_frameCount := nI (fr_x y_kind fa ph p)) (x_current := nI (σ (wk (w - 1)))) (x_next := nI (ex_e (tk_nd y_kind y_word) (fa p))) (x_inHand := x_inHand) (x_mode := 1) (x_outcome := 100) (x_stepCount := nI st) (x_atWork := nI w) (x_mostAtWork := y_peak) (x_saidCount := nI sp) (x_pendingCount := x_pendingCount) (x_classParent := y_parent) (x_classFields := y_fields) (x_bound := y_bound) (x_tokenKind := x_tokenKind) (x_tokenValue := x_tokenValue) (x_globals := x_globals) (x_thingShown := x_thingShown) (x_thingClass := x_thingClass) (x_thingFields := x_thingFields) (x_thingToken := x_thingToken) (x_thingMaker := x_thingMaker) (x_variables := x_variables) (x_homeOf := x_homeOf) (x_within := x_within) (x_foundIn := x_foundIn) (x_baseFrame := x_baseFrame) (x_frameToken := x_frameToken) (x_frameStage := x_frameStage) (x_frameLink := x_frameLink) (x_operands := x_operands) (x_saidValues := y_heard) (x_marked := x_marked) (x_pending := x_pending) (y_classes := nI cc) (y_bodies := nI bc) (y_fault := y_fault) (y_made := nI mc) (y_working := nI w) (y_peak := y_peak) (y_steps := nI st) (y_depth := nI (p + 1)) (y_waiting := nI (bs (p + 1))) (y_code := y_code) (y_running := 1) (y_has := 0) (y_got := y_got) (y_todos := y_todos) (y_marks := y_marks) (y_shown := -10000000000) (y_spoken := nI sp) (y_parent := y_parent) (y_fields := y_fields) (y_bound := y_bound) (y_kind := y_kind) (y_word := y_word) (y_size := y_size) (y_sort := y_sort) (y_number := y_number) (y_stands := y_stands) (y_keeps := y_keeps) (y_cells := y_cells) (y_globals := y_globals) (y_within := y_within) (y_foundIn := y_foundIn) (y_self := y_self) (y_args := y_args) (y_temps := y_temps) (y_param := y_param) (y_live := y_live) (y_work := y_work) (y_under := y_under) (y_at := y_at) (y_in := y_in) (y_phase := y_phase) (y_base := y_base) (y_goal := y_goal) (y_operands := y_operands) (y_marked := y_marked) (y_todo := y_todo) (y_heard := y_heard) A.2.2.2.1 A.2.2.1 A.1.1.1 v0
  have c10 := A.1.1.2.1
  have vi : hp_v ST (hp_s y_sort y_number) (nI c).toInt64 (nI c).toInt64 := by
    have := hp_vint (ST := ST) (y_sort := y_sort) (y_number := y_number) (nI c)
    rw [pk_tn (show c < 2 ^ 32 by omega), ← nI_l (show c < 2 ^ 31 by omega)] at this
    exact this
  refine ⟨(nI cc, nI bc, nI dc, y_fault, nI mc, nI (fr_x y_kind fa ph p), nI (σ (wk (w - 1))), nI (ex_e (tk_nd y_kind y_word) (fa p)), (nI c).toInt64, 1, 100, nI st, nI w, y_peak, nI sp, x_pendingCount, y_parent, y_fields, y_bound, x_tokenKind, x_tokenValue, x_globals, x_thingShown, x_thingClass, x_thingFields, x_thingToken, x_thingMaker, x_variables, x_homeOf, x_within, x_foundIn, x_baseFrame, x_frameToken, x_frameStage, x_frameLink, x_operands, y_heard, x_marked, x_pending), (nI cc, nI bc, y_fault, nI mc, nI w, y_peak, nI st, nI p, nI (bs p), y_code, 1, 1, (nI c).toInt64, y_todos, y_marks, -10000000000, nI sp, y_parent, y_fields, y_bound, y_kind, y_word, y_size, y_sort, y_number, y_stands, y_keeps, y_cells, y_globals, y_within, y_foundIn, y_self, y_args, y_temps, y_param, y_live, y_work, y_under, y_at, y_in, y_phase, y_base, y_goal, y_operands, y_marked, y_todo, y_heard), tm + 1, by omega, fun PX k => xt_apply (by omega) (fun Q q => goX Q (br_f (by decide) (br_f (by decide) (br_f (by decide) (br_f (by decide) (nm_e (br_f (by decide) (br_f (by decide) (br_f (by decide) (br_t (by decide) ?_)))))))))) k, fun PY m k => YL_mono (yt_next (fun Q q => goY Q ?_) k) (by omega), Or.inr (fin_H A F hp (fun q hq => rfl) vi n3' n1 n2 n4)⟩
  · unfold wX_applyOperator_222 wpX_effect
    dsimp only
    exact ⟨vfa, br_f (by decide) (br_f (by decide) (br_f (by decide) (br_f (by decide) (br_t rfl (cX _ q)))))⟩
  · iterate 26 refine br_f (by decide) ?_
    exact br_t rfl (cY _ (yw_finish p5 y4 q))
theorem go_same {p tm : Nat} (A : rn_A cc bc dc mc T ST SA lv τ σ lev ho x_tokenKind x_tokenValue y_kind y_word y_size y_parent y_fields y_bound x_globals y_globals x_thingShown x_thingClass x_thingFields x_thingToken x_thingMaker x_variables x_homeOf x_within x_foundIn y_sort y_number y_stands y_keeps y_cells y_within y_foundIn y_self y_args y_temps y_param) (F : rn_F T ST SA lv σ lev ho y_kind y_word fa ph bs ow gg wk un rt (p + 1) w y_sort y_number x_frameToken x_frameStage x_frameLink x_operands x_baseFrame y_operands y_self y_at y_in y_phase y_base y_goal y_work y_under y_live) (ek : y_kind (fa p) = 22) (hp : ph p ≠ 100) (hph : ph p = tk_nd y_kind y_word (fa p)) (n : rn_n B (M + 1) mc st sp (rn_mu (tk_nd y_kind y_word) fa un rt st (p + 1) w (ex_e (tk_nd y_kind y_word) (fa p)) 1)) (ht : tm + 2 ≤ 1000000) :
    rn_Go B M tm (nI cc, nI bc, nI dc, y_fault, nI mc, nI (fr_x y_kind fa ph (p + 1)), nI (σ (wk (w - 1))), nI (ex_e (tk_nd y_kind y_word) (fa p)), x_inHand, 2, 100, nI st, nI w, y_peak, nI sp, x_pendingCount, y_parent, y_fields, y_bound, x_tokenKind, x_tokenValue, x_globals, x_thingShown, x_thingClass, x_thingFields, x_thingToken, x_thingMaker, x_variables, x_homeOf, x_within, x_foundIn, x_baseFrame, x_frameToken, x_frameStage, x_frameLink, x_operands, y_heard, x_marked, x_pending) (nI cc, nI bc, y_fault, nI mc, nI w, y_peak, nI st, nI (p + 1), nI (bs (p + 1)), y_code, 1, 0, y_got, y_todos, y_marks, -10000000000, nI sp, y_parent, y_fields, y_bound, y_kind, y_word, y_size, y_sort, y_number, y_stands, y_keeps, y_cells, y_globals, y_within, y_foundIn, y_self, y_args, y_temps, y_param, y_live, y_work, y_under, y_at, y_in, y_phase, y_base, y_goal, y_operands, y_marked, y_todo, y_heard) := by
  have kg : fr_gen (y_kind (fa p)) := by unfold fr_gen; rw [ek]; decide
  have nt : ¬ fr_tail (y_kind (fa p)) (ph p) := fun z => by
    rcases z with ⟨z, _⟩ | ⟨z, _⟩ <;> (rw [ek] at z; exact absurd z (by decide))
  obtain ⟨f1, eo, f5, p3, p5, b3, y1, y2, y3, y4, a3, n3, p383⟩ := rn_top A F hp
  have hxr := rn_xr A F hp
  have TF := rn_TF A
  have pc : (nI p).toNatClampNeg = p := nI_clamp (by omega)
  have vp : vp_in (nI p) 500 := vp_in_nI p5 (by decide)
  have fac : (nI (fa p)).toNatClampNeg = fa p := nI_clamp (by omega)
  have vfa : vp_in (nI (fa p)) 416 := vp_in_nI (by omega) (by decide)
  have xr : fr_x y_kind fa ph (p + 1) = fr_x y_kind fa ph p + 1 := by
    show _ + ct_b _ = _
    rw [ct_bt nt]
  have xrc : (nI (fr_x y_kind fa ph p)).toNatClampNeg = fr_x y_kind fa ph p := nI_clamp (by omega)
  have vxr : vp_in (nI (fr_x y_kind fa ph p)) 385 := vp_in_nI hxr (by decide)
  have e3 : nI (fr_x y_kind fa ph p) * (3 : Int32) = nI (fr_x y_kind fa ph p * 3) := pk_mul _ 3
  have e31 : nI (fr_x y_kind fa ph p * 3) + 1 = nI (fr_x y_kind fa ph p * 3 + 1) := nI_1 _
  have c3 : (nI (fr_x y_kind fa ph p * 3)).toNatClampNeg = fr_x y_kind fa ph p * 3 := nI_clamp (by omega)
  have c31 : (nI (fr_x y_kind fa ph p * 3 + 1)).toNatClampNeg = fr_x y_kind fa ph p * 3 + 1 := nI_clamp (by omega)
  have v3 : vp_in (nI (fr_x y_kind fa ph p * 3)) 1155 := vp_in_nI (by omega) (by decide)
  have v31 : vp_in (nI (fr_x y_kind fa ph p * 3 + 1)) 1155 := vp_in_nI (by omega) (by decide)
  have bc0 : (nI (bs p)).toNatClampNeg = bs p := nI_clamp (by omega)
  have bc1 : (nI (bs p + 1)).toNatClampNeg = bs p + 1 := nI_clamp (by omega)
  have vb0 : vp_in (nI (bs p)) 500 := vp_in_nI (by omega) (by decide)
  have vb1 : vp_in (nI (bs p + 1)) 500 := vp_in_nI (by omega) (by decide)
  obtain ⟨xtk, xsg, xlk, xO⟩ := (F.2.2.1.2 p (by omega) nt).2 hp
  have xkd : x_tokenKind (fa p) = y_kind (fa p) := (A.1.2.2.1.2.1 _ f1).2.1
  have xvl : x_tokenValue (fa p) = y_word (fa p) := (A.1.2.2.1.2.1 _ f1).2.2.1
  obtain ⟨ce, pe⟩ := fr_genc kg hp
  rw [ce] at xO
  have hpt : fr_pt (y_kind (fa p)) (ph p) = tk_nd y_kind y_word (fa p) := by rw [pe]; exact hph
  have enp : ex_pt (tk_nd y_kind y_word) (fa p) (ph p) = ex_e (tk_nd y_kind y_word) (fa p) := by rw [hph]; exact (fr_en TF f1).2.2
  have goX : ∀ Q : SX → Prop, _ → wpX_applyOperator Q (nI cc, nI bc, nI dc, y_fault, nI mc, nI (fr_x y_kind fa ph (p + 1)), nI (σ (wk (w - 1))), nI (ex_e (tk_nd y_kind y_word) (fa p)), x_inHand, 2, 100, nI st, nI w, y_peak, nI sp, x_pendingCount, y_parent, y_fields, y_bound, x_tokenKind, x_tokenValue, x_globals, x_thingShown, x_thingClass, x_thingFields, x_thingToken, x_thingMaker, x_variables, x_homeOf, x_within, x_foundIn, x_baseFrame, x_frameToken, x_frameStage, x_frameLink, x_operands, y_heard, x_marked, x_pending) := fun Q h => by
    unfold wpX_applyOperator
    dsimp only
    rw [xr, nI_pred]
    refine nm_e ?_
    rw [xrc, xtk, e3, e31, c3, c31]
    refine ⟨vxr, nm_e ⟨vfa, ?_⟩⟩
    rw [fac, xkd, ek]
    exact nm_e ⟨v3, nm_e ⟨v31, nm_e h⟩⟩
  have goY : ∀ Q : SY → Prop, _ → wpY_next Q (nI cc, nI bc, y_fault, nI mc, nI w, y_peak, nI st, nI (p + 1), nI (bs (p + 1)), y_code, 1, 0, y_got, y_todos, y_marks, -10000000000, nI sp, y_parent, y_fields, y_bound, y_kind, y_word, y_size, y_sort, y_number, y_stands, y_keeps, y_cells, y_globals, y_within, y_foundIn, y_self, y_args, y_temps, y_param, y_live, y_work, y_under, y_at, y_in, y_phase, y_base, y_goal, y_operands, y_marked, y_todo, y_heard) := fun Q h => by
    refine yn_apply A F hp hpt ?_
    unfold wpY_apply
    dsimp only
    rw [pc, y1, y2, y4]
    refine ⟨vp, nm_e ⟨vfa, ?_⟩⟩
    rw [fac]
    refine nm_e ⟨vp, nm_e ⟨vp, yw_home A.2.2.1 (rn_cur A F).1 ⟨vb0, ?_⟩⟩⟩
    rw [bc0, nI_1, bc1]
    refine nm_e ⟨vb1, nm_e ⟨vfa, ?_⟩⟩
    rw [ek]
    exact nm_e h
  have s0 : fr_s (y_kind (fa p)) = 0 := by unfold fr_s; rw [ek, if_neg (by decide)]
  have nd1 : tk_nd y_kind y_word (fa p) = 2 := by unfold tk_nd; rw [ek]; rfl
  have v0 := (xO 0 (by omega)).2.1 (by omega) (by omega)
  rw [s0, Nat.add_zero, show bs p + (0 - 0) = bs p from rfl] at v0
  have v1 := (xO 1 (by omega)).2.1 (by omega) (by omega)
  rw [s0, show bs p + (1 - 0) = bs p + 1 from rfl] at v1
  obtain ⟨n1, n2, n3', n4⟩ := mu_fin (Nat.le_refl _) (by omega) n
  have eq := hp_veq A.2.2.2.1 A.2.2.1 v0 v1
  have i1 : hp_v ST (hp_s y_sort y_number) 1 1 := hp_vint 1
  have i0 : hp_v ST (hp_s y_sort y_number) 0 0 := hp_vint 0
  by_cases z : x_operands (fr_x y_kind fa ph p * 3) = x_operands (fr_x y_kind fa ph p * 3 + 1)
  · refine ⟨(nI cc, nI bc, nI dc, y_fault, nI mc, nI (fr_x y_kind fa ph p), nI (σ (wk (w - 1))), nI (ex_e (tk_nd y_kind y_word) (fa p)), 1, 1, 100, nI st, nI w, y_peak, nI sp, x_pendingCount, y_parent, y_fields, y_bound, x_tokenKind, x_tokenValue, x_globals, x_thingShown, x_thingClass, x_thingFields, x_thingToken, x_thingMaker, x_variables, x_homeOf, x_within, x_foundIn, x_baseFrame, x_frameToken, x_frameStage, x_frameLink, x_operands, y_heard, x_marked, x_pending), (nI cc, nI bc, y_fault, nI mc, nI w, y_peak, nI st, nI p, nI (bs p), y_code, 1, 1, 1, y_todos, y_marks, -10000000000, nI sp, y_parent, y_fields, y_bound, y_kind, y_word, y_size, y_sort, y_number, y_stands, y_keeps, y_cells, y_globals, y_within, y_foundIn, y_self, y_args, y_temps, y_param, y_live, y_work, y_under, y_at, y_in, y_phase, y_base, y_goal, y_operands, y_marked, y_todo, y_heard), tm + 1, by omega, fun PX k => xt_apply (by omega) (fun Q q => goX Q (br_f (by decide) (br_f (by decide) (br_f (by decide) (br_f (by decide) (nm_e (br_f (by decide) (br_t rfl (br_t z q))))))))) k, fun PY m k => YL_mono (yt_next (fun Q q => goY Q ?_) k) (by omega), Or.inr (fin_H A F hp (fun q hq => rfl) i1 n3' n1 n2 n4)⟩
    iterate 19 refine br_f (by decide) ?_
    refine br_t rfl (br_t (eq.mp z) ?_)
    unfold wY_apply_503
    exact yw_finish p5 y4 q
  · refine ⟨(nI cc, nI bc, nI dc, y_fault, nI mc, nI (fr_x y_kind fa ph p), nI (σ (wk (w - 1))), nI (ex_e (tk_nd y_kind y_word) (fa p)), 0, 1, 100, nI st, nI w, y_peak, nI sp, x_pendingCount, y_parent, y_fields, y_bound, x_tokenKind, x_tokenValue, x_globals, x_thingShown, x_thingClass, x_thingFields, x_thingToken, x_thingMaker, x_variables, x_homeOf, x_within, x_foundIn, x_baseFrame, x_frameToken, x_frameStage, x_frameLink, x_operands, y_heard, x_marked, x_pending), (nI cc, nI bc, y_fault, nI mc, nI w, y_peak, nI st, nI p, nI (bs p), y_code, 1, 1, 0, y_todos, y_marks, -10000000000, nI sp, y_parent, y_fields, y_bound, y_kind, y_word, y_size, y_sort, y_number, y_stands, y_keeps, y_cells, y_globals, y_within, y_foundIn, y_self, y_args, y_temps, y_param, y_live, y_work, y_under, y_at, y_in, y_phase, y_base, y_goal, y_operands, y_marked, y_todo, y_heard), tm + 1, by omega, fun PX k => xt_apply (by omega) (fun Q q => goX Q (br_f (by decide) (br_f (by decide) (br_f (by decide) (br_f (by decide) (nm_e (br_f (by decide) (br_t rfl (br_f z q))))))))) k, fun PY m k => YL_mono (yt_next (fun Q q => goY Q ?_) k) (by omega), Or.inr (fin_H A F hp (fun q hq => rfl) i0 n3' n1 n2 n4)⟩
    iterate 19 refine br_f (by decide) ?_
    refine br_t rfl (br_f (fun y => z (eq.mpr y)) ?_)
    unfold wY_apply_503
    exact yw_finish p5 y4 q
end
