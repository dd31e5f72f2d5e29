/-! RETURN, and the end of an ENSURE's second one on a way out -/
section
variable {x_classCount x_bodyCount x_draftCount x_wrongPlace x_madeCount x_frameCount x_current x_next x_mode x_outcome x_stepCount x_atWork x_mostAtWork x_saidCount x_pendingCount : Int32} {x_inHand : Int64} {x_classParent x_classFields x_bound x_tokenKind x_tokenValue x_thingClass x_thingToken x_thingMaker x_homeOf x_within x_foundIn x_baseFrame x_frameToken x_frameStage x_frameLink x_marked x_pending : Nat → Int32} {x_globals x_thingShown x_thingFields x_variables x_operands x_saidValues : Nat → Int64}
variable {y_classes y_bodies y_fault y_made y_working y_peak y_steps y_depth y_waiting y_code y_running y_has y_todos y_marks y_spoken : Int32} {y_got y_shown : Int64} {y_parent y_fields y_bound y_kind y_word y_size y_sort y_number y_stands y_keeps y_within y_foundIn y_live y_work y_under y_at y_in y_phase y_base y_goal y_marked y_todo : Nat → Int32} {y_cells y_globals y_self y_args y_temps y_param y_operands y_heard : Nat → Int64}
variable {cc bc dc mc st sp d w np md B M : Nat} {T ST SA : Nat → Prop} {lv τ σ lev ho fa ph bs ow gg wk un rt : Nat → Nat}
theorem lv_Go {tm : Nat} {u : SX} {v : SY} {u1 : SX} {v1 : SY} (ht : tm + 2 ≤ 1000000) (hX : ∀ PX, XL PX (tm + 1) u1 → XL PX tm u) (hY : ∀ PY m, YL PY m v1 → YL PY (m + 1) v) (h : rn_Lv B M u1 v1) : rn_Go B M tm u v := by
  rcases h with h | ⟨u2, v2, a, b, c⟩
  · exact ⟨u1, v1, tm + 1, by omega, hX, fun PY m k => YL_mono (hY PY m k) (by omega), Or.inr h⟩
  · exact ⟨u2, v2, tm + 2, by omega, fun PX k => hX PX (a PX (tm + 1) (by omega) k), fun PY m k => hY PY _ (b PY m k), c⟩
theorem go_return {p tm : Nat} (A : rn_A cc bc dc mc T ST SA lv τ σ lev ho x_tokenKind x_tokenValue y_kind y_word y_size y_parent y_fields y_bound x_globals y_globals x_thingShown x_thingClass x_thingFields x_thingToken x_thingMaker x_variables x_homeOf x_within x_foundIn y_sort y_number y_stands y_keeps y_cells y_within y_foundIn y_self y_args y_temps y_param) (F : rn_F T ST SA lv σ lev ho y_kind y_word fa ph bs ow gg wk un rt (p + 1) w y_sort y_number x_frameToken x_frameStage x_frameLink x_operands x_baseFrame y_operands y_self y_at y_in y_phase y_base y_goal y_work y_under y_live) (ek : y_kind (fa p) = 17) (hp : ph p ≠ 100) (hph : ph p = tk_nd y_kind y_word (fa p)) (n : rn_n B (M + 1) mc st sp (rn_mu (tk_nd y_kind y_word) fa un rt st (p + 1) w (ex_e (tk_nd y_kind y_word) (fa p)) 1)) (ht : tm + 2 ≤ 1000000) :
    rn_Go B M tm (nI cc, nI bc, nI dc, y_fault, nI mc, nI (fr_x y_kind fa ph (p + 1)), nI (σ (wk (w - 1))), nI (ex_e (tk_nd y_kind y_word) (fa p)), x_inHand, 2, 100, nI st, nI w, y_peak, nI sp, x_pendingCount, y_parent, y_fields, y_bound, x_tokenKind, x_tokenValue, x_globals, x_thingShown, x_thingClass, x_thingFields, x_thingToken, x_thingMaker, x_variables, x_homeOf, x_within, x_foundIn, x_baseFrame, x_frameToken, x_frameStage, x_frameLink, x_operands, y_heard, x_marked, x_pending) (nI cc, nI bc, y_fault, nI mc, nI w, y_peak, nI st, nI (p + 1), nI (bs (p + 1)), y_code, 1, 0, y_got, y_todos, y_marks, -10000000000, nI sp, y_parent, y_fields, y_bound, y_kind, y_word, y_size, y_sort, y_number, y_stands, y_keeps, y_cells, y_globals, y_within, y_foundIn, y_self, y_args, y_temps, y_param, y_live, y_work, y_under, y_at, y_in, y_phase, y_base, y_goal, y_operands, y_marked, y_todo, y_heard) := by
  by_cases no : ∃ i, i < w ∧ wk i = ho (wk (w - 1))
  case neg => exact go_dead A F ek hp hph n ht no
  have kg : fr_gen (y_kind (fa p)) := by unfold fr_gen; rw [ek]; decide
  have nt : ¬ fr_tail (y_kind (fa p)) (ph p) := fun z => by
    rcases z with ⟨z, _⟩ | ⟨z, _⟩ <;> (rw [ek] at z; exact absurd z (by decide))
  obtain ⟨f1, eo, f5, p3, p5, b3, y1, y2, y3, y4, a3, n3, p383⟩ := rn_top A F hp
  have hxr := rn_xr A F hp
  have TF := rn_TF A
  have pc : (nI p).toNatClampNeg = p := nI_clamp (by omega)
  have vp : vp_in (nI p) 500 := vp_in_nI p5 (by decide)
  have fac : (nI (fa p)).toNatClampNeg = fa p := nI_clamp (by omega)
  have vfa : vp_in (nI (fa p)) 416 := vp_in_nI (by omega) (by decide)
  have xr : fr_x y_kind fa ph (p + 1) = fr_x y_kind fa ph p + 1 := by
    show _ + ct_b _ = _
    rw [ct_bt nt]
  have xrc : (nI (fr_x y_kind fa ph p)).toNatClampNeg = fr_x y_kind fa ph p := nI_clamp (by omega)
  have vxr : vp_in (nI (fr_x y_kind fa ph p)) 385 := vp_in_nI hxr (by decide)
  have e3 : nI (fr_x y_kind fa ph p) * (3 : Int32) = nI (fr_x y_kind fa ph p * 3) := pk_mul _ 3
  have e31 : nI (fr_x y_kind fa ph p * 3) + 1 = nI (fr_x y_kind fa ph p * 3 + 1) := nI_1 _
  have c3 : (nI (fr_x y_kind fa ph p * 3)).toNatClampNeg = fr_x y_kind fa ph p * 3 := nI_clamp (by omega)
  have c31 : (nI (fr_x y_kind fa ph p * 3 + 1)).toNatClampNeg = fr_x y_kind fa ph p * 3 + 1 := nI_clamp (by omega)
  have v3 : vp_in (nI (fr_x y_kind fa ph p * 3)) 1155 := vp_in_nI (by omega) (by decide)
  have v31 : vp_in (nI (fr_x y_kind fa ph p * 3 + 1)) 1155 := vp_in_nI (by omega) (by decide)
  have bc0 : (nI (bs p)).toNatClampNeg = bs p := nI_clamp (by omega)
  have bc1 : (nI (bs p + 1)).toNatClampNeg = bs p + 1 := nI_clamp (by omega)
  have vb0 : vp_in (nI (bs p)) 500 := vp_in_nI (by omega) (by decide)
  have vb1 : vp_in (nI (bs p + 1)) 500 := vp_in_nI (by omega) (by decide)
  obtain ⟨xtk, xsg, xlk, xO⟩ := (F.2.2.1.2 p (by omega) nt).2 hp
  have xkd : x_tokenKind (fa p) = y_kind (fa p) := (A.1.2.2.1.2.1 _ f1).2.1
  have xvl : x_tokenValue (fa p) = y_word (fa p) := (A.1.2.2.1.2.1 _ f1).2.2.1
  obtain ⟨ce, pe⟩ := fr_genc kg hp
  rw [ce] at xO
  have hpt : fr_pt (y_kind (fa p)) (ph p) = tk_nd y_kind y_word (fa p) := by rw [pe]; exact hph
  have enp : ex_pt (tk_nd y_kind y_word) (fa p) (ph p) = ex_e (tk_nd y_kind y_word) (fa p) := by rw [hph]; exact (fr_en TF f1).2.2
  have goX : ∀ Q : SX → Prop, _ → wpX_applyOperator Q (nI cc, nI bc, nI dc, y_fault, nI mc, nI (fr_x y_kind fa ph (p + 1)), nI (σ (wk (w - 1))), nI (ex_e (tk_nd y_kind y_word) (fa p)), x_inHand, 2, 100, nI st, nI w, y_peak, nI sp, x_pendingCount, y_parent, y_fields, y_bound, x_tokenKind, x_tokenValue, x_globals, x_thingShown, x_thingClass, x_thingFields, x_thingToken, x_thingMaker, x_variables, x_homeOf, x_within, x_foundIn, x_baseFrame, x_frameToken, x_frameStage, x_frameLink, x_operands, y_heard, x_marked, x_pending) := fun Q h => by
    unfold wpX_applyOperator
    dsimp only
    rw [xr, nI_pred]
    refine nm_e ?_
    rw [xrc, xtk, e3, e31, c3, c31]
    refine ⟨vxr, nm_e ⟨vfa, ?_⟩⟩
    rw [fac, xkd, ek]
    exact nm_e ⟨v3, nm_e ⟨v31, nm_e h⟩⟩
  have goY : ∀ Q : SY → Prop, _ → wpY_next Q (nI cc, nI bc, y_fault, nI mc, nI w, y_peak, nI st, nI (p + 1), nI (bs (p + 1)), y_code, 1, 0, y_got, y_todos, y_marks, -10000000000, nI sp, y_parent, y_fields, y_bound, y_kind, y_word, y_size, y_sort, y_number, y_stands, y_keeps, y_cells, y_globals, y_within, y_foundIn, y_self, y_args, y_temps, y_param, y_live, y_work, y_under, y_at, y_in, y_phase, y_base, y_goal, y_operands, y_marked, y_todo, y_heard) := fun Q h => by
    refine yn_apply A F hp hpt ?_
    unfold wpY_apply
    dsimp only
    rw [pc, y1, y2, y4]
    refine ⟨vp, nm_e ⟨vfa, ?_⟩⟩
    rw [fac]
    refine nm_e ⟨vp, nm_e ⟨vp, yw_home A.2.2.1 (rn_cur A F).1 ⟨vb0, ?_⟩⟩⟩
    rw [bc0, nI_1, bc1]
    refine nm_e ⟨vb1, nm_e ⟨vfa, ?_⟩⟩
    rw [ek]
    exact nm_e h
  obtain ⟨c1, c2, c3', c4, c5, c6, c7, _⟩ := rn_cur A F
  obtain ⟨l1, l2, _⟩ := (rn_liv A F c4).resolve_left (fun z => z.2.2 no)
  obtain ⟨g, g1, g2⟩ := no
  have s0 : fr_s (y_kind (fa p)) = 0 := by unfold fr_s; rw [ek, if_neg (by decide)]
  have nd1 : tk_nd y_kind y_word (fa p) = 1 := by unfold tk_nd; rw [ek]; rfl
  have v0 := (xO 0 (by omega)).2.1 (by omega) (by omega)
  rw [s0, Nat.add_zero, show bs p + (0 - 0) = bs p from rfl] at v0
  have F' := rn_pop A F hp (aph' := y_phase) (fun _ _ => rfl)
  have gu : un g ≤ p := fr_unle F'.1 g1
  obtain ⟨u1, v1, hX, hY, hL⟩ := lv_core (x_next := nI (ex_e (tk_nd y_kind y_word) (fa p))) (x_inHand := x_inHand) (x_pendingCount := x_pendingCount) (x_marked := x_marked) (x_pending := x_pending) (y_depth := nI (p + 1)) (y_waiting := nI (bs (p + 1))) (y_code := y_code) (y_got := y_got) (y_todos := y_todos) (y_marks := y_marks) (y_marked := y_marked) (y_todo := y_todo) (y_fault := y_fault) (y_peak := y_peak) (y_heard := y_heard) (st := st) (sp := sp) A F hp g1 v0 (Nat.le_refl 1) n
  refine lv_Go (u1 := u1) (v1 := v1) ht (fun PX k => xt_apply (by omega) (fun Q q => goX Q (br_f (by decide) (br_f (by decide) (br_f (by decide) (br_f (by decide) (nm_e (br_t rfl ?_))))))) k) (fun PY m k => yt_next (fun Q q => goY Q ?_) k) hL
  · unfold wpX_startReturn
    dsimp only
    rw [nI_clamp (show σ (wk (w - 1)) < 2 ^ 31 by omega), c7]
    refine ⟨vp_in_nI c3' (by decide), nm_e ⟨vp_in_nI c6 (by decide), ?_⟩⟩
    rw [nI_clamp (show σ (ho (wk (w - 1))) < 2 ^ 31 by omega)]
    refine br_f l2 ?_
    rw [← g2]
    exact hX Q q
  · iterate 14 refine br_f (by decide) ?_
    refine br_t rfl ?_
    rw [nI_clamp (show ho (wk (w - 1)) < 2 ^ 31 by omega)]
    refine ⟨vp_in_nI c5 (by decide), br_f l1 ?_⟩
    rw [← g2]
    refine yl_find A F g1 ?_
    obtain ⟨n28, h28⟩ := hY Q q
    exact ⟨n28 + 1, yl_down A F g1 gu 1 (Nat.le_refl _) (fun s s1 s2 z => by
      obtain rfl : s = p := by omega
      rw [ek] at z
      exact absurd z.1 (by decide)) n28 h28⟩
theorem go_ens2 {p tm : Nat} (A : rn_A cc bc dc mc T ST SA lv τ σ lev ho x_tokenKind x_tokenValue y_kind y_word y_size y_parent y_fields y_bound x_globals y_globals x_thingShown x_thingClass x_thingFields x_thingToken x_thingMaker x_variables x_homeOf x_within x_foundIn y_sort y_number y_stands y_keeps y_cells y_within y_foundIn y_self y_args y_temps y_param) (F : rn_F T ST SA lv σ lev ho y_kind y_word fa ph bs ow gg wk un rt (p + 1) w y_sort y_number x_frameToken x_frameStage x_frameLink x_operands x_baseFrame y_operands y_self y_at y_in y_phase y_base y_goal y_work y_under y_live) {xv yv : Int64} (k27 : y_kind (fa p) = 27) (h0 : ph p = 2) {np : Nat} (enp : np = ex_e (tk_nd y_kind y_word) (fa p)) (n : rn_n B (M + 1) mc st sp (rn_mu (tk_nd y_kind y_word) fa un rt st (p + 1) w np 2)) (ht : tm + 2 ≤ 1000000) :
    rn_Go B M tm (nI cc, nI bc, nI dc, y_fault, nI mc, nI (fr_x y_kind fa ph (p + 1)), nI (σ (wk (w - 1))), nI np, xv, 1, 100, nI st, nI w, y_peak, nI sp, x_pendingCount, y_parent, y_fields, y_bound, x_tokenKind, x_tokenValue, x_globals, x_thingShown, x_thingClass, x_thingFields, x_thingToken, x_thingMaker, x_variables, x_homeOf, x_within, x_foundIn, x_baseFrame, x_frameToken, x_frameStage, x_frameLink, x_operands, y_heard, x_marked, x_pending) (nI cc, nI bc, y_fault, nI mc, nI w, y_peak, nI st, nI (p + 1), nI (bs (p + 1)), y_code, 1, 1, yv, y_todos, y_marks, -10000000000, nI sp, y_parent, y_fields, y_bound, y_kind, y_word, y_size, y_sort, y_number, y_stands, y_keeps, y_cells, y_globals, y_within, y_foundIn, y_self, y_args, y_temps, y_param, y_live, y_work, y_under, y_at, y_in, y_phase, y_base, y_goal, y_operands, y_marked, y_todo, y_heard) := by
  have hp : ph p ≠ 100 := by omega
  have nt : ¬ fr_tail (y_kind (fa p)) (ph p) := fun z => by
    rcases z with ⟨z, _⟩ | ⟨z, _⟩ <;> (rw [k27] at z; exact absurd z (by decide))
  obtain ⟨f1, eo, f5, p3, p5, b3, y1, y2, y3, y4, a3, n3, p383⟩ := rn_top A F hp
  have hxr := rn_xr A F hp
  have ep : nI (p + 1) - 1 = nI p := nI_pred p
  have pc : (nI p).toNatClampNeg = p := nI_clamp (by omega)
  have vp : vp_in (nI p) 500 := vp_in_nI p5 (by decide)
  have fac : (nI (fa p)).toNatClampNeg = fa p := nI_clamp (by omega)
  have xr : fr_x y_kind fa ph (p + 1) = fr_x y_kind fa ph p + 1 := by
    show _ + ct_b _ = _
    rw [ct_bt nt]
  have xrc : (nI (fr_x y_kind fa ph p)).toNatClampNeg = fr_x y_kind fa ph p := nI_clamp (by omega)
  have vxr : vp_in (nI (fr_x y_kind fa ph p)) 385 := vp_in_nI hxr (by decide)
  obtain ⟨xtk, xsg, xlk, xO⟩ := (F.2.2.1.2 p (by omega) nt).2 hp
  have xkd : x_tokenKind (fa p) = y_kind (fa p) := (A.1.2.2.1.2.1 _ f1).2.1
  have xvl : x_tokenValue (fa p) = y_word (fa p) := (A.1.2.2.1.2.1 _ f1).2.2.1
  have goY : ∀ Q : SY → Prop, (∀ k : Int32, k = y_kind (fa p) → _) → wpY_deliver Q (nI cc, nI bc, y_fault, nI mc, nI w, y_peak, nI st, nI (p + 1), nI (bs (p + 1)), y_code, 1, 1, yv, y_todos, y_marks, -10000000000, nI sp, y_parent, y_fields, y_bound, y_kind, y_word, y_size, y_sort, y_number, y_stands, y_keeps, y_cells, y_globals, y_within, y_foundIn, y_self, y_args, y_temps, y_param, y_live, y_work, y_under, y_at, y_in, y_phase, y_base, y_goal, y_operands, y_marked, y_todo, y_heard) := fun Q h => by
    unfold wpY_deliver
    dsimp only
    rw [ep]
    refine nm_e (br_t (nI_pos' (by omega)) ?_)
    rw [pc, y3]
    refine ⟨vp, br_f (fun z => hp ((nI_eq (b := 100) (by omega) (by decide)).mp z)) ⟨vp, ?_⟩⟩
    rw [y1, fac]
    exact ⟨vp_in_nI (by omega) (by decide), h⟩
  have goX : ∀ Q : SX → Prop, (∀ k : Int32, k = y_kind (fa p) → _) → wpX_handOn Q (nI cc, nI bc, nI dc, y_fault, nI mc, nI (fr_x y_kind fa ph (p + 1)), nI (σ (wk (w - 1))), nI np, xv, 1, 100, nI st, nI w, y_peak, nI sp, x_pendingCount, y_parent, y_fields, y_bound, x_tokenKind, x_tokenValue, x_globals, x_thingShown, x_thingClass, x_thingFields, x_thingToken, x_thingMaker, x_variables, x_homeOf, x_within, x_foundIn, x_baseFrame, x_frameToken, x_frameStage, x_frameLink, x_operands, y_heard, x_marked, x_pending) := fun Q h => by
    unfold wpX_handOn
    dsimp only
    rw [xr, nI_pred]
    refine nm_e ?_
    rw [xrc, xtk]
    refine ⟨vxr, nm_e (br_f (gx_m1 (by omega)) ⟨vp_in_nI (by omega) (by decide), ?_⟩)⟩
    rw [fac, xkd]
    exact h
  subst enp
  have ce : fr_c (y_kind (fa p)) (ph p) = 1 := by rw [k27, h0]; rfl
  have s0 : fr_s (y_kind (fa p)) = 0 := by unfold fr_s; rw [k27, if_neg (by decide)]
  have v0 := (xO 0 (by omega)).2.1 (by omega) (by omega)
  rw [s0, Nat.add_zero, show bs p + (0 - 0) = bs p from rfl] at v0
  have e3 : nI (fr_x y_kind fa ph p) * (3 : Int32) = nI (fr_x y_kind fa ph p * 3) := pk_mul _ 3
  have c3 : (nI (fr_x y_kind fa ph p * 3)).toNatClampNeg = fr_x y_kind fa ph p * 3 := nI_clamp (by omega)
  have v3 : vp_in (nI (fr_x y_kind fa ph p * 3)) 1155 := vp_in_nI (by omega) (by decide)
  have gl : gg p < w := by
    have := (F.1.2.2.2.2.1 p (by omega)).2.2.2.2.2.2 k27 h0
    have := F.1.1
    omega
  have yg : y_goal p = nI (wk (gg p)) := (F.2.1.1 p (by omega)).2.2.2.2 k27 h0
  have xl := xlk k27 h0
  have F' := rn_pop A F hp (aph' := y_phase) (fun _ _ => rfl)
  obtain ⟨u1, v1, hX, hY, hL⟩ := lv_core (x_next := nI (ex_e (tk_nd y_kind y_word) (fa p))) (x_inHand := xv) (x_pendingCount := x_pendingCount) (x_marked := x_marked) (x_pending := x_pending) (y_depth := nI p) (y_waiting := nI (bs p)) (y_code := y_code) (y_got := yv) (y_todos := y_todos) (y_marks := y_marks) (y_marked := y_marked) (y_todo := y_todo) (y_fault := y_fault) (y_peak := y_peak) (y_heard := y_heard) (st := st) (sp := sp) A F hp gl v0 (show 1 ≤ 2 by decide) n
  refine lv_Go (u1 := u1) (v1 := v1) ht (fun PX k => xt_hand (by omega) (fun Q q => goX Q (nm_r k27 (br_f (by decide) (br_f (by decide) (br_f (by decide) (br_t rfl ?_)))))) k) (fun PY m k => yt_deliver (fun Q q => goY Q (nm_r k27 (br_f (by decide) (br_f (by decide) (br_f (by decide) (br_t rfl ?_)))))) k) hL
  · unfold wpX_afterEnsure
    dsimp only
    rw [xrc, xsg, h0, s0, e3, c3, xl]
    exact ⟨v3, nm_e ⟨vxr, br_f (by decide) ⟨vxr, br_f (by decide) (nm_r (nI_pred _) ⟨vxr, hX Q q⟩)⟩⟩⟩
  · unfold wpY_ensured
    dsimp only
    rw [pc, y3, y4, h0, yg, nI_clamp (show bs p < 2 ^ 31 by omega)]
    exact ⟨vp, br_f (by decide) ⟨vp, vp_in_nI (by omega) (by decide), nm_e ⟨vp, br_f (by decide) ⟨vp, nm_e ⟨vp, yl_find A F' gl (hY Q q)⟩⟩⟩⟩⟩
end
