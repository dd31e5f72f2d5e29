/-! a value comes to the operator on top: THEN and IF at their ends, IF, WHILE -/
section
variable {x_classCount x_bodyCount x_draftCount x_wrongPlace x_madeCount x_frameCount x_current x_next x_mode x_outcome x_stepCount x_atWork x_mostAtWork x_saidCount x_pendingCount : Int32} {x_inHand : Int64} {x_classParent x_classFields x_bound x_tokenKind x_tokenValue x_thingClass x_thingToken x_thingMaker x_homeOf x_within x_foundIn x_baseFrame x_frameToken x_frameStage x_frameLink x_marked x_pending : Nat → Int32} {x_globals x_thingShown x_thingFields x_variables x_operands x_saidValues : Nat → Int64}
variable {y_classes y_bodies y_fault y_made y_working y_peak y_steps y_depth y_waiting y_code y_running y_has y_todos y_marks y_spoken : Int32} {y_got y_shown : Int64} {y_parent y_fields y_bound y_kind y_word y_size y_sort y_number y_stands y_keeps y_within y_foundIn y_live y_work y_under y_at y_in y_phase y_base y_goal y_marked y_todo : Nat → Int32} {y_cells y_globals y_self y_args y_temps y_param y_operands y_heard : Nat → Int64}
variable {cc bc dc mc st sp d w np md B M : Nat} {T ST SA : Nat → Prop} {lv τ σ lev ho fa ph bs ow gg wk un rt : Nat → Nat}
theorem yw_finish {p b : Nat} {v : Int64} {Q : SY → Prop} (hp : p < 500) (hb : y_base p = nI b) (q : Q (y_classes, y_bodies, y_fault, y_made, y_working, y_peak, y_steps, nI p, nI b, y_code, y_running, 1, v, y_todos, y_marks, y_shown, y_spoken, y_parent, y_fields, y_bound, y_kind, y_word, y_size, y_sort, y_number, y_stands, y_keeps, y_cells, y_globals, y_within, y_foundIn, y_self, y_args, y_temps, y_param, y_live, y_work, y_under, y_at, y_in, y_phase, y_base, y_goal, y_operands, y_marked, y_todo, y_heard)) : wpY_finish Q (y_classes, y_bodies, y_fault, y_made, y_working, y_peak, y_steps, nI (p + 1), y_waiting, y_code, y_running, y_has, y_got, y_todos, y_marks, y_shown, y_spoken, y_parent, y_fields, y_bound, y_kind, y_word, y_size, y_sort, y_number, y_stands, y_keeps, y_cells, y_globals, y_within, y_foundIn, y_self, y_args, y_temps, y_param, y_live, y_work, y_under, y_at, y_in, y_phase, y_base, y_goal, y_operands, y_marked, y_todo, y_heard) v := by
  unfold wpY_finish
  dsimp only
  rw [nI_pred]
  refine nm_e ?_
  rw [nI_clamp (show p < 2 ^ 31 by omega), hb]
  exact ⟨vp_in_nI hp (by decide), nm_e q⟩
theorem xw_endT (A : rn_A cc bc dc mc T ST SA lv τ σ lev ho x_tokenKind x_tokenValue y_kind y_word y_size y_parent y_fields y_bound x_globals y_globals x_thingShown x_thingClass x_thingFields x_thingToken x_thingMaker x_variables x_homeOf x_within x_foundIn y_sort y_number y_stands y_keeps y_cells y_within y_foundIn y_self y_args y_temps y_param) {t : Nat} (tt : T t) {post : Int32 → Prop} (q : post (nI (ex_e (tk_nd y_kind y_word) t))) : wpX_endOfExpression post (x_classCount, x_bodyCount, x_draftCount, x_wrongPlace, x_madeCount, x_frameCount, x_current, x_next, x_inHand, x_mode, x_outcome, x_stepCount, x_atWork, x_mostAtWork, x_saidCount, x_pendingCount, x_classParent, x_classFields, x_bound, x_tokenKind, x_tokenValue, x_globals, x_thingShown, x_thingClass, x_thingFields, x_thingToken, x_thingMaker, x_variables, x_homeOf, x_within, x_foundIn, x_baseFrame, x_frameToken, x_frameStage, x_frameLink, x_operands, x_saidValues, x_marked, x_pending) (nI t) := by
  obtain ⟨b12, t1, t2, _⟩ := A.1.2.2.1
  obtain ⟨m, m1, m2, m3⟩ := t2 t tt
  have l1 := (t1 t tt).1
  rw [ex_eq m1] at q
  exact xw_end m1 (by omega) (fun z z1 z2 => ⟨(t1 z (m3 z z1 z2)).2.1, (t1 z (m3 z z1 z2)).2.2.1, (t1 z (m3 z z1 z2)).2.2.2.1⟩) q
theorem mu_fin {p np : Nat} (hn : np ≤ ex_e (tk_nd y_kind y_word) (fa p)) {md : Nat} (hm : 1 ≤ md) (n : rn_n B (M + 1) mc st sp (rn_mu (tk_nd y_kind y_word) fa un rt st (p + 1) w np md)) : rn_n B M mc st sp (rn_mu (tk_nd y_kind y_word) fa un rt st p w (ex_e (tk_nd y_kind y_word) (fa p)) 2) := by
  obtain ⟨n1, n2, n3, n4⟩ := n
  unfold rn_mu at n2 n3 n4
  refine ⟨n1, ?_⟩
  unfold rn_mu
  omega
theorem go_tail {p tm : Nat} (A : rn_A cc bc dc mc T ST SA lv τ σ lev ho x_tokenKind x_tokenValue y_kind y_word y_size y_parent y_fields y_bound x_globals y_globals x_thingShown x_thingClass x_thingFields x_thingToken x_thingMaker x_variables x_homeOf x_within x_foundIn y_sort y_number y_stands y_keeps y_cells y_within y_foundIn y_self y_args y_temps y_param) (F : rn_F T ST SA lv σ lev ho y_kind y_word fa ph bs ow gg wk un rt (p + 1) w y_sort y_number x_frameToken x_frameStage x_frameLink x_operands x_baseFrame y_operands y_self y_at y_in y_phase y_base y_goal y_work y_under y_live) {xv yv : Int64} (hv : hp_v ST (hp_s y_sort y_number) xv yv) (tl : fr_tail (y_kind (fa p)) (ph p)) {np : Nat} (enp : np = ex_e (tk_nd y_kind y_word) (fa p)) (n : rn_n B (M + 1) mc st sp (rn_mu (tk_nd y_kind y_word) fa un rt st (p + 1) w np 2)) :
    rn_Go B M tm (nI cc, nI bc, nI dc, y_fault, nI mc, nI (fr_x y_kind fa ph (p + 1)), nI (σ (wk (w - 1))), nI np, xv, 1, 100, nI st, nI w, y_peak, nI sp, x_pendingCount, y_parent, y_fields, y_bound, x_tokenKind, x_tokenValue, x_globals, x_thingShown, x_thingClass, x_thingFields, x_thingToken, x_thingMaker, x_variables, x_homeOf, x_within, x_foundIn, x_baseFrame, x_frameToken, x_frameStage, x_frameLink, x_operands, y_heard, x_marked, x_pending) (nI cc, nI bc, y_fault, nI mc, nI w, y_peak, nI st, nI (p + 1), nI (bs (p + 1)), y_code, 1, 1, yv, y_todos, y_marks, -10000000000, nI sp, y_parent, y_fields, y_bound, y_kind, y_word, y_size, y_sort, y_number, y_stands, y_keeps, y_cells, y_globals, y_within, y_foundIn, y_self, y_args, y_temps, y_param, y_live, y_work, y_under, y_at, y_in, y_phase, y_base, y_goal, y_operands, y_marked, y_todo, y_heard) := by
  have hp : ph p ≠ 100 := by rcases tl with ⟨_, z⟩ | ⟨_, z⟩ <;> omega
  obtain ⟨f1, eo, f5, p3, p5, b3, y1, y2, y3, y4, a3, n3, p383⟩ := rn_top A F hp
  have ep : nI (p + 1) - 1 = nI p := nI_pred p
  have pc : (nI p).toNatClampNeg = p := nI_clamp (by omega)
  have vp : vp_in (nI p) 500 := vp_in_nI p5 (by decide)
  have fac : (nI (fa p)).toNatClampNeg = fa p := nI_clamp (by omega)
  have xr : fr_x y_kind fa ph (p + 1) = fr_x y_kind fa ph p := by
    show _ + ct_b _ = _
    rw [ct_bf (fun z => z tl)]; rfl
  have goY : ∀ Q : SY → Prop, (∀ k : Int32, k = y_kind (fa p) → _) → wpY_deliver Q (nI cc, nI bc, y_fault, nI mc, nI w, y_peak, nI st, nI (p + 1), nI (bs (p + 1)), y_code, 1, 1, yv, y_todos, y_marks, -10000000000, nI sp, y_parent, y_fields, y_bound, y_kind, y_word, y_size, y_sort, y_number, y_stands, y_keeps, y_cells, y_globals, y_within, y_foundIn, y_self, y_args, y_temps, y_param, y_live, y_work, y_under, y_at, y_in, y_phase, y_base, y_goal, y_operands, y_marked, y_todo, y_heard) := fun Q h => by
    unfold wpY_deliver
    dsimp only
    rw [ep]
    refine nm_e (br_t (nI_pos' (by omega)) ?_)
    rw [pc, y3]
    refine ⟨vp, br_f (fun z => hp ((nI_eq (b := 100) (by omega) (by decide)).mp z)) ⟨vp, ?_⟩⟩
    rw [y1, fac]
    exact ⟨vp_in_nI (by omega) (by decide), h⟩
  obtain ⟨n1, n2, n3', n4⟩ := mu_fin (by omega) (by omega) n
  subst enp
  rw [xr]
  rcases tl with ⟨k16, h1⟩ | ⟨k23, h2⟩
  · refine ⟨_, (nI cc, nI bc, y_fault, nI mc, nI w, y_peak, nI st, nI p, nI (bs p), y_code, 1, 1, yv, y_todos, y_marks, -10000000000, nI sp, y_parent, y_fields, y_bound, y_kind, y_word, y_size, y_sort, y_number, y_stands, y_keeps, y_cells, y_globals, y_within, y_foundIn, y_self, y_args, y_temps, y_param, y_live, y_work, y_under, y_at, y_in, upd y_phase p (nI 1 + 1), y_base, y_goal, y_operands, y_marked, y_todo, y_heard), tm, by omega, fun PX k => k, fun PY m k => YL_mono (yt_deliver (fun Q q => goY Q (nm_r k16 (br_t rfl ?_))) k) (by omega), Or.inr (fin_H A F hp (fun q hq => pk_un (by omega)) hv n3' n1 n2 n4)⟩
    rw [h1]
    exact ⟨vp, vp, nm_e (br_t rfl (yw_finish p5 y4 q))⟩
  · refine ⟨_, (nI cc, nI bc, y_fault, nI mc, nI w, y_peak, nI st, nI p, nI (bs p), y_code, 1, 1, yv, y_todos, y_marks, -10000000000, nI sp, y_parent, y_fields, y_bound, y_kind, y_word, y_size, y_sort, y_number, y_stands, y_keeps, y_cells, y_globals, y_within, y_foundIn, y_self, y_args, y_temps, y_param, y_live, y_work, y_under, y_at, y_in, y_phase, y_base, y_goal, y_operands, y_marked, y_todo, y_heard), tm, by omega, fun PX k => k, fun PY m k => YL_mono (yt_deliver (fun Q q => goY Q (nm_r k23 (br_f (by decide) (br_t rfl ?_)))) k) (by omega), Or.inr (fin_H A F hp (fun q hq => rfl) hv n3' n1 n2 n4)⟩
    rw [h2]
    exact ⟨vp, br_f (by decide) (yw_finish p5 y4 q)⟩
theorem go_if {p tm : Nat} (A : rn_A cc bc dc mc T ST SA lv τ σ lev ho x_tokenKind x_tokenValue y_kind y_word y_size y_parent y_fields y_bound x_globals y_globals x_thingShown x_thingClass x_thingFields x_thingToken x_thingMaker x_variables x_homeOf x_within x_foundIn y_sort y_number y_stands y_keeps y_cells y_within y_foundIn y_self y_args y_temps y_param) (F : rn_F T ST SA lv σ lev ho y_kind y_word fa ph bs ow gg wk un rt (p + 1) w y_sort y_number x_frameToken x_frameStage x_frameLink x_operands x_baseFrame y_operands y_self y_at y_in y_phase y_base y_goal y_work y_under y_live) {xv yv : Int64} (hv : hp_v ST (hp_s y_sort y_number) xv yv) (k23 : y_kind (fa p) = 23) (h0 : ph p = 0) {np : Nat} (enp : np = ex_pt (tk_nd y_kind y_word) (fa p) 1) (n : rn_n B (M + 1) mc st sp (rn_mu (tk_nd y_kind y_word) fa un rt st (p + 1) w np 2)) (ht : tm + 2 ≤ 1000000) :
    rn_Go B M tm (nI cc, nI bc, nI dc, y_fault, nI mc, nI (fr_x y_kind fa ph (p + 1)), nI (σ (wk (w - 1))), nI np, xv, 1, 100, nI st, nI w, y_peak, nI sp, x_pendingCount, y_parent, y_fields, y_bound, x_tokenKind, x_tokenValue, x_globals, x_thingShown, x_thingClass, x_thingFields, x_thingToken, x_thingMaker, x_variables, x_homeOf, x_within, x_foundIn, x_baseFrame, x_frameToken, x_frameStage, x_frameLink, x_operands, y_heard, x_marked, x_pending) (nI cc, nI bc, y_fault, nI mc, nI w, y_peak, nI st, nI (p + 1), nI (bs (p + 1)), y_code, 1, 1, yv, y_todos, y_marks, -10000000000, nI sp, y_parent, y_fields, y_bound, y_kind, y_word, y_size, y_sort, y_number, y_stands, y_keeps, y_cells, y_globals, y_within, y_foundIn, y_self, y_args, y_temps, y_param, y_live, y_work, y_under, y_at, y_in, y_phase, y_base, y_goal, y_operands, y_marked, y_todo, y_heard) := by
  have hp : ph p ≠ 100 := by omega
  have nt : ¬ fr_tail (y_kind (fa p)) (ph p) := fun z => by rcases z with ⟨_, z⟩ | ⟨_, z⟩ <;> omega
  obtain ⟨f1, eo, f5, p3, p5, b3, y1, y2, y3, y4, a3, n3, p383⟩ := rn_top A F hp
  have hxr := rn_xr A F hp
  have ep : nI (p + 1) - 1 = nI p := nI_pred p
  have pc : (nI p).toNatClampNeg = p := nI_clamp (by omega)
  have vp : vp_in (nI p) 500 := vp_in_nI p5 (by decide)
  have fac : (nI (fa p)).toNatClampNeg = fa p := nI_clamp (by omega)
  have xr : fr_x y_kind fa ph (p + 1) = fr_x y_kind fa ph p + 1 := by
    show _ + ct_b _ = _
    rw [ct_bt nt]
  have xrc : (nI (fr_x y_kind fa ph p)).toNatClampNeg = fr_x y_kind fa ph p := nI_clamp (by omega)
  have vxr : vp_in (nI (fr_x y_kind fa ph p)) 385 := vp_in_nI hxr (by decide)
  obtain ⟨xtk, xsg, xlk, xO⟩ := (F.2.2.1.2 p (by omega) nt).2 hp
  have xkd : x_tokenKind (fa p) = y_kind (fa p) := (A.1.2.2.1.2.1 _ f1).2.1
  have xvl : x_tokenValue (fa p) = y_word (fa p) := (A.1.2.2.1.2.1 _ f1).2.2.1
  have goY : ∀ Q : SY → Prop, (∀ k : Int32, k = y_kind (fa p) → _) → wpY_deliver Q (nI cc, nI bc, y_fault, nI mc, nI w, y_peak, nI st, nI (p + 1), nI (bs (p + 1)), y_code, 1, 1, yv, y_todos, y_marks, -10000000000, nI sp, y_parent, y_fields, y_bound, y_kind, y_word, y_size, y_sort, y_number, y_stands, y_keeps, y_cells, y_globals, y_within, y_foundIn, y_self, y_args, y_temps, y_param, y_live, y_work, y_under, y_at, y_in, y_phase, y_base, y_goal, y_operands, y_marked, y_todo, y_heard) := fun Q h => by
    unfold wpY_deliver
    dsimp only
    rw [ep]
    refine nm_e (br_t (nI_pos' (by omega)) ?_)
    rw [pc, y3]
    refine ⟨vp, br_f (fun z => hp ((nI_eq (b := 100) (by omega) (by decide)).mp z)) ⟨vp, ?_⟩⟩
    rw [y1, fac]
    exact ⟨vp_in_nI (by omega) (by decide), h⟩
  have goX : ∀ Q : SX → Prop, (∀ k : Int32, k = y_kind (fa p) → _) → wpX_handOn Q (nI cc, nI bc, nI dc, y_fault, nI mc, nI (fr_x y_kind fa ph (p + 1)), nI (σ (wk (w - 1))), nI np, xv, 1, 100, nI st, nI w, y_peak, nI sp, x_pendingCount, y_parent, y_fields, y_bound, x_tokenKind, x_tokenValue, x_globals, x_thingShown, x_thingClass, x_thingFields, x_thingToken, x_thingMaker, x_variables, x_homeOf, x_within, x_foundIn, x_baseFrame, x_frameToken, x_frameStage, x_frameLink, x_operands, y_heard, x_marked, x_pending) := fun Q h => by
    unfold wpX_handOn
    dsimp only
    rw [xr, nI_pred]
    refine nm_e ?_
    rw [xrc, xtk]
    refine ⟨vxr, nm_e (br_f (gx_m1 (by omega)) ⟨vp_in_nI (by omega) (by decide), ?_⟩)⟩
    rw [fac, xkd]
    exact h
  have TF := rn_TF A
  have nd3 : tk_nd y_kind y_word (fa p) = 3 := by unfold tk_nd; rw [k23]; rfl
  have pte : ∀ φ, fr_pt (y_kind (fa p)) φ = φ := fun φ => by unfold fr_pt; rw [if_neg (fun z => by have := z.1; rw [k23] at this; exact absurd this (by decide))]
  have ce : ∀ φ, φ ≠ 100 → fr_c (y_kind (fa p)) φ = 0 := fun φ h => by unfold fr_c; rw [if_neg h, if_pos (Or.inr (Or.inl k23))]
  have bse : bs (p + 1) = bs p := by rw [(F.1.2.2.2.2.1 p (by omega)).2.2.2.2.2.1, ce _ hp]; rfl
  have s0 : fr_s (y_kind (fa p)) = 0 := by unfold fr_s; rw [k23, if_neg (by decide)]
  obtain ⟨tt1, c1, c2, c3, c4, c5⟩ := fr_ch TF f1 (show 1 < tk_nd y_kind y_word (fa p) by omega)
  obtain ⟨n1, n2, n3', n4⟩ := n
  have mcl := A.2.2.2.1.1
  rcases tv_so (x_classCount := nI cc) (x_bodyCount := nI bc) (x_draftCount := nI dc) (x_wrongPlace := y_fault) (x_madeCount := nI mc) (x_frameCount := nI (fr_x y_kind fa ph p + 1)) (x_current := nI (σ (wk (w - 1)))) (x_next := nI np) (x_inHand := xv) (x_mode := 0) (x_outcome := 100) (x_stepCount := nI st) (x_atWork := nI w) (x_mostAtWork := y_peak) (x_saidCount := nI sp) (x_pendingCount := x_pendingCount) (x_classParent := y_parent) (x_classFields := y_fields) (x_bound := y_bound) (x_tokenKind := x_tokenKind) (x_tokenValue := x_tokenValue) (x_globals := x_globals) (x_thingShown := x_thingShown) (x_thingClass := x_thingClass) (x_thingFields := x_thingFields) (x_thingToken := x_thingToken) (x_thingMaker := x_thingMaker) (x_variables := x_variables) (x_homeOf := x_homeOf) (x_within := x_within) (x_foundIn := x_foundIn) (x_baseFrame := x_baseFrame) (x_frameToken := x_frameToken) (x_frameStage := x_frameStage) (x_frameLink := x_frameLink) (x_operands := x_operands) (x_saidValues := y_heard) (x_marked := x_marked) (x_pending := x_pending) A.2.2.1 (by omega) hv with ⟨sX, sY⟩ | ⟨sX, sY⟩
  · have tl : fr_tail (y_kind (fa p)) 2 := Or.inr ⟨k23, rfl⟩
    have F' := rn_set (φ := 2) (g := gg p) (aph' := upd y_phase p (nI 2)) (ago' := y_goal) (xtk' := x_frameToken) (xsg' := x_frameStage) (xlk' := x_frameLink) (xop' := x_operands) (yop' := y_operands) F hp (by decide) (Or.inr (Or.inr (Or.inl ⟨k23, by omega⟩))) (fun z _ => by rw [k23] at z; exact absurd z (by decide)) ⟨pk_us, fun q hq => ⟨pk_un (by omega), rfl⟩⟩ (fun _ _ => ⟨rfl, rfl, rfl⟩) (fun _ _ => rfl) (fun _ _ => rfl) (fun z => absurd tl z)
    refine ⟨(nI cc, nI bc, nI dc, y_fault, nI mc, nI (fr_x y_kind fa ph p), nI (σ (wk (w - 1))), nI (ex_e (tk_nd y_kind y_word) np), xv, 0, 100, nI st, nI w, y_peak, nI sp, x_pendingCount, y_parent, y_fields, y_bound, x_tokenKind, x_tokenValue, x_globals, x_thingShown, x_thingClass, x_thingFields, x_thingToken, x_thingMaker, x_variables, x_homeOf, x_within, x_foundIn, x_baseFrame, x_frameToken, x_frameStage, x_frameLink, x_operands, y_heard, x_marked, x_pending), (nI cc, nI bc, y_fault, nI mc, nI w, y_peak, nI st, nI (p + 1), nI (bs (p + 1)), y_code, 1, 0, yv, y_todos, y_marks, -10000000000, nI sp, y_parent, y_fields, y_bound, y_kind, y_word, y_size, y_sort, y_number, y_stands, y_keeps, y_cells, y_globals, y_within, y_foundIn, y_self, y_args, y_temps, y_param, y_live, y_work, y_under, y_at, y_in, upd y_phase p (nI 2), y_base, y_goal, y_operands, y_marked, y_todo, y_heard), tm + 1, by omega, fun PX k => xt_hand (by omega) (fun Q q => goX Q (nm_r k23 (br_f (by decide) (br_t rfl ?_)))) k, fun PY m k => YL_mono (yt_deliver (fun Q q => goY Q (nm_r k23 (br_f (by decide) (br_t rfl ?_)))) k) (by omega), Or.inr (set_N A F' (by decide) (by rw [ct_bf (fun z => z tl)]; rfl) (by rw [ce 2 (by decide), bse]; rfl) (by rw [pte, enp]; rfl) (Or.inl ⟨by rw [pte, nd3]; omega, rfl, rfl⟩) ⟨n1, ?_⟩)⟩
    · unfold wpX_afterIf
      dsimp only
      rw [xrc, xsg, h0, s0]
      refine ⟨vxr, br_f (by decide) (br_t rfl (br_t rfl (sX _ (br_t rfl ?_))))⟩
      unfold wX_afterIf_48
      rw [nI_pred, enp]
      rw [enp] at q
      exact xw_endT A tt1 (nm_e q)
    · rw [h0]
      exact ⟨vp, br_t (by decide) (sY _ (br_t rfl ⟨vp, nm_e q⟩))⟩
    · rw [enp] at n2 n3' n4 ⊢
      unfold rn_mu at n2 n3' n4 ⊢
      omega
  · have nt1 : ¬ fr_tail (y_kind (fa p)) 1 := fun z => by
      rcases z with ⟨z, _⟩ | ⟨_, z⟩
      · rw [k23] at z; exact absurd z (by decide)
      · omega
    have F' := rn_set (φ := 1) (g := gg p) (aph' := upd y_phase p (nI 1)) (ago' := y_goal) (xtk' := x_frameToken) (xsg' := upd x_frameStage (fr_x y_kind fa ph p) 1) (xlk' := x_frameLink) (xop' := x_operands) (yop' := y_operands) F hp (by decide) (Or.inr (Or.inr (Or.inl ⟨k23, by omega⟩))) (fun z _ => by rw [k23] at z; exact absurd z (by decide)) ⟨pk_us, fun q hq => ⟨pk_un (by omega), rfl⟩⟩ (fun R hR => ⟨rfl, pk_un (by omega), rfl⟩) (fun _ _ => rfl) (fun _ _ => rfl) (fun _ => ⟨xtk, by rw [s0]; exact pk_us, fun z _ => by rw [k23] at z; exact absurd z (by decide), by rw [ce 1 (by decide)]; rw [ce _ hp] at xO; exact xO⟩)
    refine ⟨(nI cc, nI bc, nI dc, y_fault, nI mc, nI (fr_x y_kind fa ph p + 1), nI (σ (wk (w - 1))), nI np, xv, 0, 100, nI st, nI w, y_peak, nI sp, x_pendingCount, y_parent, y_fields, y_bound, x_tokenKind, x_tokenValue, x_globals, x_thingShown, x_thingClass, x_thingFields, x_thingToken, x_thingMaker, x_variables, x_homeOf, x_within, x_foundIn, x_baseFrame, x_frameToken, upd x_frameStage (fr_x y_kind fa ph p) 1, x_frameLink, x_operands, y_heard, x_marked, x_pending), (nI cc, nI bc, y_fault, nI mc, nI w, y_peak, nI st, nI (p + 1), nI (bs (p + 1)), y_code, 1, 0, yv, y_todos, y_marks, -10000000000, nI sp, y_parent, y_fields, y_bound, y_kind, y_word, y_size, y_sort, y_number, y_stands, y_keeps, y_cells, y_globals, y_within, y_foundIn, y_self, y_args, y_temps, y_param, y_live, y_work, y_under, y_at, y_in, upd y_phase p (nI 1), y_base, y_goal, y_operands, y_marked, y_todo, y_heard), tm + 1, by omega, fun PX k => xt_hand (by omega) (fun Q q => goX Q (nm_r k23 (br_f (by decide) (br_t rfl ?_)))) k, fun PY m k => YL_mono (yt_deliver (fun Q q => goY Q (nm_r k23 (br_f (by decide) (br_t rfl ?_)))) k) (by omega), Or.inr (set_N A F' (by decide) (by rw [ct_bt nt1]) (by rw [ce 1 (by decide), bse]; rfl) (by rw [pte, enp]) (Or.inl ⟨by rw [pte, nd3]; omega, rfl, rfl⟩) ⟨n1, ?_⟩)⟩
    · unfold wpX_afterIf
      dsimp only
      rw [xrc, xsg, h0, s0]
      refine ⟨vxr, br_f (by decide) (br_t rfl (br_t rfl (sX _ (br_f (by decide) ⟨vxr, ?_⟩))))⟩
      rw [xrc]
      exact nm_e q
    · rw [h0]
      exact ⟨vp, br_t (by decide) (sY _ (br_f (by decide) ⟨vp, nm_e q⟩))⟩
    · unfold rn_mu at n2 n3' n4 ⊢
      omega
theorem go_if1 {p tm : Nat} (A : rn_A cc bc dc mc T ST SA lv τ σ lev ho x_tokenKind x_tokenValue y_kind y_word y_size y_parent y_fields y_bound x_globals y_globals x_thingShown x_thingClass x_thingFields x_thingToken x_thingMaker x_variables x_homeOf x_within x_foundIn y_sort y_number y_stands y_keeps y_cells y_within y_foundIn y_self y_args y_temps y_param) (F : rn_F T ST SA lv σ lev ho y_kind y_word fa ph bs ow gg wk un rt (p + 1) w y_sort y_number x_frameToken x_frameStage x_frameLink x_operands x_baseFrame y_operands y_self y_at y_in y_phase y_base y_goal y_work y_under y_live) {xv yv : Int64} (hv : hp_v ST (hp_s y_sort y_number) xv yv) (k23 : y_kind (fa p) = 23) (h0 : ph p = 1) {np : Nat} (enp : np = ex_pt (tk_nd y_kind y_word) (fa p) 2) (n : rn_n B (M + 1) mc st sp (rn_mu (tk_nd y_kind y_word) fa un rt st (p + 1) w np 2)) (ht : tm + 2 ≤ 1000000) :
    rn_Go B M tm (nI cc, nI bc, nI dc, y_fault, nI mc, nI (fr_x y_kind fa ph (p + 1)), nI (σ (wk (w - 1))), nI np, xv, 1, 100, nI st, nI w, y_peak, nI sp, x_pendingCount, y_parent, y_fields, y_bound, x_tokenKind, x_tokenValue, x_globals, x_thingShown, x_thingClass, x_thingFields, x_thingToken, x_thingMaker, x_variables, x_homeOf, x_within, x_foundIn, x_baseFrame, x_frameToken, x_frameStage, x_frameLink, x_operands, y_heard, x_marked, x_pending) (nI cc, nI bc, y_fault, nI mc, nI w, y_peak, nI st, nI (p + 1), nI (bs (p + 1)), y_code, 1, 1, yv, y_todos, y_marks, -10000000000, nI sp, y_parent, y_fields, y_bound, y_kind, y_word, y_size, y_sort, y_number, y_stands, y_keeps, y_cells, y_globals, y_within, y_foundIn, y_self, y_args, y_temps, y_param, y_live, y_work, y_under, y_at, y_in, y_phase, y_base, y_goal, y_operands, y_marked, y_todo, y_heard) := by
  have hp : ph p ≠ 100 := by omega
  have nt : ¬ fr_tail (y_kind (fa p)) (ph p) := fun z => by
    rcases z with ⟨z, _⟩ | ⟨_, z⟩
    · rw [k23] at z; exact absurd z (by decide)
    · omega
  obtain ⟨f1, eo, f5, p3, p5, b3, y1, y2, y3, y4, a3, n3, p383⟩ := rn_top A F hp
  have hxr := rn_xr A F hp
  have ep : nI (p + 1) - 1 = nI p := nI_pred p
  have pc : (nI p).toNatClampNeg = p := nI_clamp (by omega)
  have vp : vp_in (nI p) 500 := vp_in_nI p5 (by decide)
  have fac : (nI (fa p)).toNatClampNeg = fa p := nI_clamp (by omega)
  have xr : fr_x y_kind fa ph (p + 1) = fr_x y_kind fa ph p + 1 := by
    show _ + ct_b _ = _
    rw [ct_bt nt]
  have xrc : (nI (fr_x y_kind fa ph p)).toNatClampNeg = fr_x y_kind fa ph p := nI_clamp (by omega)
  have vxr : vp_in (nI (fr_x y_kind fa ph p)) 385 := vp_in_nI hxr (by decide)
  obtain ⟨xtk, xsg, xlk, xO⟩ := (F.2.2.1.2 p (by omega) nt).2 hp
  have xkd : x_tokenKind (fa p) = y_kind (fa p) := (A.1.2.2.1.2.1 _ f1).2.1
  have xvl : x_tokenValue (fa p) = y_word (fa p) := (A.1.2.2.1.2.1 _ f1).2.2.1
  have goY : ∀ Q : SY → Prop, (∀ k : Int32, k = y_kind (fa p) → _) → wpY_deliver Q (nI cc, nI bc, y_fault, nI mc, nI w, y_peak, nI st, nI (p + 1), nI (bs (p + 1)), y_code, 1, 1, yv, y_todos, y_marks, -10000000000, nI sp, y_parent, y_fields, y_bound, y_kind, y_word, y_size, y_sort, y_number, y_stands, y_keeps, y_cells, y_globals, y_within, y_foundIn, y_self, y_args, y_temps, y_param, y_live, y_work, y_under, y_at, y_in, y_phase, y_base, y_goal, y_operands, y_marked, y_todo, y_heard) := fun Q h => by
    unfold wpY_deliver
    dsimp only
    rw [ep]
    refine nm_e (br_t (nI_pos' (by omega)) ?_)
    rw [pc, y3]
    refine ⟨vp, br_f (fun z => hp ((nI_eq (b := 100) (by omega) (by decide)).mp z)) ⟨vp, ?_⟩⟩
    rw [y1, fac]
    exact ⟨vp_in_nI (by omega) (by decide), h⟩
  have goX : ∀ Q : SX → Prop, (∀ k : Int32, k = y_kind (fa p) → _) → wpX_handOn Q (nI cc, nI bc, nI dc, y_fault, nI mc, nI (fr_x y_kind fa ph (p + 1)), nI (σ (wk (w - 1))), nI np, xv, 1, 100, nI st, nI w, y_peak, nI sp, x_pendingCount, y_parent, y_fields, y_bound, x_tokenKind, x_tokenValue, x_globals, x_thingShown, x_thingClass, x_thingFields, x_thingToken, x_thingMaker, x_variables, x_homeOf, x_within, x_foundIn, x_baseFrame, x_frameToken, x_frameStage, x_frameLink, x_operands, y_heard, x_marked, x_pending) := fun Q h => by
    unfold wpX_handOn
    dsimp only
    rw [xr, nI_pred]
    refine nm_e ?_
    rw [xrc, xtk]
    refine ⟨vxr, nm_e (br_f (gx_m1 (by omega)) ⟨vp_in_nI (by omega) (by decide), ?_⟩)⟩
    rw [fac, xkd]
    exact h
  have TF := rn_TF A
  have nd3 : tk_nd y_kind y_word (fa p) = 3 := by unfold tk_nd; rw [k23]; rfl
  have s0 : fr_s (y_kind (fa p)) = 0 := by unfold fr_s; rw [k23, if_neg (by decide)]
  obtain ⟨tt1, c1, c2, c3, c4, c5⟩ := fr_ch TF f1 (show 2 < tk_nd y_kind y_word (fa p) by omega)
  have e3 : ex_e (tk_nd y_kind y_word) (ex_pt (tk_nd y_kind y_word) (fa p) 2) = ex_e (tk_nd y_kind y_word) (fa p) := by
    have := (fr_en TF f1).2.2
    rw [nd3] at this
    exact this
  obtain ⟨n1, n2, n3', n4⟩ := mu_fin (show np ≤ ex_e (tk_nd y_kind y_word) (fa p) by omega) (by omega) n
  refine ⟨(nI cc, nI bc, nI dc, y_fault, nI mc, nI (fr_x y_kind fa ph p), nI (σ (wk (w - 1))), nI (ex_e (tk_nd y_kind y_word) (fa p)), xv, 1, 100, nI st, nI w, y_peak, nI sp, x_pendingCount, y_parent, y_fields, y_bound, x_tokenKind, x_tokenValue, x_globals, x_thingShown, x_thingClass, x_thingFields, x_thingToken, x_thingMaker, x_variables, x_homeOf, x_within, x_foundIn, x_baseFrame, x_frameToken, x_frameStage, x_frameLink, x_operands, y_heard, x_marked, x_pending), (nI cc, nI bc, y_fault, nI mc, nI w, y_peak, nI st, nI p, nI (bs p), y_code, 1, 1, yv, y_todos, y_marks, -10000000000, nI sp, y_parent, y_fields, y_bound, y_kind, y_word, y_size, y_sort, y_number, y_stands, y_keeps, y_cells, y_globals, y_within, y_foundIn, y_self, y_args, y_temps, y_param, y_live, y_work, y_under, y_at, y_in, y_phase, y_base, y_goal, y_operands, y_marked, y_todo, y_heard), tm + 1, by omega, fun PX k => xt_hand (by omega) (fun Q q => goX Q (nm_r k23 (br_f (by decide) (br_t rfl ?_)))) k, fun PY m k => YL_mono (yt_deliver (fun Q q => goY Q (nm_r k23 (br_f (by decide) (br_t rfl ?_)))) k) (by omega), Or.inr (fin_H A F hp (fun q hq => rfl) hv n3' n1 n2 n4)⟩
  · unfold wpX_afterIf
    dsimp only
    rw [xrc, xsg, h0, s0]
    refine ⟨vxr, br_t rfl (br_f (by decide) (br_f (by decide) ?_))⟩
    unfold wX_afterIf_48
    rw [nI_pred, enp]
    rw [← e3] at q
    exact xw_endT A tt1 (nm_e q)
  · rw [h0]
    exact ⟨vp, br_f (by decide) (yw_finish p5 y4 q)⟩
end
