/-! an activation ends with a value -/
section
variable {x_classCount x_bodyCount x_draftCount x_wrongPlace x_madeCount x_frameCount x_current x_next x_mode x_outcome x_stepCount x_atWork x_mostAtWork x_saidCount x_pendingCount : Int32} {x_inHand : Int64} {x_classParent x_classFields x_bound x_tokenKind x_tokenValue x_thingClass x_thingToken x_thingMaker x_homeOf x_within x_foundIn x_baseFrame x_frameToken x_frameStage x_frameLink x_marked x_pending : Nat → Int32} {x_globals x_thingShown x_thingFields x_variables x_operands x_saidValues : Nat → Int64}
variable {y_classes y_bodies y_fault y_made y_working y_peak y_steps y_depth y_waiting y_code y_running y_has y_todos y_marks y_spoken : Int32} {y_got y_shown : Int64} {y_parent y_fields y_bound y_kind y_word y_size y_sort y_number y_stands y_keeps y_within y_foundIn y_live y_work y_under y_at y_in y_phase y_base y_goal y_marked y_todo : Nat → Int32} {y_cells y_globals y_self y_args y_temps y_param y_operands y_heard : Nat → Int64}
variable {cc bc dc mc st sp d w np md B M : Nat} {T ST SA : Nat → Prop} {lv τ σ lev ho fa ph bs ow gg wk un rt : Nat → Nat}
theorem xw_endAct {post : SX → Prop} {fc c w : Nat} (hf : fc < 385) (hc : c < 128) (h : post (x_classCount, x_bodyCount, x_draftCount, x_wrongPlace, x_madeCount, nI fc, x_frameLink fc, x_frameStage fc, x_inHand, x_mode, x_outcome, x_stepCount, nI w, x_mostAtWork, x_saidCount, x_pendingCount, x_classParent, x_classFields, x_bound, x_tokenKind, x_tokenValue, x_globals, x_thingShown, x_thingClass, x_thingFields, x_thingToken, x_thingMaker, x_variables, x_homeOf, x_within, x_foundIn, upd x_baseFrame c (-1), x_frameToken, x_frameStage, x_frameLink, x_operands, x_saidValues, x_marked, x_pending)) : wpX_endActivation post (x_classCount, x_bodyCount, x_draftCount, x_wrongPlace, x_madeCount, nI (fc + 1), nI c, x_next, x_inHand, x_mode, x_outcome, x_stepCount, nI (w + 1), x_mostAtWork, x_saidCount, x_pendingCount, x_classParent, x_classFields, x_bound, x_tokenKind, x_tokenValue, x_globals, x_thingShown, x_thingClass, x_thingFields, x_thingToken, x_thingMaker, x_variables, x_homeOf, x_within, x_foundIn, x_baseFrame, x_frameToken, x_frameStage, x_frameLink, x_operands, x_saidValues, x_marked, x_pending) := by
  unfold wpX_endActivation
  dsimp only
  rw [nI_pred, nI_pred]
  refine nm_e ?_
  rw [nI_clamp (show fc < 2 ^ 31 by omega), nI_clamp (show c < 2 ^ 31 by omega)]
  exact ⟨vp_in_nI hc (by decide), nm_e ⟨vp_in_nI hf (by decide), nm_e ⟨vp_in_nI hf (by decide), nm_e (nm_e h)⟩⟩⟩
theorem go_end {tm : Nat} (A : rn_A cc bc dc mc T ST SA lv τ σ lev ho x_tokenKind x_tokenValue y_kind y_word y_size y_parent y_fields y_bound x_globals y_globals x_thingShown x_thingClass x_thingFields x_thingToken x_thingMaker x_variables x_homeOf x_within x_foundIn y_sort y_number y_stands y_keeps y_cells y_within y_foundIn y_self y_args y_temps y_param) (F : rn_F T ST SA lv σ lev ho y_kind y_word fa ph bs ow gg wk un rt 0 w y_sort y_number x_frameToken x_frameStage x_frameLink x_operands x_baseFrame y_operands y_self y_at y_in y_phase y_base y_goal y_work y_under y_live) {xv yv : Int64} (hv : hp_v ST (hp_s y_sort y_number) xv yv) (hB : mc ≤ B) {np : Nat} (ht : tm + 2 ≤ 1000000) :
    rn_Go B M tm (nI cc, nI bc, nI dc, y_fault, nI mc, nI (fr_x y_kind fa ph 0), nI (σ (wk (w - 1))), nI np, xv, 1, 100, nI st, nI w, y_peak, nI sp, x_pendingCount, y_parent, y_fields, y_bound, x_tokenKind, x_tokenValue, x_globals, x_thingShown, x_thingClass, x_thingFields, x_thingToken, x_thingMaker, x_variables, x_homeOf, x_within, x_foundIn, x_baseFrame, x_frameToken, x_frameStage, x_frameLink, x_operands, y_heard, x_marked, x_pending) (nI cc, nI bc, y_fault, nI mc, nI w, y_peak, nI st, nI 0, nI (bs 0), y_code, 1, 1, yv, y_todos, y_marks, -10000000000, nI sp, y_parent, y_fields, y_bound, y_kind, y_word, y_size, y_sort, y_number, y_stands, y_keeps, y_cells, y_globals, y_within, y_foundIn, y_self, y_args, y_temps, y_param, y_live, y_work, y_under, y_at, y_in, y_phase, y_base, y_goal, y_operands, y_marked, y_todo, y_heard) := by
  have w1 : w = 1 := by
    have := F.1.2.2.2.2.2.1.1 rfl
    have := F.1.1
    omega
  subst w1
  obtain ⟨c1, c2, c3, _⟩ := rn_cur A F
  have W := rn_wl A F
  have mcl := A.2.2.2.1.1
  refine ⟨(nI cc, nI bc, nI dc, y_fault, nI mc, nI 0, x_frameLink 0, x_frameStage 0, xv, 1, 0, nI st, nI 0, y_peak, nI sp, x_pendingCount, y_parent, y_fields, y_bound, x_tokenKind, x_tokenValue, x_globals, x_thingShown, x_thingClass, x_thingFields, x_thingToken, x_thingMaker, x_variables, x_homeOf, x_within, x_foundIn, upd x_baseFrame (σ (wk (1 - 1))) (-1), x_frameToken, x_frameStage, x_frameLink, x_operands, y_heard, x_marked, x_pending), (nI cc, nI bc, y_fault, nI mc, nI 1, y_peak, nI st, nI 0, nI (bs 0), 0, 0, 0, yv, y_todos, y_marks, xv, nI sp, y_parent, y_fields, y_bound, y_kind, y_word, y_size, y_sort, y_number, y_stands, y_keeps, y_cells, y_globals, y_within, y_foundIn, y_self, y_args, y_temps, y_param, y_live, y_work, y_under, y_at, y_in, y_phase, y_base, y_goal, y_operands, y_marked, y_todo, y_heard), tm + 1, by omega, fun PX k => xt_hand (by omega) (fun Q q => ?_) k, fun PY m k => YL_mono (yt_deliver (fun Q q => ?_) k) (by omega), Or.inl ⟨cc, bc, dc, mc, 1, T, ST, SA, lv, τ, σ, lev, ho, ⟨rfl, rfl, rfl, rfl, rfl, rfl, rfl, rfl, rfl, rfl, rfl, rfl⟩, ⟨rfl, rfl, rfl, rfl, rfl, by omega⟩, ⟨by decide, rfl, Or.inl ⟨rfl, rfl⟩⟩, A, hB, W.2.1, W.2.2⟩⟩
  · unfold wpX_handOn
    dsimp only
    have x0 : fr_x y_kind fa ph 0 = 1 := by unfold fr_x; rfl
    have e0 : nI (fr_x y_kind fa ph 0) - 1 = nI 0 := by rw [x0]; exact nI_pred 0
    rw [e0]
    refine nm_e ⟨vp_in_nI (by decide) (by decide), nm_r (show x_frameToken (nI 0).toNatClampNeg = -1 from F.2.2.1.1.1) (br_t rfl ?_)⟩
    exact xw_endAct (fc := 0) (c := σ (wk (1 - 1))) (w := 0) (by decide) c3 (br_t rfl q)
  · unfold wpY_deliver
    dsimp only
    refine nm_e (br_f (by decide) (yv_show A.2.2.1 (by omega) hv ?_))
    exact q
theorem go_answer {p tm : Nat} (A : rn_A cc bc dc mc T ST SA lv τ σ lev ho x_tokenKind x_tokenValue y_kind y_word y_size y_parent y_fields y_bound x_globals y_globals x_thingShown x_thingClass x_thingFields x_thingToken x_thingMaker x_variables x_homeOf x_within x_foundIn y_sort y_number y_stands y_keeps y_cells y_within y_foundIn y_self y_args y_temps y_param) (F : rn_F T ST SA lv σ lev ho y_kind y_word fa ph bs ow gg wk un rt (p + 1) w y_sort y_number x_frameToken x_frameStage x_frameLink x_operands x_baseFrame y_operands y_self y_at y_in y_phase y_base y_goal y_work y_under y_live) {xv yv : Int64} (hv : hp_v ST (hp_s y_sort y_number) xv yv) (hp : ph p = 100) {np : Nat} (n : rn_n B (M + 1) mc st sp (rn_mu (tk_nd y_kind y_word) fa un rt st (p + 1) w np 2)) (ht : tm + 2 ≤ 1000000) :
    rn_Go B M tm (nI cc, nI bc, nI dc, y_fault, nI mc, nI (fr_x y_kind fa ph (p + 1)), nI (σ (wk (w - 1))), nI np, xv, 1, 100, nI st, nI w, y_peak, nI sp, x_pendingCount, y_parent, y_fields, y_bound, x_tokenKind, x_tokenValue, x_globals, x_thingShown, x_thingClass, x_thingFields, x_thingToken, x_thingMaker, x_variables, x_homeOf, x_within, x_foundIn, x_baseFrame, x_frameToken, x_frameStage, x_frameLink, x_operands, y_heard, x_marked, x_pending) (nI cc, nI bc, y_fault, nI mc, nI w, y_peak, nI st, nI (p + 1), nI (bs (p + 1)), y_code, 1, 1, yv, y_todos, y_marks, -10000000000, nI sp, y_parent, y_fields, y_bound, y_kind, y_word, y_size, y_sort, y_number, y_stands, y_keeps, y_cells, y_globals, y_within, y_foundIn, y_self, y_args, y_temps, y_param, y_live, y_work, y_under, y_at, y_in, y_phase, y_base, y_goal, y_operands, y_marked, y_todo, y_heard) := by
  obtain ⟨c1, c2, c3, _⟩ := rn_cur A F
  obtain ⟨S, Y, X, W⟩ := F
  obtain ⟨f1, f2, f3, f4, f5, f6, f7⟩ := S.2.2.2.2.1 p (by omega)
  obtain ⟨y1, y2, y3, y4, y5⟩ := Y.1 p (by omega)
  obtain ⟨ew, eu⟩ := (S.2.2.2.2.2.1.2 p rfl).1 hp
  have TF := rn_TF A
  obtain ⟨t1, t2, _⟩ := TF _ f1
  have pos := fr_pos TF S p (by omega) (fa p) (ow p) (fun e => by omega) (fun _ => rfl) f3 f4 f1
  have rr := fr_en TF (S.2.2.2.2.2.2.1 (ow p) pos.1)
  have w12 := S.2.1
  have nt : ¬ fr_tail (y_kind (fa p)) (ph p) := fun z => by rcases z with ⟨_, z⟩ | ⟨_, z⟩ <;> omega
  have xr : fr_x y_kind fa ph (p + 1) = fr_x y_kind fa ph p + 1 := by
    show _ + ct_b _ = _
    rw [ct_bt nt]
  have xle := fr_xle (K := y_kind) (fa := fa) (ph := ph) p
  have hxr : fr_x y_kind fa ph p < 385 := by omega
  obtain ⟨xtk, xsg, xlk, _⟩ := (X.2 p (by omega) nt).1 hp
  have xrc : (nI (fr_x y_kind fa ph p)).toNatClampNeg = fr_x y_kind fa ph p := nI_clamp (by omega)
  have pc : (nI p).toNatClampNeg = p := nI_clamp (by omega)
  have vp : vp_in (nI p) 500 := vp_in_nI (by omega) (by decide)
  obtain ⟨v, rfl⟩ : ∃ v, w = v + 2 := ⟨w - 2, by omega⟩
  have eo : ow p = v := by omega
  have S' := fr_res S (show p < p + 1 by omega)
  rw [eo] at S'
  have inj := W.2.1
  have sinj := A.2.2.1.2.2.1
  have W' : fr_W SA lev lv σ (upd x_baseFrame (σ (wk (v + 1))) (-1)) (upd y_live (wk (v + 1)) 0) y_kind fa ph wk un rt (v + 1) := by
    refine ⟨fun i hi => ?_, fun i j hi hj => inj i j (by omega) (by omega), fun b hb z => ?_, fun a ha => ?_⟩
    · obtain ⟨a1, a2, a3⟩ := W.1 i (by omega)
      refine ⟨a1, a2, ?_⟩
      rw [pk_un (fun z => ?_)]
      · exact a3
      · have := inj i (v + 1) (by omega) (by omega) (sinj _ _ a1 (W.1 (v + 1) (by omega)).1 z)
        omega
    · by_cases e : b = σ (wk (v + 1))
      · subst e; rw [pk_us] at z; exact absurd rfl z
      · rw [pk_un e] at z
        obtain ⟨i, i1, i2⟩ := W.2.2.1 b hb z
        refine ⟨i, ?_, i2⟩
        by_cases q : i = v + 1
        · subst q; exact absurd i2 e
        · omega
    · obtain ⟨l1, l2⟩ := W.2.2.2 a ha
      by_cases e : a = wk (v + 1)
      · subst e
        rw [pk_us]
        exact ⟨Or.inl rfl, fun z => absurd z (by decide), fun ⟨i, i1, i2⟩ => by
          have := inj i (v + 1) (by omega) (by omega) i2
          omega⟩
      · rw [pk_un e]
        refine ⟨l1, fun z => ?_, fun ⟨i, i1, i2⟩ => l2.mpr ⟨i, by omega, i2⟩⟩
        obtain ⟨i, i1, i2⟩ := l2.mp z
        refine ⟨i, ?_, i2⟩
        by_cases q : i = v + 1
        · subst q; exact absurd i2.symm e
        · omega
  have F' := rn_low (d' := p) (w' := v + 1) (aat' := y_at) (ain' := y_in) (aph' := y_phase) (aba' := y_base) (ago' := y_goal) (xtk' := x_frameToken) (xsg' := x_frameStage) (xlk' := x_frameLink) (xop' := x_operands) (yop' := y_operands) ⟨S, Y, X, W⟩ (by omega) (by omega) S' (fun _ _ => ⟨rfl, rfl, rfl, rfl, rfl⟩) (fun _ _ => ⟨rfl, rfl, rfl⟩) (fun _ _ => rfl) (fun _ _ => rfl) W'
  obtain ⟨n1, n2, n3', n4⟩ := n
  have hlow : un (v + 1) = p + 1 := by rw [show v + 2 - 1 = v + 1 by omega] at eu; exact eu
  refine ⟨(nI cc, nI bc, nI dc, y_fault, nI mc, nI (fr_x y_kind fa ph p), nI (σ (wk ((v + 1) - 1))), nI (ex_e (tk_nd y_kind y_word) (fa p)), xv, 1, 100, nI st, nI (v + 1), y_peak, nI sp, x_pendingCount, y_parent, y_fields, y_bound, x_tokenKind, x_tokenValue, x_globals, x_thingShown, x_thingClass, x_thingFields, x_thingToken, x_thingMaker, x_variables, x_homeOf, x_within, x_foundIn, upd x_baseFrame (σ (wk (v + 1))) (-1), x_frameToken, x_frameStage, x_frameLink, x_operands, y_heard, x_marked, x_pending), (nI cc, nI bc, y_fault, nI mc, nI (v + 1), y_peak, nI st, nI p, nI (bs p), y_code, 1, 1, yv, y_todos, y_marks, -10000000000, nI sp, y_parent, y_fields, y_bound, y_kind, y_word, y_size, y_sort, y_number, y_stands, y_keeps, y_cells, y_globals, y_within, y_foundIn, y_self, y_args, y_temps, y_param, upd y_live (wk (v + 1)) 0, y_work, y_under, y_at, y_in, y_phase, y_base, y_goal, y_operands, y_marked, y_todo, y_heard), tm + 1, by omega, fun PX k => xt_hand (by omega) (fun Q q => ?_) k, fun PY m k => YL_mono (yt_deliver (fun Q q => ?_) k) (by omega), Or.inr ⟨cc, bc, dc, mc, st, sp, p, v + 1, ex_e (tk_nd y_kind y_word) (fa p), 2, T, ST, SA, lv, τ, σ, lev, ho, fa, ph, bs, ow, gg, wk, un, rt, ⟨rfl, rfl, rfl, rfl, rfl, rfl, rfl, rfl, rfl, rfl, rfl, rfl, rfl, rfl, rfl, rfl, rfl⟩, ⟨rfl, rfl, rfl, rfl, rfl, rfl, rfl, rfl, rfl, rfl⟩, A, F', Or.inl ⟨rfl, rfl, rfl, hv, fa p, by rw [show v + 1 - 1 = ow p by omega]; exact f4, f1, rfl⟩, n1, ?_⟩⟩
  · unfold wpX_handOn
    dsimp only
    rw [xr, nI_pred]
    refine nm_e ?_
    rw [xrc, xtk]
    refine ⟨vp_in_nI hxr (by decide), nm_e (br_t rfl ?_)⟩
    refine xw_endAct (fc := fr_x y_kind fa ph p) (c := σ (wk (v + 2 - 1))) (w := v + 1) hxr c3 ?_
    refine br_f (nI_ne0 (by omega) (by omega)) ?_
    dsimp only
    rw [xsg, xlk, eo]
    exact q
  · unfold wpY_deliver
    dsimp only
    rw [nI_pred]
    refine nm_e (br_t (nI_pos' (by omega)) ?_)
    rw [pc, y3, hp]
    refine ⟨vp, br_t rfl ?_⟩
    unfold wpY_end
    dsimp only
    rw [show nI (v + 2) - 1 = nI (v + 1) from nI_pred (v + 1)]
    refine nm_e ?_
    rw [nI_clamp (show v + 1 < 2 ^ 31 by omega), (Y.2 (v + 1) (by omega)).1, nI_clamp (show wk (v + 1) < 2 ^ 31 by have := (A.2.2.1.2.1 _ (W.1 (v + 1) (by omega)).1).1; omega), show vp_nar .boolean 0 = 0 by rfl]
    refine ⟨vp_in_nI (by omega) (by decide), vp_in_nI (A.2.2.1.2.1 _ (W.1 (v + 1) (by omega)).1).1 (by decide), nm_e ?_⟩
    exact yw_finish (by omega) y4 q
  · have sm : fr_sum (fun i => 10 * (ex_e (tk_nd y_kind y_word) (rt i) - ex_e (tk_nd y_kind y_word) (fa (un (i + 1) - 1)))) (v + 2 - 1) = fr_sum (fun i => 10 * (ex_e (tk_nd y_kind y_word) (rt i) - ex_e (tk_nd y_kind y_word) (fa (un (i + 1) - 1)))) (v + 1 - 1) + 10 * (ex_e (tk_nd y_kind y_word) (rt v) - ex_e (tk_nd y_kind y_word) (fa p)) := by
      show fr_sum _ v + _ = fr_sum _ v + _
      dsimp only
      rw [hlow]; rfl
    unfold rn_mu at n2 n3' n4 ⊢
    rw [sm] at n2 n3' n4
    rw [show v + 1 - 1 = v by omega] at n2 n3' n4 ⊢
    omega
end
