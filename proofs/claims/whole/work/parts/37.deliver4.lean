/-! a value comes to the operator on top: ENSURE, and those that gather operands -/
theorem fr_genne {k : Int32} (h : fr_gen k) : ¬ k = 16 ∧ ¬ k = 23 ∧ ¬ k = 24 ∧ ¬ k = 27 := by
  unfold fr_gen at h
  refine ⟨fun z => ?_, fun z => ?_, fun z => ?_, fun z => ?_⟩ <;> (subst z; exact absurd h (by decide))
theorem fr_genc {k : Int32} {ph : Nat} (h : fr_gen k) (h1 : ph ≠ 100) : fr_c k ph = ph ∧ fr_pt k ph = ph := by
  obtain ⟨a, b, c, e⟩ := fr_genne h
  unfold fr_c fr_pt
  rw [if_neg h1, if_neg (fun z => by rcases z with z | z | z <;> contradiction), if_neg e, if_neg (fun z => e z.1)]
  exact ⟨rfl, rfl⟩
section
variable {x_classCount x_bodyCount x_draftCount x_wrongPlace x_madeCount x_frameCount x_current x_next x_mode x_outcome x_stepCount x_atWork x_mostAtWork x_saidCount x_pendingCount : Int32} {x_inHand : Int64} {x_classParent x_classFields x_bound x_tokenKind x_tokenValue x_thingClass x_thingToken x_thingMaker x_homeOf x_within x_foundIn x_baseFrame x_frameToken x_frameStage x_frameLink x_marked x_pending : Nat → Int32} {x_globals x_thingShown x_thingFields x_variables x_operands x_saidValues : Nat → Int64}
variable {y_classes y_bodies y_fault y_made y_working y_peak y_steps y_depth y_waiting y_code y_running y_has y_todos y_marks y_spoken : Int32} {y_got y_shown : Int64} {y_parent y_fields y_bound y_kind y_word y_size y_sort y_number y_stands y_keeps y_within y_foundIn y_live y_work y_under y_at y_in y_phase y_base y_goal y_marked y_todo : Nat → Int32} {y_cells y_globals y_self y_args y_temps y_param y_operands y_heard : Nat → Int64}
variable {cc bc dc mc st sp d w np md B M : Nat} {T ST SA : Nat → Prop} {lv τ σ lev ho fa ph bs ow gg wk un rt : Nat → Nat}
theorem go_gen {p tm : Nat} (A : rn_A cc bc dc mc T ST SA lv τ σ lev ho x_tokenKind x_tokenValue y_kind y_word y_size y_parent y_fields y_bound x_globals y_globals x_thingShown x_thingClass x_thingFields x_thingToken x_thingMaker x_variables x_homeOf x_within x_foundIn y_sort y_number y_stands y_keeps y_cells y_within y_foundIn y_self y_args y_temps y_param) (F : rn_F T ST SA lv σ lev ho y_kind y_word fa ph bs ow gg wk un rt (p + 1) w y_sort y_number x_frameToken x_frameStage x_frameLink x_operands x_baseFrame y_operands y_self y_at y_in y_phase y_base y_goal y_work y_under y_live) {xv yv : Int64} (hv : hp_v ST (hp_s y_sort y_number) xv yv) (kg : fr_gen (y_kind (fa p))) (hp : ph p ≠ 100) (hl : ph p < tk_nd y_kind y_word (fa p)) {np : Nat} (enp : np = ex_pt (tk_nd y_kind y_word) (fa p) (ph p + 1)) (n : rn_n B (M + 1) mc st sp (rn_mu (tk_nd y_kind y_word) fa un rt st (p + 1) w np 2)) (ht : tm + 2 ≤ 1000000) :
    rn_Go B M tm (nI cc, nI bc, nI dc, y_fault, nI mc, nI (fr_x y_kind fa ph (p + 1)), nI (σ (wk (w - 1))), nI np, xv, 1, 100, nI st, nI w, y_peak, nI sp, x_pendingCount, y_parent, y_fields, y_bound, x_tokenKind, x_tokenValue, x_globals, x_thingShown, x_thingClass, x_thingFields, x_thingToken, x_thingMaker, x_variables, x_homeOf, x_within, x_foundIn, x_baseFrame, x_frameToken, x_frameStage, x_frameLink, x_operands, y_heard, x_marked, x_pending) (nI cc, nI bc, y_fault, nI mc, nI w, y_peak, nI st, nI (p + 1), nI (bs (p + 1)), y_code, 1, 1, yv, y_todos, y_marks, -10000000000, nI sp, y_parent, y_fields, y_bound, y_kind, y_word, y_size, y_sort, y_number, y_stands, y_keeps, y_cells, y_globals, y_within, y_foundIn, y_self, y_args, y_temps, y_param, y_live, y_work, y_under, y_at, y_in, y_phase, y_base, y_goal, y_operands, y_marked, y_todo, y_heard) := by
  obtain ⟨k16, k23, k24, k27⟩ := fr_genne kg
  have ntφ : ∀ φ, ¬ fr_tail (y_kind (fa p)) φ := fun φ z => by
    rcases z with ⟨z, _⟩ | ⟨z, _⟩
    · exact k16 z
    · exact k23 z
  have nt := ntφ (ph p)
  obtain ⟨f1, eo, f5, p3, p5, b3, y1, y2, y3, y4, a3, n3, p383⟩ := rn_top A F hp
  have hxr := rn_xr A F hp
  have ep : nI (p + 1) - 1 = nI p := nI_pred p
  have pc : (nI p).toNatClampNeg = p := nI_clamp (by omega)
  have vp : vp_in (nI p) 500 := vp_in_nI p5 (by decide)
  have fac : (nI (fa p)).toNatClampNeg = fa p := nI_clamp (by omega)
  have xr : fr_x y_kind fa ph (p + 1) = fr_x y_kind fa ph p + 1 := by
    show _ + ct_b _ = _
    rw [ct_bt nt]
  have xrc : (nI (fr_x y_kind fa ph p)).toNatClampNeg = fr_x y_kind fa ph p := nI_clamp (by omega)
  have vxr : vp_in (nI (fr_x y_kind fa ph p)) 385 := vp_in_nI hxr (by decide)
  obtain ⟨xtk, xsg, xlk, xO⟩ := (F.2.2.1.2 p (by omega) nt).2 hp
  have xkd : x_tokenKind (fa p) = y_kind (fa p) := (A.1.2.2.1.2.1 _ f1).2.1
  have xvl : x_tokenValue (fa p) = y_word (fa p) := (A.1.2.2.1.2.1 _ f1).2.2.1
  have goY : ∀ Q : SY → Prop, (∀ k : Int32, k = y_kind (fa p) → _) → wpY_deliver Q (nI cc, nI bc, y_fault, nI mc, nI w, y_peak, nI st, nI (p + 1), nI (bs (p + 1)), y_code, 1, 1, yv, y_todos, y_marks, -10000000000, nI sp, y_parent, y_fields, y_bound, y_kind, y_word, y_size, y_sort, y_number, y_stands, y_keeps, y_cells, y_globals, y_within, y_foundIn, y_self, y_args, y_temps, y_param, y_live, y_work, y_under, y_at, y_in, y_phase, y_base, y_goal, y_operands, y_marked, y_todo, y_heard) := fun Q h => by
    unfold wpY_deliver
    dsimp only
    rw [ep]
    refine nm_e (br_t (nI_pos' (by omega)) ?_)
    rw [pc, y3]
    refine ⟨vp, br_f (fun z => hp ((nI_eq (b := 100) (by omega) (by decide)).mp z)) ⟨vp, ?_⟩⟩
    rw [y1, fac]
    exact ⟨vp_in_nI (by omega) (by decide), h⟩
  have goX : ∀ Q : SX → Prop, (∀ k : Int32, k = y_kind (fa p) → _) → wpX_handOn Q (nI cc, nI bc, nI dc, y_fault, nI mc, nI (fr_x y_kind fa ph (p + 1)), nI (σ (wk (w - 1))), nI np, xv, 1, 100, nI st, nI w, y_peak, nI sp, x_pendingCount, y_parent, y_fields, y_bound, x_tokenKind, x_tokenValue, x_globals, x_thingShown, x_thingClass, x_thingFields, x_thingToken, x_thingMaker, x_variables, x_homeOf, x_within, x_foundIn, x_baseFrame, x_frameToken, x_frameStage, x_frameLink, x_operands, y_heard, x_marked, x_pending) := fun Q h => by
    unfold wpX_handOn
    dsimp only
    rw [xr, nI_pred]
    refine nm_e ?_
    rw [xrc, xtk]
    refine ⟨vxr, nm_e (br_f (gx_m1 (by omega)) ⟨vp_in_nI (by omega) (by decide), ?_⟩)⟩
    rw [fac, xkd]
    exact h
  obtain ⟨ce, _⟩ := fr_genc kg hp
  obtain ⟨ce1, pe1⟩ := fr_genc (ph := ph p + 1) kg (by omega)
  have bse : bs (p + 1) = bs p + ph p := by rw [(F.1.2.2.2.2.1 p (by omega)).2.2.2.2.2.1, ce]
  have hs1 : fr_s (y_kind (fa p)) ≤ 1 := by unfold fr_s; split <;> omega
  have h11 : y_kind (fa p) = 11 → tk_nd y_kind y_word (fa p) ≤ 2 := rn_11 A f1
  have hs3 : ph p + fr_s (y_kind (fa p)) < 3 := by
    by_cases z : y_kind (fa p) = 11
    · have := h11 z; omega
    · have : fr_s (y_kind (fa p)) = 0 := by unfold fr_s; rw [if_neg z]
      omega
  obtain ⟨n1, n2, n3', n4⟩ := n
  rw [ce] at xO
  have eo3 : nI (fr_x y_kind fa ph p) * (3 : Int32) + nI (ph p + fr_s (y_kind (fa p))) = nI (fr_x y_kind fa ph p * 3 + (ph p + fr_s (y_kind (fa p)))) := ix_r 3 _ _
  have F' := rn_set (φ := ph p + 1) (g := gg p) (aph' := upd y_phase p (nI (ph p + 1))) (ago' := y_goal) (xtk' := x_frameToken) (xsg' := upd x_frameStage (fr_x y_kind fa ph p) (nI (ph p + fr_s (y_kind (fa p)) + 1))) (xlk' := x_frameLink) (xop' := vp_updL x_operands (fr_x y_kind fa ph p * 3 + (ph p + fr_s (y_kind (fa p)))) xv) (yop' := vp_updL y_operands (bs p + ph p) yv) F hp (by omega) (Or.inr (Or.inr (Or.inr (Or.inr (Or.inr ⟨kg, by omega⟩))))) (fun z _ => absurd z k27) ⟨pk_us, fun q hq => ⟨pk_un (by omega), rfl⟩⟩ (fun R hR => ⟨rfl, pk_un (by omega), rfl⟩) (fun j hj => pk_uLn (by omega)) (fun j hj => pk_uLn (by omega)) (fun _ => ⟨xtk, by rw [pk_us]; congr 1; omega, fun z _ => absurd z k27, fun i hi => by
    obtain ⟨o1, o2, o3⟩ := xO i hi
    rw [ce1]
    refine ⟨fun z => ?_, fun z1 z2 => ?_, fun z1 z2 => ?_⟩
    · rw [pk_uLn (by omega)]; exact o1 z
    · by_cases e : i - fr_s (y_kind (fa p)) = ph p
      · rw [show fr_x y_kind fa ph p * 3 + i = fr_x y_kind fa ph p * 3 + (ph p + fr_s (y_kind (fa p))) by omega, pk_uLs, e, pk_uLs]
        exact hv
      · rw [pk_uLn (by omega), pk_uLn (by omega)]
        exact o2 z1 (by omega)
    · rw [pk_uLn (by omega)]; exact o3 z1 (by omega)⟩)
  have goX2 : ∀ Q : SX → Prop, ∀ m : Int32, ((tk_nd y_kind y_word (fa p) + fr_s (y_kind (fa p)) ≤ ph p + fr_s (y_kind (fa p)) + 1 ∧ m = 2) ∨ (ph p + fr_s (y_kind (fa p)) + 1 < tk_nd y_kind y_word (fa p) + fr_s (y_kind (fa p)) ∧ m = 0)) → Q (nI cc, nI bc, nI dc, y_fault, nI mc, nI (fr_x y_kind fa ph p + 1), nI (σ (wk (w - 1))), nI np, xv, m, 100, nI st, nI w, y_peak, nI sp, x_pendingCount, y_parent, y_fields, y_bound, x_tokenKind, x_tokenValue, x_globals, x_thingShown, x_thingClass, x_thingFields, x_thingToken, x_thingMaker, x_variables, x_homeOf, x_within, x_foundIn, x_baseFrame, x_frameToken, upd x_frameStage (fr_x y_kind fa ph p) (nI (ph p + fr_s (y_kind (fa p)) + 1)), x_frameLink, vp_updL x_operands (fr_x y_kind fa ph p * 3 + (ph p + fr_s (y_kind (fa p)))) xv, y_heard, x_marked, x_pending) → wpX_handOn Q (nI cc, nI bc, nI dc, y_fault, nI mc, nI (fr_x y_kind fa ph (p + 1)), nI (σ (wk (w - 1))), nI np, xv, 1, 100, nI st, nI w, y_peak, nI sp, x_pendingCount, y_parent, y_fields, y_bound, x_tokenKind, x_tokenValue, x_globals, x_thingShown, x_thingClass, x_thingFields, x_thingToken, x_thingMaker, x_variables, x_homeOf, x_within, x_foundIn, x_baseFrame, x_frameToken, x_frameStage, x_frameLink, x_operands, y_heard, x_marked, x_pending) := fun Q m hm q => by
    refine goX Q (nm_e (br_f k16 (br_f k23 (br_f k24 (br_f k27 ?_)))))
    have l29 : wX_addOperand_29 Q (nI (fr_x y_kind fa ph p)) (nI (tk_nd y_kind y_word (fa p) + fr_s (y_kind (fa p)))) (nI cc) (nI bc) (nI dc) y_fault (nI mc) (nI (fr_x y_kind fa ph p + 1)) (nI (σ (wk (w - 1)))) (nI np) xv 1 100 (nI st) (nI w) y_peak (nI sp) x_pendingCount y_parent y_fields y_bound x_tokenKind x_tokenValue x_globals x_thingShown x_thingClass x_thingFields x_thingToken x_thingMaker x_variables x_homeOf x_within x_foundIn x_baseFrame x_frameToken x_frameStage x_frameLink x_operands y_heard x_marked x_pending := by
      unfold wX_addOperand_29
      rw [xrc, xsg, eo3, nI_clamp (show fr_x y_kind fa ph p * 3 + (ph p + fr_s (y_kind (fa p))) < 2 ^ 31 by omega), nI_1]
      refine ⟨vxr, vp_in_nI (by omega) (by decide), nm_e ⟨vxr, vxr, nm_e ⟨vxr, ?_⟩⟩⟩
      rw [pk_us]
      rcases hm with ⟨a, rfl⟩ | ⟨a, rfl⟩
      · exact br_t (nI_le a (by omega)) q
      · exact br_f (nI_ge a (by omega)) q
    unfold wpX_addOperand
    dsimp only
    rw [fac, xkd, xvl]
    refine ⟨vp_in_nI (by omega) (by decide), nm_e ⟨vp_in_nI (by omega) (by decide), xw_needs (A.1.2.2.1.2.1 _ f1).2.2.2.1 ?_⟩⟩
    by_cases z : y_kind (fa p) = 11
    · have s1 : fr_s (y_kind (fa p)) = 1 := by unfold fr_s; rw [if_pos z]
      rw [s1] at l29
      exact br_t z (nm_r (nI_1 _) l29)
    · have s0 : fr_s (y_kind (fa p)) = 0 := by unfold fr_s; rw [if_neg z]
      rw [s0, Nat.add_zero] at l29
      exact br_f z l29
  have goY2 : ∀ Q : SY → Prop, Q (nI cc, nI bc, y_fault, nI mc, nI w, y_peak, nI st, nI (p + 1), nI (bs p + (ph p + 1)), y_code, 1, 0, yv, y_todos, y_marks, -10000000000, nI sp, y_parent, y_fields, y_bound, y_kind, y_word, y_size, y_sort, y_number, y_stands, y_keeps, y_cells, y_globals, y_within, y_foundIn, y_self, y_args, y_temps, y_param, y_live, y_work, y_under, y_at, y_in, upd y_phase p (nI (ph p + 1)), y_base, y_goal, vp_updL y_operands (bs p + ph p) yv, y_marked, y_todo, y_heard) → wpY_deliver Q (nI cc, nI bc, y_fault, nI mc, nI w, y_peak, nI st, nI (p + 1), nI (bs (p + 1)), y_code, 1, 1, yv, y_todos, y_marks, -10000000000, nI sp, y_parent, y_fields, y_bound, y_kind, y_word, y_size, y_sort, y_number, y_stands, y_keeps, y_cells, y_globals, y_within, y_foundIn, y_self, y_args, y_temps, y_param, y_live, y_work, y_under, y_at, y_in, y_phase, y_base, y_goal, y_operands, y_marked, y_todo, y_heard) := fun Q q => by
    refine goY Q (nm_e (br_f k16 (br_f k23 (br_f k24 (br_f k27 ?_)))))
    rw [bse, nI_1, nI_1, nI_clamp (show bs p + ph p < 2 ^ 31 by omega)]
    exact nm_e ⟨vp_in_nI (by omega) (by decide), nm_e ⟨vp, vp, nm_e q⟩⟩
  rcases Nat.lt_or_ge (ph p + 1) (tk_nd y_kind y_word (fa p)) with z | z
  · refine ⟨_, _, tm + 1, by omega, fun PX k => xt_hand (by omega) (fun Q q => goX2 Q 0 (Or.inr ⟨by omega, rfl⟩) q) k, fun PY m k => YL_mono (yt_deliver goY2 k) (by omega), Or.inr (set_N A F' (by omega) (by rw [ct_bt (ntφ _)]) (by rw [ce1]) (by rw [pe1, enp]) (Or.inl ⟨by rw [pe1]; exact z, rfl, rfl⟩) ⟨n1, ?_⟩)⟩
    unfold rn_mu at n2 n3' n4 ⊢
    omega
  · refine ⟨_, _, tm + 1, by omega, fun PX k => xt_hand (by omega) (fun Q q => goX2 Q 2 (Or.inl ⟨by omega, rfl⟩) q) k, fun PY m k => YL_mono (yt_deliver goY2 k) (by omega), Or.inr (set_N A F' (by omega) (by rw [ct_bt (ntφ _)]) (by rw [ce1]) (by rw [pe1, enp]) (Or.inr ⟨by rw [pe1]; omega, rfl, rfl⟩) ⟨n1, ?_⟩)⟩
    unfold rn_mu at n2 n3' n4 ⊢
    omega
theorem go_ens0 {p tm : Nat} (A : rn_A cc bc dc mc T ST SA lv τ σ lev ho x_tokenKind x_tokenValue y_kind y_word y_size y_parent y_fields y_bound x_globals y_globals x_thingShown x_thingClass x_thingFields x_thingToken x_thingMaker x_variables x_homeOf x_within x_foundIn y_sort y_number y_stands y_keeps y_cells y_within y_foundIn y_self y_args y_temps y_param) (F : rn_F T ST SA lv σ lev ho y_kind y_word fa ph bs ow gg wk un rt (p + 1) w y_sort y_number x_frameToken x_frameStage x_frameLink x_operands x_baseFrame y_operands y_self y_at y_in y_phase y_base y_goal y_work y_under y_live) {xv yv : Int64} (hv : hp_v ST (hp_s y_sort y_number) xv yv) (k27 : y_kind (fa p) = 27) (h0 : ph p = 0) {np : Nat} (enp : np = ex_pt (tk_nd y_kind y_word) (fa p) 1) (n : rn_n B (M + 1) mc st sp (rn_mu (tk_nd y_kind y_word) fa un rt st (p + 1) w np 2)) (ht : tm + 2 ≤ 1000000) :
    rn_Go B M tm (nI cc, nI bc, nI dc, y_fault, nI mc, nI (fr_x y_kind fa ph (p + 1)), nI (σ (wk (w - 1))), nI np, xv, 1, 100, nI st, nI w, y_peak, nI sp, x_pendingCount, y_parent, y_fields, y_bound, x_tokenKind, x_tokenValue, x_globals, x_thingShown, x_thingClass, x_thingFields, x_thingToken, x_thingMaker, x_variables, x_homeOf, x_within, x_foundIn, x_baseFrame, x_frameToken, x_frameStage, x_frameLink, x_operands, y_heard, x_marked, x_pending) (nI cc, nI bc, y_fault, nI mc, nI w, y_peak, nI st, nI (p + 1), nI (bs (p + 1)), y_code, 1, 1, yv, y_todos, y_marks, -10000000000, nI sp, y_parent, y_fields, y_bound, y_kind, y_word, y_size, y_sort, y_number, y_stands, y_keeps, y_cells, y_globals, y_within, y_foundIn, y_self, y_args, y_temps, y_param, y_live, y_work, y_under, y_at, y_in, y_phase, y_base, y_goal, y_operands, y_marked, y_todo, y_heard) := by
  have hp : ph p ≠ 100 := by omega
  have ntφ : ∀ φ, ¬ fr_tail (y_kind (fa p)) φ := fun φ z => by
    rcases z with ⟨z, _⟩ | ⟨z, _⟩ <;> (rw [k27] at z; exact absurd z (by decide))
  have nt := ntφ (ph p)
  obtain ⟨f1, eo, f5, p3, p5, b3, y1, y2, y3, y4, a3, n3, p383⟩ := rn_top A F hp
  have hxr := rn_xr A F hp
  have ep : nI (p + 1) - 1 = nI p := nI_pred p
  have pc : (nI p).toNatClampNeg = p := nI_clamp (by omega)
  have vp : vp_in (nI p) 500 := vp_in_nI p5 (by decide)
  have fac : (nI (fa p)).toNatClampNeg = fa p := nI_clamp (by omega)
  have xr : fr_x y_kind fa ph (p + 1) = fr_x y_kind fa ph p + 1 := by
    show _ + ct_b _ = _
    rw [ct_bt nt]
  have xrc : (nI (fr_x y_kind fa ph p)).toNatClampNeg = fr_x y_kind fa ph p := nI_clamp (by omega)
  have vxr : vp_in (nI (fr_x y_kind fa ph p)) 385 := vp_in_nI hxr (by decide)
  obtain ⟨xtk, xsg, xlk, xO⟩ := (F.2.2.1.2 p (by omega) nt).2 hp
  have xkd : x_tokenKind (fa p) = y_kind (fa p) := (A.1.2.2.1.2.1 _ f1).2.1
  have xvl : x_tokenValue (fa p) = y_word (fa p) := (A.1.2.2.1.2.1 _ f1).2.2.1
  have goY : ∀ Q : SY → Prop, (∀ k : Int32, k = y_kind (fa p) → _) → wpY_deliver Q (nI cc, nI bc, y_fault, nI mc, nI w, y_peak, nI st, nI (p + 1), nI (bs (p + 1)), y_code, 1, 1, yv, y_todos, y_marks, -10000000000, nI sp, y_parent, y_fields, y_bound, y_kind, y_word, y_size, y_sort, y_number, y_stands, y_keeps, y_cells, y_globals, y_within, y_foundIn, y_self, y_args, y_temps, y_param, y_live, y_work, y_under, y_at, y_in, y_phase, y_base, y_goal, y_operands, y_marked, y_todo, y_heard) := fun Q h => by
    unfold wpY_deliver
    dsimp only
    rw [ep]
    refine nm_e (br_t (nI_pos' (by omega)) ?_)
    rw [pc, y3]
    refine ⟨vp, br_f (fun z => hp ((nI_eq (b := 100) (by omega) (by decide)).mp z)) ⟨vp, ?_⟩⟩
    rw [y1, fac]
    exact ⟨vp_in_nI (by omega) (by decide), h⟩
  have goX : ∀ Q : SX → Prop, (∀ k : Int32, k = y_kind (fa p) → _) → wpX_handOn Q (nI cc, nI bc, nI dc, y_fault, nI mc, nI (fr_x y_kind fa ph (p + 1)), nI (σ (wk (w - 1))), nI np, xv, 1, 100, nI st, nI w, y_peak, nI sp, x_pendingCount, y_parent, y_fields, y_bound, x_tokenKind, x_tokenValue, x_globals, x_thingShown, x_thingClass, x_thingFields, x_thingToken, x_thingMaker, x_variables, x_homeOf, x_within, x_foundIn, x_baseFrame, x_frameToken, x_frameStage, x_frameLink, x_operands, y_heard, x_marked, x_pending) := fun Q h => by
    unfold wpX_handOn
    dsimp only
    rw [xr, nI_pred]
    refine nm_e ?_
    rw [xrc, xtk]
    refine ⟨vxr, nm_e (br_f (gx_m1 (by omega)) ⟨vp_in_nI (by omega) (by decide), ?_⟩)⟩
    rw [fac, xkd]
    exact h
  have nd2 : tk_nd y_kind y_word (fa p) = 2 := by unfold tk_nd; rw [k27]; rfl
  have ce : fr_c (y_kind (fa p)) (ph p) = 0 := by rw [k27, h0]; rfl
  have ce1 : fr_c (y_kind (fa p)) 1 = 1 := by rw [k27]; rfl
  have pe1 : fr_pt (y_kind (fa p)) 1 = 1 := by unfold fr_pt; rw [if_neg (fun z => by have := z.2; omega)]
  have s0 : fr_s (y_kind (fa p)) = 0 := by unfold fr_s; rw [k27, if_neg (by decide)]
  have bse : bs (p + 1) = bs p := by rw [(F.1.2.2.2.2.1 p (by omega)).2.2.2.2.2.1, ce]; rfl
  obtain ⟨n1, n2, n3', n4⟩ := n
  rw [ce] at xO
  have e3 : nI (fr_x y_kind fa ph p) * (3 : Int32) = nI (fr_x y_kind fa ph p * 3) := pk_mul _ 3
  have c3 : (nI (fr_x y_kind fa ph p * 3)).toNatClampNeg = fr_x y_kind fa ph p * 3 := nI_clamp (by omega)
  have v3 : vp_in (nI (fr_x y_kind fa ph p * 3)) 1155 := vp_in_nI (by omega) (by decide)
  have F' := rn_set (φ := 1) (g := gg p) (aph' := upd y_phase p 1) (ago' := y_goal) (xtk' := x_frameToken) (xsg' := upd x_frameStage (fr_x y_kind fa ph p) 1) (xlk' := x_frameLink) (xop' := vp_updL x_operands (fr_x y_kind fa ph p * 3) xv) (yop' := vp_updL y_operands (bs p) yv) F hp (by decide) (Or.inr (Or.inr (Or.inr (Or.inr (Or.inl ⟨k27, by omega⟩))))) (fun _ z => by omega) ⟨pk_us, fun q hq => ⟨pk_un (by omega), rfl⟩⟩ (fun R hR => ⟨rfl, pk_un (by omega), rfl⟩) (fun j hj => pk_uLn (by omega)) (fun j hj => pk_uLn (by omega)) (fun _ => ⟨xtk, by rw [s0]; exact pk_us, fun _ z => by omega, fun i hi => by
    obtain ⟨o1, o2, o3⟩ := xO i hi
    rw [ce1]
    rw [s0] at o1 o2 o3 ⊢
    refine ⟨fun z => by omega, fun z1 z2 => ?_, fun z1 z2 => ?_⟩
    · obtain rfl : i = 0 := by omega
      rw [Nat.add_zero, pk_uLs, show bs p + (0 - 0) = bs p from rfl, pk_uLs]; exact hv
    · rw [pk_uLn (by omega)]; exact o3 z1 (by omega)⟩)
  refine ⟨(nI cc, nI bc, nI dc, y_fault, nI mc, nI (fr_x y_kind fa ph p + 1), nI (σ (wk (w - 1))), nI np, xv, 0, 100, nI st, nI w, y_peak, nI sp, x_pendingCount, y_parent, y_fields, y_bound, x_tokenKind, x_tokenValue, x_globals, x_thingShown, x_thingClass, x_thingFields, x_thingToken, x_thingMaker, x_variables, x_homeOf, x_within, x_foundIn, x_baseFrame, x_frameToken, upd x_frameStage (fr_x y_kind fa ph p) 1, x_frameLink, vp_updL x_operands (fr_x y_kind fa ph p * 3) xv, y_heard, x_marked, x_pending), (nI cc, nI bc, y_fault, nI mc, nI w, y_peak, nI st, nI (p + 1), nI (bs p + 1), y_code, 1, 0, yv, y_todos, y_marks, -10000000000, nI sp, y_parent, y_fields, y_bound, y_kind, y_word, y_size, y_sort, y_number, y_stands, y_keeps, y_cells, y_globals, y_within, y_foundIn, y_self, y_args, y_temps, y_param, y_live, y_work, y_under, y_at, y_in, upd y_phase p 1, y_base, y_goal, vp_updL y_operands (bs p) yv, y_marked, y_todo, y_heard), tm + 1, by omega, fun PX k => xt_hand (by omega) (fun Q q => goX Q (nm_r k27 (br_f (by decide) (br_f (by decide) (br_f (by decide) (br_t rfl ?_)))))) k, fun PY m k => YL_mono (yt_deliver (fun Q q => goY Q (nm_r k27 (br_f (by decide) (br_f (by decide) (br_f (by decide) (br_t rfl ?_)))))) k) (by omega), Or.inr (set_N A F' (by decide) (by rw [ct_bt (ntφ _)]) (by rw [ce1]) (by rw [pe1, enp]) (Or.inl ⟨by rw [pe1, nd2]; omega, rfl, rfl⟩) ⟨n1, ?_⟩)⟩
  · unfold wpX_afterEnsure
    dsimp only
    rw [xrc, xsg, h0, s0, e3, c3]
    exact ⟨v3, nm_e ⟨vxr, br_t rfl ⟨v3, nm_e ⟨vxr, nm_e q⟩⟩⟩⟩
  · unfold wpY_ensured
    dsimp only
    rw [pc, y3, h0, bse, nI_1, nI_clamp (show bs p < 2 ^ 31 by omega)]
    exact ⟨vp, br_t rfl (nm_e ⟨vp_in_nI (by omega) (by decide), nm_e ⟨vp, nm_e q⟩⟩)⟩
  · unfold rn_mu at n2 n3' n4 ⊢
    omega
theorem go_ens1 {p tm : Nat} (A : rn_A cc bc dc mc T ST SA lv τ σ lev ho x_tokenKind x_tokenValue y_kind y_word y_size y_parent y_fields y_bound x_globals y_globals x_thingShown x_thingClass x_thingFields x_thingToken x_thingMaker x_variables x_homeOf x_within x_foundIn y_sort y_number y_stands y_keeps y_cells y_within y_foundIn y_self y_args y_temps y_param) (F : rn_F T ST SA lv σ lev ho y_kind y_word fa ph bs ow gg wk un rt (p + 1) w y_sort y_number x_frameToken x_frameStage x_frameLink x_operands x_baseFrame y_operands y_self y_at y_in y_phase y_base y_goal y_work y_under y_live) {xv yv : Int64} (k27 : y_kind (fa p) = 27) (h0 : ph p = 1) {np : Nat} (enp : np = ex_e (tk_nd y_kind y_word) (fa p)) (n : rn_n B (M + 1) mc st sp (rn_mu (tk_nd y_kind y_word) fa un rt st (p + 1) w np 2)) (ht : tm + 2 ≤ 1000000) :
    rn_Go B M tm (nI cc, nI bc, nI dc, y_fault, nI mc, nI (fr_x y_kind fa ph (p + 1)), nI (σ (wk (w - 1))), nI np, xv, 1, 100, nI st, nI w, y_peak, nI sp, x_pendingCount, y_parent, y_fields, y_bound, x_tokenKind, x_tokenValue, x_globals, x_thingShown, x_thingClass, x_thingFields, x_thingToken, x_thingMaker, x_variables, x_homeOf, x_within, x_foundIn, x_baseFrame, x_frameToken, x_frameStage, x_frameLink, x_operands, y_heard, x_marked, x_pending) (nI cc, nI bc, y_fault, nI mc, nI w, y_peak, nI st, nI (p + 1), nI (bs (p + 1)), y_code, 1, 1, yv, y_todos, y_marks, -10000000000, nI sp, y_parent, y_fields, y_bound, y_kind, y_word, y_size, y_sort, y_number, y_stands, y_keeps, y_cells, y_globals, y_within, y_foundIn, y_self, y_args, y_temps, y_param, y_live, y_work, y_under, y_at, y_in, y_phase, y_base, y_goal, y_operands, y_marked, y_todo, y_heard) := by
  have hp : ph p ≠ 100 := by omega
  have nt : ¬ fr_tail (y_kind (fa p)) (ph p) := fun z => by
    rcases z with ⟨z, _⟩ | ⟨z, _⟩ <;> (rw [k27] at z; exact absurd z (by decide))
  obtain ⟨f1, eo, f5, p3, p5, b3, y1, y2, y3, y4, a3, n3, p383⟩ := rn_top A F hp
  have hxr := rn_xr A F hp
  have ep : nI (p + 1) - 1 = nI p := nI_pred p
  have pc : (nI p).toNatClampNeg = p := nI_clamp (by omega)
  have vp : vp_in (nI p) 500 := vp_in_nI p5 (by decide)
  have fac : (nI (fa p)).toNatClampNeg = fa p := nI_clamp (by omega)
  have xr : fr_x y_kind fa ph (p + 1) = fr_x y_kind fa ph p + 1 := by
    show _ + ct_b _ = _
    rw [ct_bt nt]
  have xrc : (nI (fr_x y_kind fa ph p)).toNatClampNeg = fr_x y_kind fa ph p := nI_clamp (by omega)
  have vxr : vp_in (nI (fr_x y_kind fa ph p)) 385 := vp_in_nI hxr (by decide)
  obtain ⟨xtk, xsg, xlk, xO⟩ := (F.2.2.1.2 p (by omega) nt).2 hp
  have xkd : x_tokenKind (fa p) = y_kind (fa p) := (A.1.2.2.1.2.1 _ f1).2.1
  have xvl : x_tokenValue (fa p) = y_word (fa p) := (A.1.2.2.1.2.1 _ f1).2.2.1
  have goY : ∀ Q : SY → Prop, (∀ k : Int32, k = y_kind (fa p) → _) → wpY_deliver Q (nI cc, nI bc, y_fault, nI mc, nI w, y_peak, nI st, nI (p + 1), nI (bs (p + 1)), y_code, 1, 1, yv, y_todos, y_marks, -10000000000, nI sp, y_parent, y_fields, y_bound, y_kind, y_word, y_size, y_sort, y_number, y_stands, y_keeps, y_cells, y_globals, y_within, y_foundIn, y_self, y_args, y_temps, y_param, y_live, y_work, y_under, y_at, y_in, y_phase, y_base, y_goal, y_operands, y_marked, y_todo, y_heard) := fun Q h => by
    unfold wpY_deliver
    dsimp only
    rw [ep]
    refine nm_e (br_t (nI_pos' (by omega)) ?_)
    rw [pc, y3]
    refine ⟨vp, br_f (fun z => hp ((nI_eq (b := 100) (by omega) (by decide)).mp z)) ⟨vp, ?_⟩⟩
    rw [y1, fac]
    exact ⟨vp_in_nI (by omega) (by decide), h⟩
  have goX : ∀ Q : SX → Prop, (∀ k : Int32, k = y_kind (fa p) → _) → wpX_handOn Q (nI cc, nI bc, nI dc, y_fault, nI mc, nI (fr_x y_kind fa ph (p + 1)), nI (σ (wk (w - 1))), nI np, xv, 1, 100, nI st, nI w, y_peak, nI sp, x_pendingCount, y_parent, y_fields, y_bound, x_tokenKind, x_tokenValue, x_globals, x_thingShown, x_thingClass, x_thingFields, x_thingToken, x_thingMaker, x_variables, x_homeOf, x_within, x_foundIn, x_baseFrame, x_frameToken, x_frameStage, x_frameLink, x_operands, y_heard, x_marked, x_pending) := fun Q h => by
    unfold wpX_handOn
    dsimp only
    rw [xr, nI_pred]
    refine nm_e ?_
    rw [xrc, xtk]
    refine ⟨vxr, nm_e (br_f (gx_m1 (by omega)) ⟨vp_in_nI (by omega) (by decide), ?_⟩)⟩
    rw [fac, xkd]
    exact h
  have ce : fr_c (y_kind (fa p)) (ph p) = 1 := by rw [k27, h0]; rfl
  have s0 : fr_s (y_kind (fa p)) = 0 := by unfold fr_s; rw [k27, if_neg (by decide)]
  obtain ⟨n1, n2, n3', n4⟩ := mu_fin (show np ≤ ex_e (tk_nd y_kind y_word) (fa p) by omega) (by omega) n
  have v0 := (xO 0 (by omega)).2.1 (by omega) (by omega)
  rw [s0, Nat.add_zero, Nat.add_zero] at v0
  have e3 : nI (fr_x y_kind fa ph p) * (3 : Int32) = nI (fr_x y_kind fa ph p * 3) := pk_mul _ 3
  have c3 : (nI (fr_x y_kind fa ph p * 3)).toNatClampNeg = fr_x y_kind fa ph p * 3 := nI_clamp (by omega)
  have v3 : vp_in (nI (fr_x y_kind fa ph p * 3)) 1155 := vp_in_nI (by omega) (by decide)
  refine ⟨(nI cc, nI bc, nI dc, y_fault, nI mc, nI (fr_x y_kind fa ph p), nI (σ (wk (w - 1))), nI (ex_e (tk_nd y_kind y_word) (fa p)), x_operands (fr_x y_kind fa ph p * 3), 1, 100, nI st, nI w, y_peak, nI sp, x_pendingCount, y_parent, y_fields, y_bound, x_tokenKind, x_tokenValue, x_globals, x_thingShown, x_thingClass, x_thingFields, x_thingToken, x_thingMaker, x_variables, x_homeOf, x_within, x_foundIn, x_baseFrame, x_frameToken, x_frameStage, x_frameLink, x_operands, y_heard, x_marked, x_pending), (nI cc, nI bc, y_fault, nI mc, nI w, y_peak, nI st, nI p, nI (bs p), y_code, 1, 1, y_operands (bs p), y_todos, y_marks, -10000000000, nI sp, y_parent, y_fields, y_bound, y_kind, y_word, y_size, y_sort, y_number, y_stands, y_keeps, y_cells, y_globals, y_within, y_foundIn, y_self, y_args, y_temps, y_param, y_live, y_work, y_under, y_at, y_in, y_phase, y_base, y_goal, y_operands, y_marked, y_todo, y_heard), tm + 1, by omega, fun PX k => xt_hand (by omega) (fun Q q => goX Q (nm_r k27 (br_f (by decide) (br_f (by decide) (br_f (by decide) (br_t rfl ?_)))))) k, fun PY m k => YL_mono (yt_deliver (fun Q q => goY Q (nm_r k27 (br_f (by decide) (br_f (by decide) (br_f (by decide) (br_t rfl ?_)))))) k) (by omega), Or.inr (fin_H A F hp (fun q hq => rfl) v0 n3' n1 n2 n4)⟩
  · unfold wpX_afterEnsure
    dsimp only
    rw [xrc, xsg, h0, s0, e3, c3, enp]
    exact ⟨v3, nm_e ⟨vxr, br_f (by decide) ⟨vxr, br_t rfl (nm_r (nI_pred _) q)⟩⟩⟩
  · unfold wpY_ensured
    dsimp only
    rw [pc, y3, y4, h0, nI_clamp (show bs p < 2 ^ 31 by omega)]
    exact ⟨vp, br_f (by decide) ⟨vp, vp_in_nI (by omega) (by decide), nm_e ⟨vp, br_t rfl (yw_finish p5 y4 q)⟩⟩⟩
end
