/-! an operator is applied: SET, PUT -/
section
variable {x_classCount x_bodyCount x_draftCount x_wrongPlace x_madeCount x_frameCount x_current x_next x_mode x_outcome x_stepCount x_atWork x_mostAtWork x_saidCount x_pendingCount : Int32} {x_inHand : Int64} {x_classParent x_classFields x_bound x_tokenKind x_tokenValue x_thingClass x_thingToken x_thingMaker x_homeOf x_within x_foundIn x_baseFrame x_frameToken x_frameStage x_frameLink x_marked x_pending : Nat → Int32} {x_globals x_thingShown x_thingFields x_variables x_operands x_saidValues : Nat → Int64}
variable {y_classes y_bodies y_fault y_made y_working y_peak y_steps y_depth y_waiting y_code y_running y_has y_todos y_marks y_spoken : Int32} {y_got y_shown : Int64} {y_parent y_fields y_bound y_kind y_word y_size y_sort y_number y_stands y_keeps y_within y_foundIn y_live y_work y_under y_at y_in y_phase y_base y_goal y_marked y_todo : Nat → Int32} {y_cells y_globals y_self y_args y_temps y_param y_operands y_heard : Nat → Int64}
variable {cc bc dc mc st sp d w np md B M : Nat} {T ST SA : Nat → Prop} {lv τ σ lev ho fa ph bs ow gg wk un rt : Nat → Nat}
theorem hp_upT (H : hp_R cc mc T y_kind lv ST SA τ σ lev ho x_thingShown x_thingClass x_thingFields x_thingToken x_thingMaker x_variables x_homeOf x_within x_foundIn y_sort y_number y_stands y_keeps y_cells y_within y_foundIn y_self y_args y_temps y_param) {h s : Nat} (sh : SA h) (wh : y_within h = -1) (hs : s < 3) {x y : Int64} (hv : hp_v ST (hp_s y_sort y_number) x y) : hp_R cc mc T y_kind lv ST SA τ σ lev ho x_thingShown x_thingClass x_thingFields x_thingToken x_thingMaker (vp_updL x_variables (σ h * 7 + 3 + s) x) x_homeOf x_within x_foundIn y_sort y_number y_stands y_keeps y_cells y_within y_foundIn y_self y_args (vp_updL y_temps (3 * h + s) y) y_param := by
  refine ⟨H.1, fun a sa => ?_, H.2.2⟩
  obtain ⟨k1, k2, k3, k4, k5, k6, k7⟩ := H.2.1 a sa
  have hk2 := (H.2.1 h sh).2.1
  have nx : ∀ j, j < 7 → (a ≠ h ∨ j ≠ 3 + s) → vp_updL x_variables (σ h * 7 + 3 + s) x (σ a * 7 + j) = x_variables (σ a * 7 + j) := fun j hj q => pk_uLn (fun z => by
    rcases Nat.lt_trichotomy (σ a) (σ h) with e | e | e
    · omega
    · have := H.2.2.1 a h sa sh e
      rcases q with q | q
      · exact q this
      · omega
    · omega)
  refine ⟨k1, k2, k3, k4, k5, k6, ?_⟩
  rcases k7 with ⟨w1, a2, a3, a4, a5, v0, v1, v2, v3⟩ | ⟨b, w1, sb, b2, b3, b4, b5, b6⟩
  · refine Or.inl ⟨w1, a2, a3, a4, a5, ?_, fun j hj => ?_, fun j hj => ?_, ?_⟩
    · have this : vp_updL x_variables (σ h * 7 + 3 + s) x (σ a * 7) = x_variables (σ a * 7) := nx 0 (by omega) (Or.inr (by omega))
      rw [this]; exact v0
    · have := nx (1 + j) (by omega) (Or.inr (by omega))
      rw [← Nat.add_assoc] at this
      rw [this]; exact v1 j hj
    · by_cases e : a = h
      · subst e
        by_cases q : j = s
        · subst q; rw [pk_uLs, pk_uLs]; exact hv
        · have := nx (3 + j) (by omega) (Or.inr (by omega))
          rw [← Nat.add_assoc] at this
          rw [this, pk_uLn (by omega)]; exact v2 j hj
      · have := nx (3 + j) (by omega) (Or.inl e)
        rw [← Nat.add_assoc] at this
        rw [this, pk_uLn (by omega)]; exact v2 j hj
    · rw [nx 6 (by omega) (Or.inr (by omega))]; exact v3
  · have ne : a ≠ h := fun z => by
      subst z
      rw [wh] at w1
      exact absurd w1.symm (gx_m1 (by have := (H.2.1 b sb).1; omega))
    refine Or.inr ⟨b, w1, sb, b2, b3, b4, ?_, fun j hj => ?_⟩
    · rw [nx 6 (by omega) (Or.inl ne)]; exact b5
    · rw [nx j (by omega) (Or.inl ne)]; exact b6 j hj
theorem hp_upC (H : hp_R cc mc T y_kind lv ST SA τ σ lev ho x_thingShown x_thingClass x_thingFields x_thingToken x_thingMaker x_variables x_homeOf x_within x_foundIn y_sort y_number y_stands y_keeps y_cells y_within y_foundIn y_self y_args y_temps y_param) {k s : Nat} (sk : ST k) (k3 : ¬ y_sort k = 3) (hs : s < 4) {x y : Int64} (hv : hp_v ST (hp_s y_sort y_number) x y) : hp_R cc mc T y_kind lv ST SA τ σ lev ho x_thingShown x_thingClass (vp_updL x_thingFields (τ k * 4 + s) x) x_thingToken x_thingMaker x_variables x_homeOf x_within x_foundIn y_sort y_number y_stands y_keeps (vp_updL y_cells (4 * k + s) y) y_within y_foundIn y_self y_args y_temps y_param := by
  refine ⟨fun l sl => ?_, H.2⟩
  obtain ⟨k1, k2, k3', k4, k5, k6, k7, k8⟩ := H.1 l sl
  have nx : ∀ j, j < 4 → (l ≠ k ∨ j ≠ s) → vp_updL x_thingFields (τ k * 4 + s) x (τ l * 4 + j) = x_thingFields (τ l * 4 + j) := fun j hj q => pk_uLn (fun z => by
    rcases Nat.lt_trichotomy (τ l) (τ k) with e | e | e
    · omega
    · have := H.2.2.2 l k sl sk e
      rcases q with q | q
      · exact q this
      · omega
    · omega)
  refine ⟨k1, k2, k3', k4, k5, k6, fun s3 => ?_, fun s3 => ⟨(k8 s3).1, fun j hj => ?_⟩⟩
  · obtain ⟨p, a, p1, p2, p3, p4, p5, p6, p7, p8, p9⟩ := k7 s3
    have ne : l ≠ k := fun z => by subst z; exact k3 s3
    exact ⟨p, a, p1, p2, p3, p4, p5, p6, p7, p8, fun j hj => by rw [nx j hj (Or.inl ne)]; exact p9 j hj⟩
  · by_cases e : l = k
    · subst e
      by_cases q : j = s
      · subst q; rw [pk_uLs, pk_uLs]; exact hv
      · rw [nx j hj (Or.inr q), pk_uLn (by omega)]; exact (k8 s3).2 j hj
    · rw [nx j hj (Or.inl e), pk_uLn (by omega)]; exact (k8 s3).2 j hj
theorem go_set {p tm : Nat} (A : rn_A cc bc dc mc T ST SA lv τ σ lev ho x_tokenKind x_tokenValue y_kind y_word y_size y_parent y_fields y_bound x_globals y_globals x_thingShown x_thingClass x_thingFields x_thingToken x_thingMaker x_variables x_homeOf x_within x_foundIn y_sort y_number y_stands y_keeps y_cells y_within y_foundIn y_self y_args y_temps y_param) (F : rn_F T ST SA lv σ lev ho y_kind y_word fa ph bs ow gg wk un rt (p + 1) w y_sort y_number x_frameToken x_frameStage x_frameLink x_operands x_baseFrame y_operands y_self y_at y_in y_phase y_base y_goal y_work y_under y_live) (ek : y_kind (fa p) = 5) (hp : ph p ≠ 100) (hph : ph p = tk_nd y_kind y_word (fa p)) (n : rn_n B (M + 1) mc st sp (rn_mu (tk_nd y_kind y_word) fa un rt st (p + 1) w (ex_e (tk_nd y_kind y_word) (fa p)) 1)) (ht : tm + 2 ≤ 1000000) :
    rn_Go B M tm (nI cc, nI bc, nI dc, y_fault, nI mc, nI (fr_x y_kind fa ph (p + 1)), nI (σ (wk (w - 1))), nI (ex_e (tk_nd y_kind y_word) (fa p)), x_inHand, 2, 100, nI st, nI w, y_peak, nI sp, x_pendingCount, y_parent, y_fields, y_bound, x_tokenKind, x_tokenValue, x_globals, x_thingShown, x_thingClass, x_thingFields, x_thingToken, x_thingMaker, x_variables, x_homeOf, x_within, x_foundIn, x_baseFrame, x_frameToken, x_frameStage, x_frameLink, x_operands, y_heard, x_marked, x_pending) (nI cc, nI bc, y_fault, nI mc, nI w, y_peak, nI st, nI (p + 1), nI (bs (p + 1)), y_code, 1, 0, y_got, y_todos, y_marks, -10000000000, nI sp, y_parent, y_fields, y_bound, y_kind, y_word, y_size, y_sort, y_number, y_stands, y_keeps, y_cells, y_globals, y_within, y_foundIn, y_self, y_args, y_temps, y_param, y_live, y_work, y_under, y_at, y_in, y_phase, y_base, y_goal, y_operands, y_marked, y_todo, y_heard) := by
  have kg : fr_gen (y_kind (fa p)) := by unfold fr_gen; rw [ek]; decide
  have nt : ¬ fr_tail (y_kind (fa p)) (ph p) := fun z => by
    rcases z with ⟨z, _⟩ | ⟨z, _⟩ <;> (rw [ek] at z; exact absurd z (by decide))
  obtain ⟨f1, eo, f5, p3, p5, b3, y1, y2, y3, y4, a3, n3, p383⟩ := rn_top A F hp
  have hxr := rn_xr A F hp
  have TF := rn_TF A
  have pc : (nI p).toNatClampNeg = p := nI_clamp (by omega)
  have vp : vp_in (nI p) 500 := vp_in_nI p5 (by decide)
  have fac : (nI (fa p)).toNatClampNeg = fa p := nI_clamp (by omega)
  have vfa : vp_in (nI (fa p)) 416 := vp_in_nI (by omega) (by decide)
  have xr : fr_x y_kind fa ph (p + 1) = fr_x y_kind fa ph p + 1 := by
    show _ + ct_b _ = _
    rw [ct_bt nt]
  have xrc : (nI (fr_x y_kind fa ph p)).toNatClampNeg = fr_x y_kind fa ph p := nI_clamp (by omega)
  have vxr : vp_in (nI (fr_x y_kind fa ph p)) 385 := vp_in_nI hxr (by decide)
  have e3 : nI (fr_x y_kind fa ph p) * (3 : Int32) = nI (fr_x y_kind fa ph p * 3) := pk_mul _ 3
  have e31 : nI (fr_x y_kind fa ph p * 3) + 1 = nI (fr_x y_kind fa ph p * 3 + 1) := nI_1 _
  have c3 : (nI (fr_x y_kind fa ph p * 3)).toNatClampNeg = fr_x y_kind fa ph p * 3 := nI_clamp (by omega)
  have c31 : (nI (fr_x y_kind fa ph p * 3 + 1)).toNatClampNeg = fr_x y_kind fa ph p * 3 + 1 := nI_clamp (by omega)
  have v3 : vp_in (nI (fr_x y_kind fa ph p * 3)) 1155 := vp_in_nI (by omega) (by decide)
  have v31 : vp_in (nI (fr_x y_kind fa ph p * 3 + 1)) 1155 := vp_in_nI (by omega) (by decide)
  have bc0 : (nI (bs p)).toNatClampNeg = bs p := nI_clamp (by omega)
  have bc1 : (nI (bs p + 1)).toNatClampNeg = bs p + 1 := nI_clamp (by omega)
  have vb0 : vp_in (nI (bs p)) 500 := vp_in_nI (by omega) (by decide)
  have vb1 : vp_in (nI (bs p + 1)) 500 := vp_in_nI (by omega) (by decide)
  obtain ⟨xtk, xsg, xlk, xO⟩ := (F.2.2.1.2 p (by omega) nt).2 hp
  have xkd : x_tokenKind (fa p) = y_kind (fa p) := (A.1.2.2.1.2.1 _ f1).2.1
  have xvl : x_tokenValue (fa p) = y_word (fa p) := (A.1.2.2.1.2.1 _ f1).2.2.1
  obtain ⟨ce, pe⟩ := fr_genc kg hp
  rw [ce] at xO
  have hpt : fr_pt (y_kind (fa p)) (ph p) = tk_nd y_kind y_word (fa p) := by rw [pe]; exact hph
  have enp : ex_pt (tk_nd y_kind y_word) (fa p) (ph p) = ex_e (tk_nd y_kind y_word) (fa p) := by rw [hph]; exact (fr_en TF f1).2.2
  have goX : ∀ Q : SX → Prop, _ → wpX_applyOperator Q (nI cc, nI bc, nI dc, y_fault, nI mc, nI (fr_x y_kind fa ph (p + 1)), nI (σ (wk (w - 1))), nI (ex_e (tk_nd y_kind y_word) (fa p)), x_inHand, 2, 100, nI st, nI w, y_peak, nI sp, x_pendingCount, y_parent, y_fields, y_bound, x_tokenKind, x_tokenValue, x_globals, x_thingShown, x_thingClass, x_thingFields, x_thingToken, x_thingMaker, x_variables, x_homeOf, x_within, x_foundIn, x_baseFrame, x_frameToken, x_frameStage, x_frameLink, x_operands, y_heard, x_marked, x_pending) := fun Q h => by
    unfold wpX_applyOperator
    dsimp only
    rw [xr, nI_pred]
    refine nm_e ?_
    rw [xrc, xtk, e3, e31, c3, c31]
    refine ⟨vxr, nm_e ⟨vfa, ?_⟩⟩
    rw [fac, xkd, ek]
    exact nm_e ⟨v3, nm_e ⟨v31, nm_e h⟩⟩
  have goY : ∀ Q : SY → Prop, _ → wpY_next Q (nI cc, nI bc, y_fault, nI mc, nI w, y_peak, nI st, nI (p + 1), nI (bs (p + 1)), y_code, 1, 0, y_got, y_todos, y_marks, -10000000000, nI sp, y_parent, y_fields, y_bound, y_kind, y_word, y_size, y_sort, y_number, y_stands, y_keeps, y_cells, y_globals, y_within, y_foundIn, y_self, y_args, y_temps, y_param, y_live, y_work, y_under, y_at, y_in, y_phase, y_base, y_goal, y_operands, y_marked, y_todo, y_heard) := fun Q h => by
    refine yn_apply A F hp hpt ?_
    unfold wpY_apply
    dsimp only
    rw [pc, y1, y2, y4]
    refine ⟨vp, nm_e ⟨vfa, ?_⟩⟩
    rw [fac]
    refine nm_e ⟨vp, nm_e ⟨vp, yw_home A.2.2.1 (rn_cur A F).1 ⟨vb0, ?_⟩⟩⟩
    rw [bc0, nI_1, bc1]
    refine nm_e ⟨vb1, nm_e ⟨vfa, ?_⟩⟩
    rw [ek]
    exact nm_e h
  have s0 : fr_s (y_kind (fa p)) = 0 := by unfold fr_s; rw [ek, if_neg (by decide)]
  have nd1 : tk_nd y_kind y_word (fa p) = 1 := by unfold tk_nd; rw [ek]; rfl
  have v0 := (xO 0 (by omega)).2.1 (by omega) (by omega)
  rw [s0, Nat.add_zero, show bs p + (0 - 0) = bs p from rfl] at v0
  obtain ⟨n1, n2, n3', n4⟩ := mu_fin (Nat.le_refl _) (by omega) n
  obtain ⟨c1, c2, c3', c4, c5, c6, c7, _⟩ := rn_cur A F
  obtain ⟨_, _, _, ⟨kn', kl, ek', okl, _⟩, _⟩ := A.1.2.2.1.2.1 _ f1
  have ekk : kn' = 5 := (nI_eq (Nat.lt_trans kl (by decide)) (by decide)).mp (ek'.symm.trans ek)
  subst ekk
  obtain ⟨v, hv, ev⟩ := okl (by omega)
  have hv : v < 3 := hv
  have wh := (A.2.2.1.2.1 _ c1).2.2.2.2.2.1
  have A' : rn_A cc bc dc mc T ST SA lv τ σ lev ho x_tokenKind x_tokenValue y_kind y_word y_size y_parent y_fields y_bound x_globals y_globals x_thingShown x_thingClass x_thingFields x_thingToken x_thingMaker (vp_updL x_variables (σ (ho (wk (w - 1))) * 7 + 3 + v) (x_operands (fr_x y_kind fa ph p * 3))) x_homeOf x_within x_foundIn y_sort y_number y_stands y_keeps y_cells y_within y_foundIn y_self y_args (vp_updL y_temps (3 * ho (wk (w - 1)) + v) (y_operands (bs p))) y_param := by
    obtain ⟨s1, g1, H, U, ⟨q1, q2, q3, q4, q5⟩, X⟩ := A
    refine ⟨s1, g1, hp_upT H c4 wh hv v0, U, ⟨q1, q2, q3, fun i hi => ?_, q5⟩, X⟩
    by_cases z : i = 3 * ho (wk (w - 1)) + v
    · subst z; rw [pk_uLs]; exact hp_v_V v0
    · rw [pk_uLn z]; exact q4 i hi
  have eX : nI (σ (ho (wk (w - 1)))) * (7 : Int32) + 3 + nI v = nI (σ (ho (wk (w - 1))) * 7 + 3 + v) := by
    rw [show nI (σ (ho (wk (w - 1)))) * (7 : Int32) = nI (σ (ho (wk (w - 1))) * 7) from pk_mul _ 7, show nI (σ (ho (wk (w - 1))) * 7) + 3 = nI (σ (ho (wk (w - 1))) * 7 + 3) from nI_add _ 3, nI_add]
  have eY : (3 : Int32) * nI (ho (wk (w - 1))) + nI v = nI (3 * ho (wk (w - 1)) + v) := ix_l 3 _ v
  refine ⟨(nI cc, nI bc, nI dc, y_fault, nI mc, nI (fr_x y_kind fa ph p), nI (σ (wk (w - 1))), nI (ex_e (tk_nd y_kind y_word) (fa p)), x_operands (fr_x y_kind fa ph p * 3), 1, 100, nI st, nI w, y_peak, nI sp, x_pendingCount, y_parent, y_fields, y_bound, x_tokenKind, x_tokenValue, x_globals, x_thingShown, x_thingClass, x_thingFields, x_thingToken, x_thingMaker, vp_updL x_variables (σ (ho (wk (w - 1))) * 7 + 3 + v) (x_operands (fr_x y_kind fa ph p * 3)), x_homeOf, x_within, x_foundIn, x_baseFrame, x_frameToken, x_frameStage, x_frameLink, x_operands, y_heard, x_marked, x_pending), (nI cc, nI bc, y_fault, nI mc, nI w, y_peak, nI st, nI p, nI (bs p), y_code, 1, 1, y_operands (bs p), y_todos, y_marks, -10000000000, nI sp, y_parent, y_fields, y_bound, y_kind, y_word, y_size, y_sort, y_number, y_stands, y_keeps, y_cells, y_globals, y_within, y_foundIn, y_self, y_args, vp_updL y_temps (3 * ho (wk (w - 1)) + v) (y_operands (bs p)), y_param, y_live, y_work, y_under, y_at, y_in, y_phase, y_base, y_goal, y_operands, y_marked, y_todo, y_heard), tm + 1, by omega, fun PX k => xt_apply (by omega) (fun Q q => goX Q (br_f (by decide) (br_f (by decide) (br_f (by decide) (br_f (by decide) (nm_e (br_f (by decide) (br_f (by decide) (br_t (by decide) ?_))))))))) k, fun PY m k => YL_mono (yt_next (fun Q q => goY Q ?_) k) (by omega), Or.inr (fin_H A' F hp (fun q hq => rfl) v0 n3' n1 n2 n4)⟩
  · unfold wX_applyOperator_222 wpX_effect
    dsimp only
    rw [fac, xvl, ev, nI_clamp (show σ (wk (w - 1)) < 2 ^ 31 by omega), c7, eX, nI_clamp (show σ (ho (wk (w - 1))) * 7 + 3 + v < 2 ^ 31 by omega)]
    exact ⟨vfa, br_t rfl ⟨vp_in_nI c3' (by decide), vp_in_nI (by omega) (by decide), nm_e q⟩⟩
  · iterate 2 refine br_f (by decide) ?_
    refine br_t rfl ?_
    rw [ev, eY, nI_clamp (show 3 * ho (wk (w - 1)) + v < 2 ^ 31 by omega)]
    exact ⟨vp_in_nI (by omega) (by decide), nm_e (yw_finish p5 y4 q)⟩
theorem go_put {p tm : Nat} (A : rn_A cc bc dc mc T ST SA lv τ σ lev ho x_tokenKind x_tokenValue y_kind y_word y_size y_parent y_fields y_bound x_globals y_globals x_thingShown x_thingClass x_thingFields x_thingToken x_thingMaker x_variables x_homeOf x_within x_foundIn y_sort y_number y_stands y_keeps y_cells y_within y_foundIn y_self y_args y_temps y_param) (F : rn_F T ST SA lv σ lev ho y_kind y_word fa ph bs ow gg wk un rt (p + 1) w y_sort y_number x_frameToken x_frameStage x_frameLink x_operands x_baseFrame y_operands y_self y_at y_in y_phase y_base y_goal y_work y_under y_live) (ek : y_kind (fa p) = 7) (hp : ph p ≠ 100) (hph : ph p = tk_nd y_kind y_word (fa p)) (n : rn_n B (M + 1) mc st sp (rn_mu (tk_nd y_kind y_word) fa un rt st (p + 1) w (ex_e (tk_nd y_kind y_word) (fa p)) 1)) (ht : tm + 2 ≤ 1000000) :
    rn_Go B M tm (nI cc, nI bc, nI dc, y_fault, nI mc, nI (fr_x y_kind fa ph (p + 1)), nI (σ (wk (w - 1))), nI (ex_e (tk_nd y_kind y_word) (fa p)), x_inHand, 2, 100, nI st, nI w, y_peak, nI sp, x_pendingCount, y_parent, y_fields, y_bound, x_tokenKind, x_tokenValue, x_globals, x_thingShown, x_thingClass, x_thingFields, x_thingToken, x_thingMaker, x_variables, x_homeOf, x_within, x_foundIn, x_baseFrame, x_frameToken, x_frameStage, x_frameLink, x_operands, y_heard, x_marked, x_pending) (nI cc, nI bc, y_fault, nI mc, nI w, y_peak, nI st, nI (p + 1), nI (bs (p + 1)), y_code, 1, 0, y_got, y_todos, y_marks, -10000000000, nI sp, y_parent, y_fields, y_bound, y_kind, y_word, y_size, y_sort, y_number, y_stands, y_keeps, y_cells, y_globals, y_within, y_foundIn, y_self, y_args, y_temps, y_param, y_live, y_work, y_under, y_at, y_in, y_phase, y_base, y_goal, y_operands, y_marked, y_todo, y_heard) := by
  have kg : fr_gen (y_kind (fa p)) := by unfold fr_gen; rw [ek]; decide
  have nt : ¬ fr_tail (y_kind (fa p)) (ph p) := fun z => by
    rcases z with ⟨z, _⟩ | ⟨z, _⟩ <;> (rw [ek] at z; exact absurd z (by decide))
  obtain ⟨f1, eo, f5, p3, p5, b3, y1, y2, y3, y4, a3, n3, p383⟩ := rn_top A F hp
  have hxr := rn_xr A F hp
  have TF := rn_TF A
  have pc : (nI p).toNatClampNeg = p := nI_clamp (by omega)
  have vp : vp_in (nI p) 500 := vp_in_nI p5 (by decide)
  have fac : (nI (fa p)).toNatClampNeg = fa p := nI_clamp (by omega)
  have vfa : vp_in (nI (fa p)) 416 := vp_in_nI (by omega) (by decide)
  have xr : fr_x y_kind fa ph (p + 1) = fr_x y_kind fa ph p + 1 := by
    show _ + ct_b _ = _
    rw [ct_bt nt]
  have xrc : (nI (fr_x y_kind fa ph p)).toNatClampNeg = fr_x y_kind fa ph p := nI_clamp (by omega)
  have vxr : vp_in (nI (fr_x y_kind fa ph p)) 385 := vp_in_nI hxr (by decide)
  have e3 : nI (fr_x y_kind fa ph p) * (3 : Int32) = nI (fr_x y_kind fa ph p * 3) := pk_mul _ 3
  have e31 : nI (fr_x y_kind fa ph p * 3) + 1 = nI (fr_x y_kind fa ph p * 3 + 1) := nI_1 _
  have c3 : (nI (fr_x y_kind fa ph p * 3)).toNatClampNeg = fr_x y_kind fa ph p * 3 := nI_clamp (by omega)
  have c31 : (nI (fr_x y_kind fa ph p * 3 + 1)).toNatClampNeg = fr_x y_kind fa ph p * 3 + 1 := nI_clamp (by omega)
  have v3 : vp_in (nI (fr_x y_kind fa ph p * 3)) 1155 := vp_in_nI (by omega) (by decide)
  have v31 : vp_in (nI (fr_x y_kind fa ph p * 3 + 1)) 1155 := vp_in_nI (by omega) (by decide)
  have bc0 : (nI (bs p)).toNatClampNeg = bs p := nI_clamp (by omega)
  have bc1 : (nI (bs p + 1)).toNatClampNeg = bs p + 1 := nI_clamp (by omega)
  have vb0 : vp_in (nI (bs p)) 500 := vp_in_nI (by omega) (by decide)
  have vb1 : vp_in (nI (bs p + 1)) 500 := vp_in_nI (by omega) (by decide)
  obtain ⟨xtk, xsg, xlk, xO⟩ := (F.2.2.1.2 p (by omega) nt).2 hp
  have xkd : x_tokenKind (fa p) = y_kind (fa p) := (A.1.2.2.1.2.1 _ f1).2.1
  have xvl : x_tokenValue (fa p) = y_word (fa p) := (A.1.2.2.1.2.1 _ f1).2.2.1
  obtain ⟨ce, pe⟩ := fr_genc kg hp
  rw [ce] at xO
  have hpt : fr_pt (y_kind (fa p)) (ph p) = tk_nd y_kind y_word (fa p) := by rw [pe]; exact hph
  have enp : ex_pt (tk_nd y_kind y_word) (fa p) (ph p) = ex_e (tk_nd y_kind y_word) (fa p) := by rw [hph]; exact (fr_en TF f1).2.2
  have goX : ∀ Q : SX → Prop, _ → wpX_applyOperator Q (nI cc, nI bc, nI dc, y_fault, nI mc, nI (fr_x y_kind fa ph (p + 1)), nI (σ (wk (w - 1))), nI (ex_e (tk_nd y_kind y_word) (fa p)), x_inHand, 2, 100, nI st, nI w, y_peak, nI sp, x_pendingCount, y_parent, y_fields, y_bound, x_tokenKind, x_tokenValue, x_globals, x_thingShown, x_thingClass, x_thingFields, x_thingToken, x_thingMaker, x_variables, x_homeOf, x_within, x_foundIn, x_baseFrame, x_frameToken, x_frameStage, x_frameLink, x_operands, y_heard, x_marked, x_pending) := fun Q h => by
    unfold wpX_applyOperator
    dsimp only
    rw [xr, nI_pred]
    refine nm_e ?_
    rw [xrc, xtk, e3, e31, c3, c31]
    refine ⟨vxr, nm_e ⟨vfa, ?_⟩⟩
    rw [fac, xkd, ek]
    exact nm_e ⟨v3, nm_e ⟨v31, nm_e h⟩⟩
  have goY : ∀ Q : SY → Prop, _ → wpY_next Q (nI cc, nI bc, y_fault, nI mc, nI w, y_peak, nI st, nI (p + 1), nI (bs (p + 1)), y_code, 1, 0, y_got, y_todos, y_marks, -10000000000, nI sp, y_parent, y_fields, y_bound, y_kind, y_word, y_size, y_sort, y_number, y_stands, y_keeps, y_cells, y_globals, y_within, y_foundIn, y_self, y_args, y_temps, y_param, y_live, y_work, y_under, y_at, y_in, y_phase, y_base, y_goal, y_operands, y_marked, y_todo, y_heard) := fun Q h => by
    refine yn_apply A F hp hpt ?_
    unfold wpY_apply
    dsimp only
    rw [pc, y1, y2, y4]
    refine ⟨vp, nm_e ⟨vfa, ?_⟩⟩
    rw [fac]
    refine nm_e ⟨vp, nm_e ⟨vp, yw_home A.2.2.1 (rn_cur A F).1 ⟨vb0, ?_⟩⟩⟩
    rw [bc0, nI_1, bc1]
    refine nm_e ⟨vb1, nm_e ⟨vfa, ?_⟩⟩
    rw [ek]
    exact nm_e h
  have s0 : fr_s (y_kind (fa p)) = 0 := by unfold fr_s; rw [ek, if_neg (by decide)]
  have nd1 : tk_nd y_kind y_word (fa p) = 1 := by unfold tk_nd; rw [ek]; rfl
  have v0 := (xO 0 (by omega)).2.1 (by omega) (by omega)
  rw [s0, Nat.add_zero, show bs p + (0 - 0) = bs p from rfl] at v0
  have nB : mc ≤ B := by have := n.2.2.2; omega
  obtain ⟨n1, n2, n3', n4⟩ := mu_fin (Nat.le_refl _) (by omega) n
  obtain ⟨c1, c2, c3', c4, c5, c6, c7, _, vs, _⟩ := rn_cur A F
  obtain ⟨_, _, _, ⟨kn', kl, ek', okl, _⟩, _⟩ := A.1.2.2.1.2.1 _ f1
  have ekk : kn' = 7 := (nI_eq (Nat.lt_trans kl (by decide)) (by decide)).mp (ek'.symm.trans ek)
  subst ekk
  obtain ⟨v, hv, ev⟩ := okl (by omega)
  have hv : v < 4 := hv
  have vh : vp_in (nI (ho (wk (w - 1)))) 160 := vp_in_nI c5 (by decide)
  have hc : (nI (ho (wk (w - 1)))).toNatClampNeg = ho (wk (w - 1)) := nI_clamp (by omega)
  have goX2 : ∀ Q : SX → Prop, wpX_fieldPlace (fun r => (r = -1 → Q (nI cc, nI bc, nI dc, y_fault, nI mc, nI (fr_x y_kind fa ph p), nI (σ (wk (w - 1))), nI (ex_e (tk_nd y_kind y_word) (fa p)), x_operands (fr_x y_kind fa ph p * 3), 1, 2, nI st, nI w, y_peak, nI sp, x_pendingCount, y_parent, y_fields, y_bound, x_tokenKind, x_tokenValue, x_globals, x_thingShown, x_thingClass, x_thingFields, x_thingToken, x_thingMaker, x_variables, x_homeOf, x_within, x_foundIn, x_baseFrame, x_frameToken, x_frameStage, x_frameLink, x_operands, y_heard, x_marked, x_pending)) ∧ (¬ r = -1 → vp_in r 96 ∧ ∀ f : Nat → Int64, f = vp_updL x_thingFields r.toNatClampNeg (x_operands (fr_x y_kind fa ph p * 3)) → Q (nI cc, nI bc, nI dc, y_fault, nI mc, nI (fr_x y_kind fa ph p), nI (σ (wk (w - 1))), nI (ex_e (tk_nd y_kind y_word) (fa p)), x_operands (fr_x y_kind fa ph p * 3), 1, 100, nI st, nI w, y_peak, nI sp, x_pendingCount, y_parent, y_fields, y_bound, x_tokenKind, x_tokenValue, x_globals, x_thingShown, x_thingClass, f, x_thingToken, x_thingMaker, x_variables, x_homeOf, x_within, x_foundIn, x_baseFrame, x_frameToken, x_frameStage, x_frameLink, x_operands, y_heard, x_marked, x_pending))) (nI cc, nI bc, nI dc, y_fault, nI mc, nI (fr_x y_kind fa ph p), nI (σ (wk (w - 1))), nI (ex_e (tk_nd y_kind y_word) (fa p)), x_inHand, 1, 100, nI st, nI w, y_peak, nI sp, x_pendingCount, y_parent, y_fields, y_bound, x_tokenKind, x_tokenValue, x_globals, x_thingShown, x_thingClass, x_thingFields, x_thingToken, x_thingMaker, x_variables, x_homeOf, x_within, x_foundIn, x_baseFrame, x_frameToken, x_frameStage, x_frameLink, x_operands, y_heard, x_marked, x_pending) (x_variables (σ (ho (wk (w - 1))) * 7)) (nI v) → wpX_applyOperator Q (nI cc, nI bc, nI dc, y_fault, nI mc, nI (fr_x y_kind fa ph (p + 1)), nI (σ (wk (w - 1))), nI (ex_e (tk_nd y_kind y_word) (fa p)), x_inHand, 2, 100, nI st, nI w, y_peak, nI sp, x_pendingCount, y_parent, y_fields, y_bound, x_tokenKind, x_tokenValue, x_globals, x_thingShown, x_thingClass, x_thingFields, x_thingToken, x_thingMaker, x_variables, x_homeOf, x_within, x_foundIn, x_baseFrame, x_frameToken, x_frameStage, x_frameLink, x_operands, y_heard, x_marked, x_pending) := fun Q h => goX Q (br_f (by decide) (br_f (by decide) (br_f (by decide) (br_f (by decide) (nm_e (br_f (by decide) (br_f (by decide) (br_t (by decide) (by
    unfold wX_applyOperator_222 wpX_effect
    dsimp only
    rw [fac, xvl, ev]
    refine ⟨vfa, br_f (by decide) (br_t rfl ?_)⟩
    unfold wpX_putField
    exact ev_self (P := fun _ _ => True) A F h)))))))))
  rcases xv_field (x_classCount := nI cc) (x_bodyCount := nI bc) (x_draftCount := nI dc) (x_wrongPlace := y_fault) (x_madeCount := nI mc) (x_frameCount := nI (fr_x y_kind fa ph p)) (x_current := nI (σ (wk (w - 1)))) (x_next := nI (ex_e (tk_nd y_kind y_word) (fa p))) (x_inHand := x_inHand) (x_mode := 1) (x_outcome := 100) (x_stepCount := nI st) (x_atWork := nI w) (x_mostAtWork := y_peak) (x_saidCount := nI sp) (x_pendingCount := x_pendingCount) (x_classParent := y_parent) (x_bound := y_bound) (x_tokenKind := x_tokenKind) (x_tokenValue := x_tokenValue) (x_globals := x_globals) (x_thingShown := x_thingShown) (x_thingClass := x_thingClass) (x_thingFields := x_thingFields) (x_thingToken := x_thingToken) (x_thingMaker := x_thingMaker) (x_variables := x_variables) (x_homeOf := x_homeOf) (x_within := x_within) (x_foundIn := x_foundIn) (x_baseFrame := x_baseFrame) (x_frameToken := x_frameToken) (x_frameStage := x_frameStage) (x_frameLink := x_frameLink) (x_operands := x_operands) (x_saidValues := y_heard) (x_marked := x_marked) (x_pending := x_pending) (y_classes := nI cc) (y_bodies := nI bc) (y_fault := y_fault) (y_made := nI mc) (y_working := nI w) (y_peak := y_peak) (y_steps := nI st) (y_depth := nI (p + 1)) (y_waiting := nI (bs (p + 1))) (y_code := y_code) (y_running := 1) (y_has := 0) (y_got := y_got) (y_todos := y_todos) (y_marks := y_marks) (y_shown := -10000000000) (y_spoken := nI sp) (y_parent := y_parent) (y_fields := y_fields) (y_bound := y_bound) (y_kind := y_kind) (y_word := y_word) (y_size := y_size) (y_sort := y_sort) (y_number := y_number) (y_stands := y_stands) (y_keeps := y_keeps) (y_cells := y_cells) (y_globals := y_globals) (y_within := y_within) (y_foundIn := y_foundIn) (y_self := y_self) (y_args := y_args) (y_temps := y_temps) (y_param := y_param) (y_live := y_live) (y_work := y_work) (y_under := y_under) (y_at := y_at) (y_in := y_in) (y_phase := y_phase) (y_base := y_base) (y_goal := y_goal) (y_operands := y_operands) (y_marked := y_marked) (y_todo := y_todo) (y_heard := y_heard) A.2.2.2.1 A.2.2.1 A.1.1 vs (show v < 2 ^ 31 by omega) with ⟨fX, fY⟩ | ⟨kk, kl, sk, s3, j4, ey, fX, fY⟩
  · refine ⟨_, (nI cc, nI bc, y_fault, nI mc, nI w, y_peak, nI st, nI (p + 1), nI (bs (p + 1)), 2, 0, 0, y_got, y_todos, y_marks, -10000000000, nI sp, y_parent, y_fields, y_bound, y_kind, y_word, y_size, y_sort, y_number, y_stands, y_keeps, y_cells, y_globals, y_within, y_foundIn, y_self, y_args, y_temps, y_param, y_live, y_work, y_under, y_at, y_in, y_phase, y_base, y_goal, y_operands, y_marked, y_todo, y_heard), tm + 1, by omega, fun PX k => xt_apply (by omega) (fun Q q => goX2 Q (fX _ (br_t rfl q))) k, fun PY m k => YL_mono (yt_next (fun Q q => goY Q ?_) k) (by omega), Or.inl (rn_stop2 A (rn_wl A F) (by decide) (by decide) nB)⟩
    iterate 4 refine br_f (by decide) ?_
    refine br_t rfl ?_
    rw [hc, ev]
    exact ⟨vh, fY _ (br_t rfl q)⟩
  · obtain ⟨k1, k2, _, _, _, _, _, k8⟩ := A.2.2.1.1 kk sk
    have e4 : (4 : Int32) * nI kk + nI v = nI (4 * kk + v) := ix_l 4 kk v
    have A' : rn_A cc bc dc mc T ST SA lv τ σ lev ho x_tokenKind x_tokenValue y_kind y_word y_size y_parent y_fields y_bound x_globals y_globals x_thingShown x_thingClass (vp_updL x_thingFields (τ kk * 4 + v) (x_operands (fr_x y_kind fa ph p * 3))) x_thingToken x_thingMaker x_variables x_homeOf x_within x_foundIn y_sort y_number y_stands y_keeps (vp_updL y_cells (4 * kk + v) (y_operands (bs p))) y_within y_foundIn y_self y_args y_temps y_param := by
      obtain ⟨s1, g1, H, U, ⟨q1, q2⟩, X⟩ := A
      refine ⟨s1, g1, hp_upC H sk s3 hv v0, U, ⟨fun i hi => ?_, q2⟩, X⟩
      by_cases z : i = 4 * kk + v
      · subst z; rw [pk_uLs]; exact hp_v_V v0
      · rw [pk_uLn z]; exact q1 i hi
    refine ⟨(nI cc, nI bc, nI dc, y_fault, nI mc, nI (fr_x y_kind fa ph p), nI (σ (wk (w - 1))), nI (ex_e (tk_nd y_kind y_word) (fa p)), x_operands (fr_x y_kind fa ph p * 3), 1, 100, nI st, nI w, y_peak, nI sp, x_pendingCount, y_parent, y_fields, y_bound, x_tokenKind, x_tokenValue, x_globals, x_thingShown, x_thingClass, vp_updL x_thingFields (τ kk * 4 + v) (x_operands (fr_x y_kind fa ph p * 3)), x_thingToken, x_thingMaker, x_variables, x_homeOf, x_within, x_foundIn, x_baseFrame, x_frameToken, x_frameStage, x_frameLink, x_operands, y_heard, x_marked, x_pending), (nI cc, nI bc, y_fault, nI mc, nI w, y_peak, nI st, nI p, nI (bs p), y_code, 1, 1, y_operands (bs p), y_todos, y_marks, -10000000000, nI sp, y_parent, y_fields, y_bound, y_kind, y_word, y_size, y_sort, y_number, y_stands, y_keeps, vp_updL y_cells (4 * kk + v) (y_operands (bs p)), y_globals, y_within, y_foundIn, y_self, y_args, y_temps, y_param, y_live, y_work, y_under, y_at, y_in, y_phase, y_base, y_goal, y_operands, y_marked, y_todo, y_heard), tm + 1, by omega, fun PX k => xt_apply (by omega) (fun Q q => goX2 Q (fX _ (br_f (gx_m1 (by omega)) ⟨vp_in_nI (by omega) (by decide), ?_⟩))) k, fun PY m k => YL_mono (yt_next (fun Q q => goY Q ?_) k) (by omega), Or.inr (fin_H A' F hp (fun q hq => rfl) v0 n3' n1 n2 n4)⟩
    · rw [nI_clamp (show τ kk * 4 + v < 2 ^ 31 by omega)]
      exact nm_e q
    · iterate 4 refine br_f (by decide) ?_
      refine br_t rfl ?_
      rw [hc, ev]
      refine ⟨vh, fY _ (br_f (by decide) ⟨vh, ?_⟩)⟩
      rw [ey, vv_t (by omega), e4, nI_clamp (show 4 * kk + v < 2 ^ 31 by omega)]
      exact ⟨vp_in_nI (by omega) (by decide), nm_e (yw_finish p5 y4 q)⟩
end
