/-! BLOCK and NEW -/
section
variable {x_classCount x_bodyCount x_draftCount x_wrongPlace x_madeCount x_frameCount x_current x_next x_mode x_outcome x_stepCount x_atWork x_mostAtWork x_saidCount x_pendingCount : Int32} {x_inHand : Int64} {x_classParent x_classFields x_bound x_tokenKind x_tokenValue x_thingClass x_thingToken x_thingMaker x_homeOf x_within x_foundIn x_baseFrame x_frameToken x_frameStage x_frameLink x_marked x_pending : Nat → Int32} {x_globals x_thingShown x_thingFields x_variables x_operands x_saidValues : Nat → Int64}
variable {y_classes y_bodies y_fault y_made y_working y_peak y_steps y_depth y_waiting y_code y_running y_has y_todos y_marks y_spoken : Int32} {y_got y_shown : Int64} {y_parent y_fields y_bound y_kind y_word y_size y_sort y_number y_stands y_keeps y_within y_foundIn y_live y_work y_under y_at y_in y_phase y_base y_goal y_marked y_todo : Nat → Int32} {y_cells y_globals y_self y_args y_temps y_param y_operands y_heard : Nat → Int64}
variable {cc bc dc mc st sp d w np md B M : Nat} {T ST SA : Nat → Prop} {lv τ σ lev ho fa ph bs ow gg wk un rt : Nat → Nat}
theorem rn_made (A : rn_A cc bc dc mc T ST SA lv τ σ lev ho x_tokenKind x_tokenValue y_kind y_word y_size y_parent y_fields y_bound x_globals y_globals x_thingShown x_thingClass x_thingFields x_thingToken x_thingMaker x_variables x_homeOf x_within x_foundIn y_sort y_number y_stands y_keeps y_cells y_within y_foundIn y_self y_args y_temps y_param) (F : rn_F T ST SA lv σ lev ho y_kind y_word fa ph bs ow gg wk un rt d w y_sort y_number x_frameToken x_frameStage x_frameLink x_operands x_baseFrame y_operands y_self y_at y_in y_phase y_base y_goal y_work y_under y_live) {mc' kk tt : Nat} {xsh' xfl' ce' : Nat → Int64} {xcl' xtk' xmr' so' nu' st' kp' : Nat → Int32} (hm : mc ≤ mc') (hk : ¬ cl_r (gy_R y_globals y_operands (bs d) y_work w) (gy_E y_sort y_keeps y_cells y_within y_self y_args y_temps y_param) kk) (ht : ¬ cl_r (gx_R x_thingShown x_globals x_operands (fr_x y_kind fa ph d) x_baseFrame) (gx_E x_thingShown x_thingFields x_thingMaker x_variables x_within) tt)
    (ex : ∀ t, t ≠ tt → xsh' t = x_thingShown t ∧ xcl' t = x_thingClass t ∧ xtk' t = x_thingToken t ∧ xmr' t = x_thingMaker t ∧ ∀ j, j < 4 → xfl' (t * 4 + j) = x_thingFields (t * 4 + j))
    (ey : ∀ k, k ≠ kk → so' k = y_sort k ∧ nu' k = y_number k ∧ st' k = y_stands k ∧ kp' k = y_keeps k ∧ ∀ j, j < 4 → ce' (4 * k + j) = y_cells (4 * k + j))
    (hn : hp_T cc mc' T y_kind lv (fun k => (k < 32 ∧ cl_r (gy_R y_globals y_operands (bs d) y_work w) (gy_E y_sort y_keeps y_cells y_within y_self y_args y_temps y_param) k) ∨ k = kk) (fun a => cl_r (gy_R y_globals y_operands (bs d) y_work w) (gy_E y_sort y_keeps y_cells y_within y_self y_args y_temps y_param) (32 + a)) (fun k => if k = kk then tt else τ k) σ lev xsh' xcl' xfl' xtk' xmr' so' nu' st' kp' ce' kk)
    (U' : hp_U mc' xsh') (Y' : hp_Y ce' y_self y_args y_temps y_param kp' y_within) (X' : hp_X xmr' x_within) :
    rn_A cc bc dc mc' T (fun k => (k < 32 ∧ cl_r (gy_R y_globals y_operands (bs d) y_work w) (gy_E y_sort y_keeps y_cells y_within y_self y_args y_temps y_param) k) ∨ k = kk) (fun a => cl_r (gy_R y_globals y_operands (bs d) y_work w) (gy_E y_sort y_keeps y_cells y_within y_self y_args y_temps y_param) (32 + a)) lv (fun k => if k = kk then tt else τ k) σ lev ho x_tokenKind x_tokenValue y_kind y_word y_size y_parent y_fields y_bound x_globals y_globals xsh' xcl' xfl' xtk' xmr' x_variables x_homeOf x_within x_foundIn so' nu' st' kp' ce' y_within y_foundIn y_self y_args y_temps y_param ∧
    rn_F T (fun k => (k < 32 ∧ cl_r (gy_R y_globals y_operands (bs d) y_work w) (gy_E y_sort y_keeps y_cells y_within y_self y_args y_temps y_param) k) ∨ k = kk) (fun a => cl_r (gy_R y_globals y_operands (bs d) y_work w) (gy_E y_sort y_keeps y_cells y_within y_self y_args y_temps y_param) (32 + a)) lv σ lev ho y_kind y_word fa ph bs ow gg wk un rt d w so' nu' x_frameToken x_frameStage x_frameLink x_operands x_baseFrame y_operands y_self y_at y_in y_phase y_base y_goal y_work y_under y_live := by
  obtain ⟨P1, P2⟩ := rn_roots A F
  have H1 := hp_shrink A.2.2.1 (fun n cn => (P1 n cn).1)
  obtain ⟨H2, sh, val⟩ := hp_new H1 hm (fun z => hk z.2) (fun k z e => ht (by
    have q := (P1 k z.2).2
    rw [hp_f1 z.1, e] at q
    exact q)) ex ey hn
  have conv : ∀ {x y : Int64}, hp_v ST (hp_s y_sort y_number) x y → (∀ k, vv_T y k → cl_r (gy_R y_globals y_operands (bs d) y_work w) (gy_E y_sort y_keeps y_cells y_within y_self y_args y_temps y_param) k) → hp_v (fun k => (k < 32 ∧ cl_r (gy_R y_globals y_operands (bs d) y_work w) (gy_E y_sort y_keeps y_cells y_within y_self y_args y_temps y_param) k) ∨ k = kk) (hp_s so' nu') x y := fun h q => val (hp_v_to h fun k _ hT => ⟨⟨hT.1, q k hT⟩, rfl⟩)
  have wroot : ∀ i, i < w → cl_r (gy_R y_globals y_operands (bs d) y_work w) (gy_E y_sort y_keeps y_cells y_within y_self y_args y_temps y_param) (32 + wk i) := fun i hi => cl_root (Or.inr (Or.inr ⟨i, wk i, hi, (A.2.2.1.2.1 _ (F.2.2.2.1 i hi).1).1, (F.2.1.2 i hi).1, rfl⟩))
  refine ⟨⟨A.1, fun i hi => conv (A.2.1 i hi) fun k hT => cl_root (Or.inl ⟨i, hi, hT⟩), H2, U', Y', X'⟩, F.1, F.2.1, ⟨F.2.2.1.1, fun p hp nt => ?_⟩, ⟨fun i hi => ⟨wroot i hi, (F.2.2.2.1 i hi).2⟩, F.2.2.2.2⟩⟩
  refine fr_XFc (F.2.2.1.2 p hp nt) ⟨rfl, rfl⟩ ⟨rfl, rfl, rfl⟩ ⟨rfl, fun _ _ => rfl⟩ ⟨rfl, rfl, rfl, fun _ _ => rfl⟩ (fun x j j1 j2 h => conv h fun k hT => cl_root (Or.inr (Or.inl ⟨j, ?_, hT⟩))) (fun x h => conv h fun k hT => ?_)
  · have := fr_bsm F.1 hp (Nat.le_refl d)
    omega
  · have hw := (F.1.2.2.2.2.1 p hp).2.1
    have sa := (F.2.2.2.1 _ hw).1
    have c := hp_home A.2.2.1 (lev (wk (ow p))) (wk (ow p)) (Nat.le_refl _) sa (wroot _ hw)
    exact cl_step c (Or.inr (Or.inr (Or.inl ⟨ho (wk (ow p)), rfl, by rw [(A.2.2.1.2.1 _ sa).2.2.2.2.2.1]; decide, Or.inl hT⟩)))
theorem ev_H1 (A : rn_A cc bc dc mc T ST SA lv τ σ lev ho x_tokenKind x_tokenValue y_kind y_word y_size y_parent y_fields y_bound x_globals y_globals x_thingShown x_thingClass x_thingFields x_thingToken x_thingMaker x_variables x_homeOf x_within x_foundIn y_sort y_number y_stands y_keeps y_cells y_within y_foundIn y_self y_args y_temps y_param) (F : rn_F T ST SA lv σ lev ho y_kind y_word fa ph bs ow gg wk un rt d w y_sort y_number x_frameToken x_frameStage x_frameLink x_operands x_baseFrame y_operands y_self y_at y_in y_phase y_base y_goal y_work y_under y_live) {t : Nat} (tt : T t) (lt : fr_lt y_kind (tk_nd y_kind y_word) fa ph rt d t (w - 1)) {xv yv : Int64} (hv : hp_v ST (hp_s y_sort y_number) xv yv) (n1 : st ≤ 200) (n2 : sp < 2 ^ 30 - (rn_mu (tk_nd y_kind y_word) fa un rt st d w t 0)) (n3 : rn_mu (tk_nd y_kind y_word) fa un rt st d w t 0 < M + 1) (n4 : mc + (rn_mu (tk_nd y_kind y_word) fa un rt st d w t 0) ≤ B + 1) {e' : Nat} (ee : ex_e (tk_nd y_kind y_word) t = e') :
    rn_St B M (nI cc, nI bc, nI dc, y_fault, nI mc, nI (fr_x y_kind fa ph d), nI (σ (wk (w - 1))), nI e', xv, 1, 100, nI st, nI w, y_peak, nI sp, x_pendingCount, y_parent, y_fields, y_bound, x_tokenKind, x_tokenValue, x_globals, x_thingShown, x_thingClass, x_thingFields, x_thingToken, x_thingMaker, x_variables, x_homeOf, x_within, x_foundIn, x_baseFrame, x_frameToken, x_frameStage, x_frameLink, x_operands, y_heard, x_marked, x_pending) (nI cc, nI bc, y_fault, nI mc, nI w, y_peak, nI st, nI d, nI (bs d), y_code, 1, 1, yv, y_todos, y_marks, -10000000000, nI sp, y_parent, y_fields, y_bound, y_kind, y_word, y_size, y_sort, y_number, y_stands, y_keeps, y_cells, y_globals, y_within, y_foundIn, y_self, y_args, y_temps, y_param, y_live, y_work, y_under, y_at, y_in, y_phase, y_base, y_goal, y_operands, y_marked, y_todo, y_heard) := by
  subst ee
  obtain ⟨e1, e2, _⟩ := rn_le A F tt lt
  refine ⟨cc, bc, dc, mc, st, sp, d, w, ex_e (tk_nd y_kind y_word) t, 2, T, ST, SA, lv, τ, σ, lev, ho, fa, ph, bs, ow, gg, wk, un, rt, ⟨rfl, rfl, rfl, rfl, rfl, rfl, rfl, rfl, rfl, rfl, rfl, rfl, rfl, rfl, rfl, rfl, rfl⟩, ⟨rfl, rfl, rfl, rfl, rfl, rfl, rfl, rfl, rfl, rfl⟩, A, F, Or.inl ⟨rfl, rfl, rfl, hv, t, lt, tt, rfl⟩, n1, ?_⟩
  unfold rn_mu at n2 n3 n4 ⊢
  omega
theorem rn_fcl (A : rn_A cc bc dc mc T ST SA lv τ σ lev ho x_tokenKind x_tokenValue y_kind y_word y_size y_parent y_fields y_bound x_globals y_globals x_thingShown x_thingClass x_thingFields x_thingToken x_thingMaker x_variables x_homeOf x_within x_foundIn y_sort y_number y_stands y_keeps y_cells y_within y_foundIn y_self y_args y_temps y_param) (F : rn_F T ST SA lv σ lev ho y_kind y_word fa ph bs ow gg wk un rt d w y_sort y_number x_frameToken x_frameStage x_frameLink x_operands x_baseFrame y_operands y_self y_at y_in y_phase y_base y_goal y_work y_under y_live) {t : Nat} (tt : T t) (lt : fr_lt y_kind (tk_nd y_kind y_word) fa ph rt d t (w - 1)) : fr_x y_kind fa ph d * 3 ≤ 1155 ∧ bs d ≤ 500 := by
  obtain ⟨_, _, d3, d4⟩ := rn_le A F tt lt
  have := (fr_xle (K := y_kind) (fa := fa) (ph := ph) d).1
  omega
theorem rn_opV (A : rn_A cc bc dc mc T ST SA lv τ σ lev ho x_tokenKind x_tokenValue y_kind y_word y_size y_parent y_fields y_bound x_globals y_globals x_thingShown x_thingClass x_thingFields x_thingToken x_thingMaker x_variables x_homeOf x_within x_foundIn y_sort y_number y_stands y_keeps y_cells y_within y_foundIn y_self y_args y_temps y_param) (F : rn_F T ST SA lv σ lev ho y_kind y_word fa ph bs ow gg wk un rt d w y_sort y_number x_frameToken x_frameStage x_frameLink x_operands x_baseFrame y_operands y_self y_at y_in y_phase y_base y_goal y_work y_under y_live) {j : Nat} (hj : j < bs d) : vv_V (y_operands j) := by
  obtain ⟨q, q1, q2, q3⟩ := fr_find F.1 d (Nat.le_refl _) hj
  have nt : ¬ fr_tail (y_kind (fa q)) (ph q) := fun z => by rw [fr_c0 z] at q3; omega
  have nz : ph q ≠ 100 := fun z => by
    have : fr_c (y_kind (fa q)) (ph q) = 0 := by unfold fr_c; rw [if_pos z]
    omega
  obtain ⟨_, _, _, fo⟩ := (F.2.2.1.2 q q1 nt).2 nz
  have Fq := F.1.2.2.2.2.1 q q1
  have cs := fr_cs Fq.2.2.2.2.1 ((rn_TF A) _ Fq.1).2.1 (rn_11 A Fq.1)
  have f2 := (fo (fr_s (y_kind (fa q)) + (j - bs q)) (by omega)).2.1 (by omega) (by omega)
  rw [show bs q + (fr_s (y_kind (fa q)) + (j - bs q) - fr_s (y_kind (fa q))) = j by omega] at f2
  exact hp_v_V f2
theorem hp_Ymake {kk : Nat} {kp' : Nat → Int32} (Y : hp_Y y_cells y_self y_args y_temps y_param y_keeps y_within) (hk : ∀ k, k < 32 → ∃ a, a < 160 ∧ kp' k = nI a) : hp_Y (mk_c y_cells (4 * kk) 4 4294967296) y_self y_args y_temps y_param kp' y_within := by
  obtain ⟨y1, y2, y3, y4, y5, y6, y7⟩ := Y
  refine ⟨fun i hi => ?_, y2, y3, y4, y5, hk, y7⟩
  by_cases z : 4 * kk ≤ i ∧ i < 4 * kk + 4
  · rw [mk_ci z.1 z.2]
    exact ⟨.inr none, fun l e => (by cases e), rfl⟩
  · rw [mk_co (by omega)]
    exact y1 i hi
theorem ev_new (A : rn_A cc bc dc mc T ST SA lv τ σ lev ho x_tokenKind x_tokenValue y_kind y_word y_size y_parent y_fields y_bound x_globals y_globals x_thingShown x_thingClass x_thingFields x_thingToken x_thingMaker x_variables x_homeOf x_within x_foundIn y_sort y_number y_stands y_keeps y_cells y_within y_foundIn y_self y_args y_temps y_param) (F : rn_F T ST SA lv σ lev ho y_kind y_word fa ph bs ow gg wk un rt d w y_sort y_number x_frameToken x_frameStage x_frameLink x_operands x_baseFrame y_operands y_self y_at y_in y_phase y_base y_goal y_work y_under y_live) {t : Nat} (tt : T t) (lt : fr_lt y_kind (tk_nd y_kind y_word) fa ph rt d t (w - 1)) (n : rn_n B (M + 1) mc st sp (rn_mu (tk_nd y_kind y_word) fa un rt st d w t 0)) (hB : B < 2 ^ 30) (ek : y_kind t = 25) :
    rn_Ev B M (nI cc, nI bc, nI dc, y_fault, nI mc, nI (fr_x y_kind fa ph d), nI (σ (wk (w - 1))), nI t, x_inHand, 0, 100, nI st, nI w, y_peak, nI sp, x_pendingCount, y_parent, y_fields, y_bound, x_tokenKind, x_tokenValue, x_globals, x_thingShown, x_thingClass, x_thingFields, x_thingToken, x_thingMaker, x_variables, x_homeOf, x_within, x_foundIn, x_baseFrame, x_frameToken, x_frameStage, x_frameLink, x_operands, y_heard, x_marked, x_pending) (nI cc, nI bc, y_fault, nI mc, nI w, y_peak, nI st, nI d, nI (bs d), y_code, 1, 0, y_got, y_todos, y_marks, -10000000000, nI sp, y_parent, y_fields, y_bound, y_kind, y_word, y_size, y_sort, y_number, y_stands, y_keeps, y_cells, y_globals, y_within, y_foundIn, y_self, y_args, y_temps, y_param, y_live, y_work, y_under, y_at, y_in, y_phase, y_base, y_goal, y_operands, y_marked, y_todo, y_heard) t (wk (w - 1)) := by
  obtain ⟨c1, c2, c3, c4, c5, c6, c7, _, v0, v1, v2⟩ := rn_cur A F
  obtain ⟨b12, t1, t2, _⟩ := A.1.2.2.1
  obtain ⟨l1, x1, x2, ok, fit⟩ := t1 t tt
  obtain ⟨fcl, wtl⟩ := rn_fcl A F tt lt
  have tc : (nI t).toNatClampNeg = t := nI_clamp (by omega)
  have vt : vp_in (nI t) 416 := vp_in_nI (by omega) (by decide)
  have U := A.2.2.2.1
  have Yv := A.2.2.2.2.1
  have Xv := A.2.2.2.2.2
  have H := A.2.2.1
  have cc10 := A.1.1.2.1
  have cc4 := A.1.1.1
  obtain ⟨P1, P2⟩ := rn_roots A F
  have cnt := hp_count H P1 P2
  have mcl := U.1
  have w12 := F.1.2.1
  have w1 := F.1.1
  obtain ⟨n1, n2, n3, n4⟩ := n
  have mu1 : 1 ≤ rn_mu (tk_nd y_kind y_word) fa un rt st d w t 0 := by
    obtain ⟨q1, q2, _⟩ := rn_le A F tt lt
    unfold rn_mu
    omega
  obtain ⟨c, hc, ec, hc2⟩ := fit.2.2.1 ek
  have cs3 : ¬ nI c = 3 := fun z => by have := (nI_eq (b := 3) (by omega) (by decide)).mp z; omega
  have n0 : tk_need (y_kind t) (y_word t) = 0 := by rw [ek]; rfl
  have ee : ex_e (tk_nd y_kind y_word) t = t + 1 := by
    obtain ⟨m, m1, _⟩ := t2 t tt
    have h1 := ex_hd m1
    rw [show tk_nd y_kind y_word t = 0 from n0] at h1
    have := ex_0 h1
    have := ex_pos m1
    rw [ex_eq m1]; omega
  have goY : ∀ Q : SY → Prop, (∀ k : Int32, k = y_kind t → _) → wpY_evaluate Q (nI cc, nI bc, y_fault, nI mc, nI w, y_peak, nI st, nI d, nI (bs d), y_code, 1, 0, y_got, y_todos, y_marks, -10000000000, nI sp, y_parent, y_fields, y_bound, y_kind, y_word, y_size, y_sort, y_number, y_stands, y_keeps, y_cells, y_globals, y_within, y_foundIn, y_self, y_args, y_temps, y_param, y_live, y_work, y_under, y_at, y_in, y_phase, y_base, y_goal, y_operands, y_marked, y_todo, y_heard) (nI t) (nI (wk (w - 1))) := fun Q h => by
    have vt : vp_in (nI t) 416 := vp_in_nI (by omega) (by decide)
    unfold wpY_evaluate
    dsimp only
    rw [nI_clamp (show t < 2 ^ 31 by omega)]
    exact ⟨vt, nm_e (yw_home A.2.2.1 (rn_cur A F).1 ⟨vt, h⟩)⟩
  have goX : ∀ Q : SX → Prop, wpX_makeObject (fun u => match u with | (x_classCount, x_bodyCount, x_draftCount, x_wrongPlace, x_madeCount, x_frameCount, x_current, x_next, x_inHand, x_mode, x_outcome, x_stepCount, x_atWork, x_mostAtWork, x_saidCount, x_pendingCount, x_classParent, x_classFields, x_bound, x_tokenKind, x_tokenValue, x_globals, x_thingShown, x_thingClass, x_thingFields, x_thingToken, x_thingMaker, x_variables, x_homeOf, x_within, x_foundIn, x_baseFrame, x_frameToken, x_frameStage, x_frameLink, x_operands, x_saidValues, x_marked, x_pending) => wX_readToken_100 Q (nI t) 25 x_classCount x_bodyCount x_draftCount x_wrongPlace x_madeCount x_frameCount x_current x_next x_inHand x_mode x_outcome x_stepCount x_atWork x_mostAtWork x_saidCount x_pendingCount x_classParent x_classFields x_bound x_tokenKind x_tokenValue x_globals x_thingShown x_thingClass x_thingFields x_thingToken x_thingMaker x_variables x_homeOf x_within x_foundIn x_baseFrame x_frameToken x_frameStage x_frameLink x_operands x_saidValues x_marked x_pending) (nI cc, nI bc, nI dc, y_fault, nI mc, nI (fr_x y_kind fa ph d), nI (σ (wk (w - 1))), nI t, x_inHand, 1, 100, nI st, nI w, y_peak, nI sp, x_pendingCount, y_parent, y_fields, y_bound, x_tokenKind, x_tokenValue, x_globals, x_thingShown, x_thingClass, x_thingFields, x_thingToken, x_thingMaker, x_variables, x_homeOf, x_within, x_foundIn, x_baseFrame, x_frameToken, x_frameStage, x_frameLink, x_operands, y_heard, x_marked, x_pending) (nI c) → wpX_readToken Q (nI cc, nI bc, nI dc, y_fault, nI mc, nI (fr_x y_kind fa ph d), nI (σ (wk (w - 1))), nI t, x_inHand, 0, 100, nI st, nI w, y_peak, nI sp, x_pendingCount, y_parent, y_fields, y_bound, x_tokenKind, x_tokenValue, x_globals, x_thingShown, x_thingClass, x_thingFields, x_thingToken, x_thingMaker, x_variables, x_homeOf, x_within, x_foundIn, x_baseFrame, x_frameToken, x_frameStage, x_frameLink, x_operands, y_heard, x_marked, x_pending) := fun Q h => by
    unfold wpX_readToken
    dsimp only
    rw [tc, x1, x2, ek, ec]
    rw [ek, ec] at ok
    exact ⟨vt, nm_e ⟨vt, nm_e (xw_needs ok (br_f (by decide) (br_t rfl h)))⟩⟩
  have goY2 : ∀ Q : SY → Prop, wpY_make (fun r u => match u with | (y_classes, y_bodies, y_fault, y_made, y_working, y_peak, y_steps, y_depth, y_waiting, y_code, y_running, y_has, y_got, y_todos, y_marks, y_shown, y_spoken, y_parent, y_fields, y_bound, y_kind, y_word, y_size, y_sort, y_number, y_stands, y_keeps, y_cells, y_globals, y_within, y_foundIn, y_self, y_args, y_temps, y_param, y_live, y_work, y_under, y_at, y_in, y_phase, y_base, y_goal, y_operands, y_marked, y_todo, y_heard) => ((0 ≤ r → vp_in r 32 ∧ ∀ a1 : Nat → Int32, a1 = upd y_stands r.toNatClampNeg (nI t) → vp_in r 32 ∧ ∀ a2 : Nat → Int32, a2 = upd y_keeps r.toNatClampNeg (nI (wk (w - 1))) → Q (y_classes, y_bodies, y_fault, y_made, y_working, y_peak, y_steps, y_depth, y_waiting, y_code, y_running, 1, 8589934592 + r.toInt64, y_todos, y_marks, y_shown, y_spoken, y_parent, y_fields, y_bound, y_kind, y_word, y_size, y_sort, y_number, a1, a2, y_cells, y_globals, y_within, y_foundIn, y_self, y_args, y_temps, y_param, y_live, y_work, y_under, y_at, y_in, y_phase, y_base, y_goal, y_operands, y_marked, y_todo, y_heard)) ∧ (¬ 0 ≤ r → Q (y_classes, y_bodies, y_fault, y_made, y_working, y_peak, y_steps, y_depth, y_waiting, 6, 0, y_has, y_got, y_todos, y_marks, y_shown, y_spoken, y_parent, y_fields, y_bound, y_kind, y_word, y_size, y_sort, y_number, y_stands, y_keeps, y_cells, y_globals, y_within, y_foundIn, y_self, y_args, y_temps, y_param, y_live, y_work, y_under, y_at, y_in, y_phase, y_base, y_goal, y_operands, y_marked, y_todo, y_heard)))) (nI cc, nI bc, y_fault, nI mc, nI w, y_peak, nI st, nI d, nI (bs d), y_code, 1, 0, y_got, y_todos, y_marks, -10000000000, nI sp, y_parent, y_fields, y_bound, y_kind, y_word, y_size, y_sort, y_number, y_stands, y_keeps, y_cells, y_globals, y_within, y_foundIn, y_self, y_args, y_temps, y_param, y_live, y_work, y_under, y_at, y_in, y_phase, y_base, y_goal, y_operands, y_marked, y_todo, y_heard) (nI c) → wpY_evaluate Q (nI cc, nI bc, y_fault, nI mc, nI w, y_peak, nI st, nI d, nI (bs d), y_code, 1, 0, y_got, y_todos, y_marks, -10000000000, nI sp, y_parent, y_fields, y_bound, y_kind, y_word, y_size, y_sort, y_number, y_stands, y_keeps, y_cells, y_globals, y_within, y_foundIn, y_self, y_args, y_temps, y_param, y_live, y_work, y_under, y_at, y_in, y_phase, y_base, y_goal, y_operands, y_marked, y_todo, y_heard) (nI t) (nI (wk (w - 1))) := fun Q h => by
    refine goY Q (nm_r ek ?_)
    iterate 27 refine br_f (by decide) ?_
    refine br_t rfl ?_
    unfold wY_evaluate_285 wpY_produce
    dsimp only
    rw [tc]
    refine ⟨vt, br_t ek ⟨vt, ?_⟩⟩
    rw [ec]
    exact h
  have hop : ∀ j, j < bs d → vv_V (y_operands j) := fun j hj => rn_opV A F hj
  have hwo : ∀ i, i < w → ∃ a, a < 160 ∧ y_work i = nI a := fun i hi => ⟨wk i, (H.2.1 _ (F.2.2.2.1 i hi).1).1, (F.2.1.2 i hi).1⟩
  have hgl : ∀ i, i < 4 → vv_V (y_globals i) := fun i hi => hp_v_V (A.2.1 i hi)
  obtain ⟨mk, td, tq, mi, DX⟩ := xd_make (x_classCount := nI cc) (x_bodyCount := nI bc) (x_draftCount := nI dc) (x_wrongPlace := y_fault) (x_madeCount := nI mc) (x_frameCount := nI (fr_x y_kind fa ph d)) (x_current := nI (σ (wk (w - 1)))) (x_next := nI t) (x_inHand := x_inHand) (x_mode := 1) (x_outcome := 100) (x_stepCount := nI st) (x_atWork := nI w) (x_mostAtWork := y_peak) (x_saidCount := nI sp) (x_pendingCount := x_pendingCount) (x_classParent := y_parent) (x_classFields := y_fields) (x_bound := y_bound) (x_tokenKind := x_tokenKind) (x_tokenValue := x_tokenValue) (x_globals := x_globals) (x_thingShown := x_thingShown) (x_thingClass := x_thingClass) (x_thingFields := x_thingFields) (x_thingToken := x_thingToken) (x_thingMaker := x_thingMaker) (x_variables := x_variables) (x_homeOf := x_homeOf) (x_within := x_within) (x_foundIn := x_foundIn) (x_baseFrame := x_baseFrame) (x_frameToken := x_frameToken) (x_frameStage := x_frameStage) (x_frameLink := x_frameLink) (x_operands := x_operands) (x_saidValues := y_heard) (x_marked := x_marked) (x_pending := x_pending) (p0 := 20000000000) (c := nI c) (fc := fr_x y_kind fa ph d) rfl fcl Xv.1 Xv.2
  obtain ⟨mk', td', mi', DY⟩ := yd_make (y_classes := nI cc) (y_bodies := nI bc) (y_fault := y_fault) (y_made := nI mc) (y_working := nI w) (y_peak := y_peak) (y_steps := nI st) (y_depth := nI d) (y_waiting := nI (bs d)) (y_code := y_code) (y_running := 1) (y_has := 0) (y_got := y_got) (y_todos := y_todos) (y_marks := y_marks) (y_shown := -10000000000) (y_spoken := nI sp) (y_parent := y_parent) (y_fields := y_fields) (y_bound := y_bound) (y_kind := y_kind) (y_word := y_word) (y_size := y_size) (y_sort := y_sort) (y_number := y_number) (y_stands := y_stands) (y_keeps := y_keeps) (y_cells := y_cells) (y_globals := y_globals) (y_within := y_within) (y_foundIn := y_foundIn) (y_self := y_self) (y_args := y_args) (y_temps := y_temps) (y_param := y_param) (y_live := y_live) (y_work := y_work) (y_under := y_under) (y_at := y_at) (y_in := y_in) (y_phase := y_phase) (y_base := y_base) (y_goal := y_goal) (y_operands := y_operands) (y_marked := y_marked) (y_todo := y_todo) (y_heard := y_heard) (c := nI c) (wt := bs d) (wk := w) rfl wtl rfl w12 hgl hop hwo Yv
  have e1 := ct_eq (N := 24) (fun n (hn : n < 24) => mi n (by omega))
  have e2 := ct_eq (N := 32) (fun n (hn : n < 32) => mi' n (by omega))
  rcases DX with ⟨qx, hX⟩ | ⟨qx, ttt, t1x, t2x, hX⟩
  · rcases DY with ⟨qy, hY⟩ | ⟨qy, _⟩
    · refine ⟨(nI cc, nI bc, nI dc, y_fault, nI mc, nI (fr_x y_kind fa ph d), nI (σ (wk (w - 1))), nI (t + 1), x_inHand, 1, 6, nI st, nI w, y_peak, nI sp, nI tq, y_parent, y_fields, y_bound, x_tokenKind, x_tokenValue, x_globals, x_thingShown, x_thingClass, x_thingFields, x_thingToken, x_thingMaker, x_variables, x_homeOf, x_within, x_foundIn, x_baseFrame, x_frameToken, x_frameStage, x_frameLink, x_operands, y_heard, mk, td), (nI cc, nI bc, y_fault, nI mc, nI w, y_peak, nI st, nI d, nI (bs d), 6, 0, 0, y_got, nI 0, nI (ct_n (fun k => mk' k = 1) 32), -10000000000, nI sp, y_parent, y_fields, y_bound, y_kind, y_word, y_size, y_sort, y_number, y_stands, y_keeps, y_cells, y_globals, y_within, y_foundIn, y_self, y_args, y_temps, y_param, y_live, y_work, y_under, y_at, y_in, y_phase, y_base, y_goal, y_operands, mk', td', y_heard), fun Q q => goX Q (hX _ (br_t rfl (br_f (by decide) (nm_r (nI_1 t) q)))), fun Q q => goY2 Q (hY _ (br_f (by decide) q)), Or.inl (rn_stop A F (by decide) (by decide) (by omega))⟩
    · omega
  · rcases DY with ⟨qy, _⟩ | ⟨qy, kk, k1y, k2y, hY⟩
    · omega
    · have tcx : (nI ttt).toNatClampNeg = ttt := nI_clamp (by omega)
      have kcy : (nI kk).toNatClampNeg = kk := nI_clamp (by omega)
      have nck : ¬ cl_r (gy_R y_globals y_operands (bs d) y_work w) (gy_E y_sort y_keeps y_cells y_within y_self y_args y_temps y_param) kk := fun z => k2y ((mi' kk (by omega)).mpr z)
      have ncx : ¬ cl_r (gx_R x_thingShown x_globals x_operands (fr_x y_kind fa ph d) x_baseFrame) (gx_E x_thingShown x_thingFields x_thingMaker x_variables x_within) ttt := fun z => t2x ((mi ttt (by omega)).mpr z)
      have eL : (20000000000 : Int64) + (nI mc).toInt64 = lN (20000000000 + mc) := by rw [nI_l (by omega), show (20000000000 : Int64) = lN 20000000000 by decide, lN_add]
      have eG : (8589934592 : Int64) + (nI kk).toInt64 = lN (8589934592 + kk) := by rw [nI_l (by omega), show (8589934592 : Int64) = lN 8589934592 by decide, lN_add]
      rw [eL, nI_1] at hX
      rw [nI_1] at hY
      have HS : hp_s (upd y_sort kk (nI c)) (upd y_number kk (nI mc)) kk = lN (20000000000 + mc) := by
        unfold hp_s
        rw [pk_us, if_neg cs3, pk_us, nI_clamp (by omega)]
      obtain ⟨A', F'⟩ := rn_made (kk := kk) (tt := ttt) (mc' := mc + 1) (xsh' := vp_updL x_thingShown ttt (lN (20000000000 + mc))) (xfl' := mk_c x_thingFields (ttt * 4) 4 10000000000) (ce' := mk_c y_cells (4 * kk) 4 4294967296) (xcl' := upd x_thingClass ttt (nI c)) (xtk' := x_thingToken) (xmr' := upd x_thingMaker ttt (-1)) (so' := upd y_sort kk (nI c)) (nu' := upd y_number kk (nI mc)) (st' := upd y_stands kk (nI t)) (kp' := upd y_keeps kk (nI (wk (w - 1)))) A F (by omega) nck ncx
        (fun t ht => ⟨pk_uLn ht, pk_un ht, rfl, pk_un ht, fun i hi => mk_co (by omega)⟩)
        (fun k' hk' => ⟨pk_un hk', pk_un hk', pk_un hk', pk_un hk', fun i hi => mk_co (by omega)⟩) (by
          have ht : (if kk = kk then ttt else τ kk) = ttt := if_pos rfl
          unfold hp_T
          dsimp only
          rw [ht, HS, pk_us, pk_us, pk_us, pk_us, pk_us, pk_uLs, pk_us]
          refine ⟨k1y, t1x, ⟨c, hc, rfl⟩, ⟨mc, by omega, rfl⟩, rfl, rfl, fun z => absurd z cs3, fun _ => ⟨rfl, fun i hi => ?_⟩⟩
          rw [mk_ci (by omega) (by omega), mk_ci (by omega) (by omega)]
          exact ⟨.inr none, fun l e => (by cases e), rfl, rfl⟩)
        (hp_newU U (Or.inl rfl) (by omega))
        (hp_Ymake Yv fun k' hk' => by
          by_cases z : k' = kk
          · subst z; rw [pk_us]; exact ⟨_, c2, rfl⟩
          · rw [pk_un z]; exact Yv.2.2.2.2.2.1 k' hk')
        ⟨fun t' ht' => by
          by_cases z : t' = ttt
          · subst z; rw [pk_us]; exact Or.inl rfl
          · rw [pk_un z]; exact Xv.1 t' ht', Xv.2⟩
      have hv : hp_v (fun k => (k < 32 ∧ cl_r (gy_R y_globals y_operands (bs d) y_work w) (gy_E y_sort y_keeps y_cells y_within y_self y_args y_temps y_param) k) ∨ k = kk) (hp_s (upd y_sort kk (nI c)) (upd y_number kk (nI mc))) (lN (20000000000 + mc)) (lN (8589934592 + kk)) := ⟨.inr (some kk), fun l e => by cases e; exact ⟨k1y, Or.inr rfl⟩, HS.symm, rfl⟩
      refine ⟨(nI cc, nI bc, nI dc, y_fault, nI (mc + 1), nI (fr_x y_kind fa ph d), nI (σ (wk (w - 1))), nI (t + 1), lN (20000000000 + mc), 1, 100, nI st, nI w, y_peak, nI sp, nI tq, y_parent, y_fields, y_bound, x_tokenKind, x_tokenValue, x_globals, vp_updL x_thingShown ttt (lN (20000000000 + mc)), upd x_thingClass ttt (nI c), mk_c x_thingFields (ttt * 4) 4 10000000000, x_thingToken, upd x_thingMaker ttt (-1), x_variables, x_homeOf, x_within, x_foundIn, x_baseFrame, x_frameToken, x_frameStage, x_frameLink, x_operands, y_heard, mk, td), (nI cc, nI bc, y_fault, nI (mc + 1), nI w, y_peak, nI st, nI d, nI (bs d), y_code, 1, 1, lN (8589934592 + kk), nI 0, nI (ct_n (fun k => mk' k = 1) 32), -10000000000, nI sp, y_parent, y_fields, y_bound, y_kind, y_word, y_size, upd y_sort kk (nI c), upd y_number kk (nI mc), upd y_stands kk (nI t), upd y_keeps kk (nI (wk (w - 1))), mk_c y_cells (4 * kk) 4 4294967296, y_globals, y_within, y_foundIn, y_self, y_args, y_temps, y_param, y_live, y_work, y_under, y_at, y_in, y_phase, y_base, y_goal, y_operands, mk', td', y_heard), fun Q q => goX Q (hX _ (br_f (gx_m1 (by omega)) ?_)), fun Q q => goY2 Q (hY _ (br_t (nI_pos' (by omega)) ?_)), Or.inr (ev_H1 A' F' tt lt hv n1 n2 n3 (by omega) ee)⟩
      · rw [tcx, pk_uLs]
        exact ⟨vp_in_nI t1x (by decide), nm_e (br_f (by decide) (nm_r (nI_1 t) q))⟩
      · rw [kcy, eG]
        exact ⟨vp_in_nI k1y (by decide), nm_e ⟨vp_in_nI k1y (by decide), nm_e q⟩⟩
theorem ev_blk (A : rn_A cc bc dc mc T ST SA lv τ σ lev ho x_tokenKind x_tokenValue y_kind y_word y_size y_parent y_fields y_bound x_globals y_globals x_thingShown x_thingClass x_thingFields x_thingToken x_thingMaker x_variables x_homeOf x_within x_foundIn y_sort y_number y_stands y_keeps y_cells y_within y_foundIn y_self y_args y_temps y_param) (F : rn_F T ST SA lv σ lev ho y_kind y_word fa ph bs ow gg wk un rt d w y_sort y_number x_frameToken x_frameStage x_frameLink x_operands x_baseFrame y_operands y_self y_at y_in y_phase y_base y_goal y_work y_under y_live) {t : Nat} (tt : T t) (lt : fr_lt y_kind (tk_nd y_kind y_word) fa ph rt d t (w - 1)) (n : rn_n B (M + 1) mc st sp (rn_mu (tk_nd y_kind y_word) fa un rt st d w t 0)) (hB : B < 2 ^ 30) (ek : y_kind t = 12) :
    rn_Ev B M (nI cc, nI bc, nI dc, y_fault, nI mc, nI (fr_x y_kind fa ph d), nI (σ (wk (w - 1))), nI t, x_inHand, 0, 100, nI st, nI w, y_peak, nI sp, x_pendingCount, y_parent, y_fields, y_bound, x_tokenKind, x_tokenValue, x_globals, x_thingShown, x_thingClass, x_thingFields, x_thingToken, x_thingMaker, x_variables, x_homeOf, x_within, x_foundIn, x_baseFrame, x_frameToken, x_frameStage, x_frameLink, x_operands, y_heard, x_marked, x_pending) (nI cc, nI bc, y_fault, nI mc, nI w, y_peak, nI st, nI d, nI (bs d), y_code, 1, 0, y_got, y_todos, y_marks, -10000000000, nI sp, y_parent, y_fields, y_bound, y_kind, y_word, y_size, y_sort, y_number, y_stands, y_keeps, y_cells, y_globals, y_within, y_foundIn, y_self, y_args, y_temps, y_param, y_live, y_work, y_under, y_at, y_in, y_phase, y_base, y_goal, y_operands, y_marked, y_todo, y_heard) t (wk (w - 1)) := by
  obtain ⟨c1, c2, c3, c4, c5, c6, c7, _, v0, v1, v2⟩ := rn_cur A F
  obtain ⟨b12, t1, t2, _⟩ := A.1.2.2.1
  obtain ⟨l1, x1, x2, ok, fit⟩ := t1 t tt
  obtain ⟨fcl, wtl⟩ := rn_fcl A F tt lt
  have tc : (nI t).toNatClampNeg = t := nI_clamp (by omega)
  have vt : vp_in (nI t) 416 := vp_in_nI (by omega) (by decide)
  have U := A.2.2.2.1
  have Yv := A.2.2.2.2.1
  have Xv := A.2.2.2.2.2
  have H := A.2.2.1
  have cc10 := A.1.1.2.1
  have cc4 := A.1.1.1
  obtain ⟨P1, P2⟩ := rn_roots A F
  have cnt := hp_count H P1 P2
  have mcl := U.1
  have w12 := F.1.2.1
  have w1 := F.1.1
  obtain ⟨n1, n2, n3, n4⟩ := n
  have mu1 : 1 ≤ rn_mu (tk_nd y_kind y_word) fa un rt st d w t 0 := by
    obtain ⟨q1, q2, _⟩ := rn_le A F tt lt
    unfold rn_mu
    omega
  have lvt := fr_lv A F d (Nat.le_refl _) t (w - 1) (fun _ => rfl) (fun z => by omega) F.1.2.2.2.2.2.1 lt
  have lw := (F.2.2.2.1 (w - 1) (by omega)).2.1
  obtain ⟨m, m1, m2, m3⟩ := t2 t tt
  have ee : ex_e (tk_nd y_kind y_word) t = t + m := ex_eq m1
  have goY : ∀ Q : SY → Prop, (∀ k : Int32, k = y_kind t → _) → wpY_evaluate Q (nI cc, nI bc, y_fault, nI mc, nI w, y_peak, nI st, nI d, nI (bs d), y_code, 1, 0, y_got, y_todos, y_marks, -10000000000, nI sp, y_parent, y_fields, y_bound, y_kind, y_word, y_size, y_sort, y_number, y_stands, y_keeps, y_cells, y_globals, y_within, y_foundIn, y_self, y_args, y_temps, y_param, y_live, y_work, y_under, y_at, y_in, y_phase, y_base, y_goal, y_operands, y_marked, y_todo, y_heard) (nI t) (nI (wk (w - 1))) := fun Q h => by
    have vt : vp_in (nI t) 416 := vp_in_nI (by omega) (by decide)
    unfold wpY_evaluate
    dsimp only
    rw [nI_clamp (show t < 2 ^ 31 by omega)]
    exact ⟨vt, nm_e (yw_home A.2.2.1 (rn_cur A F).1 ⟨vt, h⟩)⟩
  have goX : ∀ Q : SX → Prop, wpX_makeBlock (fun u => match u with | (x_classCount, x_bodyCount, x_draftCount, x_wrongPlace, x_madeCount, x_frameCount, x_current, x_next, x_inHand, x_mode, x_outcome, x_stepCount, x_atWork, x_mostAtWork, x_saidCount, x_pendingCount, x_classParent, x_classFields, x_bound, x_tokenKind, x_tokenValue, x_globals, x_thingShown, x_thingClass, x_thingFields, x_thingToken, x_thingMaker, x_variables, x_homeOf, x_within, x_foundIn, x_baseFrame, x_frameToken, x_frameStage, x_frameLink, x_operands, x_saidValues, x_marked, x_pending) => wX_readToken_100 Q (nI t) 12 x_classCount x_bodyCount x_draftCount x_wrongPlace x_madeCount x_frameCount x_current x_next x_inHand x_mode x_outcome x_stepCount x_atWork x_mostAtWork x_saidCount x_pendingCount x_classParent x_classFields x_bound x_tokenKind x_tokenValue x_globals x_thingShown x_thingClass x_thingFields x_thingToken x_thingMaker x_variables x_homeOf x_within x_foundIn x_baseFrame x_frameToken x_frameStage x_frameLink x_operands x_saidValues x_marked x_pending) (nI cc, nI bc, nI dc, y_fault, nI mc, nI (fr_x y_kind fa ph d), nI (σ (wk (w - 1))), nI t, x_inHand, 1, 100, nI st, nI w, y_peak, nI sp, x_pendingCount, y_parent, y_fields, y_bound, x_tokenKind, x_tokenValue, x_globals, x_thingShown, x_thingClass, x_thingFields, x_thingToken, x_thingMaker, x_variables, x_homeOf, x_within, x_foundIn, x_baseFrame, x_frameToken, x_frameStage, x_frameLink, x_operands, y_heard, x_marked, x_pending) (nI t) → wpX_readToken Q (nI cc, nI bc, nI dc, y_fault, nI mc, nI (fr_x y_kind fa ph d), nI (σ (wk (w - 1))), nI t, x_inHand, 0, 100, nI st, nI w, y_peak, nI sp, x_pendingCount, y_parent, y_fields, y_bound, x_tokenKind, x_tokenValue, x_globals, x_thingShown, x_thingClass, x_thingFields, x_thingToken, x_thingMaker, x_variables, x_homeOf, x_within, x_foundIn, x_baseFrame, x_frameToken, x_frameStage, x_frameLink, x_operands, y_heard, x_marked, x_pending) := fun Q h => by
    have ok' := ok
    unfold wpX_readToken
    dsimp only
    rw [tc, x1, x2, ek]
    rw [ek] at ok'
    exact ⟨vt, nm_e ⟨vt, nm_e (xw_needs ok' (br_t rfl h))⟩⟩
  have goY2 : ∀ Q : SY → Prop, wpY_make (fun r u => match u with | (y_classes, y_bodies, y_fault, y_made, y_working, y_peak, y_steps, y_depth, y_waiting, y_code, y_running, y_has, y_got, y_todos, y_marks, y_shown, y_spoken, y_parent, y_fields, y_bound, y_kind, y_word, y_size, y_sort, y_number, y_stands, y_keeps, y_cells, y_globals, y_within, y_foundIn, y_self, y_args, y_temps, y_param, y_live, y_work, y_under, y_at, y_in, y_phase, y_base, y_goal, y_operands, y_marked, y_todo, y_heard) => ((0 ≤ r → vp_in r 32 ∧ ∀ a1 : Nat → Int32, a1 = upd y_stands r.toNatClampNeg (nI t) → vp_in r 32 ∧ ∀ a2 : Nat → Int32, a2 = upd y_keeps r.toNatClampNeg (nI (wk (w - 1))) → Q (y_classes, y_bodies, y_fault, y_made, y_working, y_peak, y_steps, y_depth, y_waiting, y_code, y_running, 1, 8589934592 + r.toInt64, y_todos, y_marks, y_shown, y_spoken, y_parent, y_fields, y_bound, y_kind, y_word, y_size, y_sort, y_number, a1, a2, y_cells, y_globals, y_within, y_foundIn, y_self, y_args, y_temps, y_param, y_live, y_work, y_under, y_at, y_in, y_phase, y_base, y_goal, y_operands, y_marked, y_todo, y_heard)) ∧ (¬ 0 ≤ r → Q (y_classes, y_bodies, y_fault, y_made, y_working, y_peak, y_steps, y_depth, y_waiting, 6, 0, y_has, y_got, y_todos, y_marks, y_shown, y_spoken, y_parent, y_fields, y_bound, y_kind, y_word, y_size, y_sort, y_number, y_stands, y_keeps, y_cells, y_globals, y_within, y_foundIn, y_self, y_args, y_temps, y_param, y_live, y_work, y_under, y_at, y_in, y_phase, y_base, y_goal, y_operands, y_marked, y_todo, y_heard)))) (nI cc, nI bc, y_fault, nI mc, nI w, y_peak, nI st, nI d, nI (bs d), y_code, 1, 0, y_got, y_todos, y_marks, -10000000000, nI sp, y_parent, y_fields, y_bound, y_kind, y_word, y_size, y_sort, y_number, y_stands, y_keeps, y_cells, y_globals, y_within, y_foundIn, y_self, y_args, y_temps, y_param, y_live, y_work, y_under, y_at, y_in, y_phase, y_base, y_goal, y_operands, y_marked, y_todo, y_heard) (3) → wpY_evaluate Q (nI cc, nI bc, y_fault, nI mc, nI w, y_peak, nI st, nI d, nI (bs d), y_code, 1, 0, y_got, y_todos, y_marks, -10000000000, nI sp, y_parent, y_fields, y_bound, y_kind, y_word, y_size, y_sort, y_number, y_stands, y_keeps, y_cells, y_globals, y_within, y_foundIn, y_self, y_args, y_temps, y_param, y_live, y_work, y_under, y_at, y_in, y_phase, y_base, y_goal, y_operands, y_marked, y_todo, y_heard) (nI t) (nI (wk (w - 1))) := fun Q h => by
    refine goY Q (nm_r ek ?_)
    iterate 14 refine br_f (by decide) ?_
    refine br_t rfl ?_
    unfold wY_evaluate_285 wpY_produce
    dsimp only
    rw [tc]
    exact ⟨vt, br_f (by rw [ek]; decide) h⟩
  have hop : ∀ j, j < bs d → vv_V (y_operands j) := fun j hj => rn_opV A F hj
  have hwo : ∀ i, i < w → ∃ a, a < 160 ∧ y_work i = nI a := fun i hi => ⟨wk i, (H.2.1 _ (F.2.2.2.1 i hi).1).1, (F.2.1.2 i hi).1⟩
  have hgl : ∀ i, i < 4 → vv_V (y_globals i) := fun i hi => hp_v_V (A.2.1 i hi)
  obtain ⟨mk, td, tq, mi, DX⟩ := xd_make (x_classCount := nI cc) (x_bodyCount := nI bc) (x_draftCount := nI dc) (x_wrongPlace := y_fault) (x_madeCount := nI mc) (x_frameCount := nI (fr_x y_kind fa ph d)) (x_current := nI (σ (wk (w - 1)))) (x_next := nI t) (x_inHand := x_inHand) (x_mode := 1) (x_outcome := 100) (x_stepCount := nI st) (x_atWork := nI w) (x_mostAtWork := y_peak) (x_saidCount := nI sp) (x_pendingCount := x_pendingCount) (x_classParent := y_parent) (x_classFields := y_fields) (x_bound := y_bound) (x_tokenKind := x_tokenKind) (x_tokenValue := x_tokenValue) (x_globals := x_globals) (x_thingShown := x_thingShown) (x_thingClass := x_thingClass) (x_thingFields := x_thingFields) (x_thingToken := x_thingToken) (x_thingMaker := x_thingMaker) (x_variables := x_variables) (x_homeOf := x_homeOf) (x_within := x_within) (x_foundIn := x_foundIn) (x_baseFrame := x_baseFrame) (x_frameToken := x_frameToken) (x_frameStage := x_frameStage) (x_frameLink := x_frameLink) (x_operands := x_operands) (x_saidValues := y_heard) (x_marked := x_marked) (x_pending := x_pending) (p0 := 30000000000) (c := 3) (fc := fr_x y_kind fa ph d) rfl fcl Xv.1 Xv.2
  obtain ⟨mk', td', mi', DY⟩ := yd_make (y_classes := nI cc) (y_bodies := nI bc) (y_fault := y_fault) (y_made := nI mc) (y_working := nI w) (y_peak := y_peak) (y_steps := nI st) (y_depth := nI d) (y_waiting := nI (bs d)) (y_code := y_code) (y_running := 1) (y_has := 0) (y_got := y_got) (y_todos := y_todos) (y_marks := y_marks) (y_shown := -10000000000) (y_spoken := nI sp) (y_parent := y_parent) (y_fields := y_fields) (y_bound := y_bound) (y_kind := y_kind) (y_word := y_word) (y_size := y_size) (y_sort := y_sort) (y_number := y_number) (y_stands := y_stands) (y_keeps := y_keeps) (y_cells := y_cells) (y_globals := y_globals) (y_within := y_within) (y_foundIn := y_foundIn) (y_self := y_self) (y_args := y_args) (y_temps := y_temps) (y_param := y_param) (y_live := y_live) (y_work := y_work) (y_under := y_under) (y_at := y_at) (y_in := y_in) (y_phase := y_phase) (y_base := y_base) (y_goal := y_goal) (y_operands := y_operands) (y_marked := y_marked) (y_todo := y_todo) (y_heard := y_heard) (c := 3) (wt := bs d) (wk := w) rfl wtl rfl w12 hgl hop hwo Yv
  have e1 := ct_eq (N := 24) (fun n (hn : n < 24) => mi n (by omega))
  have e2 := ct_eq (N := 32) (fun n (hn : n < 32) => mi' n (by omega))
  rcases DX with ⟨qx, hX⟩ | ⟨qx, ttt, t1x, t2x, hX⟩
  · rcases DY with ⟨qy, hY⟩ | ⟨qy, _⟩
    · refine ⟨(nI cc, nI bc, nI dc, y_fault, nI mc, nI (fr_x y_kind fa ph d), nI (σ (wk (w - 1))), nI (t + m), x_inHand, 1, 6, nI st, nI w, y_peak, nI sp, nI tq, y_parent, y_fields, y_bound, x_tokenKind, x_tokenValue, x_globals, x_thingShown, x_thingClass, x_thingFields, x_thingToken, x_thingMaker, x_variables, x_homeOf, x_within, x_foundIn, x_baseFrame, x_frameToken, x_frameStage, x_frameLink, x_operands, y_heard, mk, td), (nI cc, nI bc, y_fault, nI mc, nI w, y_peak, nI st, nI d, nI (bs d), 6, 0, 0, y_got, nI 0, nI (ct_n (fun k => mk' k = 1) 32), -10000000000, nI sp, y_parent, y_fields, y_bound, y_kind, y_word, y_size, y_sort, y_number, y_stands, y_keeps, y_cells, y_globals, y_within, y_foundIn, y_self, y_args, y_temps, y_param, y_live, y_work, y_under, y_at, y_in, y_phase, y_base, y_goal, y_operands, mk', td', y_heard), fun Q q => goX Q (hX _ (br_t rfl (br_t rfl (xw_end m1 (by omega) (fun z z1 z2 => ⟨(t1 z (m3 z z1 z2)).2.1, (t1 z (m3 z z1 z2)).2.2.1, (t1 z (m3 z z1 z2)).2.2.2.1⟩) q)))), fun Q q => goY2 Q (hY _ (br_f (by decide) q)), Or.inl (rn_stop A F (by decide) (by decide) (by omega))⟩
    · omega
  · rcases DY with ⟨qy, _⟩ | ⟨qy, kk, k1y, k2y, hY⟩
    · omega
    · have tcx : (nI ttt).toNatClampNeg = ttt := nI_clamp (by omega)
      have kcy : (nI kk).toNatClampNeg = kk := nI_clamp (by omega)
      have nck : ¬ cl_r (gy_R y_globals y_operands (bs d) y_work w) (gy_E y_sort y_keeps y_cells y_within y_self y_args y_temps y_param) kk := fun z => k2y ((mi' kk (by omega)).mpr z)
      have ncx : ¬ cl_r (gx_R x_thingShown x_globals x_operands (fr_x y_kind fa ph d) x_baseFrame) (gx_E x_thingShown x_thingFields x_thingMaker x_variables x_within) ttt := fun z => t2x ((mi ttt (by omega)).mpr z)
      have eL : (30000000000 : Int64) + (nI mc).toInt64 = lN (30000000000 + mc) := by rw [nI_l (by omega), show (30000000000 : Int64) = lN 30000000000 by decide, lN_add]
      have eG : (8589934592 : Int64) + (nI kk).toInt64 = lN (8589934592 + kk) := by rw [nI_l (by omega), show (8589934592 : Int64) = lN 8589934592 by decide, lN_add]
      rw [eL, nI_1] at hX
      rw [nI_1] at hY
      have HS : hp_s (upd y_sort kk (3)) (upd y_number kk (nI mc)) kk = lN (30000000000 + mc) := by
        unfold hp_s
        rw [pk_us, if_pos rfl, pk_us, nI_clamp (by omega)]
      obtain ⟨A', F'⟩ := rn_made (kk := kk) (tt := ttt) (mc' := mc + 1) (xsh' := vp_updL x_thingShown ttt (lN (30000000000 + mc))) (xfl' := mk_c x_thingFields (ttt * 4) 4 10000000000) (ce' := mk_c y_cells (4 * kk) 4 4294967296) (xcl' := upd x_thingClass ttt (3)) (xtk' := upd x_thingToken ttt (nI t)) (xmr' := upd (upd x_thingMaker ttt (-1)) ttt (nI (σ (wk (w - 1))))) (so' := upd y_sort kk (3)) (nu' := upd y_number kk (nI mc)) (st' := upd y_stands kk (nI t)) (kp' := upd y_keeps kk (nI (wk (w - 1)))) A F (by omega) nck ncx
        (fun t ht => ⟨pk_uLn ht, pk_un ht, pk_un ht, by rw [pk_un ht, pk_un ht], fun i hi => mk_co (by omega)⟩)
        (fun k' hk' => ⟨pk_un hk', pk_un hk', pk_un hk', pk_un hk', fun i hi => mk_co (by omega)⟩) (by
          have ht : (if kk = kk then ttt else τ kk) = ttt := if_pos rfl
          unfold hp_T
          dsimp only
          rw [ht, HS, pk_us, pk_us, pk_us, pk_us, pk_us, pk_uLs, pk_us, pk_us]
          refine ⟨k1y, t1x, ⟨3, by omega, rfl⟩, ⟨mc, by omega, rfl⟩, rfl, rfl, fun _ => ⟨t, wk (w - 1), tt, ek, rfl, rfl, rfl, cl_root (Or.inr (Or.inr ⟨w - 1, wk (w - 1), by omega, c2, (F.2.1.2 (w - 1) (by omega)).1, rfl⟩)), rfl, by omega, fun i hi => mk_ci (by omega) (by omega)⟩, fun z => absurd rfl z⟩)
        (hp_newU U (Or.inr rfl) (by omega))
        (hp_Ymake Yv fun k' hk' => by
          by_cases z : k' = kk
          · subst z; rw [pk_us]; exact ⟨_, c2, rfl⟩
          · rw [pk_un z]; exact Yv.2.2.2.2.2.1 k' hk')
        ⟨fun t' ht' => by
          by_cases z : t' = ttt
          · subst z; rw [pk_us]; exact Or.inr ⟨_, c3, rfl⟩
          · rw [pk_un z, pk_un z]; exact Xv.1 t' ht', Xv.2⟩
      have hv : hp_v (fun k => (k < 32 ∧ cl_r (gy_R y_globals y_operands (bs d) y_work w) (gy_E y_sort y_keeps y_cells y_within y_self y_args y_temps y_param) k) ∨ k = kk) (hp_s (upd y_sort kk (3)) (upd y_number kk (nI mc))) (lN (30000000000 + mc)) (lN (8589934592 + kk)) := ⟨.inr (some kk), fun l e => by cases e; exact ⟨k1y, Or.inr rfl⟩, HS.symm, rfl⟩
      refine ⟨(nI cc, nI bc, nI dc, y_fault, nI (mc + 1), nI (fr_x y_kind fa ph d), nI (σ (wk (w - 1))), nI (t + m), lN (30000000000 + mc), 1, 100, nI st, nI w, y_peak, nI sp, nI tq, y_parent, y_fields, y_bound, x_tokenKind, x_tokenValue, x_globals, vp_updL x_thingShown ttt (lN (30000000000 + mc)), upd x_thingClass ttt (3), mk_c x_thingFields (ttt * 4) 4 10000000000, upd x_thingToken ttt (nI t), upd (upd x_thingMaker ttt (-1)) ttt (nI (σ (wk (w - 1)))), x_variables, x_homeOf, x_within, x_foundIn, x_baseFrame, x_frameToken, x_frameStage, x_frameLink, x_operands, y_heard, mk, td), (nI cc, nI bc, y_fault, nI (mc + 1), nI w, y_peak, nI st, nI d, nI (bs d), y_code, 1, 1, lN (8589934592 + kk), nI 0, nI (ct_n (fun k => mk' k = 1) 32), -10000000000, nI sp, y_parent, y_fields, y_bound, y_kind, y_word, y_size, upd y_sort kk (3), upd y_number kk (nI mc), upd y_stands kk (nI t), upd y_keeps kk (nI (wk (w - 1))), mk_c y_cells (4 * kk) 4 4294967296, y_globals, y_within, y_foundIn, y_self, y_args, y_temps, y_param, y_live, y_work, y_under, y_at, y_in, y_phase, y_base, y_goal, y_operands, mk', td', y_heard), fun Q q => goX Q (hX _ (br_f (gx_m1 (by omega)) ?_)), fun Q q => goY2 Q (hY _ (br_t (nI_pos' (by omega)) ?_)), Or.inr (ev_H1 A' F' tt lt hv n1 n2 n3 (by omega) ee)⟩
      · rw [tcx]
        refine ⟨vp_in_nI t1x (by decide), nm_e ⟨vp_in_nI t1x (by decide), nm_e ⟨vp_in_nI t1x (by decide), nm_r pk_uLs ?_⟩⟩⟩
        exact br_t rfl (xw_end m1 (by omega) (fun z z1 z2 => ⟨(t1 z (m3 z z1 z2)).2.1, (t1 z (m3 z z1 z2)).2.2.1, (t1 z (m3 z z1 z2)).2.2.2.1⟩) q)
      · rw [kcy, eG]
        exact ⟨vp_in_nI k1y (by decide), nm_e ⟨vp_in_nI k1y (by decide), nm_e q⟩⟩
end
