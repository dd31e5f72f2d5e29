/-! making an OBJECT or a BLOCK -/
def mk_c (f : Nat → Int64) (b n : Nat) (v : Int64) : Nat → Int64 := fun j => if b ≤ j ∧ j < b + n then v else f j
theorem mk_c0 (f : Nat → Int64) (b : Nat) (v : Int64) : mk_c f b 0 v = f := by
  funext j
  unfold mk_c
  rw [if_neg (by omega)]
theorem mk_cs (f : Nat → Int64) (b n : Nat) (v : Int64) : vp_updL (mk_c f b n v) (b + n) v = mk_c f b (n + 1) v := by
  funext j
  unfold vp_updL mk_c
  by_cases h : j = b + n
  · rw [if_pos h, if_pos (by omega)]
  · rw [if_neg h]
    by_cases q : b ≤ j ∧ j < b + n
    · rw [if_pos q, if_pos (by omega)]
    · rw [if_neg q, if_neg (by omega)]
theorem mk_ci {f : Nat → Int64} {b n j : Nat} {v : Int64} (h : b ≤ j) (h2 : j < b + n) : mk_c f b n v j = v := if_pos ⟨h, h2⟩
theorem mk_co {f : Nat → Int64} {b n j : Nat} {v : Int64} (h : j < b ∨ b + n ≤ j) : mk_c f b n v j = f j := if_neg (by omega)
theorem ct_first {P : Nat → Prop} {N : Nat} (h : ct_n P N < N) : ∃ a, a < N ∧ ¬ P a ∧ ∀ j, j < a → P j := by
  obtain ⟨b, b1, b2⟩ := ct_free h
  obtain ⟨a, a1, a2⟩ := pk_least (fun j => ¬ P j) ⟨b, b2⟩
  refine ⟨a, ?_, a1, fun j hj => Classical.byContradiction fun z => a2 j hj z⟩
  rcases Nat.lt_or_ge b a with q | q
  · exact absurd b2 (a2 b q)
  · omega
section
variable {x_classCount x_bodyCount x_draftCount x_wrongPlace x_madeCount x_frameCount x_current x_next x_mode x_outcome x_stepCount x_atWork x_mostAtWork x_saidCount x_pendingCount : Int32} {x_inHand : Int64} {x_classParent x_classFields x_bound x_tokenKind x_tokenValue x_thingClass x_thingToken x_thingMaker x_homeOf x_within x_foundIn x_baseFrame x_frameToken x_frameStage x_frameLink x_marked x_pending : Nat → Int32} {x_globals x_thingShown x_thingFields x_variables x_operands x_saidValues : Nat → Int64}
variable {y_classes y_bodies y_fault y_made y_working y_peak y_steps y_depth y_waiting y_code y_running y_has y_todos y_marks y_spoken : Int32} {y_got y_shown : Int64} {y_parent y_fields y_bound y_kind y_word y_size y_sort y_number y_stands y_keeps y_within y_foundIn y_live y_work y_under y_at y_in y_phase y_base y_goal y_marked y_todo : Nat → Int32} {y_cells y_globals y_self y_args y_temps y_param y_operands y_heard : Nat → Int64}
variable {cc bc dc mc k : Nat} {T ST SA : Nat → Prop} {lv τ σ lev ho : Nat → Nat}
theorem xm_make {post : Int32 → SX → Prop} {p0 : Int64} {c : Int32} {fc : Nat} (hfc : x_frameCount = nI fc) (hfl : fc * 3 ≤ 1155) (hm : ∀ m, m < 24 → gx_P (x_thingMaker m)) (hw : ∀ a, a < 128 → gx_P (x_within a))
    (h1 : ∀ mk td t, (∀ n, n < 152 → (mk n = 1 ↔ cl_r (gx_R x_thingShown x_globals x_operands fc x_baseFrame) (gx_E x_thingShown x_thingFields x_thingMaker x_variables x_within) n)) → ¬ ct_n (fun k => mk k = 1) 24 < 24 → post (-1) (x_classCount, x_bodyCount, x_draftCount, x_wrongPlace, x_madeCount, x_frameCount, x_current, x_next, x_inHand, x_mode, x_outcome, x_stepCount, x_atWork, x_mostAtWork, x_saidCount, nI t, x_classParent, x_classFields, x_bound, x_tokenKind, x_tokenValue, x_globals, x_thingShown, x_thingClass, x_thingFields, x_thingToken, x_thingMaker, x_variables, x_homeOf, x_within, x_foundIn, x_baseFrame, x_frameToken, x_frameStage, x_frameLink, x_operands, x_saidValues, mk, td))
    (h2 : ∀ mk td t tt, (∀ n, n < 152 → (mk n = 1 ↔ cl_r (gx_R x_thingShown x_globals x_operands fc x_baseFrame) (gx_E x_thingShown x_thingFields x_thingMaker x_variables x_within) n)) → ct_n (fun k => mk k = 1) 24 < 24 → tt < 24 → ¬ mk tt = 1 → post (nI tt) (x_classCount, x_bodyCount, x_draftCount, x_wrongPlace, x_madeCount + 1, x_frameCount, x_current, x_next, x_inHand, x_mode, x_outcome, x_stepCount, x_atWork, x_mostAtWork, x_saidCount, nI t, x_classParent, x_classFields, x_bound, x_tokenKind, x_tokenValue, x_globals, vp_updL x_thingShown tt (p0 + x_madeCount.toInt64), upd x_thingClass tt c, mk_c x_thingFields (tt * 4) 4 10000000000, x_thingToken, upd x_thingMaker tt (-1), x_variables, x_homeOf, x_within, x_foundIn, x_baseFrame, x_frameToken, x_frameStage, x_frameLink, x_operands, x_saidValues, mk, td)) : wpX_makeThing post (x_classCount, x_bodyCount, x_draftCount, x_wrongPlace, x_madeCount, x_frameCount, x_current, x_next, x_inHand, x_mode, x_outcome, x_stepCount, x_atWork, x_mostAtWork, x_saidCount, x_pendingCount, x_classParent, x_classFields, x_bound, x_tokenKind, x_tokenValue, x_globals, x_thingShown, x_thingClass, x_thingFields, x_thingToken, x_thingMaker, x_variables, x_homeOf, x_within, x_foundIn, x_baseFrame, x_frameToken, x_frameStage, x_frameLink, x_operands, x_saidValues, x_marked, x_pending) p0 c := by
  unfold wpX_makeThing
  dsimp only
  refine xm_markReachable hfc hfl hm hw fun mk td t mb mi => ?_
  have cl := ct_le (fun k => mk k = 1) 24
  refine pk_lt (ct_n (fun k => mk k = 1) 24) 24 (fun q => ?_) (fun q => h1 mk td t mi (by omega))
  obtain ⟨tt, t1, t2, t3⟩ := ct_first q
  have tc : (nI tt).toNatClampNeg = tt := nI_clamp (by omega)
  have vt : vp_in (nI tt) 24 := vp_in_nI t1 (by decide)
  have l44 : ∃ n44 : Nat, wX_makeThing_44 post p0 c (nI tt) x_classCount x_bodyCount x_draftCount x_wrongPlace x_madeCount x_frameCount x_current x_next x_inHand x_mode x_outcome x_stepCount x_atWork x_mostAtWork x_saidCount (nI t) n44 0 x_classParent x_classFields x_bound x_tokenKind x_tokenValue x_globals x_thingShown x_thingClass x_thingFields x_thingToken x_thingMaker x_variables x_homeOf x_within x_foundIn x_baseFrame x_frameToken x_frameStage x_frameLink x_operands x_saidValues mk td := by
    refine loop_0 (fun n i f => wX_makeThing_44 post p0 c (nI tt) x_classCount x_bodyCount x_draftCount x_wrongPlace x_madeCount x_frameCount x_current x_next x_inHand x_mode x_outcome x_stepCount x_atWork x_mostAtWork x_saidCount (nI t) n (nI i) x_classParent x_classFields x_bound x_tokenKind x_tokenValue x_globals x_thingShown x_thingClass f x_thingToken x_thingMaker x_variables x_homeOf x_within x_foundIn x_baseFrame x_frameToken x_frameStage x_frameLink x_operands x_saidValues mk td) (fun i f => f = mk_c x_thingFields (tt * 4) i 10000000000) 4 x_thingFields (mk_c0 _ _ _).symm ?_ ?_
    · intro n f I
      subst I
      refine br_t (by decide) ⟨vt, ?_⟩
      rw [tc]
      exact nm_e ⟨vt, nm_e ⟨vt, nm_e (nm_e (h2 mk td t tt mi q t1 t2))⟩⟩
    · intro n i f hi I k
      subst I
      have e : nI tt * (4 : Int32) + nI i = nI (tt * 4 + i) := ix_r 4 tt i
      refine br_f (nI_ge (b := 4) hi (by decide)) ⟨by rw [e]; exact vp_in_nI (by omega) (by decide), ?_⟩
      rw [e, nI_clamp (show tt * 4 + i < 2 ^ 31 by omega)]
      exact nm_r (mk_cs _ _ _ _) (nm_r (nI_1 i) (k _ rfl))
  refine ⟨25, ?_⟩
  have key : ∀ d i f, i + d = tt → d < f → wX_makeThing_18 post p0 c x_classCount x_bodyCount x_draftCount x_wrongPlace x_madeCount x_frameCount x_current x_next x_inHand x_mode x_outcome x_stepCount x_atWork x_mostAtWork x_saidCount (nI t) x_classParent x_classFields x_bound x_tokenKind x_tokenValue x_globals x_thingShown x_thingClass x_thingFields x_thingToken x_thingMaker x_variables x_homeOf x_within x_foundIn x_baseFrame x_frameToken x_frameStage x_frameLink x_operands x_saidValues mk td f (nI i) := by
    intro d
    induction d with
    | zero =>
      intro i f e hf
      obtain ⟨f', rfl⟩ : ∃ f', f = f' + 1 := ⟨f - 1, by omega⟩
      obtain rfl : i = tt := by omega
      refine br_c (fun _ => l44) (fun _ => ⟨vp_in_nI (by omega) (by decide), br_t ?_ l44⟩)
      rw [tc]
      exact (mb i (by omega)).resolve_right t2
    | succ d ih =>
      intro i f e hf
      obtain ⟨f', rfl⟩ : ∃ f', f = f' + 1 := ⟨f - 1, by omega⟩
      refine br_f (nI_ge (b := 23) (by omega) (by decide)) ⟨vp_in_nI (by omega) (by decide), br_f ?_ (nm_r (nI_1 i) (ih (i + 1) f' (by omega) (by omega)))⟩
      rw [nI_clamp (by omega), t3 i (by omega)]
      decide
  exact key tt 0 25 (by omega) (by omega)
theorem ym_make {post : Int32 → SY → Prop} {c : Int32} {wt wk : Nat} (hw : y_waiting = nI wt) (hwt : wt ≤ 500) (hk : y_working = nI wk) (hwk : wk ≤ 12) (hgl : ∀ k, k < 4 → vv_V (y_globals k)) (hop : ∀ k, k < wt → vv_V (y_operands k)) (hwo : ∀ k, k < wk → ∃ a, a < 160 ∧ y_work k = nI a) (Y : hp_Y y_cells y_self y_args y_temps y_param y_keeps y_within)
    (h1 : ∀ mk td, (∀ n, n < 192 → (mk n = 1 ↔ cl_r (gy_R y_globals y_operands wt y_work wk) (gy_E y_sort y_keeps y_cells y_within y_self y_args y_temps y_param) n)) → ¬ ct_n (fun k => mk k = 1) 32 < 24 → post (-1) (y_classes, y_bodies, y_fault, y_made, y_working, y_peak, y_steps, y_depth, y_waiting, y_code, y_running, y_has, y_got, nI 0, nI (ct_n (fun k => mk k = 1) 32), y_shown, y_spoken, y_parent, y_fields, y_bound, y_kind, y_word, y_size, y_sort, y_number, y_stands, y_keeps, y_cells, y_globals, y_within, y_foundIn, y_self, y_args, y_temps, y_param, y_live, y_work, y_under, y_at, y_in, y_phase, y_base, y_goal, y_operands, mk, td, y_heard))
    (h2 : ∀ mk td kk, (∀ n, n < 192 → (mk n = 1 ↔ cl_r (gy_R y_globals y_operands wt y_work wk) (gy_E y_sort y_keeps y_cells y_within y_self y_args y_temps y_param) n)) → ct_n (fun k => mk k = 1) 32 < 24 → kk < 32 → ¬ mk kk = 1 → post (nI kk) (y_classes, y_bodies, y_fault, y_made + 1, y_working, y_peak, y_steps, y_depth, y_waiting, y_code, y_running, y_has, y_got, nI 0, nI (ct_n (fun k => mk k = 1) 32), y_shown, y_spoken, y_parent, y_fields, y_bound, y_kind, y_word, y_size, upd y_sort kk c, upd y_number kk y_made, y_stands, y_keeps, mk_c y_cells (4 * kk) 4 4294967296, y_globals, y_within, y_foundIn, y_self, y_args, y_temps, y_param, y_live, y_work, y_under, y_at, y_in, y_phase, y_base, y_goal, y_operands, mk, td, y_heard)) : wpY_make post (y_classes, y_bodies, y_fault, y_made, y_working, y_peak, y_steps, y_depth, y_waiting, y_code, y_running, y_has, y_got, y_todos, y_marks, y_shown, y_spoken, y_parent, y_fields, y_bound, y_kind, y_word, y_size, y_sort, y_number, y_stands, y_keeps, y_cells, y_globals, y_within, y_foundIn, y_self, y_args, y_temps, y_param, y_live, y_work, y_under, y_at, y_in, y_phase, y_base, y_goal, y_operands, y_marked, y_todo, y_heard) c := by
  unfold wpY_make
  dsimp only
  refine ym_all hw hwt hk hwk hgl hop hwo Y fun mk td mb mi => ?_
  have cl := ct_le (fun k => mk k = 1) 32
  refine pk_lt (ct_n (fun k => mk k = 1) 32) 24 (fun q => ?_) (fun q => h1 mk td mi (by omega))
  obtain ⟨tt, t1, t2, t3⟩ := ct_first (P := fun k => mk k = 1) (N := 32) (by omega)
  have tc : (nI tt).toNatClampNeg = tt := nI_clamp (by omega)
  have vt : vp_in (nI tt) 32 := vp_in_nI t1 (by decide)
  refine ⟨33, ?_⟩
  have key : ∀ d i f, i + d = tt → d < f → wY_make_17 post c y_classes y_bodies y_fault y_made y_working y_peak y_steps y_depth y_waiting y_code y_running y_has y_got (nI 0) (nI (ct_n (fun k => mk k = 1) 32)) y_shown y_spoken y_parent y_fields y_bound y_kind y_word y_size y_sort y_number y_stands y_keeps y_cells y_globals y_within y_foundIn y_self y_args y_temps y_param y_live y_work y_under y_at y_in y_phase y_base y_goal y_operands mk td y_heard f (nI i) := by
    intro d
    induction d with
    | zero =>
      intro i f e hf
      obtain ⟨f', rfl⟩ : ∃ f', f = f' + 1 := ⟨f - 1, by omega⟩
      obtain rfl : i = tt := by omega
      refine ⟨vp_in_nI (by omega) (by decide), br_t ?_ ⟨vt, ?_⟩⟩
      · rw [tc]; exact (mb i (by omega)).resolve_right t2
      · rw [tc]
        refine nm_e (nm_e ⟨vt, nm_e ?_⟩)
        refine loop_0 (fun n j f => wY_make_58 post (nI i) y_classes y_bodies y_fault (y_made + 1) y_working y_peak y_steps y_depth y_waiting y_code y_running y_has y_got (nI 0) (nI (ct_n (fun k => mk k = 1) 32)) y_shown y_spoken n (nI j) y_parent y_fields y_bound y_kind y_word y_size (upd y_sort i c) (upd y_number i y_made) y_stands y_keeps f y_globals y_within y_foundIn y_self y_args y_temps y_param y_live y_work y_under y_at y_in y_phase y_base y_goal y_operands mk td y_heard) (fun j f => f = mk_c y_cells (4 * i) j 4294967296) 4 y_cells (mk_c0 _ _ _).symm ?_ ?_
        · intro n f I
          subst I
          exact br_t (by decide) (h2 mk td i mi q t1 t2)
        · intro n j f hj I k
          subst I
          have e : (4 : Int32) * nI i + nI j = nI (4 * i + j) := ix_l 4 i j
          refine br_f (nI_ge (b := 4) hj (by decide)) ⟨by rw [e]; exact vp_in_nI (by omega) (by decide), ?_⟩
          rw [e, nI_clamp (show 4 * i + j < 2 ^ 31 by omega)]
          exact nm_r (mk_cs _ _ _ _) (nm_r (nI_1 j) (k _ rfl))
    | succ d ih =>
      intro i f e hf
      obtain ⟨f', rfl⟩ : ∃ f', f = f' + 1 := ⟨f - 1, by omega⟩
      refine ⟨vp_in_nI (by omega) (by decide), br_f ?_ (nm_r (nI_1 i) (ih (i + 1) f' (by omega) (by omega)))⟩
      rw [nI_clamp (by omega), t3 i (by omega)]
      decide
  exact key tt 0 33 (by omega) (by omega)
/-- only what is reached counts -/
theorem hp_shrink {R : Nat → Prop} (H : hp_R cc mc T y_kind lv ST SA τ σ lev ho x_thingShown x_thingClass x_thingFields x_thingToken x_thingMaker x_variables x_homeOf x_within x_foundIn y_sort y_number y_stands y_keeps y_cells y_within y_foundIn y_self y_args y_temps y_param) (A : ∀ n, cl_r R (gy_E y_sort y_keeps y_cells y_within y_self y_args y_temps y_param) n → hp_S ST SA n) : hp_R cc mc T y_kind lv (fun k => k < 32 ∧ cl_r R (gy_E y_sort y_keeps y_cells y_within y_self y_args y_temps y_param) k) (fun a => cl_r R (gy_E y_sort y_keeps y_cells y_within y_self y_args y_temps y_param) (32 + a)) τ σ lev ho x_thingShown x_thingClass x_thingFields x_thingToken x_thingMaker x_variables x_homeOf x_within x_foundIn y_sort y_number y_stands y_keeps y_cells y_within y_foundIn y_self y_args y_temps y_param := by
  have st : ∀ k, k < 32 → cl_r R (gy_E y_sort y_keeps y_cells y_within y_self y_args y_temps y_param) k → ST k := fun k hk c => by
    rcases A k c with ⟨_, z⟩ | ⟨a, e, _⟩
    · exact z
    · omega
  have sa : ∀ a, cl_r R (gy_E y_sort y_keeps y_cells y_within y_self y_args y_temps y_param) (32 + a) → SA a := fun a c => by
    rcases A _ c with ⟨e, _⟩ | ⟨b, e, z⟩
    · omega
    · obtain rfl : a = b := by omega
      exact z
  have val : ∀ {x y : Int64}, hp_v ST (hp_s y_sort y_number) x y → (∀ n, vv_T y n → cl_r R (gy_E y_sort y_keeps y_cells y_within y_self y_args y_temps y_param) n) → hp_v (fun k => k < 32 ∧ cl_r R (gy_E y_sort y_keeps y_cells y_within y_self y_args y_temps y_param) k) (hp_s y_sort y_number) x y := fun h q => hp_v_to h fun k _ ht => ⟨⟨ht.1, q k ht⟩, rfl⟩
  refine ⟨fun k ⟨hk, c⟩ => ?_, fun a c => ?_, fun a b ca cb e => H.2.2.1 a b (sa a ca) (sa b cb) e, fun k l ck cl e => H.2.2.2 k l (st k ck.1 ck.2) (st l cl.1 cl.2) e⟩
  · obtain ⟨k1, k2, k3, k4, k5, k6, k7, k8⟩ := H.1 k (st k hk c)
    refine ⟨k1, k2, k3, k4, k5, k6, fun s => ?_, fun s => ⟨(k8 s).1, fun j hj => val ((k8 s).2 j hj) fun n ht => cl_step c (Or.inr (Or.inl ⟨hk, s, j, hj, ht⟩))⟩⟩
    obtain ⟨p, a, p1, p2, p3, p4, p5, p6, p7⟩ := k7 s
    exact ⟨p, a, p1, p2, p3, p4, p5, cl_step c (Or.inl ⟨hk, s, a, (H.2.1 a p6).1, p5, rfl⟩), p7⟩
  · have s := sa a c
    obtain ⟨k1, k2, k3, k4, k5, k6, k7⟩ := H.2.1 a s
    refine ⟨k1, k2, k3, hp_home H (lev a) a (Nat.le_refl _) s c, k5, k6, ?_⟩
    rcases k7 with ⟨w, a2, a3, a4, a5, v0, v1, v2, v3⟩ | ⟨b, w, sb, b2, b3, b4, b5, b6⟩
    · have wl : y_within a < 0 := by rw [w]; decide
      exact Or.inl ⟨w, a2, a3, a4, a5, val v0 fun n ht => cl_step c (Or.inr (Or.inr (Or.inl ⟨a, rfl, wl, Or.inl ht⟩))), fun j hj => val (v1 j hj) fun n ht => cl_step c (Or.inr (Or.inr (Or.inl ⟨a, rfl, wl, Or.inr (Or.inl ⟨j, hj, ht⟩)⟩))), fun j hj => val (v2 j hj) fun n ht => cl_step c (Or.inr (Or.inr (Or.inl ⟨a, rfl, wl, Or.inr (Or.inr ⟨j, hj, ht⟩)⟩))), v3⟩
    · have hb := (H.2.1 b sb).1
      have wl : ¬ y_within a < 0 := by rw [w]; exact nI_pos (by omega)
      exact Or.inr ⟨b, w, cl_step c (Or.inr (Or.inr (Or.inr ⟨a, rfl, wl, Or.inr ⟨b, hb, w, rfl⟩⟩))), b2, b3, b4, val b5 fun n ht => cl_step c (Or.inr (Or.inr (Or.inr ⟨a, rfl, wl, Or.inl ht⟩))), b6⟩
theorem hp_new {mc' kk tt : Nat} {xsh' xfl' ce' : Nat → Int64} {xcl' xtk' xmr' so' nu' st' kp' : Nat → Int32} (H : hp_R cc mc T y_kind lv ST SA τ σ lev ho x_thingShown x_thingClass x_thingFields x_thingToken x_thingMaker x_variables x_homeOf x_within x_foundIn y_sort y_number y_stands y_keeps y_cells y_within y_foundIn y_self y_args y_temps y_param) (hm : mc ≤ mc') (hk : ¬ ST kk) (ht : ∀ k, ST k → τ k ≠ tt)
    (ex : ∀ t, t ≠ tt → xsh' t = x_thingShown t ∧ xcl' t = x_thingClass t ∧ xtk' t = x_thingToken t ∧ xmr' t = x_thingMaker t ∧ ∀ j, j < 4 → xfl' (t * 4 + j) = x_thingFields (t * 4 + j))
    (ey : ∀ k, k ≠ kk → so' k = y_sort k ∧ nu' k = y_number k ∧ st' k = y_stands k ∧ kp' k = y_keeps k ∧ ∀ j, j < 4 → ce' (4 * k + j) = y_cells (4 * k + j))
    (hn : hp_T cc mc' T y_kind lv (fun k => ST k ∨ k = kk) SA (fun k => if k = kk then tt else τ k) σ lev xsh' xcl' xfl' xtk' xmr' so' nu' st' kp' ce' kk) :
    hp_R cc mc' T y_kind lv (fun k => ST k ∨ k = kk) SA (fun k => if k = kk then tt else τ k) σ lev ho xsh' xcl' xfl' xtk' xmr' x_variables x_homeOf x_within x_foundIn so' nu' st' kp' ce' y_within y_foundIn y_self y_args y_temps y_param ∧
    (∀ k, ST k → hp_s so' nu' k = hp_s y_sort y_number k) ∧ (∀ {x y : Int64}, hp_v ST (hp_s y_sort y_number) x y → hp_v (fun k => ST k ∨ k = kk) (hp_s so' nu') x y) := by
  have ne : ∀ k, ST k → k ≠ kk := fun k h e => hk (e ▸ h)
  have sh : ∀ k, ST k → hp_s so' nu' k = hp_s y_sort y_number k := fun k h => by
    obtain ⟨a1, a2, _⟩ := ey k (ne k h)
    unfold hp_s
    rw [a1, a2]
  have val : ∀ {x y : Int64}, hp_v ST (hp_s y_sort y_number) x y → hp_v (fun k => ST k ∨ k = kk) (hp_s so' nu') x y := fun h => hp_v_to h fun k s _ => ⟨Or.inl s, sh k s⟩
  refine ⟨⟨fun k h => ?_, fun a h => ?_, H.2.2.1, fun k l h1 h2 e => ?_⟩, sh, val⟩
  · by_cases z : k = kk
    · subst z; exact hn
    · have h := h.resolve_right z
      obtain ⟨k1, k2, k3, ⟨n, n1, n2⟩, k5, k6, k7, k8⟩ := H.1 k h
      obtain ⟨y1, y2, y3, y4, y5⟩ := ey k z
      obtain ⟨x1, x2, x3, x4, x5⟩ := ex (τ k) (ht k h)
      have e : (if k = kk then tt else τ k) = τ k := if_neg z
      unfold hp_T
      dsimp only
      rw [e, x1, x2, x3, x4, y1, y2, y3, y4, sh k h]
      refine ⟨k1, k2, k3, ⟨n, by omega, n2⟩, k5, k6, fun s => ?_, fun s => ⟨(k8 s).1, fun j hj => ?_⟩⟩
      · obtain ⟨p, a, p1, p2, p3, p4, p5, p6, p7, p8, p9⟩ := k7 s
        exact ⟨p, a, p1, p2, p3, p4, p5, p6, p7, p8, fun j hj => by rw [x5 j hj]; exact p9 j hj⟩
      · rw [x5 j hj, y5 j hj]
        exact val ((k8 s).2 j hj)
  · obtain ⟨k1, k2, k3, k4, k5, k6, k7⟩ := H.2.1 a h
    refine ⟨k1, k2, k3, k4, k5, k6, ?_⟩
    rcases k7 with ⟨w, a2, a3, a4, a5, v0, v1, v2, v3⟩ | ⟨b, w, sb, b2, b3, b4, b5, b6⟩
    · exact Or.inl ⟨w, a2, a3, a4, a5, val v0, fun j hj => val (v1 j hj), fun j hj => val (v2 j hj), v3⟩
    · exact Or.inr ⟨b, w, sb, b2, b3, b4, val b5, b6⟩
  · dsimp only at e
    by_cases z1 : k = kk
    · by_cases z2 : l = kk
      · rw [z1, z2]
      · rw [if_pos z1, if_neg z2] at e
        exact absurd e.symm (ht l (h2.resolve_right z2))
    · by_cases z2 : l = kk
      · rw [if_neg z1, if_pos z2] at e
        exact absurd e (ht k (h1.resolve_right z1))
      · rw [if_neg z1, if_neg z2] at e
        exact H.2.2.2 k l (h1.resolve_right z1) (h2.resolve_right z2) e
theorem hp_newU {tt : Nat} {v : Int64} (U : hp_U mc x_thingShown) (hv : hp_n v mc) (hm : mc + 1 < 2 ^ 30) : hp_U (mc + 1) (vp_updL x_thingShown tt v) := by
  obtain ⟨u1, u2, u3⟩ := U
  refine ⟨hm, fun t ht n h hn => ?_, fun t t' ht ht' n hn h h' => ?_⟩
  · by_cases z : t = tt
    · subst z; rw [pk_uLs] at h
      have := hp_nn h hv hn (by omega)
      omega
    · rw [pk_uLn z] at h
      have := u2 t ht n h hn
      omega
  · by_cases z : t = tt
    · by_cases z' : t' = tt
      · rw [z, z']
      · subst z
        rw [pk_uLs] at h
        rw [pk_uLn z'] at h'
        have e := hp_nn h hv hn (by omega)
        have := u2 t' ht' n h' hn
        omega
    · by_cases z' : t' = tt
      · subst z'
        rw [pk_uLs] at h'
        rw [pk_uLn z] at h
        have e := hp_nn h' hv hn (by omega)
        have := u2 t ht n h hn
        omega
      · rw [pk_uLn z] at h
        rw [pk_uLn z'] at h'
        exact u3 t t' ht ht' n hn h h'
end
theorem i_vc_create {k : Nat} {u : SX} {v : SY} (I : i_Rel k u v) (hk : k + 5 ≤ 2560) (v1 : Int32) (v2 : Int32) : wpX_create (fun r u' => wpY_create (fun r' v' => r' = r ∧ i_Rel (k + 5) u' v') v v1 v2) u v1 v2 := by
  have J := i_up I
  obtain ⟨x_classCount, x_bodyCount, x_draftCount, x_wrongPlace, x_madeCount, x_frameCount, x_current, x_next, x_inHand, x_mode, x_outcome, x_stepCount, x_atWork, x_mostAtWork, x_saidCount, x_pendingCount, x_classParent, x_classFields, x_bound, x_tokenKind, x_tokenValue, x_globals, x_thingShown, x_thingClass, x_thingFields, x_thingToken, x_thingMaker, x_variables, x_homeOf, x_within, x_foundIn, x_baseFrame, x_frameToken, x_frameStage, x_frameLink, x_operands, x_saidValues, x_marked, x_pending⟩ := u
  obtain ⟨y_classes, y_bodies, y_fault, y_made, y_working, y_peak, y_steps, y_depth, y_waiting, y_code, y_running, y_has, y_got, y_todos, y_marks, y_shown, y_spoken, y_parent, y_fields, y_bound, y_kind, y_word, y_size, y_sort, y_number, y_stands, y_keeps, y_cells, y_globals, y_within, y_foundIn, y_self, y_args, y_temps, y_param, y_live, y_work, y_under, y_at, y_in, y_phase, y_base, y_goal, y_operands, y_marked, y_todo, y_heard⟩ := v
  obtain ⟨cc, bc, dc, mc, T, ST, SA, lv, τ, σ, lev, ho, ⟨rfl, rfl, a3, a4, a5, a6, rfl, rfl, a9⟩, ⟨rfl, h22, rfl, rfl⟩, h3, h4, h5, g, ⟨H, U, Y, X⟩, bf, lv0⟩ := I
  have c4 := h4.1.1
  have c10 := h4.1.2.1
  rcases pk_ix v1 (n := 4) (by decide) with h | h | ⟨j, hj, rfl⟩
  · exact br_t h (br_t rfl (br_t h (br_t rfl ⟨rfl, J⟩)))
  · have h0 : ¬ v1 < 0 := Int32.not_lt.mpr (Int32.le_trans (by decide) h)
    exact br_f h0 (br_t h (br_t rfl (br_f h0 (br_t h (br_t rfl ⟨rfl, J⟩)))))
  · have h0 : ¬ nI j < 0 := nI_pos (by omega)
    have h7 : ¬ (4 : Int32) ≤ nI j := nI_ge (b := 4) hj (by decide)
    have jc : (nI j).toNatClampNeg = j := nI_clamp (by omega)
    have vj : vp_in (nI j) 4 := vp_in_nI hj (by decide)
    refine br_f h0 (br_f h7 (br_f (by decide) ?_))
    have goY : ∀ post : Int32 → SY → Prop, _ → wpY_create post (nI cc, y_bodies, y_fault, nI mc, 0, y_peak, y_steps, y_depth, 0, y_code, y_running, y_has, y_got, y_todos, y_marks, y_shown, y_spoken, y_parent, y_fields, y_bound, y_kind, y_word, y_size, y_sort, y_number, y_stands, y_keeps, y_cells, y_globals, y_within, y_foundIn, y_self, y_args, y_temps, y_param, y_live, y_work, y_under, y_at, y_in, y_phase, y_base, y_goal, y_operands, y_marked, y_todo, y_heard) (nI j) v2 := fun post h => br_f h0 (br_f h7 (br_f (by decide) h))
    rcases xw_made c4 c10 v2 with ⟨mX, mY⟩ | ⟨c, hc, rfl, hc2, mX, mY⟩
    · exact mX _ (br_t rfl (goY _ (mY _ (br_t rfl ⟨rfl, J⟩))))
    · refine mX _ (br_f (by decide) ?_)
      obtain ⟨A, B⟩ := hp_roots (fc := 0) (wt := 0) (wk := 0) (x_operands := x_operands) (y_operands := y_operands) (x_baseFrame := x_baseFrame) (y_work := y_work) U H g (fun j hj => by omega) (fun i hi => by omega) (fun j hj => by omega) (fun b hb z => absurd (bf b hb) z)
      have cnt := hp_count H A B
      have full : ∀ mk td t mk' td', ¬ ct_n (fun k => mk k = 1) 24 < 24 → i_Rel (k + 5) (nI cc, x_bodyCount, x_draftCount, x_wrongPlace, nI mc, 0, x_current, x_next, x_inHand, x_mode, x_outcome, x_stepCount, x_atWork, x_mostAtWork, x_saidCount, nI t, x_classParent, x_classFields, x_bound, x_tokenKind, x_tokenValue, x_globals, x_thingShown, x_thingClass, x_thingFields, x_thingToken, x_thingMaker, x_variables, x_homeOf, x_within, x_foundIn, x_baseFrame, x_frameToken, x_frameStage, x_frameLink, x_operands, x_saidValues, mk, td) (nI cc, y_bodies, y_fault, nI mc, 0, y_peak, y_steps, y_depth, 0, y_code, y_running, y_has, y_got, nI 0, nI (ct_n (fun k => mk' k = 1) 32), y_shown, y_spoken, y_parent, y_fields, y_bound, y_kind, y_word, y_size, y_sort, y_number, y_stands, y_keeps, y_cells, y_globals, y_within, y_foundIn, y_self, y_args, y_temps, y_param, y_live, y_work, y_under, y_at, y_in, y_phase, y_base, y_goal, y_operands, mk', td', y_heard) := fun mk td t mk' td' _ =>
        ⟨cc, bc, dc, mc, T, ST, SA, lv, τ, σ, lev, ho, ⟨rfl, rfl, a3, a4, a5, a6, rfl, rfl, a9⟩, ⟨rfl, h22, rfl, rfl⟩, h3, h4, by omega, g, ⟨H, U, Y, X⟩, bf, lv0⟩
      refine xm_make (fc := 0) rfl (by decide) X.1 X.2 (fun mk td t mi q => br_t rfl (goY _ (mY _ (br_f (by decide) ?_)))) (fun mk td t tt mi q t1 t2 => br_f (gx_m1 (by omega)) ?_)
      · refine ym_make (wt := 0) (wk := 0) rfl (by decide) rfl (by decide) (fun i hi => hp_v_V (g i hi)) (fun i hi => by omega) (fun i hi => by omega) Y (fun mk' td' mi' q' => br_f (by decide) ⟨rfl, full mk td t mk' td' q⟩) (fun mk' td' kk mi' q' => ?_)
        have e1 := ct_eq (N := 24) (fun n (hn : n < 24) => mi n (by omega))
        have e2 := ct_eq (N := 32) (fun n (hn : n < 32) => mi' n (by omega))
        omega
      · have tc : (nI tt).toNatClampNeg = tt := nI_clamp (by omega)
        have em : nI mc + 1 - 1 = nI mc := by rw [nI_1]; exact nI_pred mc
        have mcl := U.1
        dsimp only
        rw [tc, jc, em, pk_uLs, nI_l (by omega), show (20000000000 : Int64) = lN 20000000000 by decide, lN_add]
        refine ⟨vp_in_nI t1 (by decide), vj, nm_e (goY _ (mY _ (br_f (by decide) ?_)))⟩
        refine ym_make (wt := 0) (wk := 0) rfl (by decide) rfl (by decide) (fun i hi => hp_v_V (g i hi)) (fun i hi => by omega) (fun i hi => by omega) Y (fun mk' td' mi' q' => ?_) (fun mk' td' kk mi' q' k1 k2 => br_t (nI_pos' (by omega)) ?_)
        · have e1 := ct_eq (N := 24) (fun n (hn : n < 24) => mi n (by omega))
          have e2 := ct_eq (N := 32) (fun n (hn : n < 32) => mi' n (by omega))
          omega
        · have kc : (nI kk).toNatClampNeg = kk := nI_clamp (by omega)
          rw [kc, jc, pk_us, nI_l (by omega), show (8589934592 : Int64) = lN 8589934592 by decide, lN_add]
          refine ⟨vj, nm_e ⟨vp_in_nI k1 (by decide), rfl, ?_⟩⟩
          have H1 := hp_shrink H (fun n cn => (A n cn).1)
          have c3 : ¬ nI c = 3 := fun z => by have := (nI_eq (b := 3) (by omega) (by decide)).mp z; omega
          obtain ⟨H2, sh, val⟩ := hp_new (kk := kk) (tt := tt) (mc' := mc + 1) (xsh' := vp_updL x_thingShown tt (lN (20000000000 + mc))) (xfl' := mk_c x_thingFields (tt * 4) 4 10000000000) (ce' := mk_c y_cells (4 * kk) 4 4294967296) (xcl' := upd x_thingClass tt (nI c)) (xtk' := x_thingToken) (xmr' := upd x_thingMaker tt (-1)) (so' := upd y_sort kk (nI c)) (nu' := upd y_number kk (nI mc)) (st' := y_stands) (kp' := y_keeps) H1 (by omega) (fun z => k2 ((mi' kk (by omega)).mpr z.2)) (fun k' z e => t2 ((mi tt (by omega)).mpr (by
              have q := (A k' z.2).2
              rw [hp_f1 z.1, e] at q
              exact q)))
            (fun t ht => ⟨pk_uLn ht, pk_un ht, rfl, pk_un ht, fun i hi => mk_co (by omega)⟩)
            (fun k' hk' => ⟨pk_un hk', pk_un hk', rfl, rfl, fun i hi => mk_co (by omega)⟩) (by
              have ht : (if kk = kk then tt else τ kk) = tt := if_pos rfl
              unfold hp_T
              dsimp only
              rw [ht, pk_us, pk_us, pk_us, pk_us, pk_uLs]
              refine ⟨k1, t1, ⟨c, hc, rfl⟩, ⟨mc, by omega, rfl⟩, ?_, rfl, fun z => absurd z c3, fun _ => ⟨rfl, fun i hi => ?_⟩⟩
              · unfold hp_s
                rw [pk_us, if_neg c3, pk_us, nI_clamp (by omega)]
              · rw [mk_ci (by omega) (by omega), mk_ci (by omega) (by omega)]
                exact ⟨.inr none, fun l e => (by cases e), rfl, rfl⟩)
          refine ⟨cc, bc, dc, mc + 1, T, _, _, lv, _, σ, lev, ho, ⟨rfl, rfl, a3, a4, a5, a6, nI_1 mc, nI_1 mc, a9⟩, ⟨rfl, h22, rfl, rfl⟩, h3, h4, by omega, fun i hi => ?_, ⟨H2, hp_newU U (Or.inl rfl) (by omega), ?_, ?_⟩, bf, lv0⟩
          · by_cases z : i = j
            · subst z
              rw [pk_uLs, pk_uLs]
              refine ⟨.inr (some kk), fun l e => by cases e; exact ⟨k1, Or.inr rfl⟩, ?_, rfl⟩
              show _ = hp_s _ _ kk
              unfold hp_s
              rw [pk_us, if_neg c3, pk_us, nI_clamp (by omega)]
            · rw [pk_uLn z, pk_uLn z]
              exact val (hp_v_to (g i hi) fun k' _ ht => ⟨⟨ht.1, cl_root (Or.inl ⟨i, hi, ht⟩)⟩, rfl⟩)
          · obtain ⟨y1, y2⟩ := Y
            refine ⟨fun i hi => ?_, y2⟩
            by_cases z : 4 * kk ≤ i ∧ i < 4 * kk + 4
            · rw [mk_ci z.1 z.2]
              exact ⟨.inr none, fun l e => (by cases e), rfl⟩
            · rw [mk_co (by omega)]
              exact y1 i hi
          · refine ⟨fun t ht => ?_, X.2⟩
            by_cases z : t = tt
            · subst z; rw [pk_us]; exact Or.inl rfl
            · rw [pk_un z]; exact X.1 t ht
