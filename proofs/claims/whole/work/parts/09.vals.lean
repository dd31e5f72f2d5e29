/-! what the methods say of related values -/
def rl_C (cc : Nat) (pa fl : Nat → Int32) : Prop := 4 ≤ cc ∧ cc ≤ 10 ∧ pa 0 = -1 ∧ (∀ c, 0 < c → c < cc → ∃ p, p < c ∧ pa c = nI p) ∧ (∀ c, c < 10 → ∃ f, f ≤ 4 ∧ fl c = nI f) ∧ fl 3 = 0
def rl_B (bc : Nat) (bd : Nat → Int32) : Prop := bc ≤ 12 ∧ ∀ i, i < 120 → bd i = -1 ∨ ∃ b, b < bc ∧ bd i = nI b
theorem yv_sh {n : Nat} (h : n < 2 ^ 62) : lN n >>> ((32 : Int32).toInt64 &&& 63) = lN (n / 4294967296) := pf_shr (d := 32) (by decide) h
theorem yv_isInt_i {post : Int32 → Prop} (i : Int32) (h : post 1) : wpY_isInt post (lN i.toBitVec.toNat) := by
  have hl := i.toBitVec.isLt
  refine br_t ?_ h
  rw [yv_sh (by omega), show i.toBitVec.toNat / 4294967296 = 0 by omega]
  rfl
theorem yv_isInt_o {post : Int32 → Prop} {n : Nat} (h1 : 4294967296 ≤ n) (h2 : n < 2 ^ 62) (h : post 0) : wpY_isInt post (lN n) := by
  refine br_f ?_ h
  rw [yv_sh h2]
  intro z
  have z : lN (n / 4294967296) = lN 0 := z
  rw [pk_lEQ (by omega) (by omega)] at z
  omega
theorem hp_int1 (i : Int32) : ¬ (10000000000 : Int64) ≤ i.toInt64 := by
  rw [Int64.le_iff_toInt_le, Int32.toInt_toInt64, show (10000000000 : Int64).toInt = 10000000000 from by decide]
  have := Int32.toInt_lt i
  omega
theorem hp_s1 {so nu : Nat → Int32} {k n : Nat} (hn : nu k = nI n) (hl : n < 2 ^ 31) : (10000000000 : Int64) ≤ hp_s so nu k := by
  have e0 : (10000000000 : Int64) = lN 10000000000 := by decide
  unfold hp_s
  rw [hn, nI_clamp hl, e0]
  split <;> exact (pk_lLE (by omega) (by omega)).mpr (by omega)
section
variable {x_classCount x_bodyCount x_draftCount x_wrongPlace x_madeCount x_frameCount x_current x_next x_mode x_outcome x_stepCount x_atWork x_mostAtWork x_saidCount x_pendingCount : Int32} {x_inHand : Int64} {x_classParent x_classFields x_bound x_tokenKind x_tokenValue x_thingClass x_thingToken x_thingMaker x_homeOf x_within x_foundIn x_baseFrame x_frameToken x_frameStage x_frameLink x_marked x_pending : Nat → Int32} {x_globals x_thingShown x_thingFields x_variables x_operands x_saidValues : Nat → Int64}
variable {y_classes y_bodies y_fault y_made y_working y_peak y_steps y_depth y_waiting y_code y_running y_has y_todos y_marks y_spoken : Int32} {y_got y_shown : Int64} {y_parent y_fields y_bound y_kind y_word y_size y_sort y_number y_stands y_keeps y_within y_foundIn y_live y_work y_under y_at y_in y_phase y_base y_goal y_marked y_todo : Nat → Int32} {y_cells y_globals y_self y_args y_temps y_param y_operands y_heard : Nat → Int64}
variable {cc mc bc : Nat} {T ST SA : Nat → Prop} {lv τ σ lev ho : Nat → Nat}
theorem xv_thing_n {post : Int32 → Prop} {v : Int64} (h : ¬ 20000000000 ≤ v) (hp : post (-1)) : wpX_thingOf post (x_classCount, x_bodyCount, x_draftCount, x_wrongPlace, x_madeCount, x_frameCount, x_current, x_next, x_inHand, x_mode, x_outcome, x_stepCount, x_atWork, x_mostAtWork, x_saidCount, x_pendingCount, x_classParent, x_classFields, x_bound, x_tokenKind, x_tokenValue, x_globals, x_thingShown, x_thingClass, x_thingFields, x_thingToken, x_thingMaker, x_variables, x_homeOf, x_within, x_foundIn, x_baseFrame, x_frameToken, x_frameStage, x_frameLink, x_operands, x_saidValues, x_marked, x_pending) v := br_f h hp
theorem xv_thing_t {post : Int32 → Prop} {v : Int64} {t0 : Nat} (ht : t0 < 24) (h2 : 20000000000 ≤ v) (e : x_thingShown t0 = v) (u : ∀ t, t < 24 → x_thingShown t = v → t = t0) (hp : post (nI t0)) : wpX_thingOf post (x_classCount, x_bodyCount, x_draftCount, x_wrongPlace, x_madeCount, x_frameCount, x_current, x_next, x_inHand, x_mode, x_outcome, x_stepCount, x_atWork, x_mostAtWork, x_saidCount, x_pendingCount, x_classParent, x_classFields, x_bound, x_tokenKind, x_tokenValue, x_globals, x_thingShown, x_thingClass, x_thingFields, x_thingToken, x_thingMaker, x_variables, x_homeOf, x_within, x_foundIn, x_baseFrame, x_frameToken, x_frameStage, x_frameLink, x_operands, x_saidValues, x_marked, x_pending) v := by
  refine br_t h2 ⟨25, ?_⟩
  have key : ∀ d i f, i + d = t0 → d < f → wX_thingOf_12 post v x_classCount x_bodyCount x_draftCount x_wrongPlace x_madeCount x_frameCount x_current x_next x_inHand x_mode x_outcome x_stepCount x_atWork x_mostAtWork x_saidCount x_pendingCount x_classParent x_classFields x_bound x_tokenKind x_tokenValue x_globals x_thingShown x_thingClass x_thingFields x_thingToken x_thingMaker x_variables x_homeOf x_within x_foundIn x_baseFrame x_frameToken x_frameStage x_frameLink x_operands x_saidValues x_marked x_pending f (nI i) := by
    intro d
    induction d with
    | zero =>
      intro i f hi hf
      obtain ⟨f', rfl⟩ : ∃ f', f = f' + 1 := ⟨f - 1, by omega⟩
      have hi : i = t0 := by omega
      subst hi
      refine br_f (nI_ge (b := 24) ht (by decide)) ⟨vp_in_nI ht (by decide), br_t ?_ hp⟩
      rw [nI_clamp (by omega)]; exact e
    | succ d ih =>
      intro i f hi hf
      obtain ⟨f', rfl⟩ : ∃ f', f = f' + 1 := ⟨f - 1, by omega⟩
      refine br_f (nI_ge (b := 24) (by omega) (by decide)) ⟨vp_in_nI (by omega) (by decide), br_f ?_ (nm_r (nI_1 i) (ih (i + 1) f' (by omega) (by omega)))⟩
      rw [nI_clamp (by omega)]
      intro z
      have := u i (by omega) z
      omega
  exact key t0 0 25 (by omega) (by omega)
theorem xv_thing {post : Int32 → Prop} (U : hp_U mc x_thingShown) (H : hp_R cc mc T y_kind lv ST SA τ σ lev ho x_thingShown x_thingClass x_thingFields x_thingToken x_thingMaker x_variables x_homeOf x_within x_foundIn y_sort y_number y_stands y_keeps y_cells y_within y_foundIn y_self y_args y_temps y_param) {k : Nat} (hk : ST k) (hp : post (nI (τ k))) : wpX_thingOf post (x_classCount, x_bodyCount, x_draftCount, x_wrongPlace, x_madeCount, x_frameCount, x_current, x_next, x_inHand, x_mode, x_outcome, x_stepCount, x_atWork, x_mostAtWork, x_saidCount, x_pendingCount, x_classParent, x_classFields, x_bound, x_tokenKind, x_tokenValue, x_globals, x_thingShown, x_thingClass, x_thingFields, x_thingToken, x_thingMaker, x_variables, x_homeOf, x_within, x_foundIn, x_baseFrame, x_frameToken, x_frameStage, x_frameLink, x_operands, x_saidValues, x_marked, x_pending) (hp_s y_sort y_number k) :=
  xv_thing_t ((hp_shT U H hk).mpr rfl).1 ((hp_shT U H hk).mpr rfl).2.1 ((hp_shT U H hk).mpr rfl).2.2 (fun t ht e => (hp_shT U H hk).mp ⟨ht, ((hp_shT U H hk).mpr rfl).2.1, e⟩) hp
theorem vv_ne {k : Nat} (h : k < 32) : ¬ lN (8589934592 + k) = 4294967296 := fun z => by
  have z : lN (8589934592 + k) = lN 4294967296 := z
  rw [pk_lEQ (by omega) (by omega)] at z
  omega
theorem xv_class (U : hp_U mc x_thingShown) (H : hp_R cc mc T y_kind lv ST SA τ σ lev ho x_thingShown x_thingClass x_thingFields x_thingToken x_thingMaker x_variables x_homeOf x_within x_foundIn y_sort y_number y_stands y_keeps y_cells y_within y_foundIn y_self y_args y_temps y_param) (hcc : 4 ≤ cc) {x y : Int64} (hv : hp_v ST (hp_s y_sort y_number) x y) :
    ∃ c, c < cc ∧ (∀ post : Int32 → Prop, post (nI c) → wpX_classOf post (x_classCount, x_bodyCount, x_draftCount, x_wrongPlace, x_madeCount, x_frameCount, x_current, x_next, x_inHand, x_mode, x_outcome, x_stepCount, x_atWork, x_mostAtWork, x_saidCount, x_pendingCount, x_classParent, x_classFields, x_bound, x_tokenKind, x_tokenValue, x_globals, x_thingShown, x_thingClass, x_thingFields, x_thingToken, x_thingMaker, x_variables, x_homeOf, x_within, x_foundIn, x_baseFrame, x_frameToken, x_frameStage, x_frameLink, x_operands, x_saidValues, x_marked, x_pending) x) ∧ (∀ post : Int32 → Prop, post (nI c) → wpY_classOf post (y_classes, y_bodies, y_fault, y_made, y_working, y_peak, y_steps, y_depth, y_waiting, y_code, y_running, y_has, y_got, y_todos, y_marks, y_shown, y_spoken, y_parent, y_fields, y_bound, y_kind, y_word, y_size, y_sort, y_number, y_stands, y_keeps, y_cells, y_globals, y_within, y_foundIn, y_self, y_args, y_temps, y_param, y_live, y_work, y_under, y_at, y_in, y_phase, y_base, y_goal, y_operands, y_marked, y_todo, y_heard) y) := by
  obtain ⟨a, h1, rfl, rfl⟩ := hv
  rcases a with i | _ | k
  · refine ⟨1, by omega, fun post hp => ?_, fun post hp => ?_⟩
    · exact br_f (hp_int1 i) (br_f (by decide) hp)
    · unfold wpY_classOf
      refine yv_isInt_i i ?_
      exact br_f (by decide) hp
  · refine ⟨2, by omega, fun post hp => ?_, fun post hp => ?_⟩
    · show wpX_classOf post _ (10000000000 : Int64)
      exact br_t (by decide) (br_t rfl (xv_thing_n (by decide) (br_t rfl hp)))
    · unfold wpY_classOf
      refine yv_isInt_o (n := 4294967296) (by omega) (by omega) ?_
      exact br_t rfl (br_t rfl hp)
  · obtain ⟨hk, sk⟩ := h1 k rfl
    obtain ⟨k1, k2, ⟨c, c1, c2⟩, ⟨n, n1, n2⟩, k5, k6, _⟩ := H.1 k sk
    refine ⟨c, c1, fun post hp => ?_, fun post hp => ?_⟩
    · refine br_t (hp_s1 n2 (by have := U.1; omega)) (br_t rfl (xv_thing U H sk (br_f (gx_m1 (by omega)) ⟨vp_in_nI k2 (by decide), ?_⟩)))
      rw [nI_clamp (by omega), k6, c2]; exact hp
    · show wpY_classOf post _ (lN (8589934592 + k))
      unfold wpY_classOf
      refine yv_isInt_o (n := 8589934592 + k) (by omega) (by omega) ?_
      refine br_t rfl (br_f (vv_ne hk) ?_)
      rw [vv_t (by omega), nI_clamp (by omega), c2]
      exact ⟨vp_in_nI hk (by decide), hp⟩
theorem yv_show (H : hp_R cc mc T y_kind lv ST SA τ σ lev ho x_thingShown x_thingClass x_thingFields x_thingToken x_thingMaker x_variables x_homeOf x_within x_foundIn y_sort y_number y_stands y_keeps y_cells y_within y_foundIn y_self y_args y_temps y_param) (hmc : mc < 2 ^ 31) {post : Int64 → Prop} {x y : Int64} (hv : hp_v ST (hp_s y_sort y_number) x y) (hp : post x) : wpY_show post (y_classes, y_bodies, y_fault, y_made, y_working, y_peak, y_steps, y_depth, y_waiting, y_code, y_running, y_has, y_got, y_todos, y_marks, y_shown, y_spoken, y_parent, y_fields, y_bound, y_kind, y_word, y_size, y_sort, y_number, y_stands, y_keeps, y_cells, y_globals, y_within, y_foundIn, y_self, y_args, y_temps, y_param, y_live, y_work, y_under, y_at, y_in, y_phase, y_base, y_goal, y_operands, y_marked, y_todo, y_heard) y := by
  obtain ⟨a, h1, rfl, rfl⟩ := hv
  rcases a with i | _ | k
  · show wpY_show post _ (lN i.toBitVec.toNat)
    unfold wpY_show
    refine yv_isInt_i i ?_
    refine br_f (by decide) ?_
    rw [vv_i]; exact hp
  · show wpY_show post _ (4294967296 : Int64)
    unfold wpY_show
    refine yv_isInt_o (n := 4294967296) (by omega) (by omega) ?_
    exact br_t rfl (br_t rfl hp)
  · obtain ⟨hk, sk⟩ := h1 k rfl
    obtain ⟨k1, k2, ⟨c, c1, c2⟩, ⟨n, n1, n2⟩, k5, k6, _⟩ := H.1 k sk
    have hp : post (hp_s y_sort y_number k) := hp
    unfold hp_s at hp
    rw [n2, nI_clamp (by omega)] at hp
    show wpY_show post _ (lN (8589934592 + k))
    unfold wpY_show
    refine yv_isInt_o (n := 8589934592 + k) (by omega) (by omega) ?_
    refine br_t rfl (br_f (vv_ne hk) ?_)
    rw [vv_t (by omega), nI_clamp (by omega)]
    refine ⟨vp_in_nI hk (by decide), ?_⟩
    by_cases s : y_sort k = 3
    · rw [if_pos s] at hp
      refine br_t s ?_
      unfold wY_show_39
      rw [vv_t (by omega), nI_clamp (by omega), n2, nI_l (by omega), show (3 : Int32).toInt64 * 10000000000 = lN 30000000000 by decide, lN_add]
      exact ⟨vp_in_nI hk (by decide), hp⟩
    · rw [if_neg s] at hp
      refine br_f s ?_
      unfold wY_show_39
      rw [vv_t (by omega), nI_clamp (by omega), n2, nI_l (by omega), show (2 : Int32).toInt64 * 10000000000 = lN 20000000000 by decide, lN_add]
      exact ⟨vp_in_nI hk (by decide), hp⟩
theorem xv_field (U : hp_U mc x_thingShown) (H : hp_R cc mc T y_kind lv ST SA τ σ lev ho x_thingShown x_thingClass x_thingFields x_thingToken x_thingMaker x_variables x_homeOf x_within x_foundIn y_sort y_number y_stands y_keeps y_cells y_within y_foundIn y_self y_args y_temps y_param) (C : rl_C cc y_parent y_fields) {x y : Int64} (hv : hp_v ST (hp_s y_sort y_number) x y) {jn : Nat} (hj : jn < 2 ^ 31) :
    ((∀ post : Int32 → Prop, post (-1) → wpX_fieldPlace post (x_classCount, x_bodyCount, x_draftCount, x_wrongPlace, x_madeCount, x_frameCount, x_current, x_next, x_inHand, x_mode, x_outcome, x_stepCount, x_atWork, x_mostAtWork, x_saidCount, x_pendingCount, x_classParent, y_fields, x_bound, x_tokenKind, x_tokenValue, x_globals, x_thingShown, x_thingClass, x_thingFields, x_thingToken, x_thingMaker, x_variables, x_homeOf, x_within, x_foundIn, x_baseFrame, x_frameToken, x_frameStage, x_frameLink, x_operands, x_saidValues, x_marked, x_pending) x (nI jn)) ∧ (∀ post : Int32 → Prop, post 0 → wpY_hasField post (y_classes, y_bodies, y_fault, y_made, y_working, y_peak, y_steps, y_depth, y_waiting, y_code, y_running, y_has, y_got, y_todos, y_marks, y_shown, y_spoken, y_parent, y_fields, y_bound, y_kind, y_word, y_size, y_sort, y_number, y_stands, y_keeps, y_cells, y_globals, y_within, y_foundIn, y_self, y_args, y_temps, y_param, y_live, y_work, y_under, y_at, y_in, y_phase, y_base, y_goal, y_operands, y_marked, y_todo, y_heard) y (nI jn))) ∨
    (∃ k, k < 32 ∧ ST k ∧ ¬ y_sort k = 3 ∧ jn < 4 ∧ y = lN (8589934592 + k) ∧ (∀ post : Int32 → Prop, post (nI (τ k * 4 + jn)) → wpX_fieldPlace post (x_classCount, x_bodyCount, x_draftCount, x_wrongPlace, x_madeCount, x_frameCount, x_current, x_next, x_inHand, x_mode, x_outcome, x_stepCount, x_atWork, x_mostAtWork, x_saidCount, x_pendingCount, x_classParent, y_fields, x_bound, x_tokenKind, x_tokenValue, x_globals, x_thingShown, x_thingClass, x_thingFields, x_thingToken, x_thingMaker, x_variables, x_homeOf, x_within, x_foundIn, x_baseFrame, x_frameToken, x_frameStage, x_frameLink, x_operands, x_saidValues, x_marked, x_pending) x (nI jn)) ∧ (∀ post : Int32 → Prop, post 1 → wpY_hasField post (y_classes, y_bodies, y_fault, y_made, y_working, y_peak, y_steps, y_depth, y_waiting, y_code, y_running, y_has, y_got, y_todos, y_marks, y_shown, y_spoken, y_parent, y_fields, y_bound, y_kind, y_word, y_size, y_sort, y_number, y_stands, y_keeps, y_cells, y_globals, y_within, y_foundIn, y_self, y_args, y_temps, y_param, y_live, y_work, y_under, y_at, y_in, y_phase, y_base, y_goal, y_operands, y_marked, y_todo, y_heard) y (nI jn))) := by
  have e1 : (8589934592 : Int64) = lN 8589934592 := by decide
  obtain ⟨c4, c10, _, _, c5, c6⟩ := C
  obtain ⟨a, h1, rfl, rfl⟩ := hv
  rcases a with i | _ | k
  · refine Or.inl ⟨fun post hp => xv_thing_n (hp_int i) (br_t rfl hp), fun post hp => br_t ?_ hp⟩
    have hl := i.toBitVec.isLt
    show lN _ < _
    rw [e1, pk_lLT (by omega) (by omega)]; omega
  · refine Or.inl ⟨fun post hp => ?_, fun post hp => ?_⟩
    · show wpX_fieldPlace post _ (10000000000 : Int64) _
      unfold wpX_fieldPlace
      exact xv_thing_n (by decide) (br_t rfl hp)
    · show wpY_hasField post _ (4294967296 : Int64) _
      exact br_t (by decide) hp
  · obtain ⟨hk, sk⟩ := h1 k rfl
    obtain ⟨k1, k2, ⟨c, q1, q2⟩, ⟨n, n1, n2⟩, k5, k6, _⟩ := H.1 k sk
    obtain ⟨f, f1, f2⟩ := c5 c (by omega)
    have hge : ¬ lN (8589934592 + k) < (8589934592 : Int64) := by
      rw [e1, pk_lLT (by omega) (by omega)]; omega
    have hX : ∀ post : Int32 → Prop, ((nI jn < nI f → post (nI (τ k) * 4 + nI jn)) ∧ (¬ nI jn < nI f → post (-1))) → wpX_fieldPlace post (x_classCount, x_bodyCount, x_draftCount, x_wrongPlace, x_madeCount, x_frameCount, x_current, x_next, x_inHand, x_mode, x_outcome, x_stepCount, x_atWork, x_mostAtWork, x_saidCount, x_pendingCount, x_classParent, y_fields, x_bound, x_tokenKind, x_tokenValue, x_globals, x_thingShown, x_thingClass, x_thingFields, x_thingToken, x_thingMaker, x_variables, x_homeOf, x_within, x_foundIn, x_baseFrame, x_frameToken, x_frameStage, x_frameLink, x_operands, x_saidValues, x_marked, x_pending) (hp_s y_sort y_number k) (nI jn) := fun post hp => by
      refine xv_thing U H sk (br_f (gx_m1 (by omega)) (br_f (nI_pos hj) ⟨vp_in_nI k2 (by decide), ?_⟩))
      rw [nI_clamp (show τ k < 2 ^ 31 by omega), k6, q2, nI_clamp (show c < 2 ^ 31 by omega), f2]
      exact ⟨vp_in_nI (by omega) (by decide), hp⟩
    have hY : ∀ post : Int32 → Prop, ¬ y_sort k = 3 → ((nI f ≤ nI jn → post 0) ∧ (¬ nI f ≤ nI jn → post 1)) → wpY_hasField post (y_classes, y_bodies, y_fault, y_made, y_working, y_peak, y_steps, y_depth, y_waiting, y_code, y_running, y_has, y_got, y_todos, y_marks, y_shown, y_spoken, y_parent, y_fields, y_bound, y_kind, y_word, y_size, y_sort, y_number, y_stands, y_keeps, y_cells, y_globals, y_within, y_foundIn, y_self, y_args, y_temps, y_param, y_live, y_work, y_under, y_at, y_in, y_phase, y_base, y_goal, y_operands, y_marked, y_todo, y_heard) (lN (8589934592 + k)) (nI jn) := fun post s hp => by
      refine br_f hge ?_
      rw [vv_t (by omega), nI_clamp (show k < 2 ^ 31 by omega)]
      refine ⟨vp_in_nI hk (by decide), br_f s ⟨vp_in_nI hk (by decide), ?_⟩⟩
      rw [q2, nI_clamp (show c < 2 ^ 31 by omega), f2]
      exact ⟨vp_in_nI (by omega) (by decide), hp⟩
    by_cases s : y_sort k = 3
    · refine Or.inl ⟨fun post hp => hX post (br_f ?_ hp), fun post hp => ?_⟩
      · have : c = 3 := (nI_eq (b := 3) (by omega) (by decide)).mp (q2.symm.trans s)
        subst this
        have : f = 0 := (nI_eq (b := 0) (by omega) (by decide)).mp (f2.symm.trans c6)
        subst this
        exact nI_nlt (by omega) hj
      · show wpY_hasField post _ (lN (8589934592 + k)) _
        refine br_f hge ?_
        rw [vv_t (by omega), nI_clamp (show k < 2 ^ 31 by omega)]
        exact ⟨vp_in_nI hk (by decide), br_t s hp⟩
    · rcases Nat.lt_or_ge jn f with z | z
      · refine Or.inr ⟨k, hk, sk, s, by omega, rfl, fun post hp => hX post (br_t (nI_lt z (by omega)) ?_), fun post hp => hY post s (br_f (nI_ge z (by omega)) hp)⟩
        rw [show nI (τ k) * (4 : Int32) + nI jn = nI (τ k * 4 + jn) from ix_r 4 (τ k) jn]; exact hp
      · exact Or.inl ⟨fun post hp => hX post (br_f (nI_nlt z hj) hp), fun post hp => hY post s (br_t (nI_le z hj) hp)⟩
theorem xv_found0 (C : rl_C cc y_parent y_fields) (B : rl_B bc y_bound) {s : Nat} (hs : s < 12) : ∀ c i, c < cc → i + c ≤ 9 →
    ∃ r : Int32, (r = -1 ∨ ∃ c' b, c' < cc ∧ r = nI c' ∧ b < bc ∧ y_bound (c' * 12 + s) = nI b) ∧
    (∀ f (post : Int32 → Prop), c + 1 < f → post r → wX_classThatHas_5 post (nI s) x_classCount x_bodyCount x_draftCount x_wrongPlace x_madeCount x_frameCount x_current x_next x_inHand x_mode x_outcome x_stepCount x_atWork x_mostAtWork x_saidCount x_pendingCount y_parent x_classFields y_bound x_tokenKind x_tokenValue x_globals x_thingShown x_thingClass x_thingFields x_thingToken x_thingMaker x_variables x_homeOf x_within x_foundIn x_baseFrame x_frameToken x_frameStage x_frameLink x_operands x_saidValues x_marked x_pending f (nI c) (nI i)) ∧
    (∀ f (post : Int32 → Prop), c + 1 < f → post r → wY_found_2 post (nI s) y_classes y_bodies y_fault y_made y_working y_peak y_steps y_depth y_waiting y_code y_running y_has y_got y_todos y_marks y_shown y_spoken y_parent y_fields y_bound y_kind y_word y_size y_sort y_number y_stands y_keeps y_cells y_globals y_within y_foundIn y_self y_args y_temps y_param y_live y_work y_under y_at y_in y_phase y_base y_goal y_operands y_marked y_todo y_heard f (nI c)) := by
  intro c
  induction c using Nat.strongRecOn with
  | ind c ih =>
    intro i hc hi
    obtain ⟨c4, c10, p0, pp, _, _⟩ := C
    have ex : nI c * (12 : Int32) + nI s = nI (c * 12 + s) := ix_r 12 c s
    have ey : (12 : Int32) * nI c + nI s = nI (c * 12 + s) := by rw [Nat.mul_comm c 12]; exact ix_l 12 c s
    have hin : vp_in (nI (c * 12 + s)) 120 := vp_in_nI (by omega) (by decide)
    have hc2 : (nI (c * 12 + s)).toNatClampNeg = c * 12 + s := nI_clamp (by omega)
    have hcc : (nI c).toNatClampNeg = c := nI_clamp (by omega)
    have stepX : ∀ f (post : Int32 → Prop), ((y_bound (c * 12 + s) = -1 → wX_classThatHas_5 post (nI s) x_classCount x_bodyCount x_draftCount x_wrongPlace x_madeCount x_frameCount x_current x_next x_inHand x_mode x_outcome x_stepCount x_atWork x_mostAtWork x_saidCount x_pendingCount y_parent x_classFields y_bound x_tokenKind x_tokenValue x_globals x_thingShown x_thingClass x_thingFields x_thingToken x_thingMaker x_variables x_homeOf x_within x_foundIn x_baseFrame x_frameToken x_frameStage x_frameLink x_operands x_saidValues x_marked x_pending f (y_parent c) (nI (i + 1))) ∧ (¬ y_bound (c * 12 + s) = -1 → post (nI c))) → wX_classThatHas_5 post (nI s) x_classCount x_bodyCount x_draftCount x_wrongPlace x_madeCount x_frameCount x_current x_next x_inHand x_mode x_outcome x_stepCount x_atWork x_mostAtWork x_saidCount x_pendingCount y_parent x_classFields y_bound x_tokenKind x_tokenValue x_globals x_thingShown x_thingClass x_thingFields x_thingToken x_thingMaker x_variables x_homeOf x_within x_foundIn x_baseFrame x_frameToken x_frameStage x_frameLink x_operands x_saidValues x_marked x_pending (f + 1) (nI c) (nI i) := fun f post h => by
      refine br_f (nI_ge (b := 10) (by omega) (by decide)) (br_f (gx_m1 (by omega)) ?_)
      rw [ex, hc2]
      refine ⟨hin, fun z => ⟨vp_in_nI (by omega) (by decide), ?_⟩, h.2⟩
      rw [hcc]
      exact nm_e (nm_r (nI_1 i) (h.1 z))
    have stepY : ∀ f (post : Int32 → Prop), ((0 ≤ y_bound (c * 12 + s) → post (nI c)) ∧ (¬ 0 ≤ y_bound (c * 12 + s) → wY_found_2 post (nI s) y_classes y_bodies y_fault y_made y_working y_peak y_steps y_depth y_waiting y_code y_running y_has y_got y_todos y_marks y_shown y_spoken y_parent y_fields y_bound y_kind y_word y_size y_sort y_number y_stands y_keeps y_cells y_globals y_within y_foundIn y_self y_args y_temps y_param y_live y_work y_under y_at y_in y_phase y_base y_goal y_operands y_marked y_todo y_heard f (y_parent c))) → wY_found_2 post (nI s) y_classes y_bodies y_fault y_made y_working y_peak y_steps y_depth y_waiting y_code y_running y_has y_got y_todos y_marks y_shown y_spoken y_parent y_fields y_bound y_kind y_word y_size y_sort y_number y_stands y_keeps y_cells y_globals y_within y_foundIn y_self y_args y_temps y_param y_live y_work y_under y_at y_in y_phase y_base y_goal y_operands y_marked y_todo y_heard (f + 1) (nI c) := fun f post h => by
      refine br_f (nI_pos (by omega)) ?_
      rw [ey, hc2]
      refine ⟨hin, h.1, fun z => ⟨vp_in_nI (by omega) (by decide), ?_⟩⟩
      rw [hcc]
      exact nm_e (h.2 z)
    have b12 := B.1
    rcases B.2 (c * 12 + s) (by omega) with z | ⟨b, b1, b2⟩
    · have z0 : ¬ 0 ≤ y_bound (c * 12 + s) := by rw [z]; decide
      by_cases c0 : c = 0
      · subst c0
        refine ⟨-1, Or.inl rfl, fun f post hf hp => ?_, fun f post hf hp => ?_⟩
        · obtain ⟨f', rfl⟩ : ∃ f', f = f' + 2 := ⟨f - 2, by omega⟩
          refine stepX (f' + 1) post (br_t z ?_)
          rw [p0]
          exact br_c (fun _ => hp) (fun _ => br_t rfl hp)
        · obtain ⟨f', rfl⟩ : ∃ f', f = f' + 2 := ⟨f - 2, by omega⟩
          refine stepY (f' + 1) post (br_f z0 ?_)
          rw [p0]
          exact br_t (by decide) hp
      · obtain ⟨p, p1, p2⟩ := pp c (by omega) hc
        obtain ⟨r, r1, r2, r3⟩ := ih p p1 (i + 1) (by omega) (by omega)
        refine ⟨r, r1, fun f post hf hp => ?_, fun f post hf hp => ?_⟩
        · obtain ⟨f', rfl⟩ : ∃ f', f = f' + 1 := ⟨f - 1, by omega⟩
          refine stepX f' post (br_t z ?_)
          rw [p2]
          exact r2 f' post (by omega) hp
        · obtain ⟨f', rfl⟩ : ∃ f', f = f' + 1 := ⟨f - 1, by omega⟩
          refine stepY f' post (br_f z0 ?_)
          rw [p2]
          exact r3 f' post (by omega) hp
    · refine ⟨nI c, Or.inr ⟨c, b, hc, rfl, b1, b2⟩, fun f post hf hp => ?_, fun f post hf hp => ?_⟩
      · obtain ⟨f', rfl⟩ : ∃ f', f = f' + 1 := ⟨f - 1, by omega⟩
        exact stepX f' post (br_f (by rw [b2]; exact gx_m1 (by omega)) hp)
      · obtain ⟨f', rfl⟩ : ∃ f', f = f' + 1 := ⟨f - 1, by omega⟩
        exact stepY f' post (br_t (by rw [b2]; exact nI_pos' (by omega)) hp)
theorem xv_found (C : rl_C cc y_parent y_fields) (B : rl_B bc y_bound) {s c : Nat} (hs : s < 12) (hc : c < cc) :
    ∃ r : Int32, (r = -1 ∨ ∃ c' b, c' < cc ∧ r = nI c' ∧ b < bc ∧ y_bound (c' * 12 + s) = nI b) ∧
    (∀ (post : Int32 → Prop), post r → wpX_classThatHas post (x_classCount, x_bodyCount, x_draftCount, x_wrongPlace, x_madeCount, x_frameCount, x_current, x_next, x_inHand, x_mode, x_outcome, x_stepCount, x_atWork, x_mostAtWork, x_saidCount, x_pendingCount, y_parent, x_classFields, y_bound, x_tokenKind, x_tokenValue, x_globals, x_thingShown, x_thingClass, x_thingFields, x_thingToken, x_thingMaker, x_variables, x_homeOf, x_within, x_foundIn, x_baseFrame, x_frameToken, x_frameStage, x_frameLink, x_operands, x_saidValues, x_marked, x_pending) (nI c) (nI s)) ∧
    (∀ (post : Int32 → Prop), post r → wpY_found post (y_classes, y_bodies, y_fault, y_made, y_working, y_peak, y_steps, y_depth, y_waiting, y_code, y_running, y_has, y_got, y_todos, y_marks, y_shown, y_spoken, y_parent, y_fields, y_bound, y_kind, y_word, y_size, y_sort, y_number, y_stands, y_keeps, y_cells, y_globals, y_within, y_foundIn, y_self, y_args, y_temps, y_param, y_live, y_work, y_under, y_at, y_in, y_phase, y_base, y_goal, y_operands, y_marked, y_todo, y_heard) (nI c) (nI s)) := by
  obtain ⟨r, r1, r2, r3⟩ := xv_found0 C B hs c 0 hc (by have := C.2.1; omega)
  exact ⟨r, r1, fun post hp => ⟨c + 2, r2 _ post (by omega) hp⟩, fun post hp => ⟨c + 2, r3 _ post (by omega) hp⟩⟩
end
