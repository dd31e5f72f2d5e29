/-! the worth of tokens without operands, on both sides -/
section
variable {x_classCount x_bodyCount x_draftCount x_wrongPlace x_madeCount x_frameCount x_current x_next x_mode x_outcome x_stepCount x_atWork x_mostAtWork x_saidCount x_pendingCount : Int32} {x_inHand : Int64} {x_classParent x_classFields x_bound x_tokenKind x_tokenValue x_thingClass x_thingToken x_thingMaker x_homeOf x_within x_foundIn x_baseFrame x_frameToken x_frameStage x_frameLink x_marked x_pending : Nat → Int32} {x_globals x_thingShown x_thingFields x_variables x_operands x_saidValues : Nat → Int64}
variable {y_classes y_bodies y_fault y_made y_working y_peak y_steps y_depth y_waiting y_code y_running y_has y_todos y_marks y_spoken : Int32} {y_got y_shown : Int64} {y_parent y_fields y_bound y_kind y_word y_size y_sort y_number y_stands y_keeps y_within y_foundIn y_live y_work y_under y_at y_in y_phase y_base y_goal y_marked y_todo : Nat → Int32} {y_cells y_globals y_self y_args y_temps y_param y_operands y_heard : Nat → Int64}
variable {cc bc dc mc st sp d w np md B M : Nat} {T ST SA : Nat → Prop} {lv τ σ lev ho fa ph bs ow gg wk un rt : Nat → Nat}
theorem fr_ne12 {k : Int32} {n ph : Nat} (h : fr_ok k n ph) : ¬ k = 12 := fun z => by
  subst z
  rcases h with ⟨_, q | q | q | q⟩ | ⟨q, _⟩ | ⟨q, _⟩ | ⟨q, _⟩ | ⟨q, _⟩ | ⟨q, _⟩
  · exact absurd q (by decide)
  · exact absurd q (by decide)
  · exact absurd q (by decide)
  · exact absurd q (by decide)
  · exact absurd q (by decide)
  · exact absurd q (by decide)
  · exact absurd q (by decide)
  · exact absurd q (by decide)
  · unfold fr_gen at q
    exact absurd q (by decide)
/-- as many BLOCKS around a token as activations around the one that reads it -/
theorem fr_lv (A : rn_A cc bc dc mc T ST SA lv τ σ lev ho x_tokenKind x_tokenValue y_kind y_word y_size y_parent y_fields y_bound x_globals y_globals x_thingShown x_thingClass x_thingFields x_thingToken x_thingMaker x_variables x_homeOf x_within x_foundIn y_sort y_number y_stands y_keeps y_cells y_within y_foundIn y_self y_args y_temps y_param) (F : rn_F T ST SA lv σ lev ho y_kind y_word fa ph bs ow gg wk un rt d w y_sort y_number x_frameToken x_frameStage x_frameLink x_operands x_baseFrame y_operands y_self y_at y_in y_phase y_base y_goal y_work y_under y_live) : ∀ p, p ≤ d → ∀ t i, (p = d → i = w - 1) → (p < d → i = ow p) → fr_lo ph ow un p i → fr_lt y_kind (tk_nd y_kind y_word) fa ph rt p t i → lv t = lv (rt i) := by
  obtain ⟨_, _, t2, t3, t4, t5⟩ := A.1.2.2.1
  intro p
  induction p with
  | zero =>
    intro hp t i h1 h2 lo lt
    rw [lt.1 rfl, lo.1 rfl]
  | succ q ih =>
    intro hp t i h1 h2 lo lt
    obtain ⟨f1, f2, f3, f4, f5, _⟩ := F.1.2.2.2.2.1 q (by omega)
    by_cases z : ph q = 100
    · rw [(lt.2 q rfl).1 z]
    · obtain ⟨l1, l2⟩ := (lt.2 q rfl).2 z
      rw [l2, t5 (fa q) _ f1 (fr_ne12 f5) l1, (lo.2 q rfl).2 z]
      exact ih (by omega) (fa q) (ow q) (fun e => by omega) (fun _ => rfl) f3 f4
theorem ev_param (H : hp_R cc mc T y_kind lv ST SA τ σ lev ho x_thingShown x_thingClass x_thingFields x_thingToken x_thingMaker x_variables x_homeOf x_within x_foundIn y_sort y_number y_stands y_keeps y_cells y_within y_foundIn y_self y_args y_temps y_param) {v : Nat} (hv : v < 3) : ∀ n b i, SA b → i + n = v → n < lev b →
    ∃ b', SA b' ∧ hp_v ST (hp_s y_sort y_number) (x_variables (σ b' * 7 + 6)) (y_param b') ∧ (∀ f (post : Int64 → Prop), n < f → post (x_variables (σ b' * 7 + 6)) → wX_paramOf_7 post (nI v) x_classCount x_bodyCount x_draftCount x_wrongPlace x_madeCount x_frameCount x_current x_next x_inHand x_mode x_outcome x_stepCount x_atWork x_mostAtWork x_saidCount x_pendingCount x_classParent x_classFields x_bound x_tokenKind x_tokenValue x_globals x_thingShown x_thingClass x_thingFields x_thingToken x_thingMaker x_variables x_homeOf x_within x_foundIn x_baseFrame x_frameToken x_frameStage x_frameLink x_operands x_saidValues x_marked x_pending f (nI (σ b)) (nI i)) ∧
    (∀ f (Q : SY → Prop), n < f → Q (y_classes, y_bodies, y_fault, y_made, y_working, y_peak, y_steps, y_depth, y_waiting, y_code, y_running, 1, y_param b', y_todos, y_marks, y_shown, y_spoken, y_parent, y_fields, y_bound, y_kind, y_word, y_size, y_sort, y_number, y_stands, y_keeps, y_cells, y_globals, y_within, y_foundIn, y_self, y_args, y_temps, y_param, y_live, y_work, y_under, y_at, y_in, y_phase, y_base, y_goal, y_operands, y_marked, y_todo, y_heard) → wY_evaluate_300 Q (nI v) y_classes y_bodies y_fault y_made y_working y_peak y_steps y_depth y_waiting y_code y_running y_has y_got y_todos y_marks y_shown y_spoken y_parent y_fields y_bound y_kind y_word y_size y_sort y_number y_stands y_keeps y_cells y_globals y_within y_foundIn y_self y_args y_temps y_param y_live y_work y_under y_at y_in y_phase y_base y_goal y_operands y_marked y_todo y_heard f (nI b) (nI i)) := by
  intro n
  induction n with
  | zero =>
    intro b i sb e hl
    obtain rfl : i = v := by omega
    obtain ⟨k1, k2, k3, _, _, _, z⟩ := H.2.1 b sb
    rcases z with ⟨_, z, _⟩ | ⟨c, _, _, _, _, _, hvv, _⟩
    · omega
    · refine ⟨b, sb, hvv, fun f post hf hp => ?_, fun f Q hf hq => ?_⟩
      · obtain ⟨f', rfl⟩ : ∃ f', f = f' + 1 := ⟨f - 1, by omega⟩
        refine br_t (nI_le (Nat.le_refl _) (by omega)) ?_
        have e : nI (σ b) * (7 : Int32) + 6 = nI (σ b * 7 + 6) := ix_r 7 (σ b) 6
        unfold wX_paramOf_35
        rw [e, nI_clamp (by omega)]
        exact ⟨vp_in_nI (by omega) (by decide), hp⟩
      · obtain ⟨f', rfl⟩ : ∃ f', f = f' + 1 := ⟨f - 1, by omega⟩
        refine br_t (nI_le (Nat.le_refl _) (by omega)) ⟨vp_in_nI k1 (by decide), ?_⟩
        rw [nI_clamp (by omega)]
        exact hq
  | succ n ih =>
    intro b i sb e hl
    obtain ⟨k1, k2, k3, _, _, _, z⟩ := H.2.1 b sb
    rcases z with ⟨_, z, _⟩ | ⟨c, w1, sc, l1, _, w2, _⟩
    · omega
    · obtain ⟨b', q1, q2, q3, q4⟩ := ih c (i + 1) sc (by omega) (by omega)
      have hc := H.2.1 c sc
      have c1 := hc.1
      have c2 := hc.2.1
      refine ⟨b', q1, q2, fun f post hf hp => ?_, fun f Q hf hq => ?_⟩
      · obtain ⟨f', rfl⟩ : ∃ f', f = f' + 1 := ⟨f - 1, by omega⟩
        refine br_f (nI_ge (by omega) (by omega)) ⟨vp_in_nI k2 (by decide), ?_⟩
        rw [nI_clamp (show σ b < 2 ^ 31 by omega), w2]
        exact br_f (gx_m1 (by omega)) ⟨vp_in_nI k2 (by decide), nm_e (nm_r (nI_1 i) (q3 f' post (by omega) hp))⟩
      · obtain ⟨f', rfl⟩ : ∃ f', f = f' + 1 := ⟨f - 1, by omega⟩
        refine br_f (nI_ge (by omega) (by omega)) ⟨vp_in_nI k1 (by decide), ?_⟩
        rw [nI_clamp (show b < 2 ^ 31 by omega), w1]
        exact nm_e (nm_r (nI_1 i) (q4 f' Q (by omega) hq))
theorem ev_leafv (A : rn_A cc bc dc mc T ST SA lv τ σ lev ho x_tokenKind x_tokenValue y_kind y_word y_size y_parent y_fields y_bound x_globals y_globals x_thingShown x_thingClass x_thingFields x_thingToken x_thingMaker x_variables x_homeOf x_within x_foundIn y_sort y_number y_stands y_keeps y_cells y_within y_foundIn y_self y_args y_temps y_param) (F : rn_F T ST SA lv σ lev ho y_kind y_word fa ph bs ow gg wk un rt d w y_sort y_number x_frameToken x_frameStage x_frameLink x_operands x_baseFrame y_operands y_self y_at y_in y_phase y_base y_goal y_work y_under y_live) {t : Nat} (tt : T t) (lt : fr_lt y_kind (tk_nd y_kind y_word) fa ph rt d t (w - 1)) {kn : Nat} (hk : kn = 0 ∨ kn = 1 ∨ kn = 2 ∨ kn = 3 ∨ kn = 4 ∨ kn = 8 ∨ kn = 13) (ek : y_kind t = nI kn) :
    ∃ xv yv, hp_v ST (hp_s y_sort y_number) xv yv ∧ (∀ P : Int64 → SX → Prop, P xv (nI cc, nI bc, nI dc, y_fault, nI mc, nI (fr_x y_kind fa ph d), nI (σ (wk (w - 1))), nI t, x_inHand, 1, 100, nI st, nI w, y_peak, nI sp, x_pendingCount, y_parent, y_fields, y_bound, x_tokenKind, x_tokenValue, x_globals, x_thingShown, x_thingClass, x_thingFields, x_thingToken, x_thingMaker, x_variables, x_homeOf, x_within, x_foundIn, x_baseFrame, x_frameToken, x_frameStage, x_frameLink, x_operands, y_heard, x_marked, x_pending) → wpX_simpleValue P (nI cc, nI bc, nI dc, y_fault, nI mc, nI (fr_x y_kind fa ph d), nI (σ (wk (w - 1))), nI t, x_inHand, 1, 100, nI st, nI w, y_peak, nI sp, x_pendingCount, y_parent, y_fields, y_bound, x_tokenKind, x_tokenValue, x_globals, x_thingShown, x_thingClass, x_thingFields, x_thingToken, x_thingMaker, x_variables, x_homeOf, x_within, x_foundIn, x_baseFrame, x_frameToken, x_frameStage, x_frameLink, x_operands, y_heard, x_marked, x_pending) (x_tokenKind t) (x_tokenValue t)) ∧
    (∀ Q : SY → Prop, Q (nI cc, nI bc, y_fault, nI mc, nI w, y_peak, nI st, nI d, nI (bs d), y_code, 1, 1, yv, y_todos, y_marks, -10000000000, nI sp, y_parent, y_fields, y_bound, y_kind, y_word, y_size, y_sort, y_number, y_stands, y_keeps, y_cells, y_globals, y_within, y_foundIn, y_self, y_args, y_temps, y_param, y_live, y_work, y_under, y_at, y_in, y_phase, y_base, y_goal, y_operands, y_marked, y_todo, y_heard) → wpY_evaluate Q (nI cc, nI bc, y_fault, nI mc, nI w, y_peak, nI st, nI d, nI (bs d), y_code, 1, 0, y_got, y_todos, y_marks, -10000000000, nI sp, y_parent, y_fields, y_bound, y_kind, y_word, y_size, y_sort, y_number, y_stands, y_keeps, y_cells, y_globals, y_within, y_foundIn, y_self, y_args, y_temps, y_param, y_live, y_work, y_under, y_at, y_in, y_phase, y_base, y_goal, y_operands, y_marked, y_todo, y_heard) (nI t) (nI (wk (w - 1)))) := by
  obtain ⟨c1, c2, c3, c4, c5, c6, c7, _, v0, v1, v2⟩ := rn_cur A F
  obtain ⟨b12, t1, _⟩ := A.1.2.2.1
  obtain ⟨l1, x1, x2, ok, fit⟩ := t1 t tt
  have tc : (nI t).toNatClampNeg = t := nI_clamp (by omega)
  have cc' : (nI (σ (wk (w - 1)))).toNatClampNeg = σ (wk (w - 1)) := nI_clamp (by omega)
  have e7 : nI (σ (ho (wk (w - 1)))) * (7 : Int32) = nI (σ (ho (wk (w - 1))) * 7) := pk_mul _ 7
  have vcur : vp_in (nI (σ (wk (w - 1)))) 128 := vp_in_nI c3 (by decide)
  have vh : vp_in (nI (ho (wk (w - 1)))) 160 := vp_in_nI c5 (by decide)
  have hc : (nI (ho (wk (w - 1)))).toNatClampNeg = ho (wk (w - 1)) := nI_clamp (by omega)
  obtain ⟨kn', kl, ek', okl, _⟩ := ok
  have kb : kn < 2 ^ 31 := by rcases hk with h | h | h | h | h | h | h <;> (rw [h]; decide)
  have ekk : kn' = kn := (nI_eq (Nat.lt_trans kl (by decide)) kb).mp (ek'.symm.trans ek)
  subst ekk
  rw [x1, x2, ek]
  have goY : ∀ Q : SY → Prop, (∀ k : Int32, k = y_kind t → _) → wpY_evaluate Q (nI cc, nI bc, y_fault, nI mc, nI w, y_peak, nI st, nI d, nI (bs d), y_code, 1, 0, y_got, y_todos, y_marks, -10000000000, nI sp, y_parent, y_fields, y_bound, y_kind, y_word, y_size, y_sort, y_number, y_stands, y_keeps, y_cells, y_globals, y_within, y_foundIn, y_self, y_args, y_temps, y_param, y_live, y_work, y_under, y_at, y_in, y_phase, y_base, y_goal, y_operands, y_marked, y_todo, y_heard) (nI t) (nI (wk (w - 1))) := fun Q h => by
    have vt : vp_in (nI t) 416 := vp_in_nI (by omega) (by decide)
    unfold wpY_evaluate
    dsimp only
    rw [nI_clamp (show t < 2 ^ 31 by omega)]
    exact ⟨vt, nm_e (yw_home A.2.2.1 (rn_cur A F).1 ⟨vt, h⟩)⟩
  have goX : ∀ P : Int64 → SX → Prop, ∀ k v : Int32, (∀ x3 : Int32, x3 = nI (σ (ho (wk (w - 1))) * 7) → _) → wpX_simpleValue P (nI cc, nI bc, nI dc, y_fault, nI mc, nI (fr_x y_kind fa ph d), nI (σ (wk (w - 1))), nI t, x_inHand, 1, 100, nI st, nI w, y_peak, nI sp, x_pendingCount, y_parent, y_fields, y_bound, x_tokenKind, x_tokenValue, x_globals, x_thingShown, x_thingClass, x_thingFields, x_thingToken, x_thingMaker, x_variables, x_homeOf, x_within, x_foundIn, x_baseFrame, x_frameToken, x_frameStage, x_frameLink, x_operands, y_heard, x_marked, x_pending) k v := fun P k v h => by
    unfold wpX_simpleValue
    dsimp only
    rw [cc', c7, e7]
    exact ⟨vcur, h⟩
  rcases hk with rfl | rfl | rfl | rfl | rfl | rfl | rfl
  · refine ⟨(y_word t).toInt64, lN (y_word t).toBitVec.toNat, ⟨.inl (y_word t), fun k e => (by cases e), rfl, rfl⟩, fun P hp => goX P _ _ (nm_e (br_f (by decide) (br_f (by decide) (br_t rfl hp)))), fun Q hq => goY Q (nm_r ek (br_f (by decide) (br_f (by decide) (br_t rfl ?_))))⟩
    rw [vv_w]; exact hq
  · exact ⟨10000000000, 4294967296, ⟨.inr none, fun k e => (by cases e), rfl, rfl⟩, fun P hp => goX P _ _ (nm_e (br_f (by decide) (br_f (by decide) (br_f (by decide) (br_t rfl hp))))), fun Q hq => goY Q (nm_r ek (br_f (by decide) (br_f (by decide) (br_f (by decide) (br_t rfl hq)))))⟩
  · refine ⟨_, _, v0, fun P hp => goX P _ _ (nm_e (br_f (by decide) (br_f (by decide) (br_f (by decide) (br_f (by decide) (br_t rfl (ev_self (P := P) A F hp))))))), fun Q hq => goY Q (nm_r ek (br_f (by decide) (br_f (by decide) (br_f (by decide) (br_f (by decide) (br_t rfl ⟨vh, ?_⟩))))))⟩
    rw [hc]; exact hq
  · obtain ⟨v, hv, ev⟩ := okl (by omega)
    have hv : v < 2 := hv
    rw [ev]
    have eX : nI (σ (ho (wk (w - 1))) * 7) + 1 + nI v = nI (σ (ho (wk (w - 1))) * 7 + 1 + v) := by rw [nI_1, nI_add]
    have eY : (2 : Int32) * nI (ho (wk (w - 1))) + nI v = nI (2 * ho (wk (w - 1)) + v) := ix_l 2 _ v
    refine ⟨_, _, v1 v hv, fun P hp => goX P _ _ (nm_e (br_f (by decide) (br_f (by decide) (br_f (by decide) (br_f (by decide) (br_f (by decide) (br_t rfl ?_))))))), fun Q hq => goY Q (nm_r ek (br_f (by decide) (br_f (by decide) (br_f (by decide) (br_f (by decide) (br_f (by decide) (br_t rfl ?_)))))))⟩
    · rw [eX, nI_clamp (by omega)]
      exact ⟨vp_in_nI (by omega) (by decide), hp⟩
    · rw [ev, eY, nI_clamp (by omega)]
      exact ⟨vp_in_nI (by omega) (by decide), hq⟩
  · obtain ⟨v, hv, ev⟩ := okl (by omega)
    have hv : v < 3 := hv
    rw [ev]
    have eX : nI (σ (ho (wk (w - 1))) * 7) + 3 + nI v = nI (σ (ho (wk (w - 1))) * 7 + 3 + v) := by
      rw [show nI (σ (ho (wk (w - 1))) * 7) + 3 = nI (σ (ho (wk (w - 1))) * 7 + 3) from nI_add _ 3, nI_add]
    have eY : (3 : Int32) * nI (ho (wk (w - 1))) + nI v = nI (3 * ho (wk (w - 1)) + v) := ix_l 3 _ v
    refine ⟨_, _, v2 v hv, fun P hp => goX P _ _ (nm_e (br_f (by decide) (br_f (by decide) (br_f (by decide) (br_f (by decide) (br_f (by decide) (br_f (by decide) (br_t rfl ?_)))))))), fun Q hq => goY Q (nm_r ek (br_f (by decide) (br_f (by decide) (br_f (by decide) (br_f (by decide) (br_f (by decide) (br_f (by decide) (br_t rfl ?_))))))))⟩
    · rw [eX, nI_clamp (by omega)]
      exact ⟨vp_in_nI (by omega) (by decide), hp⟩
    · rw [ev, eY, nI_clamp (by omega)]
      exact ⟨vp_in_nI (by omega) (by decide), hq⟩
  · obtain ⟨v, hv, ev⟩ := okl (by omega)
    have hv : v < 4 := hv
    rw [ev]
    have vc : (nI v).toNatClampNeg = v := nI_clamp (by omega)
    have vv : vp_in (nI v) 4 := vp_in_nI hv (by decide)
    refine ⟨_, _, A.2.1 v hv, fun P hp => goX P _ _ (nm_e ?_), fun Q hq => goY Q (nm_r ek ?_)⟩
    · iterate 10 refine br_f (by decide) ?_
      refine br_t rfl ⟨vv, ?_⟩
      rw [vc]; exact hp
    · iterate 10 refine br_f (by decide) ?_
      rw [ev]
      refine br_t rfl ⟨vv, ?_⟩
      rw [vc]; exact hq
  · obtain ⟨v, hv, ev⟩ := okl (by omega)
    have hv : v < 3 := hv
    have fl := fit.2.1 ek
    rw [ev, nI_clamp (by omega)] at fl
    have lvt := fr_lv A F d (Nat.le_refl _) t (w - 1) (fun _ => rfl) (fun z => by omega) F.1.2.2.2.2.2.1 lt
    have lw := (F.2.2.2.1 (w - 1) (by have := F.1.1; omega)).2.1
    obtain ⟨b', q1, q2, q3, q4⟩ := ev_param (x_classCount := nI cc) (x_bodyCount := nI bc) (x_draftCount := nI dc) (x_wrongPlace := y_fault) (x_madeCount := nI mc) (x_frameCount := nI (fr_x y_kind fa ph d)) (x_current := nI (σ (wk (w - 1)))) (x_next := nI t) (x_inHand := x_inHand) (x_mode := 1) (x_outcome := 100) (x_stepCount := nI st) (x_atWork := nI w) (x_mostAtWork := y_peak) (x_saidCount := nI sp) (x_pendingCount := x_pendingCount) (x_classParent := y_parent) (x_classFields := y_fields) (x_bound := y_bound) (x_tokenKind := x_tokenKind) (x_tokenValue := x_tokenValue) (x_globals := x_globals) (x_thingShown := x_thingShown) (x_thingClass := x_thingClass) (x_thingFields := x_thingFields) (x_thingToken := x_thingToken) (x_thingMaker := x_thingMaker) (x_variables := x_variables) (x_homeOf := x_homeOf) (x_within := x_within) (x_foundIn := x_foundIn) (x_baseFrame := x_baseFrame) (x_frameToken := x_frameToken) (x_frameStage := x_frameStage) (x_frameLink := x_frameLink) (x_operands := x_operands) (x_saidValues := y_heard) (x_marked := x_marked) (x_pending := x_pending) (y_classes := nI cc) (y_bodies := nI bc) (y_fault := y_fault) (y_made := nI mc) (y_working := nI w) (y_peak := y_peak) (y_steps := nI st) (y_depth := nI d) (y_waiting := nI (bs d)) (y_code := y_code) (y_running := 1) (y_has := 0) (y_got := y_got) (y_todos := y_todos) (y_marks := y_marks) (y_shown := -10000000000) (y_spoken := nI sp) (y_parent := y_parent) (y_fields := y_fields) (y_bound := y_bound) (y_kind := y_kind) (y_word := y_word) (y_size := y_size) (y_sort := y_sort) (y_number := y_number) (y_stands := y_stands) (y_keeps := y_keeps) (y_cells := y_cells) (y_globals := y_globals) (y_within := y_within) (y_foundIn := y_foundIn) (y_self := y_self) (y_args := y_args) (y_temps := y_temps) (y_param := y_param) (y_live := y_live) (y_work := y_work) (y_under := y_under) (y_at := y_at) (y_in := y_in) (y_phase := y_phase) (y_base := y_base) (y_goal := y_goal) (y_operands := y_operands) (y_marked := y_marked) (y_todo := y_todo) (y_heard := y_heard) A.2.2.1 hv v (wk (w - 1)) 0 c1 (by omega) (by omega)
    rw [ev]
    refine ⟨_, _, q2, fun P hp => goX P _ _ (nm_e ?_), fun Q hq => goY Q (nm_r ek ?_)⟩
    · iterate 15 refine br_f (by decide) ?_
      exact br_t rfl ⟨v + 1, q3 _ _ (by omega) hp⟩
    · iterate 15 refine br_f (by decide) ?_
      rw [ev]
      exact br_t rfl ⟨v + 1, q4 _ _ (by omega) hq⟩
end
