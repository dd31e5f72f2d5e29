/-! working out a token: the first kinds -/
def rn_n (B M mc st sp mu : Nat) : Prop := st ≤ 200 ∧ sp < 2 ^ 30 - mu ∧ mu < M ∧ mc + mu ≤ B
def rn_Ev (B M : Nat) (u : SX) (v : SY) (t a : Nat) : Prop := ∃ u1 v1, (∀ Q : SX → Prop, Q u1 → wpX_readToken Q u) ∧ (∀ Q : SY → Prop, Q v1 → wpY_evaluate Q v (nI t) (nI a)) ∧ (rn_E B u1 v1 ∨ rn_St B M u1 v1)
section
variable {x_classCount x_bodyCount x_draftCount x_wrongPlace x_madeCount x_frameCount x_current x_next x_mode x_outcome x_stepCount x_atWork x_mostAtWork x_saidCount x_pendingCount : Int32} {x_inHand : Int64} {x_classParent x_classFields x_bound x_tokenKind x_tokenValue x_thingClass x_thingToken x_thingMaker x_homeOf x_within x_foundIn x_baseFrame x_frameToken x_frameStage x_frameLink x_marked x_pending : Nat → Int32} {x_globals x_thingShown x_thingFields x_variables x_operands x_saidValues : Nat → Int64}
variable {y_classes y_bodies y_fault y_made y_working y_peak y_steps y_depth y_waiting y_code y_running y_has y_todos y_marks y_spoken : Int32} {y_got y_shown : Int64} {y_parent y_fields y_bound y_kind y_word y_size y_sort y_number y_stands y_keeps y_within y_foundIn y_live y_work y_under y_at y_in y_phase y_base y_goal y_marked y_todo : Nat → Int32} {y_cells y_globals y_self y_args y_temps y_param y_operands y_heard : Nat → Int64}
variable {cc bc dc mc st sp d w np md B M : Nat} {T ST SA : Nat → Prop} {lv τ σ lev ho fa ph bs ow gg wk un rt : Nat → Nat}
theorem rn_stop (A : rn_A cc bc dc mc T ST SA lv τ σ lev ho x_tokenKind x_tokenValue y_kind y_word y_size y_parent y_fields y_bound x_globals y_globals x_thingShown x_thingClass x_thingFields x_thingToken x_thingMaker x_variables x_homeOf x_within x_foundIn y_sort y_number y_stands y_keeps y_cells y_within y_foundIn y_self y_args y_temps y_param) (F : rn_F T ST SA lv σ lev ho y_kind y_word fa ph bs ow gg wk un rt d w y_sort y_number x_frameToken x_frameStage x_frameLink x_operands x_baseFrame y_operands y_self y_at y_in y_phase y_base y_goal y_work y_under y_live) {o : Int32} (o1 : ¬ o = 100) (o2 : ¬ o = 0) (hB : mc ≤ B) : rn_E B (nI cc, nI bc, nI dc, y_fault, nI mc, x_frameCount, x_current, x_next, x_inHand, x_mode, o, nI st, x_atWork, y_peak, nI sp, x_pendingCount, y_parent, y_fields, y_bound, x_tokenKind, x_tokenValue, x_globals, x_thingShown, x_thingClass, x_thingFields, x_thingToken, x_thingMaker, x_variables, x_homeOf, x_within, x_foundIn, x_baseFrame, x_frameToken, x_frameStage, x_frameLink, x_operands, y_heard, x_marked, x_pending) (nI cc, nI bc, y_fault, nI mc, nI w, y_peak, nI st, y_depth, y_waiting, o, 0, y_has, y_got, y_todos, y_marks, -10000000000, nI sp, y_parent, y_fields, y_bound, y_kind, y_word, y_size, y_sort, y_number, y_stands, y_keeps, y_cells, y_globals, y_within, y_foundIn, y_self, y_args, y_temps, y_param, y_live, y_work, y_under, y_at, y_in, y_phase, y_base, y_goal, y_operands, y_marked, y_todo, y_heard) := by
  refine ⟨cc, bc, dc, mc, w, T, ST, SA, lv, τ, σ, lev, ho, ⟨rfl, rfl, rfl, rfl, rfl, rfl, rfl, rfl, rfl, rfl, rfl, rfl⟩, ⟨rfl, rfl, rfl, rfl, rfl, F.1.2.1⟩, ⟨o1, rfl, Or.inr ⟨o2, rfl⟩⟩, A, hB, fun i hi => ?_, fun a ha => ?_⟩
  · exact ⟨wk i, (A.2.2.1.2.1 _ (F.2.2.2.1 i hi).1).1, (F.2.1.2 i hi).1⟩
  · obtain ⟨l1, l2⟩ := F.2.2.2.2.2.2 a ha
    rcases l1 with z | z
    · exact Or.inl z
    · obtain ⟨i, hi, e⟩ := l2.mp z
      exact Or.inr ⟨i, hi, by rw [(F.2.1.2 i hi).1, e]⟩
theorem rn_le (A : rn_A cc bc dc mc T ST SA lv τ σ lev ho x_tokenKind x_tokenValue y_kind y_word y_size y_parent y_fields y_bound x_globals y_globals x_thingShown x_thingClass x_thingFields x_thingToken x_thingMaker x_variables x_homeOf x_within x_foundIn y_sort y_number y_stands y_keeps y_cells y_within y_foundIn y_self y_args y_temps y_param) (F : rn_F T ST SA lv σ lev ho y_kind y_word fa ph bs ow gg wk un rt d w y_sort y_number x_frameToken x_frameStage x_frameLink x_operands x_baseFrame y_operands y_self y_at y_in y_phase y_base y_goal y_work y_under y_live) {t : Nat} (tt : T t) (lt : fr_lt y_kind (tk_nd y_kind y_word) fa ph rt d t (w - 1)) : t < ex_e (tk_nd y_kind y_word) t ∧ ex_e (tk_nd y_kind y_word) t ≤ ex_e (tk_nd y_kind y_word) (rt (w - 1)) ∧ d ≤ 383 ∧ bs d ≤ 383 := by
  have TF := rn_TF A
  have p := fr_pos TF F.1 d (Nat.le_refl _) t (w - 1) (fun _ => rfl) (fun z => by omega) F.1.2.2.2.2.2.1 lt tt
  have e := fr_en TF tt
  have r := fr_room TF F.1 lt tt
  exact ⟨e.1, p.2.2.2.2.1, r⟩
theorem ev_H (A : rn_A cc bc dc mc T ST SA lv τ σ lev ho x_tokenKind x_tokenValue y_kind y_word y_size y_parent y_fields y_bound x_globals y_globals x_thingShown x_thingClass x_thingFields x_thingToken x_thingMaker x_variables x_homeOf x_within x_foundIn y_sort y_number y_stands y_keeps y_cells y_within y_foundIn y_self y_args y_temps y_param) (F : rn_F T ST SA lv σ lev ho y_kind y_word fa ph bs ow gg wk un rt d w y_sort y_number x_frameToken x_frameStage x_frameLink x_operands x_baseFrame y_operands y_self y_at y_in y_phase y_base y_goal y_work y_under y_live) {t : Nat} (tt : T t) (lt : fr_lt y_kind (tk_nd y_kind y_word) fa ph rt d t (w - 1)) {xv yv : Int64} (hv : hp_v ST (hp_s y_sort y_number) xv yv) (n : rn_n B (M + 1) mc st sp (rn_mu (tk_nd y_kind y_word) fa un rt st d w t 0)) {e' : Nat} (ee : ex_e (tk_nd y_kind y_word) t = e') :
    rn_St B M (nI cc, nI bc, nI dc, y_fault, nI mc, nI (fr_x y_kind fa ph d), nI (σ (wk (w - 1))), nI e', xv, 1, 100, nI st, nI w, y_peak, nI sp, x_pendingCount, y_parent, y_fields, y_bound, x_tokenKind, x_tokenValue, x_globals, x_thingShown, x_thingClass, x_thingFields, x_thingToken, x_thingMaker, x_variables, x_homeOf, x_within, x_foundIn, x_baseFrame, x_frameToken, x_frameStage, x_frameLink, x_operands, y_heard, x_marked, x_pending) (nI cc, nI bc, y_fault, nI mc, nI w, y_peak, nI st, nI d, nI (bs d), y_code, 1, 1, yv, y_todos, y_marks, -10000000000, nI sp, y_parent, y_fields, y_bound, y_kind, y_word, y_size, y_sort, y_number, y_stands, y_keeps, y_cells, y_globals, y_within, y_foundIn, y_self, y_args, y_temps, y_param, y_live, y_work, y_under, y_at, y_in, y_phase, y_base, y_goal, y_operands, y_marked, y_todo, y_heard) := by
  subst ee
  obtain ⟨e1, e2, _⟩ := rn_le A F tt lt
  obtain ⟨n1, n2, n3, n4⟩ := n
  refine ⟨cc, bc, dc, mc, st, sp, d, w, ex_e (tk_nd y_kind y_word) t, 2, T, ST, SA, lv, τ, σ, lev, ho, fa, ph, bs, ow, gg, wk, un, rt, ⟨rfl, rfl, rfl, rfl, rfl, rfl, rfl, rfl, rfl, rfl, rfl, rfl, rfl, rfl, rfl, rfl, rfl⟩, ⟨rfl, rfl, rfl, rfl, rfl, rfl, rfl, rfl, rfl, rfl⟩, A, F, Or.inl ⟨rfl, rfl, rfl, hv, t, lt, tt, rfl⟩, n1, ?_⟩
  unfold rn_mu at n2 n3 n4 ⊢
  omega
theorem ev_leaf (A : rn_A cc bc dc mc T ST SA lv τ σ lev ho x_tokenKind x_tokenValue y_kind y_word y_size y_parent y_fields y_bound x_globals y_globals x_thingShown x_thingClass x_thingFields x_thingToken x_thingMaker x_variables x_homeOf x_within x_foundIn y_sort y_number y_stands y_keeps y_cells y_within y_foundIn y_self y_args y_temps y_param) (F : rn_F T ST SA lv σ lev ho y_kind y_word fa ph bs ow gg wk un rt d w y_sort y_number x_frameToken x_frameStage x_frameLink x_operands x_baseFrame y_operands y_self y_at y_in y_phase y_base y_goal y_work y_under y_live) {t : Nat} (tt : T t) (lt : fr_lt y_kind (tk_nd y_kind y_word) fa ph rt d t (w - 1)) (n : rn_n B (M + 1) mc st sp (rn_mu (tk_nd y_kind y_word) fa un rt st d w t 0)) {kn : Nat} (hk : kn = 0 ∨ kn = 1 ∨ kn = 2 ∨ kn = 3 ∨ kn = 4 ∨ kn = 8 ∨ kn = 13) (ek : y_kind t = nI kn) :
    rn_Ev B M (nI cc, nI bc, nI dc, y_fault, nI mc, nI (fr_x y_kind fa ph d), nI (σ (wk (w - 1))), nI t, x_inHand, 0, 100, nI st, nI w, y_peak, nI sp, x_pendingCount, y_parent, y_fields, y_bound, x_tokenKind, x_tokenValue, x_globals, x_thingShown, x_thingClass, x_thingFields, x_thingToken, x_thingMaker, x_variables, x_homeOf, x_within, x_foundIn, x_baseFrame, x_frameToken, x_frameStage, x_frameLink, x_operands, y_heard, x_marked, x_pending) (nI cc, nI bc, y_fault, nI mc, nI w, y_peak, nI st, nI d, nI (bs d), y_code, 1, 0, y_got, y_todos, y_marks, -10000000000, nI sp, y_parent, y_fields, y_bound, y_kind, y_word, y_size, y_sort, y_number, y_stands, y_keeps, y_cells, y_globals, y_within, y_foundIn, y_self, y_args, y_temps, y_param, y_live, y_work, y_under, y_at, y_in, y_phase, y_base, y_goal, y_operands, y_marked, y_todo, y_heard) t (wk (w - 1)) := by
  obtain ⟨xv, yv, hv, hX, hY⟩ := ev_leafv (st := st) (sp := sp) A F tt lt hk ek
  obtain ⟨b12, t1, t2, _⟩ := A.1.2.2.1
  obtain ⟨l1, x1, x2, ok, fit⟩ := t1 t tt
  have n0 : tk_need (y_kind t) (y_word t) = 0 := by
    rw [ek]
    rcases hk with rfl | rfl | rfl | rfl | rfl | rfl | rfl <;> rfl
  have ne : ∀ b, b < 30 → (b = 12 ∨ b = 25 ∨ b = 11) → ¬ nI kn = nI b := fun b hb hb2 z => by
    have : kn = b := (nI_eq (by rcases hk with h | h | h | h | h | h | h <;> (rw [h]; decide)) (by omega)).mp z
    subst this
    rcases hk with rfl | rfl | rfl | rfl | rfl | rfl | rfl <;> omega
  have ee : ex_e (tk_nd y_kind y_word) t = t + 1 := by
    obtain ⟨m, m1, _⟩ := t2 t tt
    have h1 := ex_hd m1
    rw [show tk_nd y_kind y_word t = 0 from n0] at h1
    have := ex_0 h1
    have := ex_pos m1
    rw [ex_eq m1]; omega
  refine ⟨_, _, fun Q q => xr_leaf (bd' := y_bound) (oc' := 100) (xv := xv) (by omega) (by rw [x1, x2]; exact ok) (by rw [x1, x2]; exact n0) (by rw [x1, ek]; exact ne 12 (by decide) (by decide)) (by rw [x1, ek]; exact ne 25 (by decide) (by decide)) (by rw [x1, ek]; exact ne 11 (by decide) (by decide)) hX q, hY, Or.inr (ev_H A F tt lt hv n ee)⟩
theorem ev_field (A : rn_A cc bc dc mc T ST SA lv τ σ lev ho x_tokenKind x_tokenValue y_kind y_word y_size y_parent y_fields y_bound x_globals y_globals x_thingShown x_thingClass x_thingFields x_thingToken x_thingMaker x_variables x_homeOf x_within x_foundIn y_sort y_number y_stands y_keeps y_cells y_within y_foundIn y_self y_args y_temps y_param) (F : rn_F T ST SA lv σ lev ho y_kind y_word fa ph bs ow gg wk un rt d w y_sort y_number x_frameToken x_frameStage x_frameLink x_operands x_baseFrame y_operands y_self y_at y_in y_phase y_base y_goal y_work y_under y_live) {t : Nat} (tt : T t) (lt : fr_lt y_kind (tk_nd y_kind y_word) fa ph rt d t (w - 1)) (n : rn_n B (M + 1) mc st sp (rn_mu (tk_nd y_kind y_word) fa un rt st d w t 0)) (ek : y_kind t = 6) :
    rn_Ev B M (nI cc, nI bc, nI dc, y_fault, nI mc, nI (fr_x y_kind fa ph d), nI (σ (wk (w - 1))), nI t, x_inHand, 0, 100, nI st, nI w, y_peak, nI sp, x_pendingCount, y_parent, y_fields, y_bound, x_tokenKind, x_tokenValue, x_globals, x_thingShown, x_thingClass, x_thingFields, x_thingToken, x_thingMaker, x_variables, x_homeOf, x_within, x_foundIn, x_baseFrame, x_frameToken, x_frameStage, x_frameLink, x_operands, y_heard, x_marked, x_pending) (nI cc, nI bc, y_fault, nI mc, nI w, y_peak, nI st, nI d, nI (bs d), y_code, 1, 0, y_got, y_todos, y_marks, -10000000000, nI sp, y_parent, y_fields, y_bound, y_kind, y_word, y_size, y_sort, y_number, y_stands, y_keeps, y_cells, y_globals, y_within, y_foundIn, y_self, y_args, y_temps, y_param, y_live, y_work, y_under, y_at, y_in, y_phase, y_base, y_goal, y_operands, y_marked, y_todo, y_heard) t (wk (w - 1)) := by
  obtain ⟨c1, c2, c3, c4, c5, c6, c7, _, v0, v1, v2⟩ := rn_cur A F
  obtain ⟨b12, t1, t2, _⟩ := A.1.2.2.1
  obtain ⟨l1, x1, x2, ok, fit⟩ := t1 t tt
  have n0 : tk_need (y_kind t) (y_word t) = 0 := by rw [ek]; rfl
  have ee : ex_e (tk_nd y_kind y_word) t = t + 1 := by
    obtain ⟨m, m1, _⟩ := t2 t tt
    have h1 := ex_hd m1
    rw [show tk_nd y_kind y_word t = 0 from n0] at h1
    have := ex_0 h1
    have := ex_pos m1
    rw [ex_eq m1]; omega
  have tc : (nI t).toNatClampNeg = t := nI_clamp (by omega)
  have cc' : (nI (σ (wk (w - 1)))).toNatClampNeg = σ (wk (w - 1)) := nI_clamp (by omega)
  have e7 : nI (σ (ho (wk (w - 1)))) * (7 : Int32) = nI (σ (ho (wk (w - 1))) * 7) := pk_mul _ 7
  have vcur : vp_in (nI (σ (wk (w - 1)))) 128 := vp_in_nI c3 (by decide)
  have vh : vp_in (nI (ho (wk (w - 1)))) 160 := vp_in_nI c5 (by decide)
  have hc : (nI (ho (wk (w - 1)))).toNatClampNeg = ho (wk (w - 1)) := nI_clamp (by omega)
  have ok2 := ok
  obtain ⟨kn', kl, ek', okl, _⟩ := ok
  have ekk : kn' = 6 := (nI_eq (Nat.lt_trans kl (by decide)) (by decide)).mp (ek'.symm.trans ek)
  subst ekk
  obtain ⟨v, hv, ev⟩ := okl (by omega)
  have hv : v < 4 := hv
  have goY : ∀ Q : SY → Prop, (∀ k : Int32, k = y_kind t → _) → wpY_evaluate Q (nI cc, nI bc, y_fault, nI mc, nI w, y_peak, nI st, nI d, nI (bs d), y_code, 1, 0, y_got, y_todos, y_marks, -10000000000, nI sp, y_parent, y_fields, y_bound, y_kind, y_word, y_size, y_sort, y_number, y_stands, y_keeps, y_cells, y_globals, y_within, y_foundIn, y_self, y_args, y_temps, y_param, y_live, y_work, y_under, y_at, y_in, y_phase, y_base, y_goal, y_operands, y_marked, y_todo, y_heard) (nI t) (nI (wk (w - 1))) := fun Q h => by
    have vt : vp_in (nI t) 416 := vp_in_nI (by omega) (by decide)
    unfold wpY_evaluate
    dsimp only
    rw [nI_clamp (show t < 2 ^ 31 by omega)]
    exact ⟨vt, nm_e (yw_home A.2.2.1 (rn_cur A F).1 ⟨vt, h⟩)⟩
  have goX : ∀ P : Int64 → SX → Prop, wpX_fieldPlace (fun r => (r = -1 → P 10000000000 (nI cc, nI bc, nI dc, y_fault, nI mc, nI (fr_x y_kind fa ph d), nI (σ (wk (w - 1))), nI t, x_inHand, 1, 2, nI st, nI w, y_peak, nI sp, x_pendingCount, y_parent, y_fields, y_bound, x_tokenKind, x_tokenValue, x_globals, x_thingShown, x_thingClass, x_thingFields, x_thingToken, x_thingMaker, x_variables, x_homeOf, x_within, x_foundIn, x_baseFrame, x_frameToken, x_frameStage, x_frameLink, x_operands, y_heard, x_marked, x_pending)) ∧ (¬ r = -1 → vp_in r 96 ∧ P (x_thingFields r.toNatClampNeg) (nI cc, nI bc, nI dc, y_fault, nI mc, nI (fr_x y_kind fa ph d), nI (σ (wk (w - 1))), nI t, x_inHand, 1, 100, nI st, nI w, y_peak, nI sp, x_pendingCount, y_parent, y_fields, y_bound, x_tokenKind, x_tokenValue, x_globals, x_thingShown, x_thingClass, x_thingFields, x_thingToken, x_thingMaker, x_variables, x_homeOf, x_within, x_foundIn, x_baseFrame, x_frameToken, x_frameStage, x_frameLink, x_operands, y_heard, x_marked, x_pending))) (nI cc, nI bc, nI dc, y_fault, nI mc, nI (fr_x y_kind fa ph d), nI (σ (wk (w - 1))), nI t, x_inHand, 1, 100, nI st, nI w, y_peak, nI sp, x_pendingCount, y_parent, y_fields, y_bound, x_tokenKind, x_tokenValue, x_globals, x_thingShown, x_thingClass, x_thingFields, x_thingToken, x_thingMaker, x_variables, x_homeOf, x_within, x_foundIn, x_baseFrame, x_frameToken, x_frameStage, x_frameLink, x_operands, y_heard, x_marked, x_pending) (x_variables (σ (ho (wk (w - 1))) * 7)) (nI v) → wpX_simpleValue P (nI cc, nI bc, nI dc, y_fault, nI mc, nI (fr_x y_kind fa ph d), nI (σ (wk (w - 1))), nI t, x_inHand, 1, 100, nI st, nI w, y_peak, nI sp, x_pendingCount, y_parent, y_fields, y_bound, x_tokenKind, x_tokenValue, x_globals, x_thingShown, x_thingClass, x_thingFields, x_thingToken, x_thingMaker, x_variables, x_homeOf, x_within, x_foundIn, x_baseFrame, x_frameToken, x_frameStage, x_frameLink, x_operands, y_heard, x_marked, x_pending) (x_tokenKind t) (x_tokenValue t) := fun P h => by
    rw [x1, x2, ek, ev]
    unfold wpX_simpleValue
    dsimp only
    rw [cc', c7, e7]
    refine ⟨vcur, nm_e ?_⟩
    iterate 8 refine br_f (by decide) ?_
    refine br_t rfl ?_
    unfold wpX_fieldOfSelf
    exact ev_self (P := P) A F h
  have X0 : ∀ (oc' : Int32) (xv : Int64) (Q : SX → Prop), (∀ P : Int64 → SX → Prop, P xv (nI cc, nI bc, nI dc, y_fault, nI mc, nI (fr_x y_kind fa ph d), nI (σ (wk (w - 1))), nI t, x_inHand, 1, oc', nI st, nI w, y_peak, nI sp, x_pendingCount, y_parent, y_fields, y_bound, x_tokenKind, x_tokenValue, x_globals, x_thingShown, x_thingClass, x_thingFields, x_thingToken, x_thingMaker, x_variables, x_homeOf, x_within, x_foundIn, x_baseFrame, x_frameToken, x_frameStage, x_frameLink, x_operands, y_heard, x_marked, x_pending) → wpX_simpleValue P (nI cc, nI bc, nI dc, y_fault, nI mc, nI (fr_x y_kind fa ph d), nI (σ (wk (w - 1))), nI t, x_inHand, 1, 100, nI st, nI w, y_peak, nI sp, x_pendingCount, y_parent, y_fields, y_bound, x_tokenKind, x_tokenValue, x_globals, x_thingShown, x_thingClass, x_thingFields, x_thingToken, x_thingMaker, x_variables, x_homeOf, x_within, x_foundIn, x_baseFrame, x_frameToken, x_frameStage, x_frameLink, x_operands, y_heard, x_marked, x_pending) (x_tokenKind t) (x_tokenValue t)) → Q (nI cc, nI bc, nI dc, y_fault, nI mc, nI (fr_x y_kind fa ph d), nI (σ (wk (w - 1))), nI (t + 1), xv, 1, oc', nI st, nI w, y_peak, nI sp, x_pendingCount, y_parent, y_fields, y_bound, x_tokenKind, x_tokenValue, x_globals, x_thingShown, x_thingClass, x_thingFields, x_thingToken, x_thingMaker, x_variables, x_homeOf, x_within, x_foundIn, x_baseFrame, x_frameToken, x_frameStage, x_frameLink, x_operands, y_heard, x_marked, x_pending) → wpX_readToken Q (nI cc, nI bc, nI dc, y_fault, nI mc, nI (fr_x y_kind fa ph d), nI (σ (wk (w - 1))), nI t, x_inHand, 0, 100, nI st, nI w, y_peak, nI sp, x_pendingCount, y_parent, y_fields, y_bound, x_tokenKind, x_tokenValue, x_globals, x_thingShown, x_thingClass, x_thingFields, x_thingToken, x_thingMaker, x_variables, x_homeOf, x_within, x_foundIn, x_baseFrame, x_frameToken, x_frameStage, x_frameLink, x_operands, y_heard, x_marked, x_pending) := fun oc' xv Q h q => xr_leaf (bd' := y_bound) (oc' := oc') (xv := xv) (by omega) (by rw [x1, x2]; exact ok2) (by rw [x1, x2]; exact n0) (by rw [x1, ek]; decide) (by rw [x1, ek]; decide) (by rw [x1, ek]; decide) h q
  rcases xv_field (x_classCount := nI cc) (x_bodyCount := nI bc) (x_draftCount := nI dc) (x_wrongPlace := y_fault) (x_madeCount := nI mc) (x_frameCount := nI (fr_x y_kind fa ph d)) (x_current := nI (σ (wk (w - 1)))) (x_next := nI t) (x_inHand := x_inHand) (x_mode := 1) (x_outcome := 100) (x_stepCount := nI st) (x_atWork := nI w) (x_mostAtWork := y_peak) (x_saidCount := nI sp) (x_pendingCount := x_pendingCount) (x_classParent := y_parent) (x_bound := y_bound) (x_tokenKind := x_tokenKind) (x_tokenValue := x_tokenValue) (x_globals := x_globals) (x_thingShown := x_thingShown) (x_thingClass := x_thingClass) (x_thingFields := x_thingFields) (x_thingToken := x_thingToken) (x_thingMaker := x_thingMaker) (x_variables := x_variables) (x_homeOf := x_homeOf) (x_within := x_within) (x_foundIn := x_foundIn) (x_baseFrame := x_baseFrame) (x_frameToken := x_frameToken) (x_frameStage := x_frameStage) (x_frameLink := x_frameLink) (x_operands := x_operands) (x_saidValues := y_heard) (x_marked := x_marked) (x_pending := x_pending) (y_classes := nI cc) (y_bodies := nI bc) (y_fault := y_fault) (y_made := nI mc) (y_working := nI w) (y_peak := y_peak) (y_steps := nI st) (y_depth := nI d) (y_waiting := nI (bs d)) (y_code := y_code) (y_running := 1) (y_has := 0) (y_got := y_got) (y_todos := y_todos) (y_marks := y_marks) (y_shown := -10000000000) (y_spoken := nI sp) (y_parent := y_parent) (y_fields := y_fields) (y_bound := y_bound) (y_kind := y_kind) (y_word := y_word) (y_size := y_size) (y_sort := y_sort) (y_number := y_number) (y_stands := y_stands) (y_keeps := y_keeps) (y_cells := y_cells) (y_globals := y_globals) (y_within := y_within) (y_foundIn := y_foundIn) (y_self := y_self) (y_args := y_args) (y_temps := y_temps) (y_param := y_param) (y_live := y_live) (y_work := y_work) (y_under := y_under) (y_at := y_at) (y_in := y_in) (y_phase := y_phase) (y_base := y_base) (y_goal := y_goal) (y_operands := y_operands) (y_marked := y_marked) (y_todo := y_todo) (y_heard := y_heard) A.2.2.2.1 A.2.2.1 A.1.1 v0 (show v < 2 ^ 31 by omega) with ⟨fX, fY⟩ | ⟨kk, kl, sk, s3, j4, ey, fX, fY⟩
  · refine ⟨_, (nI cc, nI bc, y_fault, nI mc, nI w, y_peak, nI st, nI d, nI (bs d), 2, 0, 0, y_got, y_todos, y_marks, -10000000000, nI sp, y_parent, y_fields, y_bound, y_kind, y_word, y_size, y_sort, y_number, y_stands, y_keeps, y_cells, y_globals, y_within, y_foundIn, y_self, y_args, y_temps, y_param, y_live, y_work, y_under, y_at, y_in, y_phase, y_base, y_goal, y_operands, y_marked, y_todo, y_heard), fun Q q => X0 2 10000000000 Q (fun P hp => goX P (fX _ (br_t rfl hp))) q, fun Q q => goY Q (nm_r ek ?_), Or.inl (rn_stop A F (by decide) (by decide) (by have := n.2.2.2; omega))⟩
    iterate 8 refine br_f (by decide) ?_
    refine br_t rfl ⟨vh, ?_⟩
    rw [hc, ev]
    exact fY _ (br_t rfl q)
  · obtain ⟨k1, k2, _, _, _, _, _, k8⟩ := A.2.2.1.1 kk sk
    have e4 : (4 : Int32) * nI kk + nI v = nI (4 * kk + v) := ix_l 4 kk v
    refine ⟨_, (nI cc, nI bc, y_fault, nI mc, nI w, y_peak, nI st, nI d, nI (bs d), y_code, 1, 1, y_cells (4 * kk + v), y_todos, y_marks, -10000000000, nI sp, y_parent, y_fields, y_bound, y_kind, y_word, y_size, y_sort, y_number, y_stands, y_keeps, y_cells, y_globals, y_within, y_foundIn, y_self, y_args, y_temps, y_param, y_live, y_work, y_under, y_at, y_in, y_phase, y_base, y_goal, y_operands, y_marked, y_todo, y_heard), fun Q q => X0 100 (x_thingFields (τ kk * 4 + v)) Q (fun P hp => goX P (fX _ (br_f (gx_m1 (by omega)) ⟨vp_in_nI (by omega) (by decide), ?_⟩))) q, fun Q q => goY Q (nm_r ek ?_), Or.inr (ev_H A F tt lt ((k8 s3).2 v hv) n ee)⟩
    · rw [nI_clamp (show τ kk * 4 + v < 2 ^ 31 by omega)]
      exact hp
    · iterate 8 refine br_f (by decide) ?_
      refine br_t rfl ⟨vh, ?_⟩
      rw [hc, ev]
      refine fY _ (br_f (by decide) ⟨vh, ?_⟩)
      rw [ey, vv_t (by omega), e4, nI_clamp (show 4 * kk + v < 2 ^ 31 by omega)]
      exact ⟨vp_in_nI (by omega) (by decide), q⟩
theorem ev_bind (A : rn_A cc bc dc mc T ST SA lv τ σ lev ho x_tokenKind x_tokenValue y_kind y_word y_size y_parent y_fields y_bound x_globals y_globals x_thingShown x_thingClass x_thingFields x_thingToken x_thingMaker x_variables x_homeOf x_within x_foundIn y_sort y_number y_stands y_keeps y_cells y_within y_foundIn y_self y_args y_temps y_param) (F : rn_F T ST SA lv σ lev ho y_kind y_word fa ph bs ow gg wk un rt d w y_sort y_number x_frameToken x_frameStage x_frameLink x_operands x_baseFrame y_operands y_self y_at y_in y_phase y_base y_goal y_work y_under y_live) {t : Nat} (tt : T t) (lt : fr_lt y_kind (tk_nd y_kind y_word) fa ph rt d t (w - 1)) (n : rn_n B (M + 1) mc st sp (rn_mu (tk_nd y_kind y_word) fa un rt st d w t 0)) (ek : y_kind t = 28) :
    rn_Ev B M (nI cc, nI bc, nI dc, y_fault, nI mc, nI (fr_x y_kind fa ph d), nI (σ (wk (w - 1))), nI t, x_inHand, 0, 100, nI st, nI w, y_peak, nI sp, x_pendingCount, y_parent, y_fields, y_bound, x_tokenKind, x_tokenValue, x_globals, x_thingShown, x_thingClass, x_thingFields, x_thingToken, x_thingMaker, x_variables, x_homeOf, x_within, x_foundIn, x_baseFrame, x_frameToken, x_frameStage, x_frameLink, x_operands, y_heard, x_marked, x_pending) (nI cc, nI bc, y_fault, nI mc, nI w, y_peak, nI st, nI d, nI (bs d), y_code, 1, 0, y_got, y_todos, y_marks, -10000000000, nI sp, y_parent, y_fields, y_bound, y_kind, y_word, y_size, y_sort, y_number, y_stands, y_keeps, y_cells, y_globals, y_within, y_foundIn, y_self, y_args, y_temps, y_param, y_live, y_work, y_under, y_at, y_in, y_phase, y_base, y_goal, y_operands, y_marked, y_todo, y_heard) t (wk (w - 1)) := by
  obtain ⟨c1, c2, c3, c4, c5, c6, c7, _, v0, v1, v2⟩ := rn_cur A F
  obtain ⟨b12, t1, t2, _⟩ := A.1.2.2.1
  obtain ⟨l1, x1, x2, ok, fit⟩ := t1 t tt
  have n0 : tk_need (y_kind t) (y_word t) = 0 := by rw [ek]; rfl
  have ee : ex_e (tk_nd y_kind y_word) t = t + 1 := by
    obtain ⟨m, m1, _⟩ := t2 t tt
    have h1 := ex_hd m1
    rw [show tk_nd y_kind y_word t = 0 from n0] at h1
    have := ex_0 h1
    have := ex_pos m1
    rw [ex_eq m1]; omega
  have cc' : (nI (σ (wk (w - 1)))).toNatClampNeg = σ (wk (w - 1)) := nI_clamp (by omega)
  have e7 : nI (σ (ho (wk (w - 1)))) * (7 : Int32) = nI (σ (ho (wk (w - 1))) * 7) := pk_mul _ 7
  have vcur : vp_in (nI (σ (wk (w - 1)))) 128 := vp_in_nI c3 (by decide)
  have ok2 := ok
  obtain ⟨kn', kl, ek', _, ok28⟩ := ok
  have ekk : kn' = 28 := (nI_eq (Nat.lt_trans kl (by decide)) (by decide)).mp (ek'.symm.trans ek)
  subst ekk
  obtain ⟨v, w1, w2, w3, ev⟩ := ok28 rfl
  have wl : v < 2 ^ 31 := by omega
  have ft := fit.2.2.2 ek
  rw [ev, nI_clamp wl] at ft
  have f2 : (nI v / 16) - (nI v / 16) / 16 * 16 = nI (v / 16 % 16) := by rw [tk_d16 wl, tk_r16 (by omega)]
  have e2 : (nI v >>> ((4 : Int32) &&& 31)) &&& 15 = nI (v / 16 % 16) := by rw [tk_shr4 wl, tk_and15 (by omega)]
  have eX : nI (v / 256) * (12 : Int32) + nI (v / 16 % 16) = nI (v / 256 * 12 + v / 16 % 16) := ix_r 12 _ _
  have eY : (12 : Int32) * nI (v / 256) + nI (v / 16 % 16) = nI (v / 256 * 12 + v / 16 % 16) := by rw [Nat.mul_comm (v / 256) 12]; exact ix_l 12 _ _
  have ci : (nI (v / 256 * 12 + v / 16 % 16)).toNatClampNeg = v / 256 * 12 + v / 16 % 16 := nI_clamp (by omega)
  have vi : vp_in (nI (v / 256 * 12 + v / 16 % 16)) 120 := vp_in_nI (by omega) (by decide)
  have goY : ∀ Q : SY → Prop, (∀ k : Int32, k = y_kind t → _) → wpY_evaluate Q (nI cc, nI bc, y_fault, nI mc, nI w, y_peak, nI st, nI d, nI (bs d), y_code, 1, 0, y_got, y_todos, y_marks, -10000000000, nI sp, y_parent, y_fields, y_bound, y_kind, y_word, y_size, y_sort, y_number, y_stands, y_keeps, y_cells, y_globals, y_within, y_foundIn, y_self, y_args, y_temps, y_param, y_live, y_work, y_under, y_at, y_in, y_phase, y_base, y_goal, y_operands, y_marked, y_todo, y_heard) (nI t) (nI (wk (w - 1))) := fun Q h => by
    have vt : vp_in (nI t) 416 := vp_in_nI (by omega) (by decide)
    unfold wpY_evaluate
    dsimp only
    rw [nI_clamp (show t < 2 ^ 31 by omega)]
    exact ⟨vt, nm_e (yw_home A.2.2.1 (rn_cur A F).1 ⟨vt, h⟩)⟩
  have hX : ∀ P : Int64 → SX → Prop, P 10000000000 (nI cc, nI bc, nI dc, y_fault, nI mc, nI (fr_x y_kind fa ph d), nI (σ (wk (w - 1))), nI t, x_inHand, 1, 100, nI st, nI w, y_peak, nI sp, x_pendingCount, y_parent, y_fields, upd y_bound (v / 256 * 12 + v / 16 % 16) (nI (v % 16)), x_tokenKind, x_tokenValue, x_globals, x_thingShown, x_thingClass, x_thingFields, x_thingToken, x_thingMaker, x_variables, x_homeOf, x_within, x_foundIn, x_baseFrame, x_frameToken, x_frameStage, x_frameLink, x_operands, y_heard, x_marked, x_pending) → wpX_simpleValue P (nI cc, nI bc, nI dc, y_fault, nI mc, nI (fr_x y_kind fa ph d), nI (σ (wk (w - 1))), nI t, x_inHand, 1, 100, nI st, nI w, y_peak, nI sp, x_pendingCount, y_parent, y_fields, y_bound, x_tokenKind, x_tokenValue, x_globals, x_thingShown, x_thingClass, x_thingFields, x_thingToken, x_thingMaker, x_variables, x_homeOf, x_within, x_foundIn, x_baseFrame, x_frameToken, x_frameStage, x_frameLink, x_operands, y_heard, x_marked, x_pending) (x_tokenKind t) (x_tokenValue t) := fun P h => by
    rw [x1, x2, ek, ev]
    unfold wpX_simpleValue
    dsimp only
    rw [cc', c7, e7]
    refine ⟨vcur, nm_e ?_⟩
    iterate 30 refine br_f (by decide) ?_
    refine br_t rfl ⟨by decide, by decide, by decide, by decide, ?_⟩
    rw [tk_d256 wl, f2, tk_r16 wl, eX, ci]
    exact ⟨vi, nm_e h⟩
  have A' : rn_A cc bc dc mc T ST SA lv τ σ lev ho x_tokenKind x_tokenValue y_kind y_word y_size y_parent y_fields (upd y_bound (v / 256 * 12 + v / 16 % 16) (nI (v % 16))) x_globals y_globals x_thingShown x_thingClass x_thingFields x_thingToken x_thingMaker x_variables x_homeOf x_within x_foundIn y_sort y_number y_stands y_keeps y_cells y_within y_foundIn y_self y_args y_temps y_param := by
    obtain ⟨⟨C, Bb, TD⟩, rest⟩ := A
    refine ⟨⟨C, ⟨Bb.1, fun i hi => ?_⟩, TD⟩, rest⟩
    by_cases e : i = v / 256 * 12 + v / 16 % 16
    · subst e; rw [pk_us]; exact Or.inr ⟨v % 16, ft.2, rfl⟩
    · rw [pk_un e]; exact Bb.2 i hi
  refine ⟨_, (nI cc, nI bc, y_fault, nI mc, nI w, y_peak, nI st, nI d, nI (bs d), y_code, 1, 1, 4294967296, y_todos, y_marks, -10000000000, nI sp, y_parent, y_fields, upd y_bound (v / 256 * 12 + v / 16 % 16) (nI (v % 16)), y_kind, y_word, y_size, y_sort, y_number, y_stands, y_keeps, y_cells, y_globals, y_within, y_foundIn, y_self, y_args, y_temps, y_param, y_live, y_work, y_under, y_at, y_in, y_phase, y_base, y_goal, y_operands, y_marked, y_todo, y_heard), fun Q q => xr_leaf (oc' := 100) (by omega) (by rw [x1, x2]; exact ok2) (by rw [x1, x2]; exact n0) (by rw [x1, ek]; decide) (by rw [x1, ek]; decide) (by rw [x1, ek]; decide) hX q, fun Q q => goY Q (nm_r ek ?_), Or.inr (ev_H A' F tt lt ⟨.inr none, fun k e => (by cases e), rfl, rfl⟩ n ee)⟩
  iterate 30 refine br_f (by decide) ?_
  rw [ev, tk_shr8 wl, e2, tk_and15 wl, eY, ci]
  exact br_t rfl ⟨vi, nm_e q⟩
end
