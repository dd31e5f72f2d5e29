/-! a turn that works out the next part of the operator on top -/
section
variable {x_classCount x_bodyCount x_draftCount x_wrongPlace x_madeCount x_frameCount x_current x_next x_mode x_outcome x_stepCount x_atWork x_mostAtWork x_saidCount x_pendingCount : Int32} {x_inHand : Int64} {x_classParent x_classFields x_bound x_tokenKind x_tokenValue x_thingClass x_thingToken x_thingMaker x_homeOf x_within x_foundIn x_baseFrame x_frameToken x_frameStage x_frameLink x_marked x_pending : Nat → Int32} {x_globals x_thingShown x_thingFields x_variables x_operands x_saidValues : Nat → Int64}
variable {y_classes y_bodies y_fault y_made y_working y_peak y_steps y_depth y_waiting y_code y_running y_has y_todos y_marks y_spoken : Int32} {y_got y_shown : Int64} {y_parent y_fields y_bound y_kind y_word y_size y_sort y_number y_stands y_keeps y_within y_foundIn y_live y_work y_under y_at y_in y_phase y_base y_goal y_marked y_todo : Nat → Int32} {y_cells y_globals y_self y_args y_temps y_param y_operands y_heard : Nat → Int64}
variable {cc bc dc mc st sp d w np md B M : Nat} {T ST SA : Nat → Prop} {lv τ σ lev ho fa ph bs ow gg wk un rt : Nat → Nat}
theorem fr_pt3 {k : Int32} {n ph : Nat} (ok : fr_ok k n ph) (h3 : n ≤ 3) (h : ph ≠ 100) : ph ≤ 3 := by
  rcases ok with ⟨a, _⟩ | ⟨_, a⟩ | ⟨_, a⟩ | ⟨_, a⟩ | ⟨_, a⟩ | ⟨_, a⟩ <;> omega
/-- the top frame, when it does not wait for an answer -/
theorem rn_top {p : Nat} (A : rn_A cc bc dc mc T ST SA lv τ σ lev ho x_tokenKind x_tokenValue y_kind y_word y_size y_parent y_fields y_bound x_globals y_globals x_thingShown x_thingClass x_thingFields x_thingToken x_thingMaker x_variables x_homeOf x_within x_foundIn y_sort y_number y_stands y_keeps y_cells y_within y_foundIn y_self y_args y_temps y_param) (F : rn_F T ST SA lv σ lev ho y_kind y_word fa ph bs ow gg wk un rt (p + 1) w y_sort y_number x_frameToken x_frameStage x_frameLink x_operands x_baseFrame y_operands y_self y_at y_in y_phase y_base y_goal y_work y_under y_live) (hp : ph p ≠ 100) : T (fa p) ∧ ow p = w - 1 ∧ fr_ok (y_kind (fa p)) (tk_nd y_kind y_word (fa p)) (ph p) ∧ ph p ≤ 3 ∧ p < 500 ∧ bs p ≤ 383 ∧ y_at p = nI (fa p) ∧ y_in p = nI (wk (w - 1)) ∧ y_phase p = nI (ph p) ∧ y_base p = nI (bs p) ∧ fa p < 384 ∧ tk_nd y_kind y_word (fa p) ≤ 3 ∧ p ≤ 383 := by
  obtain ⟨S, Y, X, W⟩ := F
  obtain ⟨f1, f2, f3, f4, f5, f6, f7⟩ := S.2.2.2.2.1 p (by omega)
  obtain ⟨y1, y2, y3, y4, y5⟩ := Y.1 p (by omega)
  have eo := (S.2.2.2.2.2.1.2 p rfl).2 hp
  have TF := rn_TF A
  obtain ⟨t1, t2, _⟩ := TF _ f1
  have pos := fr_pos TF S p (by omega) (fa p) (ow p) (fun e => by omega) (fun _ => rfl) f3 f4 f1
  have w12 := S.2.1
  have rr := fr_en TF (S.2.2.2.2.2.2.1 (ow p) pos.1)
  rw [← eo] at y2
  refine ⟨f1, eo.symm, f5, fr_pt3 f5 t2 hp, by omega, by omega, y1, y2, y3, y4, t1, t2, by omega⟩
theorem yn_37 {p : Nat} (A : rn_A cc bc dc mc T ST SA lv τ σ lev ho x_tokenKind x_tokenValue y_kind y_word y_size y_parent y_fields y_bound x_globals y_globals x_thingShown x_thingClass x_thingFields x_thingToken x_thingMaker x_variables x_homeOf x_within x_foundIn y_sort y_number y_stands y_keeps y_cells y_within y_foundIn y_self y_args y_temps y_param) (F : rn_F T ST SA lv σ lev ho y_kind y_word fa ph bs ow gg wk un rt (p + 1) w y_sort y_number x_frameToken x_frameStage x_frameLink x_operands x_baseFrame y_operands y_self y_at y_in y_phase y_base y_goal y_work y_under y_live) (hp : ph p ≠ 100) {Q : SY → Prop} (h : wY_next_37 Q (nI p) (nI (fr_pt (y_kind (fa p)) (ph p))) (nI cc) (nI bc) y_fault (nI mc) (nI w) y_peak (nI st) (nI (p + 1)) (nI (bs (p + 1))) y_code 1 0 y_got y_todos y_marks (-10000000000) (nI sp) y_parent y_fields y_bound y_kind y_word y_size y_sort y_number y_stands y_keeps y_cells y_globals y_within y_foundIn y_self y_args y_temps y_param y_live y_work y_under y_at y_in y_phase y_base y_goal y_operands y_marked y_todo y_heard) : wpY_next Q (nI cc, nI bc, y_fault, nI mc, nI w, y_peak, nI st, nI (p + 1), nI (bs (p + 1)), y_code, 1, 0, y_got, y_todos, y_marks, -10000000000, nI sp, y_parent, y_fields, y_bound, y_kind, y_word, y_size, y_sort, y_number, y_stands, y_keeps, y_cells, y_globals, y_within, y_foundIn, y_self, y_args, y_temps, y_param, y_live, y_work, y_under, y_at, y_in, y_phase, y_base, y_goal, y_operands, y_marked, y_todo, y_heard) := by
  obtain ⟨f1, eo, f5, p3, p5, b3, y1, y2, y3, y4, a3, n3, _⟩ := rn_top A F hp
  have ep : nI (p + 1) - 1 = nI p := nI_pred p
  have pc : (nI p).toNatClampNeg = p := nI_clamp (by omega)
  have vp : vp_in (nI p) 500 := vp_in_nI p5 (by decide)
  unfold wpY_next
  dsimp only
  rw [ep]
  refine nm_e ?_
  rw [pc, y1, y3, nI_clamp (show fa p < 2 ^ 31 by omega)]
  refine ⟨vp, nm_e ⟨vp, vp_in_nI (by omega) (by decide), ?_⟩⟩
  unfold fr_pt at h
  by_cases k27 : y_kind (fa p) = 27
  · by_cases z : ph p = 2
    · rw [if_pos ⟨k27, z⟩] at h
      exact br_t k27 (br_t (by rw [z]; rfl) h)
    · rw [if_neg (fun q => z q.2)] at h
      exact br_t k27 (br_f (fun q => z ((nI_eq (b := 2) (by omega) (by decide)).mp q)) h)
  · rw [if_neg (fun q => k27 q.1)] at h
    exact br_f k27 h
theorem fr_pt3' {k : Int32} {ph : Nat} (h : ph ≤ 3) : fr_pt k ph ≤ 3 := by
  unfold fr_pt
  split <;> omega
theorem go_read {p tm : Nat} (A : rn_A cc bc dc mc T ST SA lv τ σ lev ho x_tokenKind x_tokenValue y_kind y_word y_size y_parent y_fields y_bound x_globals y_globals x_thingShown x_thingClass x_thingFields x_thingToken x_thingMaker x_variables x_homeOf x_within x_foundIn y_sort y_number y_stands y_keeps y_cells y_within y_foundIn y_self y_args y_temps y_param) (F : rn_F T ST SA lv σ lev ho y_kind y_word fa ph bs ow gg wk un rt (p + 1) w y_sort y_number x_frameToken x_frameStage x_frameLink x_operands x_baseFrame y_operands y_self y_at y_in y_phase y_base y_goal y_work y_under y_live) (hp : ph p ≠ 100) (hl : fr_pt (y_kind (fa p)) (ph p) < tk_nd y_kind y_word (fa p)) (n : rn_n B (M + 1) mc st sp (rn_mu (tk_nd y_kind y_word) fa un rt st (p + 1) w (ex_pt (tk_nd y_kind y_word) (fa p) (fr_pt (y_kind (fa p)) (ph p))) 0)) (hB : B < 2 ^ 30) (ht : tm + 2 ≤ 1000000) :
    rn_Go B M tm (nI cc, nI bc, nI dc, y_fault, nI mc, nI (fr_x y_kind fa ph (p + 1)), nI (σ (wk (w - 1))), nI (ex_pt (tk_nd y_kind y_word) (fa p) (fr_pt (y_kind (fa p)) (ph p))), x_inHand, 0, 100, nI st, nI w, y_peak, nI sp, x_pendingCount, y_parent, y_fields, y_bound, x_tokenKind, x_tokenValue, x_globals, x_thingShown, x_thingClass, x_thingFields, x_thingToken, x_thingMaker, x_variables, x_homeOf, x_within, x_foundIn, x_baseFrame, x_frameToken, x_frameStage, x_frameLink, x_operands, y_heard, x_marked, x_pending) (nI cc, nI bc, y_fault, nI mc, nI w, y_peak, nI st, nI (p + 1), nI (bs (p + 1)), y_code, 1, 0, y_got, y_todos, y_marks, -10000000000, nI sp, y_parent, y_fields, y_bound, y_kind, y_word, y_size, y_sort, y_number, y_stands, y_keeps, y_cells, y_globals, y_within, y_foundIn, y_self, y_args, y_temps, y_param, y_live, y_work, y_under, y_at, y_in, y_phase, y_base, y_goal, y_operands, y_marked, y_todo, y_heard) := by
  obtain ⟨f1, eo, f5, p3, p5, b3, y1, y2, y3, y4, a3, n3, _⟩ := rn_top A F hp
  have TF := rn_TF A
  obtain ⟨tt, c2, c3, _⟩ := fr_ch TF f1 hl
  have lt : fr_lt y_kind (tk_nd y_kind y_word) fa ph rt (p + 1) (ex_pt (tk_nd y_kind y_word) (fa p) (fr_pt (y_kind (fa p)) (ph p))) (w - 1) := ⟨fun e => by omega, fun q e => by
    obtain rfl : q = p := by omega
    exact ⟨fun z => absurd z hp, fun _ => ⟨hl, rfl⟩⟩⟩
  obtain ⟨u1, v1, hX, hY, hR⟩ := ev_all A F tt lt n hB
  obtain ⟨m, m1, m2, m3⟩ := (TF _ f1).2.2
  have pl := fr_pt3' (k := y_kind (fa p)) p3
  refine ⟨u1, v1, tm + 1, by omega, fun PX k => xt_read (by omega) hX k, fun PY m' k => YL_mono (yt_next (fun Q q => ?_) k) (by omega), hR⟩
  refine yn_37 A F hp ?_
  have pc : (nI p).toNatClampNeg = p := nI_clamp (by omega)
  have vp : vp_in (nI p) 500 := vp_in_nI p5 (by decide)
  have okr : ∀ q, fa p ≤ q → q < fa p + m → tk_ok (y_kind q) (y_word q) := fun q q1 q2 => (A.1.2.2.1.2.1 q (m3 q q1 q2)).2.2.2.1
  unfold wY_next_37
  rw [pc, y1, y2]
  refine ⟨vp, yw_needs (by omega) (okr _ (by omega) (by have := ex_pos m1; omega)) ?_⟩
  refine br_f (fun z => ?_) ⟨vp, yw_part m1 (by omega) okr (by omega) (by omega) ⟨vp, hY Q q⟩⟩
  have := (nI_eq (by omega) (by have : tk_need (y_kind (fa p)) (y_word (fa p)) ≤ 3 := n3; omega)).mp z
  have hl' : fr_pt (y_kind (fa p)) (ph p) < tk_need (y_kind (fa p)) (y_word (fa p)) := hl
  omega
/-- and one that applies it -/
theorem yn_apply {p : Nat} (A : rn_A cc bc dc mc T ST SA lv τ σ lev ho x_tokenKind x_tokenValue y_kind y_word y_size y_parent y_fields y_bound x_globals y_globals x_thingShown x_thingClass x_thingFields x_thingToken x_thingMaker x_variables x_homeOf x_within x_foundIn y_sort y_number y_stands y_keeps y_cells y_within y_foundIn y_self y_args y_temps y_param) (F : rn_F T ST SA lv σ lev ho y_kind y_word fa ph bs ow gg wk un rt (p + 1) w y_sort y_number x_frameToken x_frameStage x_frameLink x_operands x_baseFrame y_operands y_self y_at y_in y_phase y_base y_goal y_work y_under y_live) (hp : ph p ≠ 100) (hl : fr_pt (y_kind (fa p)) (ph p) = tk_nd y_kind y_word (fa p)) {Q : SY → Prop} (h : wpY_apply Q (nI cc, nI bc, y_fault, nI mc, nI w, y_peak, nI st, nI (p + 1), nI (bs (p + 1)), y_code, 1, 0, y_got, y_todos, y_marks, -10000000000, nI sp, y_parent, y_fields, y_bound, y_kind, y_word, y_size, y_sort, y_number, y_stands, y_keeps, y_cells, y_globals, y_within, y_foundIn, y_self, y_args, y_temps, y_param, y_live, y_work, y_under, y_at, y_in, y_phase, y_base, y_goal, y_operands, y_marked, y_todo, y_heard) (nI p)) : wpY_next Q (nI cc, nI bc, y_fault, nI mc, nI w, y_peak, nI st, nI (p + 1), nI (bs (p + 1)), y_code, 1, 0, y_got, y_todos, y_marks, -10000000000, nI sp, y_parent, y_fields, y_bound, y_kind, y_word, y_size, y_sort, y_number, y_stands, y_keeps, y_cells, y_globals, y_within, y_foundIn, y_self, y_args, y_temps, y_param, y_live, y_work, y_under, y_at, y_in, y_phase, y_base, y_goal, y_operands, y_marked, y_todo, y_heard) := by
  obtain ⟨f1, eo, f5, p3, p5, b3, y1, y2, y3, y4, a3, n3, _⟩ := rn_top A F hp
  refine yn_37 A F hp ?_
  have pc : (nI p).toNatClampNeg = p := nI_clamp (by omega)
  have vp : vp_in (nI p) 500 := vp_in_nI p5 (by decide)
  unfold wY_next_37
  rw [pc, y1]
  refine ⟨vp, yw_needs (by omega) (A.1.2.2.1.2.1 _ f1).2.2.2.1 ?_⟩
  exact br_t (by rw [hl]; rfl) h
end
