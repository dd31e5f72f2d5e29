/-! a way out: the HOME's place among those at work -/
section
variable {x_classCount x_bodyCount x_draftCount x_wrongPlace x_madeCount x_frameCount x_current x_next x_mode x_outcome x_stepCount x_atWork x_mostAtWork x_saidCount x_pendingCount : Int32} {x_inHand : Int64} {x_classParent x_classFields x_bound x_tokenKind x_tokenValue x_thingClass x_thingToken x_thingMaker x_homeOf x_within x_foundIn x_baseFrame x_frameToken x_frameStage x_frameLink x_marked x_pending : Nat → Int32} {x_globals x_thingShown x_thingFields x_variables x_operands x_saidValues : Nat → Int64}
variable {y_classes y_bodies y_fault y_made y_working y_peak y_steps y_depth y_waiting y_code y_running y_has y_todos y_marks y_spoken : Int32} {y_got y_shown : Int64} {y_parent y_fields y_bound y_kind y_word y_size y_sort y_number y_stands y_keeps y_within y_foundIn y_live y_work y_under y_at y_in y_phase y_base y_goal y_marked y_todo : Nat → Int32} {y_cells y_globals y_self y_args y_temps y_param y_operands y_heard : Nat → Int64}
variable {cc bc dc mc st sp d w np md B M : Nat} {T ST SA : Nat → Prop} {lv τ σ lev ho fa ph bs ow gg wk un rt : Nat → Nat}
theorem yl_find (A : rn_A cc bc dc mc T ST SA lv τ σ lev ho x_tokenKind x_tokenValue y_kind y_word y_size y_parent y_fields y_bound x_globals y_globals x_thingShown x_thingClass x_thingFields x_thingToken x_thingMaker x_variables x_homeOf x_within x_foundIn y_sort y_number y_stands y_keeps y_cells y_within y_foundIn y_self y_args y_temps y_param) (F : rn_F T ST SA lv σ lev ho y_kind y_word fa ph bs ow gg wk un rt d w y_sort y_number x_frameToken x_frameStage x_frameLink x_operands x_baseFrame y_operands y_self y_at y_in y_phase y_base y_goal y_work y_under y_live) {post : SY → Prop} {x2 : Int64} {g : Nat} (hg : g < w) (h : ∃ n28 : Nat, wY_leave_28 post (nI (wk g)) x2 (nI g) (nI cc) (nI bc) y_fault (nI mc) (nI w) y_peak (nI st) y_depth y_waiting y_code 1 0 y_got y_todos y_marks (-10000000000) (nI sp) y_parent y_fields y_bound y_kind y_word y_size y_sort y_number y_stands y_keeps y_cells y_globals y_within y_foundIn y_self y_args y_temps y_param y_live y_work y_under y_at y_in y_phase y_base y_goal y_operands y_marked y_todo y_heard n28 (y_depth - 1)) : wpY_leave post (nI cc, nI bc, y_fault, nI mc, nI w, y_peak, nI st, y_depth, y_waiting, y_code, 1, 0, y_got, y_todos, y_marks, -10000000000, nI sp, y_parent, y_fields, y_bound, y_kind, y_word, y_size, y_sort, y_number, y_stands, y_keeps, y_cells, y_globals, y_within, y_foundIn, y_self, y_args, y_temps, y_param, y_live, y_work, y_under, y_at, y_in, y_phase, y_base, y_goal, y_operands, y_marked, y_todo, y_heard) (nI (wk g)) x2 := by
  have w12 : w ≤ 12 := F.1.2.1
  have wl : ∀ i, i < w → wk i < 160 := fun i hi => (A.2.2.1.2.1 _ (F.2.2.2.1 i hi).1).1
  have wy : ∀ i, i < w → y_work i = nI (wk i) := fun i hi => (F.2.1.2 i hi).1
  have inj := F.2.2.2.2.1
  refine ⟨13, ?_⟩
  have key : ∀ e i f, i + e = g → e < f → wY_leave_3 post (nI (wk g)) x2 (nI cc) (nI bc) y_fault (nI mc) (nI w) y_peak (nI st) y_depth y_waiting y_code 1 0 y_got y_todos y_marks (-10000000000) (nI sp) y_parent y_fields y_bound y_kind y_word y_size y_sort y_number y_stands y_keeps y_cells y_globals y_within y_foundIn y_self y_args y_temps y_param y_live y_work y_under y_at y_in y_phase y_base y_goal y_operands y_marked y_todo y_heard f (nI i) := by
    intro e
    induction e with
    | zero =>
      intro i f he hf
      obtain ⟨f', rfl⟩ : ∃ f', f = f' + 1 := ⟨f - 1, by omega⟩
      obtain rfl : i = g := by omega
      unfold wY_leave_3
      rw [nI_clamp (show i < 2 ^ 31 by omega), wy i hg]
      exact ⟨vp_in_nI (by omega) (by decide), br_t rfl (nm_e h)⟩
    | succ e ih =>
      intro i f he hf
      obtain ⟨f', rfl⟩ : ∃ f', f = f' + 1 := ⟨f - 1, by omega⟩
      have ne : wk i ≠ wk g := fun z => by
        have := inj i g (by omega) hg z
        omega
      have l1 := wl i (by omega)
      have l2 := wl g hg
      unfold wY_leave_3
      rw [nI_clamp (show i < 2 ^ 31 by omega), wy i (by omega)]
      exact ⟨vp_in_nI (by omega) (by decide), br_f (fun z => ne ((nI_eq (by omega) (by omega)).mp z)) (nm_r (nI_1 i) (ih (i + 1) f' (by omega) (by omega)))⟩
  exact key g 0 13 (by omega) (by omega)
theorem rn_fr (A : rn_A cc bc dc mc T ST SA lv τ σ lev ho x_tokenKind x_tokenValue y_kind y_word y_size y_parent y_fields y_bound x_globals y_globals x_thingShown x_thingClass x_thingFields x_thingToken x_thingMaker x_variables x_homeOf x_within x_foundIn y_sort y_number y_stands y_keeps y_cells y_within y_foundIn y_self y_args y_temps y_param) (F : rn_F T ST SA lv σ lev ho y_kind y_word fa ph bs ow gg wk un rt d w y_sort y_number x_frameToken x_frameStage x_frameLink x_operands x_baseFrame y_operands y_self y_at y_in y_phase y_base y_goal y_work y_under y_live) {p : Nat} (p1 : p < d) : p ≤ 383 ∧ fa p < 384 ∧ ph p ≤ 100 ∧ T (fa p) := by
  have TF := rn_TF A
  have S := F.1
  obtain ⟨f1, f2, f3, f4, f5, _⟩ := S.2.2.2.2.1 p p1
  have pos := fr_pos TF S p (by omega) (fa p) (ow p) (fun e => by omega) (fun _ => rfl) f3 f4 f1
  have rr := fr_en TF (S.2.2.2.2.2.2.1 (ow p) pos.1)
  have w12 := S.2.1
  obtain ⟨t1, t2, _⟩ := TF _ f1
  refine ⟨by omega, t1, ?_, f1⟩
  by_cases z : ph p = 100
  · omega
  · have := fr_pt3 f5 t2 z
    omega
theorem yl_down (A : rn_A cc bc dc mc T ST SA lv τ σ lev ho x_tokenKind x_tokenValue y_kind y_word y_size y_parent y_fields y_bound x_globals y_globals x_thingShown x_thingClass x_thingFields x_thingToken x_thingMaker x_variables x_homeOf x_within x_foundIn y_sort y_number y_stands y_keeps y_cells y_within y_foundIn y_self y_args y_temps y_param) (F : rn_F T ST SA lv σ lev ho y_kind y_word fa ph bs ow gg wk un rt d w y_sort y_number x_frameToken x_frameStage x_frameLink x_operands x_baseFrame y_operands y_self y_at y_in y_phase y_base y_goal y_work y_under y_live) {post : SY → Prop} {x1 : Int32} {x2 : Int64} {g t : Nat} (hg : g < w) (ht : un g ≤ t) : ∀ k, t + k ≤ d → (∀ s, t ≤ s → s < t + k → ¬ (y_kind (fa s) = 27 ∧ ph s = 0)) → ∀ f, wY_leave_28 post x1 x2 (nI g) (nI cc) (nI bc) y_fault (nI mc) (nI w) y_peak (nI st) y_depth y_waiting y_code 1 0 y_got y_todos y_marks (-10000000000) (nI sp) y_parent y_fields y_bound y_kind y_word y_size y_sort y_number y_stands y_keeps y_cells y_globals y_within y_foundIn y_self y_args y_temps y_param y_live y_work y_under y_at y_in y_phase y_base y_goal y_operands y_marked y_todo y_heard f (nI t - 1) → wY_leave_28 post x1 x2 (nI g) (nI cc) (nI bc) y_fault (nI mc) (nI w) y_peak (nI st) y_depth y_waiting y_code 1 0 y_got y_todos y_marks (-10000000000) (nI sp) y_parent y_fields y_bound y_kind y_word y_size y_sort y_number y_stands y_keeps y_cells y_globals y_within y_foundIn y_self y_args y_temps y_param y_live y_work y_under y_at y_in y_phase y_base y_goal y_operands y_marked y_todo y_heard (f + k) (nI (t + k) - 1)
  | 0, _, _, f, h => h
  | k + 1, hk, no, f, h => by
    have w12 : w ≤ 12 := F.1.2.1
    obtain ⟨b1, b2, b3, b4⟩ := rn_fr A F (show t + k < d by omega)
    obtain ⟨y1, y2, y3, _⟩ := F.2.1.1 (t + k) (by omega)
    have uy := (F.2.1.2 g hg).2
    have ih := yl_down A F hg ht k (by omega) (fun s s1 s2 => no s s1 (by omega)) f h
    have e1 : nI (t + (k + 1)) - 1 = nI (t + k) := nI_pred (t + k)
    have e2 : nI (t + k) + -1 = nI (t + k) - 1 := by rw [Int32.sub_eq_add_neg]
    rw [e1]
    rw [show f + (k + 1) = (f + k) + 1 from rfl]
    unfold wY_leave_28
    rw [nI_clamp (show g < 2 ^ 31 by omega), uy, nI_clamp (show t + k < 2 ^ 31 by omega), y1, y3, nI_clamp (show fa (t + k) < 2 ^ 31 by omega), e2]
    have nl : ¬ nI (t + k) < nI (un g) := Int32.not_lt.mpr (nI_le (by omega) (by omega))
    have vg : vp_in (nI g) 12 := vp_in_nI (by omega) (by decide)
    have vs : vp_in (nI (t + k)) 500 := vp_in_nI (by omega) (by decide)
    have va : vp_in (nI (fa (t + k))) 416 := vp_in_nI (by omega) (by decide)
    refine ⟨vg, br_f nl ⟨vs, va, br_c (fun z => ⟨vs, br_f (fun q => ?_) (nm_e ih)⟩) (fun _ => nm_e ih)⟩⟩
    exact no (t + k) (by omega) (by omega) ⟨z, (nI_eq (b := 0) (by omega) (by decide)).mp q⟩
end
