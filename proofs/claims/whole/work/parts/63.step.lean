/-! one step of a run -/
section
variable {x_classCount x_bodyCount x_draftCount x_wrongPlace x_madeCount x_frameCount x_current x_next x_mode x_outcome x_stepCount x_atWork x_mostAtWork x_saidCount x_pendingCount : Int32} {x_inHand : Int64} {x_classParent x_classFields x_bound x_tokenKind x_tokenValue x_thingClass x_thingToken x_thingMaker x_homeOf x_within x_foundIn x_baseFrame x_frameToken x_frameStage x_frameLink x_marked x_pending : Nat → Int32} {x_globals x_thingShown x_thingFields x_variables x_operands x_saidValues : Nat → Int64}
variable {y_classes y_bodies y_fault y_made y_working y_peak y_steps y_depth y_waiting y_code y_running y_has y_todos y_marks y_spoken : Int32} {y_got y_shown : Int64} {y_parent y_fields y_bound y_kind y_word y_size y_sort y_number y_stands y_keeps y_within y_foundIn y_live y_work y_under y_at y_in y_phase y_base y_goal y_marked y_todo : Nat → Int32} {y_cells y_globals y_self y_args y_temps y_param y_operands y_heard : Nat → Int64}
variable {cc bc dc mc st sp d w np md B M : Nat} {T ST SA : Nat → Prop} {lv τ σ lev ho fa ph bs ow gg wk un rt : Nat → Nat}
theorem st_H {tm : Nat} (A : rn_A cc bc dc mc T ST SA lv τ σ lev ho x_tokenKind x_tokenValue y_kind y_word y_size y_parent y_fields y_bound x_globals y_globals x_thingShown x_thingClass x_thingFields x_thingToken x_thingMaker x_variables x_homeOf x_within x_foundIn y_sort y_number y_stands y_keeps y_cells y_within y_foundIn y_self y_args y_temps y_param) (F : rn_F T ST SA lv σ lev ho y_kind y_word fa ph bs ow gg wk un rt d w y_sort y_number x_frameToken x_frameStage x_frameLink x_operands x_baseFrame y_operands y_self y_at y_in y_phase y_base y_goal y_work y_under y_live) {xv yv : Int64} (hv : hp_v ST (hp_s y_sort y_number) xv yv) {t np : Nat} (lt : fr_lt y_kind (tk_nd y_kind y_word) fa ph rt d t (w - 1)) (enp : np = ex_e (tk_nd y_kind y_word) t) (n : rn_n B (M + 1) mc st sp (rn_mu (tk_nd y_kind y_word) fa un rt st d w np 2)) (ht : tm + 2 ≤ 1000000) :
    rn_Go B M tm (nI cc, nI bc, nI dc, y_fault, nI mc, nI (fr_x y_kind fa ph d), nI (σ (wk (w - 1))), nI np, xv, 1, 100, nI st, nI w, y_peak, nI sp, x_pendingCount, y_parent, y_fields, y_bound, x_tokenKind, x_tokenValue, x_globals, x_thingShown, x_thingClass, x_thingFields, x_thingToken, x_thingMaker, x_variables, x_homeOf, x_within, x_foundIn, x_baseFrame, x_frameToken, x_frameStage, x_frameLink, x_operands, y_heard, x_marked, x_pending) (nI cc, nI bc, y_fault, nI mc, nI w, y_peak, nI st, nI d, nI (bs d), y_code, 1, 1, yv, y_todos, y_marks, -10000000000, nI sp, y_parent, y_fields, y_bound, y_kind, y_word, y_size, y_sort, y_number, y_stands, y_keeps, y_cells, y_globals, y_within, y_foundIn, y_self, y_args, y_temps, y_param, y_live, y_work, y_under, y_at, y_in, y_phase, y_base, y_goal, y_operands, y_marked, y_todo, y_heard) := by
  cases d with
  | zero => exact go_end A F hv (by have := n.2.2.2; omega) ht
  | succ p =>
    by_cases hp : ph p = 100
    · exact go_answer A F hv hp n ht
    obtain ⟨hl, e⟩ := dv_np hp lt
    rw [e] at enp
    obtain ⟨f1, eo, f5, _⟩ := rn_top A F hp
    have TF := rn_TF A
    have en := (fr_en TF f1).2.2
    rcases f5 with ⟨z, _⟩ | ⟨k16, z⟩ | ⟨k23, z⟩ | ⟨k24, z⟩ | ⟨k27, z⟩ | ⟨kg, z⟩
    · exact absurd z hp
    · have nd2 : tk_nd y_kind y_word (fa p) = 2 := by unfold tk_nd; rw [k16]; rfl
      have pe : fr_pt (y_kind (fa p)) (ph p) = ph p := by unfold fr_pt; rw [if_neg (fun q => by rw [k16] at q; exact absurd q.1 (by decide))]
      rw [pe] at enp
      rcases (show ph p = 0 ∨ ph p = 1 by omega) with h0 | h1
      · rw [h0] at enp
        exact go_then0 A F k16 h0 enp n ht
      · rw [h1] at enp
        rw [nd2] at en
        exact go_tail A F hv (Or.inl ⟨k16, h1⟩) (enp.trans en) n
    · have nd3 : tk_nd y_kind y_word (fa p) = 3 := by unfold tk_nd; rw [k23]; rfl
      have pe : fr_pt (y_kind (fa p)) (ph p) = ph p := by unfold fr_pt; rw [if_neg (fun q => by rw [k23] at q; exact absurd q.1 (by decide))]
      rw [pe] at enp
      rcases (show ph p = 0 ∨ ph p = 1 ∨ ph p = 2 by omega) with h0 | h1 | h2
      · rw [h0] at enp
        exact go_if A F hv k23 h0 enp n ht
      · rw [h1] at enp
        exact go_if1 A F hv k23 h1 enp n ht
      · rw [h2] at enp
        rw [nd3] at en
        exact go_tail A F hv (Or.inr ⟨k23, h2⟩) (enp.trans en) n
    · have nd2 : tk_nd y_kind y_word (fa p) = 2 := by unfold tk_nd; rw [k24]; rfl
      have pe : fr_pt (y_kind (fa p)) (ph p) = ph p := by unfold fr_pt; rw [if_neg (fun q => by rw [k24] at q; exact absurd q.1 (by decide))]
      rw [pe] at enp
      rcases (show ph p = 0 ∨ ph p = 1 by omega) with h0 | h1
      · rw [h0] at enp
        exact go_while A F hv k24 h0 enp n ht
      · rw [h1] at enp
        rw [nd2] at en
        exact go_while1 A F k24 h1 (enp.trans en) n ht
    · have nd2 : tk_nd y_kind y_word (fa p) = 2 := by unfold tk_nd; rw [k27]; rfl
      rw [nd2] at en
      rcases (show ph p = 0 ∨ ph p = 1 ∨ ph p = 2 by omega) with h0 | h1 | h2
      · have pe : fr_pt (y_kind (fa p)) (ph p) = 0 := by unfold fr_pt; rw [if_neg (fun q => by have := q.2; omega)]; exact h0
        rw [pe] at enp
        exact go_ens0 A F hv k27 h0 enp n ht
      · have pe : fr_pt (y_kind (fa p)) (ph p) = 1 := by unfold fr_pt; rw [if_neg (fun q => by have := q.2; omega)]; exact h1
        rw [pe] at enp
        exact go_ens1 A F k27 h1 (enp.trans en) n ht
      · have pe : fr_pt (y_kind (fa p)) (ph p) = 1 := by unfold fr_pt; rw [if_pos ⟨k27, h2⟩]
        rw [pe] at enp
        exact go_ens2 A F k27 h2 (enp.trans en) n ht
    · obtain ⟨_, pe⟩ := fr_genc kg hp
      rw [pe] at enp hl
      exact go_gen A F hv kg hp hl enp n ht
theorem st_N {p tm : Nat} (A : rn_A cc bc dc mc T ST SA lv τ σ lev ho x_tokenKind x_tokenValue y_kind y_word y_size y_parent y_fields y_bound x_globals y_globals x_thingShown x_thingClass x_thingFields x_thingToken x_thingMaker x_variables x_homeOf x_within x_foundIn y_sort y_number y_stands y_keeps y_cells y_within y_foundIn y_self y_args y_temps y_param) (F : rn_F T ST SA lv σ lev ho y_kind y_word fa ph bs ow gg wk un rt (p + 1) w y_sort y_number x_frameToken x_frameStage x_frameLink x_operands x_baseFrame y_operands y_self y_at y_in y_phase y_base y_goal y_work y_under y_live) (hp : ph p ≠ 100) (hl : fr_pt (y_kind (fa p)) (ph p) = tk_nd y_kind y_word (fa p)) (n : rn_n B (M + 1) mc st sp (rn_mu (tk_nd y_kind y_word) fa un rt st (p + 1) w (ex_e (tk_nd y_kind y_word) (fa p)) 1)) (hB : B < 2 ^ 30) (ht : tm + 2 ≤ 1000000) :
    rn_Go B M tm (nI cc, nI bc, nI dc, y_fault, nI mc, nI (fr_x y_kind fa ph (p + 1)), nI (σ (wk (w - 1))), nI (ex_e (tk_nd y_kind y_word) (fa p)), x_inHand, 2, 100, nI st, nI w, y_peak, nI sp, x_pendingCount, y_parent, y_fields, y_bound, x_tokenKind, x_tokenValue, x_globals, x_thingShown, x_thingClass, x_thingFields, x_thingToken, x_thingMaker, x_variables, x_homeOf, x_within, x_foundIn, x_baseFrame, x_frameToken, x_frameStage, x_frameLink, x_operands, y_heard, x_marked, x_pending) (nI cc, nI bc, y_fault, nI mc, nI w, y_peak, nI st, nI (p + 1), nI (bs (p + 1)), y_code, 1, 0, y_got, y_todos, y_marks, -10000000000, nI sp, y_parent, y_fields, y_bound, y_kind, y_word, y_size, y_sort, y_number, y_stands, y_keeps, y_cells, y_globals, y_within, y_foundIn, y_self, y_args, y_temps, y_param, y_live, y_work, y_under, y_at, y_in, y_phase, y_base, y_goal, y_operands, y_marked, y_todo, y_heard) := by
  obtain ⟨f1, eo, f5, _⟩ := rn_top A F hp
  have kg : fr_gen (y_kind (fa p)) := by
    rcases f5 with ⟨z, _⟩ | ⟨k, z⟩ | ⟨k, z⟩ | ⟨k, z⟩ | ⟨k, z⟩ | ⟨kg, z⟩
    · exact absurd z hp
    · have nd2 : tk_nd y_kind y_word (fa p) = 2 := by unfold tk_nd; rw [k]; rfl
      unfold fr_pt at hl
      rw [if_neg (fun q => by rw [k] at q; exact absurd q.1 (by decide)), nd2] at hl
      omega
    · have nd3 : tk_nd y_kind y_word (fa p) = 3 := by unfold tk_nd; rw [k]; rfl
      unfold fr_pt at hl
      rw [if_neg (fun q => by rw [k] at q; exact absurd q.1 (by decide)), nd3] at hl
      omega
    · have nd2 : tk_nd y_kind y_word (fa p) = 2 := by unfold tk_nd; rw [k]; rfl
      unfold fr_pt at hl
      rw [if_neg (fun q => by rw [k] at q; exact absurd q.1 (by decide)), nd2] at hl
      omega
    · have nd2 : tk_nd y_kind y_word (fa p) = 2 := by unfold tk_nd; rw [k]; rfl
      unfold fr_pt at hl
      rw [nd2] at hl
      split at hl <;> rename_i q
      · omega
      · exact absurd ⟨k, hl⟩ q
    · exact kg
  obtain ⟨_, pe⟩ := fr_genc kg hp
  rw [pe] at hl
  unfold fr_gen at kg
  rcases kg with k | k | k | k | k | k | k | k | k | k | k | k | k | k | k
  · exact go_set A F k hp hl n ht
  · exact go_put A F k hp hl n ht
  · exact go_store A F k hp hl n ht
  · exact go_send A F k hp hl n hB ht
  · exact go_super A F k hp hl n hB ht
  · exact go_call A F k hp hl n hB ht
  · exact go_give A F k hp hl n hB ht
  · exact go_return A F k hp hl n ht
  · exact go_add A F k hp hl n ht
  · exact go_sub A F k hp hl n ht
  · exact go_mul A F k hp hl n ht
  · exact go_less A F k hp hl n ht
  · exact go_same A F k hp hl n ht
  · exact go_say A F k hp hl n ht
  · exact go_class A F k hp hl n ht
end
theorem rn_step {B : Nat} (hB : B < 2 ^ 30) : ∀ M t u v, t + 2 ≤ 1000000 → rn_St B (M + 1) u v → rn_Go B M t u v := by
  intro M t u v ht h
  obtain ⟨x_classCount, x_bodyCount, x_draftCount, x_wrongPlace, x_madeCount, x_frameCount, x_current, x_next, x_inHand, x_mode, x_outcome, x_stepCount, x_atWork, x_mostAtWork, x_saidCount, x_pendingCount, x_classParent, x_classFields, x_bound, x_tokenKind, x_tokenValue, x_globals, x_thingShown, x_thingClass, x_thingFields, x_thingToken, x_thingMaker, x_variables, x_homeOf, x_within, x_foundIn, x_baseFrame, x_frameToken, x_frameStage, x_frameLink, x_operands, x_saidValues, x_marked, x_pending⟩ := u
  obtain ⟨y_classes, y_bodies, y_fault, y_made, y_working, y_peak, y_steps, y_depth, y_waiting, y_code, y_running, y_has, y_got, y_todos, y_marks, y_shown, y_spoken, y_parent, y_fields, y_bound, y_kind, y_word, y_size, y_sort, y_number, y_stands, y_keeps, y_cells, y_globals, y_within, y_foundIn, y_self, y_args, y_temps, y_param, y_live, y_work, y_under, y_at, y_in, y_phase, y_base, y_goal, y_operands, y_marked, y_todo, y_heard⟩ := v
  obtain ⟨cc, bc, dc, mc, st, sp, d, w, np, md, T, ST, SA, lv, τ, σ, lev, ho, fa, ph, bs, ow, gg, wk, un, rt, ⟨rfl, rfl, rfl, rfl, rfl, rfl, rfl, rfl, rfl, rfl, rfl, rfl, rfl, rfl, rfl, rfl, rfl⟩, ⟨rfl, rfl, rfl, rfl, rfl, rfl, rfl, rfl, rfl, rfl⟩, A, F, HN, n⟩ := h
  rcases HN with ⟨rfl, rfl, rfl, hv, t', lt, tt, enp⟩ | ⟨rfl, p, rfl, hp, enp, ⟨hl, rfl, rfl⟩ | ⟨hl, rfl, rfl⟩⟩
  · exact st_H A F hv lt enp n ht
  · subst enp
    exact go_read A F hp hl n hB ht
  · rw [hl] at enp
    rw [(fr_en (rn_TF A) (rn_top A F hp).1).2.2] at enp
    subst enp
    exact st_N A F hp hl n hB ht
