/-! what is reached, on both sides -/
theorem hp_v_to {ST ST' : Nat → Prop} {sh sh' : Nat → Int64} {x y : Int64} (h : hp_v ST sh x y) (hm : ∀ k, ST k → vv_T y k → ST' k ∧ sh' k = sh k) : hp_v ST' sh' x y := by
  obtain ⟨a, h1, h2, h3⟩ := h
  rcases a with i | _ | k
  · exact ⟨.inl i, fun k e => (by cases e), h2, h3⟩
  · exact ⟨.inr none, fun k e => (by cases e), h2, h3⟩
  · obtain ⟨k1, k2⟩ := h1 k rfl
    obtain ⟨m1, m2⟩ := hm k k2 ⟨k1, h3⟩
    exact ⟨.inr (some k), fun l e => by cases e; exact ⟨k1, m1⟩, by rw [h2]; exact m2.symm, h3⟩
section
variable {x_classCount x_bodyCount x_draftCount x_wrongPlace x_madeCount x_frameCount x_current x_next x_mode x_outcome x_stepCount x_atWork x_mostAtWork x_saidCount x_pendingCount : Int32} {x_inHand : Int64} {x_classParent x_classFields x_bound x_tokenKind x_tokenValue x_thingClass x_thingToken x_thingMaker x_homeOf x_within x_foundIn x_baseFrame x_frameToken x_frameStage x_frameLink x_marked x_pending : Nat → Int32} {x_globals x_thingShown x_thingFields x_variables x_operands x_saidValues : Nat → Int64}
variable {y_classes y_bodies y_fault y_made y_working y_peak y_steps y_depth y_waiting y_code y_running y_has y_todos y_marks y_spoken : Int32} {y_got y_shown : Int64} {y_parent y_fields y_bound y_kind y_word y_size y_sort y_number y_stands y_keeps y_within y_foundIn y_live y_work y_under y_at y_in y_phase y_base y_goal y_marked y_todo : Nat → Int32} {y_cells y_globals y_self y_args y_temps y_param y_operands y_heard : Nat → Int64}
variable {cc bc dc mc k : Nat} {T ST SA : Nat → Prop} {lv τ σ lev ho : Nat → Nat}
theorem hp_gyV (Y : hp_Y y_cells y_self y_args y_temps y_param y_keeps y_within) {m : Nat} (hm : m < 192) : gy_V y_sort y_keeps y_cells y_within y_self y_args y_temps y_param m := by
  obtain ⟨y1, y2, y3, y4, y5, y6, y7⟩ := Y
  refine ⟨fun h => ⟨fun _ => y6 m h, fun _ j hj => y1 _ (by omega)⟩, fun a e ha => ⟨fun _ => ⟨y2 a ha, fun j hj => y3 _ (by omega), fun j hj => y4 _ (by omega)⟩, fun w => ⟨y5 a ha, ?_⟩⟩⟩
  rcases y7 a ha with z | z
  · rw [z] at w; exact absurd (by decide) w
  · exact z
theorem hp_EY {m n : Nat} (e : gy_E y_sort y_keeps y_cells y_within y_self y_args y_temps y_param m n) : n < 192 := by
  rcases e with ⟨_, _, a, a1, _, a3⟩ | ⟨_, _, j, _, a3⟩ | ⟨a, _, _, z | ⟨j, _, z⟩ | ⟨j, _, z⟩⟩ | ⟨a, _, _, z | ⟨b, b1, _, b3⟩⟩
  · omega
  · have := a3.1; omega
  · have := z.1; omega
  · have := z.1; omega
  · have := z.1; omega
  · have := z.1; omega
  · omega
theorem ym_all {post : SY → Prop} {wt wk : Nat} (hw : y_waiting = nI wt) (hwt : wt ≤ 500) (hk : y_working = nI wk) (hwk : wk ≤ 12) (hgl : ∀ k, k < 4 → vv_V (y_globals k)) (hop : ∀ k, k < wt → vv_V (y_operands k)) (hwo : ∀ k, k < wk → ∃ a, a < 160 ∧ y_work k = nI a) (Y : hp_Y y_cells y_self y_args y_temps y_param y_keeps y_within)
    (h : ∀ mk td, (∀ n, n < 192 → mk n = 0 ∨ mk n = 1) → (∀ n, n < 192 → (mk n = 1 ↔ cl_r (gy_R y_globals y_operands wt y_work wk) (gy_E y_sort y_keeps y_cells y_within y_self y_args y_temps y_param) n)) → post (y_classes, y_bodies, y_fault, y_made, y_working, y_peak, y_steps, y_depth, y_waiting, y_code, y_running, y_has, y_got, nI 0, nI (ct_n (fun k => mk k = 1) 32), y_shown, y_spoken, y_parent, y_fields, y_bound, y_kind, y_word, y_size, y_sort, y_number, y_stands, y_keeps, y_cells, y_globals, y_within, y_foundIn, y_self, y_args, y_temps, y_param, y_live, y_work, y_under, y_at, y_in, y_phase, y_base, y_goal, y_operands, mk, td, y_heard)) : wpY_markAll post (y_classes, y_bodies, y_fault, y_made, y_working, y_peak, y_steps, y_depth, y_waiting, y_code, y_running, y_has, y_got, y_todos, y_marks, y_shown, y_spoken, y_parent, y_fields, y_bound, y_kind, y_word, y_size, y_sort, y_number, y_stands, y_keeps, y_cells, y_globals, y_within, y_foundIn, y_self, y_args, y_temps, y_param, y_live, y_work, y_under, y_at, y_in, y_phase, y_base, y_goal, y_operands, y_marked, y_todo, y_heard) := by
  refine ym_markAll hw hwt hk hwk hgl hop hwo (fun n => n < 192) (fun n hn => ⟨hn, hp_gyV Y hn⟩) (fun n hn => ?_) (fun m n hm e => hp_EY e) h
  rcases hn with ⟨k, _, z⟩ | ⟨k, _, z⟩ | ⟨k, a, _, a1, _, a3⟩
  · have := z.1; omega
  · have := z.1; omega
  · omega
/-- from an activation one comes to its home -/
theorem hp_home (H : hp_R cc mc T y_kind lv ST SA τ σ lev ho x_thingShown x_thingClass x_thingFields x_thingToken x_thingMaker x_variables x_homeOf x_within x_foundIn y_sort y_number y_stands y_keeps y_cells y_within y_foundIn y_self y_args y_temps y_param) {R : Nat → Prop} : ∀ (n a : Nat), lev a ≤ n → SA a → cl_r R (gy_E y_sort y_keeps y_cells y_within y_self y_args y_temps y_param) (32 + a) → cl_r R (gy_E y_sort y_keeps y_cells y_within y_self y_args y_temps y_param) (32 + ho a) := by
  intro n
  induction n with
  | zero =>
    intro a hl sa c
    obtain ⟨_, _, _, _, _, _, z⟩ := H.2.1 a sa
    rcases z with ⟨_, _, e, _⟩ | ⟨b, _, _, z, _⟩
    · rw [e]; exact c
    · omega
  | succ n ih =>
    intro a hl sa c
    obtain ⟨_, _, _, _, _, _, z⟩ := H.2.1 a sa
    rcases z with ⟨_, _, e, _⟩ | ⟨b, w, sb, z, e, _⟩
    · rw [e]; exact c
    · rw [e]
      have hb := (H.2.1 b sb).1
      exact ih b (by omega) sb (cl_step c (Or.inr (Or.inr (Or.inr ⟨a, rfl, by rw [w]; exact nI_pos (by omega), Or.inr ⟨b, hb, w, rfl⟩⟩))))
theorem hp_roots {fc wt wk : Nat} (U : hp_U mc x_thingShown) (H : hp_R cc mc T y_kind lv ST SA τ σ lev ho x_thingShown x_thingClass x_thingFields x_thingToken x_thingMaker x_variables x_homeOf x_within x_foundIn y_sort y_number y_stands y_keeps y_cells y_within y_foundIn y_self y_args y_temps y_param) (g : ∀ i, i < 4 → hp_v ST (hp_s y_sort y_number) (x_globals i) (y_globals i))
    (o1 : ∀ j, j < wt → ∃ i, i < fc * 3 ∧ hp_v ST (hp_s y_sort y_number) (x_operands i) (y_operands j))
    (o2 : ∀ i, i < fc * 3 → x_operands i = 10000000000 ∨ (∃ j, j < wt ∧ hp_v ST (hp_s y_sort y_number) (x_operands i) (y_operands j)) ∨ (∃ j a, j < wk ∧ y_work j = nI a ∧ SA a ∧ hp_v ST (hp_s y_sort y_number) (x_operands i) (y_self (ho a))))
    (w1 : ∀ j, j < wk → ∃ a, y_work j = nI a ∧ SA a ∧ ¬ x_baseFrame (σ a) = -1)
    (w2 : ∀ b, b < 128 → ¬ x_baseFrame b = -1 → ∃ j a, j < wk ∧ y_work j = nI a ∧ SA a ∧ b = σ a) :
    (∀ n, cl_r (gy_R y_globals y_operands wt y_work wk) (gy_E y_sort y_keeps y_cells y_within y_self y_args y_temps y_param) n → hp_S ST SA n ∧ cl_r (gx_R x_thingShown x_globals x_operands fc x_baseFrame) (gx_E x_thingShown x_thingFields x_thingMaker x_variables x_within) (hp_f τ σ n)) ∧
    (∀ n, cl_r (gx_R x_thingShown x_globals x_operands fc x_baseFrame) (gx_E x_thingShown x_thingFields x_thingMaker x_variables x_within) n → ∃ n', cl_r (gy_R y_globals y_operands wt y_work wk) (gy_E y_sort y_keeps y_cells y_within y_self y_args y_temps y_param) n' ∧ hp_f τ σ n' = n) := by
  have vy : ∀ {x y : Int64} {n : Nat}, hp_v ST (hp_s y_sort y_number) x y → vv_T y n → hp_S ST SA n ∧ gx_T x_thingShown x (hp_f τ σ n) := fun hv ht => by
    obtain ⟨a, b⟩ := hp_vT hv ht
    refine ⟨Or.inl ⟨ht.1, a⟩, ?_⟩
    rw [hp_f1 ht.1, b]
    exact (hp_shT U H a).mpr rfl
  have vx : ∀ {x y : Int64} {n : Nat}, hp_v ST (hp_s y_sort y_number) x y → gx_T x_thingShown x n → ∃ n', vv_T y n' ∧ hp_f τ σ n' = n := fun hv ht => by
    obtain ⟨k, a, b, c⟩ := hp_vX hv ht.2.1
    rw [c] at ht
    exact ⟨k, a, by rw [hp_f1 a.1]; exact ((hp_shT U H b).mp ht).symm⟩
  refine hp_reach U H (fun n hn => ?_) (fun n hn => ?_)
  · rcases hn with ⟨i, i1, z⟩ | ⟨j, j1, z⟩ | ⟨j, a, j1, a1, a2, a3⟩
    · obtain ⟨q1, q2⟩ := vy (g i i1) z
      exact ⟨q1, cl_root (Or.inl ⟨i, i1, q2⟩)⟩
    · obtain ⟨i, i1, hv⟩ := o1 j j1
      obtain ⟨q1, q2⟩ := vy hv z
      exact ⟨q1, cl_root (Or.inr (Or.inl ⟨i, i1, q2⟩))⟩
    · obtain ⟨b, b1, b2, b3⟩ := w1 j j1
      have hb := H.2.1 b b2
      have : a = b := (nI_eq (by omega) (by have := hb.1; omega)).mp (a2.symm.trans b1)
      subst this
      subst a3
      exact ⟨Or.inr ⟨a, rfl, b2⟩, cl_root (Or.inr (Or.inr ⟨σ a, hb.2.1, b3, hp_f2⟩))⟩
  · rcases hn with ⟨i, i1, z⟩ | ⟨i, i1, z⟩ | ⟨b, b1, b2, b3⟩
    · obtain ⟨n', q1, q2⟩ := vx (g i i1) z
      exact ⟨n', cl_root (Or.inl ⟨i, i1, q1⟩), q2⟩
    · rcases o2 i i1 with e | ⟨j, j1, hv⟩ | ⟨j, a, j1, a1, sa, hv⟩
      · rw [e] at z; exact absurd z.2.1 hp_NIL
      · obtain ⟨n', q1, q2⟩ := vx hv z
        exact ⟨n', cl_root (Or.inr (Or.inl ⟨j, j1, q1⟩)), q2⟩
      · obtain ⟨n', q1, q2⟩ := vx hv z
        have ha := H.2.1 a sa
        have c := hp_home H (R := gy_R y_globals y_operands wt y_work wk) (lev a) a (Nat.le_refl _) sa (cl_root (Or.inr (Or.inr ⟨j, a, j1, ha.1, a1, rfl⟩)))
        exact ⟨n', cl_step c (Or.inr (Or.inr (Or.inl ⟨ho a, rfl, by rw [ha.2.2.2.2.2.1]; decide, Or.inl q1⟩))), q2⟩
    · obtain ⟨j, a, j1, a1, sa, e⟩ := w2 b b1 b2
      exact ⟨32 + a, cl_root (Or.inr (Or.inr ⟨j, a, j1, (H.2.1 a sa).1, a1, rfl⟩)), by rw [hp_f2]; omega⟩
end
theorem i_vc_reachable {k : Nat} {u : SX} {v : SY} (I : i_Rel k u v) (hk : k + 5 ≤ 2560) : wpX_reachable (fun r u' => wpY_reachable (fun r' v' => r' = r ∧ i_Rel (k + 5) u' v') v) u := by
  obtain ⟨x_classCount, x_bodyCount, x_draftCount, x_wrongPlace, x_madeCount, x_frameCount, x_current, x_next, x_inHand, x_mode, x_outcome, x_stepCount, x_atWork, x_mostAtWork, x_saidCount, x_pendingCount, x_classParent, x_classFields, x_bound, x_tokenKind, x_tokenValue, x_globals, x_thingShown, x_thingClass, x_thingFields, x_thingToken, x_thingMaker, x_variables, x_homeOf, x_within, x_foundIn, x_baseFrame, x_frameToken, x_frameStage, x_frameLink, x_operands, x_saidValues, x_marked, x_pending⟩ := u
  obtain ⟨y_classes, y_bodies, y_fault, y_made, y_working, y_peak, y_steps, y_depth, y_waiting, y_code, y_running, y_has, y_got, y_todos, y_marks, y_shown, y_spoken, y_parent, y_fields, y_bound, y_kind, y_word, y_size, y_sort, y_number, y_stands, y_keeps, y_cells, y_globals, y_within, y_foundIn, y_self, y_args, y_temps, y_param, y_live, y_work, y_under, y_at, y_in, y_phase, y_base, y_goal, y_operands, y_marked, y_todo, y_heard⟩ := v
  obtain ⟨cc, bc, dc, mc, T, ST, SA, lv, τ, σ, lev, ho, h1, ⟨rfl, h22, rfl, rfl⟩, h3, h4, h5, g, ⟨H, U, Y, X⟩, bf, lv0⟩ := I
  unfold wpX_reachable
  dsimp only
  refine xm_markReachable (fc := 0) rfl (by decide) X.1 X.2 fun mk td t mb mi => ?_
  unfold wpY_reachable
  dsimp only
  refine ym_all (wt := 0) (wk := 0) rfl (by decide) rfl (by decide) (fun i hi => hp_v_V (g i hi)) (fun i hi => by omega) (fun i hi => by omega) Y fun mk' td' mb' mi' => ⟨?_, ?_⟩
  · obtain ⟨A, B⟩ := hp_roots (fc := 0) (wt := 0) (wk := 0) (x_operands := x_operands) (y_operands := y_operands) (x_baseFrame := x_baseFrame) (y_work := y_work) U H g (fun j hj => by omega) (fun i hi => by omega) (fun j hj => by omega) (fun b hb z => absurd (bf b hb) z)
    have e1 := ct_eq (N := 24) (fun n (hn : n < 24) => mi n (by omega))
    have e2 := ct_eq (N := 32) (fun n (hn : n < 32) => mi' n (by omega))
    rw [e1, e2, hp_count H A B]
  · exact ⟨cc, bc, dc, mc, T, ST, SA, lv, τ, σ, lev, ho, h1, ⟨rfl, h22, rfl, rfl⟩, h3, h4, by omega, g, ⟨H, U, Y, X⟩, bf, lv0⟩
