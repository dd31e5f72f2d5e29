/-! the constructors -/
def zf_a (n : Nat) (v : Int32) : Nat → Int32 := fun j => if j < n then v else 0
def zf_b (n : Nat) (v : Int64) : Nat → Int64 := fun j => if j < n then v else 0
theorem zf_a0 (v : Int32) : zf_a 0 v = fun _ => 0 := by funext j; unfold zf_a; rw [if_neg (by omega)]
theorem zf_b0 (v : Int64) : zf_b 0 v = fun _ => 0 := by funext j; unfold zf_b; rw [if_neg (by omega)]
theorem zf_as (n : Nat) (v : Int32) : upd (zf_a n v) n v = zf_a (n + 1) v := by
  funext j
  unfold upd zf_a
  by_cases h : j = n
  · rw [if_pos h, if_pos (by omega)]
  · rw [if_neg h]
    by_cases q : j < n
    · rw [if_pos q, if_pos (by omega)]
    · rw [if_neg q, if_neg (by omega)]
theorem zf_bs (n : Nat) (v : Int64) : vp_updL (zf_b n v) n v = zf_b (n + 1) v := by
  funext j
  unfold vp_updL zf_b
  by_cases h : j = n
  · rw [if_pos h, if_pos (by omega)]
  · rw [if_neg h]
    by_cases q : j < n
    · rw [if_pos q, if_pos (by omega)]
    · rw [if_neg q, if_neg (by omega)]
theorem zf_ai {n j : Nat} {v : Int32} (h : j < n) : zf_a n v j = v := if_pos h
theorem zf_bi {n j : Nat} {v : Int64} (h : j < n) : zf_b n v j = v := if_pos h
section
variable {x_classCount x_bodyCount x_draftCount x_wrongPlace x_madeCount x_frameCount x_current x_next x_mode x_outcome x_stepCount x_atWork x_mostAtWork x_saidCount x_pendingCount : Int32} {x_inHand : Int64} {x_classParent x_classFields x_bound x_tokenKind x_tokenValue x_thingClass x_thingToken x_thingMaker x_homeOf x_within x_foundIn x_baseFrame x_frameToken x_frameStage x_frameLink x_marked x_pending : Nat → Int32} {x_globals x_thingShown x_thingFields x_variables x_operands x_saidValues : Nat → Int64}
variable {y_classes y_bodies y_fault y_made y_working y_peak y_steps y_depth y_waiting y_code y_running y_has y_todos y_marks y_spoken : Int32} {y_got y_shown : Int64} {y_parent y_fields y_bound y_kind y_word y_size y_sort y_number y_stands y_keeps y_within y_foundIn y_live y_work y_under y_at y_in y_phase y_base y_goal y_marked y_todo : Nat → Int32} {y_cells y_globals y_self y_args y_temps y_param y_operands y_heard : Nat → Int64}
theorem xi_init {post : SX → Prop} (h : post (x_classCount, x_bodyCount, x_draftCount, x_wrongPlace, x_madeCount, x_frameCount, x_current, x_next, x_inHand, x_mode, x_outcome, x_stepCount, x_atWork, x_mostAtWork, x_saidCount, x_pendingCount, x_classParent, x_classFields, zf_a 120 (-1), x_tokenKind, x_tokenValue, zf_b 4 10000000000, x_thingShown, x_thingClass, x_thingFields, x_thingToken, x_thingMaker, x_variables, x_homeOf, x_within, x_foundIn, zf_a 128 (-1), x_frameToken, x_frameStage, x_frameLink, x_operands, x_saidValues, x_marked, x_pending)) : ∃ n, wX_init_292 post x_classCount x_bodyCount x_draftCount x_wrongPlace x_madeCount x_frameCount x_current x_next x_inHand x_mode x_outcome x_stepCount x_atWork x_mostAtWork x_saidCount x_pendingCount n 0 x_classParent x_classFields (fun _ => 0) x_tokenKind x_tokenValue (fun _ => 0) x_thingShown x_thingClass x_thingFields x_thingToken x_thingMaker x_variables x_homeOf x_within x_foundIn (fun _ => 0) x_frameToken x_frameStage x_frameLink x_operands x_saidValues x_marked x_pending := by
  refine loop_0 (fun n i f => wX_init_292 post x_classCount x_bodyCount x_draftCount x_wrongPlace x_madeCount x_frameCount x_current x_next x_inHand x_mode x_outcome x_stepCount x_atWork x_mostAtWork x_saidCount x_pendingCount n (nI i) x_classParent x_classFields f x_tokenKind x_tokenValue (fun _ => 0) x_thingShown x_thingClass x_thingFields x_thingToken x_thingMaker x_variables x_homeOf x_within x_foundIn (fun _ => 0) x_frameToken x_frameStage x_frameLink x_operands x_saidValues x_marked x_pending) (fun i f => f = zf_a i (-1)) 120 (fun _ => 0) (zf_a0 _).symm ?_ ?_
  · intro n f I
    subst I
    refine br_t (by decide) ?_
    refine loop_0 (fun n i f => wX_init_313 post x_classCount x_bodyCount x_draftCount x_wrongPlace x_madeCount x_frameCount x_current x_next x_inHand x_mode x_outcome x_stepCount x_atWork x_mostAtWork x_saidCount x_pendingCount n (nI i) x_classParent x_classFields (zf_a 120 (-1)) x_tokenKind x_tokenValue f x_thingShown x_thingClass x_thingFields x_thingToken x_thingMaker x_variables x_homeOf x_within x_foundIn (fun _ => 0) x_frameToken x_frameStage x_frameLink x_operands x_saidValues x_marked x_pending) (fun i f => f = zf_b i 10000000000) 4 (fun _ => 0) (zf_b0 _).symm ?_ ?_
    · intro n f I
      subst I
      refine br_t (by decide) ?_
      refine loop_0 (fun n i f => wX_init_335 post x_classCount x_bodyCount x_draftCount x_wrongPlace x_madeCount x_frameCount x_current x_next x_inHand x_mode x_outcome x_stepCount x_atWork x_mostAtWork x_saidCount x_pendingCount n (nI i) x_classParent x_classFields (zf_a 120 (-1)) x_tokenKind x_tokenValue (zf_b 4 10000000000) x_thingShown x_thingClass x_thingFields x_thingToken x_thingMaker x_variables x_homeOf x_within x_foundIn f x_frameToken x_frameStage x_frameLink x_operands x_saidValues x_marked x_pending) (fun i f => f = zf_a i (-1)) 128 (fun _ => 0) (zf_a0 _).symm ?_ ?_
      · intro n f I
        subst I
        exact br_t (by decide) h
      · intro n i f hi I k
        subst I
        refine br_f (nI_ge (b := 128) hi (by decide)) ⟨vp_in_nI hi (by decide), ?_⟩
        rw [nI_clamp (by omega)]
        exact nm_r (zf_as _ _) (nm_r (nI_1 i) (k _ rfl))
    · intro n i f hi I k
      subst I
      refine br_f (nI_ge (b := 4) hi (by decide)) ⟨vp_in_nI hi (by decide), ?_⟩
      rw [nI_clamp (by omega)]
      exact nm_r (zf_bs _ _) (nm_r (nI_1 i) (k _ rfl))
  · intro n i f hi I k
    subst I
    refine br_f (nI_ge (b := 120) hi (by decide)) ⟨vp_in_nI hi (by decide), ?_⟩
    rw [nI_clamp (by omega)]
    exact nm_r (zf_as _ _) (nm_r (nI_1 i) (k _ rfl))
theorem yi_init {post : SY → Prop} (h : post (y_classes, y_bodies, y_fault, y_made, y_working, y_peak, y_steps, y_depth, y_waiting, y_code, y_running, y_has, y_got, y_todos, y_marks, y_shown, y_spoken, upd (fun _ => 0) 0 (-1), y_fields, zf_a 120 (-1), y_kind, y_word, y_size, y_sort, y_number, y_stands, y_keeps, y_cells, zf_b 4 4294967296, y_within, y_foundIn, y_self, y_args, y_temps, y_param, y_live, y_work, y_under, y_at, y_in, y_phase, y_base, y_goal, y_operands, y_marked, y_todo, y_heard)) : ∃ n, wY_init_280 post y_classes y_bodies y_fault y_made y_working y_peak y_steps y_depth y_waiting y_code y_running y_has y_got y_todos y_marks y_shown y_spoken n 0 (fun _ => 0) y_fields (fun _ => 0) y_kind y_word y_size y_sort y_number y_stands y_keeps y_cells (fun _ => 0) y_within y_foundIn y_self y_args y_temps y_param y_live y_work y_under y_at y_in y_phase y_base y_goal y_operands y_marked y_todo y_heard := by
  refine loop_0 (fun n i f => wY_init_280 post y_classes y_bodies y_fault y_made y_working y_peak y_steps y_depth y_waiting y_code y_running y_has y_got y_todos y_marks y_shown y_spoken n (nI i) (fun _ => 0) y_fields f y_kind y_word y_size y_sort y_number y_stands y_keeps y_cells (fun _ => 0) y_within y_foundIn y_self y_args y_temps y_param y_live y_work y_under y_at y_in y_phase y_base y_goal y_operands y_marked y_todo y_heard) (fun i f => f = zf_a i (-1)) 120 (fun _ => 0) (zf_a0 _).symm ?_ ?_
  · intro n f I
    subst I
    refine br_t (by decide) (nm_e ?_)
    refine loop_0 (fun n i f => wY_init_308 post y_classes y_bodies y_fault y_made y_working y_peak y_steps y_depth y_waiting y_code y_running y_has y_got y_todos y_marks y_shown y_spoken n (nI i) (upd (fun _ => 0) 0 (-1)) y_fields (zf_a 120 (-1)) y_kind y_word y_size y_sort y_number y_stands y_keeps y_cells f y_within y_foundIn y_self y_args y_temps y_param y_live y_work y_under y_at y_in y_phase y_base y_goal y_operands y_marked y_todo y_heard) (fun i f => f = zf_b i 4294967296) 4 (fun _ => 0) (zf_b0 _).symm ?_ ?_
    · intro n f I
      subst I
      exact br_t (by decide) h
    · intro n i f hi I k
      subst I
      refine br_f (nI_ge (b := 4) hi (by decide)) ⟨vp_in_nI hi (by decide), ?_⟩
      rw [nI_clamp (by omega)]
      exact nm_r (zf_bs _ _) (nm_r (nI_1 i) (k _ rfl))
  · intro n i f hi I k
    subst I
    refine br_f (nI_ge (b := 120) hi (by decide)) ⟨vp_in_nI hi (by decide), ?_⟩
    rw [nI_clamp (by omega)]
    exact nm_r (zf_as _ _) (nm_r (nI_1 i) (k _ rfl))
end
theorem vv_V0 : vv_V 0 := ⟨.inl 0, fun k e => (by cases e), by decide⟩
theorem i_vc0 : wpX_init (fun u => wpY_init (fun v => i_Rel 0 u v)) := by
  unfold wpX_init
  refine nm_e (xi_init ?_)
  unfold wpY_init
  refine yi_init ?_
  refine ⟨4, 0, 0, 0, fun _ => False, fun _ => False, fun _ => False, fun _ => 0, fun _ => 0, fun _ => 0, fun _ => 0, fun _ => 0, ⟨rfl, rfl, rfl, rfl, rfl, rfl, rfl, rfl, rfl, rfl, rfl, rfl, rfl, rfl, rfl⟩, ⟨rfl, rfl, rfl, rfl⟩, Or.inr ⟨by decide, rfl⟩, ⟨?_, ?_, ?_, ?_⟩, by omega, fun i hi => ?_, ⟨?_, ?_, ?_, ?_⟩, fun a ha => zf_ai ha, fun a ha => rfl⟩
  · refine ⟨by omega, by omega, pk_us, fun c h1 h2 => ⟨0, h1, ?_⟩, fun c hc => ⟨0, by omega, rfl⟩, rfl⟩
    rw [pk_un (by omega)]; rfl
  · exact ⟨by omega, fun i hi => Or.inl (zf_ai hi)⟩
  · exact ⟨by omega, fun p h => h.elim, fun p h => h.elim, fun b hb => by omega, fun p h => h.elim, fun p j h => h.elim⟩
  · exact ⟨by omega, rfl, fun i hi => by omega⟩
  · rw [zf_bi hi, zf_bi hi]
    exact ⟨.inr none, fun k e => (by cases e), rfl, rfl⟩
  · exact ⟨fun k h => h.elim, fun a h => h.elim, fun a b h => h.elim, fun k l h => h.elim⟩
  · have nz : ∀ n, n < 2 ^ 31 → ¬ hp_n 0 n := fun n hn z => by
      rcases z with e | e
      · have e : lN 0 = lN _ := e
        rw [pk_lEQ (by omega) (by omega)] at e
        omega
      · have e : lN 0 = lN _ := e
        rw [pk_lEQ (by omega) (by omega)] at e
        omega
    exact ⟨by omega, fun t ht n h hn => absurd h (nz n hn), fun t t' _ _ n hn h => absurd h (nz n hn)⟩
  · exact ⟨fun _ _ => vv_V0, fun _ _ => vv_V0, fun _ _ => vv_V0, fun _ _ => vv_V0, fun _ _ => vv_V0, fun _ _ => ⟨0, by omega, rfl⟩, fun _ _ => Or.inr ⟨0, by omega, rfl⟩⟩
  · exact ⟨fun _ _ => Or.inr ⟨0, by omega, rfl⟩, fun _ _ => Or.inr ⟨0, by omega, rfl⟩⟩
