/-! a BLOCK is called: found to be one, or KIND -/
section
variable {x_classCount x_bodyCount x_draftCount x_wrongPlace x_madeCount x_frameCount x_current x_next x_mode x_outcome x_stepCount x_atWork x_mostAtWork x_saidCount x_pendingCount : Int32} {x_inHand : Int64} {x_classParent x_classFields x_bound x_tokenKind x_tokenValue x_thingClass x_thingToken x_thingMaker x_homeOf x_within x_foundIn x_baseFrame x_frameToken x_frameStage x_frameLink x_marked x_pending : Nat → Int32} {x_globals x_thingShown x_thingFields x_variables x_operands x_saidValues : Nat → Int64}
variable {y_classes y_bodies y_fault y_made y_working y_peak y_steps y_depth y_waiting y_code y_running y_has y_todos y_marks y_spoken : Int32} {y_got y_shown : Int64} {y_parent y_fields y_bound y_kind y_word y_size y_sort y_number y_stands y_keeps y_within y_foundIn y_live y_work y_under y_at y_in y_phase y_base y_goal y_marked y_todo : Nat → Int32} {y_cells y_globals y_self y_args y_temps y_param y_operands y_heard : Nat → Int64}
variable {cc bc dc mc st sp d w np md B M : Nat} {T ST SA : Nat → Prop} {lv τ σ lev ho fa ph bs ow gg wk un rt : Nat → Nat}
theorem cb_find (A : rn_A cc bc dc mc T ST SA lv τ σ lev ho x_tokenKind x_tokenValue y_kind y_word y_size y_parent y_fields y_bound x_globals y_globals x_thingShown x_thingClass x_thingFields x_thingToken x_thingMaker x_variables x_homeOf x_within x_foundIn y_sort y_number y_stands y_keeps y_cells y_within y_foundIn y_self y_args y_temps y_param) {xv yv xp yp : Int64} (pr : Int32) (hv : hp_v ST (hp_s y_sort y_number) xv yv) :
    ((∀ post : SX → Prop, post (x_classCount, x_bodyCount, x_draftCount, x_wrongPlace, x_madeCount, x_frameCount, x_current, x_next, x_inHand, x_mode, 2, x_stepCount, x_atWork, x_mostAtWork, x_saidCount, x_pendingCount, y_parent, y_fields, y_bound, x_tokenKind, x_tokenValue, x_globals, x_thingShown, x_thingClass, x_thingFields, x_thingToken, x_thingMaker, x_variables, x_homeOf, x_within, x_foundIn, x_baseFrame, x_frameToken, x_frameStage, x_frameLink, x_operands, x_saidValues, x_marked, x_pending) → wpX_callBlock post (x_classCount, x_bodyCount, x_draftCount, x_wrongPlace, x_madeCount, x_frameCount, x_current, x_next, x_inHand, x_mode, x_outcome, x_stepCount, x_atWork, x_mostAtWork, x_saidCount, x_pendingCount, y_parent, y_fields, y_bound, x_tokenKind, x_tokenValue, x_globals, x_thingShown, x_thingClass, x_thingFields, x_thingToken, x_thingMaker, x_variables, x_homeOf, x_within, x_foundIn, x_baseFrame, x_frameToken, x_frameStage, x_frameLink, x_operands, x_saidValues, x_marked, x_pending) xv xp pr) ∧ (∀ Q : SY → Prop, Q (y_classes, y_bodies, y_fault, y_made, y_working, y_peak, y_steps, y_depth, y_waiting, 2, 0, y_has, y_got, y_todos, y_marks, y_shown, y_spoken, y_parent, y_fields, y_bound, y_kind, y_word, y_size, y_sort, y_number, y_stands, y_keeps, y_cells, y_globals, y_within, y_foundIn, y_self, y_args, y_temps, y_param, y_live, y_work, y_under, y_at, y_in, y_phase, y_base, y_goal, y_operands, y_marked, y_todo, y_heard) → wpY_call Q (y_classes, y_bodies, y_fault, y_made, y_working, y_peak, y_steps, y_depth, y_waiting, y_code, y_running, y_has, y_got, y_todos, y_marks, y_shown, y_spoken, y_parent, y_fields, y_bound, y_kind, y_word, y_size, y_sort, y_number, y_stands, y_keeps, y_cells, y_globals, y_within, y_foundIn, y_self, y_args, y_temps, y_param, y_live, y_work, y_under, y_at, y_in, y_phase, y_base, y_goal, y_operands, y_marked, y_todo, y_heard) yv yp pr)) ∨
    (∃ k t0 e, ST k ∧ vv_T yv k ∧ y_sort k = 3 ∧ T t0 ∧ y_kind t0 = 12 ∧ y_word t0 = pr ∧ y_stands k = nI t0 ∧ x_thingToken (τ k) = nI t0 ∧ y_keeps k = nI e ∧ SA e ∧ x_thingMaker (τ k) = nI (σ e) ∧ lev e = lv t0 ∧ x_thingClass (τ k) = 3 ∧ xv = hp_s y_sort y_number k ∧ yv = lN (8589934592 + k)) := by
  have H := A.2.2.1
  have U := A.2.2.2.1
  obtain ⟨v, h1, rfl, rfl⟩ := hv
  rcases v with i | _ | k
  · refine Or.inl ⟨fun post q => xv_thing_n (hp_int i) (br_t rfl q), fun Q q => ?_⟩
    have hl := i.toBitVec.isLt
    refine br_f (fun z => ?_) (br_t (by decide) q)
    have z : lN 8589934592 ≤ lN i.toBitVec.toNat := z
    rw [pk_lLE (by omega) (by omega)] at z
    omega
  · exact Or.inl ⟨fun post q => xv_thing_n (v := 10000000000) (by decide) (br_t rfl q), fun Q q => br_f (show ¬ (8589934592 : Int64) ≤ 4294967296 by decide) (br_t (by decide) q)⟩
  · obtain ⟨hk, sk⟩ := h1 k rfl
    obtain ⟨k1, k2, ⟨c, c1, c2⟩, ⟨n, n1, n2⟩, k5, k6, k7, _⟩ := H.1 k sk
    have yge : (8589934592 : Int64) ≤ lN (8589934592 + k) := by
      show lN 8589934592 ≤ _
      rw [pk_lLE (by omega) (by omega)]
      omega
    have tcl : (nI (τ k)).toNatClampNeg = τ k := nI_clamp (by omega)
    have vt : vp_in (nI (τ k)) 24 := vp_in_nI k2 (by decide)
    have kcl : (nI k).toNatClampNeg = k := nI_clamp (by omega)
    have vk : vp_in (nI k) 32 := vp_in_nI hk (by decide)
    have kneg : ¬ nI k < 0 := Int32.not_lt.mpr (nI_pos' (by omega))
    have vy : (vv_y (Sum.inr (some k))).toInt32 = nI k := vv_t (by omega)
    by_cases s3 : y_sort k = 3
    · obtain ⟨t0, e, p1, p2, p3, p4, p5, p6, p7, p8, p9⟩ := k7 s3
      obtain ⟨t1, t2, t3, _⟩ := A.1.2.2.1.2.1 t0 p1
      have bc12 := A.1.2.1.1
      have c0 : (nI t0).toNatClampNeg = t0 := nI_clamp (by omega)
      have v0 : vp_in (nI t0) 416 := vp_in_nI (by omega) (by decide)
      by_cases pe : y_word t0 = pr
      · exact Or.inr ⟨k, t0, e, sk, ⟨hk, rfl⟩, s3, p1, p2, pe, p3, p4, p5, p6, p7, p8, k6.trans s3, rfl, rfl⟩
      · refine Or.inl ⟨fun post q => xv_thing U H sk (br_f (gx_m1 (by omega)) ?_), fun Q q => br_t yge ?_⟩
        · rw [tcl, p4, c0, t3]
          exact ⟨vt, br_t (k6.trans s3) ⟨vt, v0, br_f pe q⟩⟩
        · unfold wY_call_14
          rw [vy, kcl, p3, c0]
          exact br_f kneg ⟨vk, br_t s3 ⟨vk, v0, br_f pe q⟩⟩
    · refine Or.inl ⟨fun post q => xv_thing U H sk (br_f (gx_m1 (by omega)) ?_), fun Q q => br_t yge ?_⟩
      · rw [tcl]
        exact ⟨vt, br_f (fun z => s3 (k6.symm.trans z)) q⟩
      · unfold wY_call_14
        rw [vy, kcl]
        exact br_f kneg ⟨vk, br_f s3 q⟩
end
