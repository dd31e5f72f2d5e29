/-! a BLOCK begins an activation -/
section
variable {x_classCount x_bodyCount x_draftCount x_wrongPlace x_madeCount x_frameCount x_current x_next x_mode x_outcome x_stepCount x_atWork x_mostAtWork x_saidCount x_pendingCount : Int32} {x_inHand : Int64} {x_classParent x_classFields x_bound x_tokenKind x_tokenValue x_thingClass x_thingToken x_thingMaker x_homeOf x_within x_foundIn x_baseFrame x_frameToken x_frameStage x_frameLink x_marked x_pending : Nat → Int32} {x_globals x_thingShown x_thingFields x_variables x_operands x_saidValues : Nat → Int64}
variable {y_classes y_bodies y_fault y_made y_working y_peak y_steps y_depth y_waiting y_code y_running y_has y_todos y_marks y_spoken : Int32} {y_got y_shown : Int64} {y_parent y_fields y_bound y_kind y_word y_size y_sort y_number y_stands y_keeps y_within y_foundIn y_live y_work y_under y_at y_in y_phase y_base y_goal y_marked y_todo : Nat → Int32} {y_cells y_globals y_self y_args y_temps y_param y_operands y_heard : Nat → Int64}
variable {cc bc dc mc st sp d w np md B M : Nat} {T ST SA : Nat → Prop} {lv τ σ lev ho fa ph bs ow gg wk un rt : Nat → Nat}
/-- the heap with the new activation of a BLOCK -/
theorem blk_A {a b e : Nat} {R RX : Nat → Prop} {xp yp : Int64} (A : rn_A cc bc dc mc T ST SA lv τ σ lev ho x_tokenKind x_tokenValue y_kind y_word y_size y_parent y_fields y_bound x_globals y_globals x_thingShown x_thingClass x_thingFields x_thingToken x_thingMaker x_variables x_homeOf x_within x_foundIn y_sort y_number y_stands y_keeps y_cells y_within y_foundIn y_self y_args y_temps y_param) (P1 : ∀ n, cl_r R (gy_E y_sort y_keeps y_cells y_within y_self y_args y_temps y_param) n → hp_S ST SA n ∧ cl_r RX (gx_E x_thingShown x_thingFields x_thingMaker x_variables x_within) (hp_f τ σ n)) (a160 : a < 160) (b128 : b < 128) (na : ¬ cl_r R (gy_E y_sort y_keeps y_cells y_within y_self y_args y_temps y_param) (32 + a)) (nb : ¬ cl_r RX (gx_E x_thingShown x_thingFields x_thingMaker x_variables x_within) (24 + b)) (rg : ∀ i, i < 4 → ∀ k, vv_T (y_globals i) k → cl_r R (gy_E y_sort y_keeps y_cells y_within y_self y_args y_temps y_param) k)
    (se : SA e) (re : cl_r R (gy_E y_sort y_keeps y_cells y_within y_self y_args y_temps y_param) (32 + e)) (rhe : cl_r R (gy_E y_sort y_keeps y_cells y_within y_self y_args y_temps y_param) (32 + ho e)) (le2 : lev e ≤ 2) (hv : hp_v ST (hp_s y_sort y_number) xp yp) (rv : ∀ k, vv_T yp k → cl_r R (gy_E y_sort y_keeps y_cells y_within y_self y_args y_temps y_param) k) :
    rn_A cc bc dc mc T (fun k => k < 32 ∧ cl_r R (gy_E y_sort y_keeps y_cells y_within y_self y_args y_temps y_param) k) (fun z => cl_r R (gy_E y_sort y_keeps y_cells y_within y_self y_args y_temps y_param) (32 + z) ∨ z = a) lv τ (nu σ a b) (nu lev a (lev e + 1)) (nu ho a (ho e)) x_tokenKind x_tokenValue y_kind y_word y_size y_parent y_fields y_bound x_globals y_globals x_thingShown x_thingClass x_thingFields x_thingToken x_thingMaker (vp_updL (mk_c x_variables (b * 7) 7 10000000000) (b * 7 + 6) xp) (upd x_homeOf b (nI (σ (ho e)))) (upd x_within b (nI (σ e))) x_foundIn y_sort y_number y_stands y_keeps y_cells (upd y_within a (nI e)) y_foundIn y_self y_args (mk_c y_temps (3 * a) 3 4294967296) (vp_updL (vp_updL y_param a 4294967296) a yp) := by
  have H1 := hp_shrink A.2.2.1 (fun n cn => (P1 n cn).1)
  have conv : ∀ {x y : Int64}, hp_v ST (hp_s y_sort y_number) x y → (∀ k, vv_T y k → cl_r R (gy_E y_sort y_keeps y_cells y_within y_self y_args y_temps y_param) k) → hp_v (fun k => k < 32 ∧ cl_r R (gy_E y_sort y_keeps y_cells y_within y_self y_args y_temps y_param) k) (hp_s y_sort y_number) x y := fun h q => hp_v_to h fun k _ hT => ⟨⟨hT.1, q k hT⟩, rfl⟩
  obtain ⟨s1, g1, H, U, ⟨q1, q2, q3, q4, q5, q6, q7⟩, X⟩ := A
  have vN : vv_V 4294967296 := ⟨.inr none, fun l e => (by cases e), rfl⟩
  have ne : e ≠ a := fun z => na (z ▸ re)
  have nhe : ho e ≠ a := fun z => na (z ▸ rhe)
  obtain ⟨e1, e2, e3, e4, e5, e6, _⟩ := H.2.1 e se
  refine ⟨s1, fun i hi => conv (g1 i hi) (rg i hi), hp_act H1 na (fun z hz e => nb (by
      have := (P1 _ hz).2
      rw [hp_f2, e] at this
      exact this)) (fun z hz => ⟨pk_un hz, pk_un hz, rfl, fun j hj => by rw [pk_uLn (by omega)]; exact mk_co (by omega)⟩)
    (fun z hz => ⟨pk_un hz, rfl, rfl, by rw [pk_uLn hz, pk_uLn hz], fun j hj => rfl, fun j hj => mk_co (by omega)⟩) ?_, U, ⟨q1, q2, q3, fun i hi => ?_, fun i hi => ?_, q6, fun z hz => ?_⟩, X.1, fun z hz => ?_⟩
  · unfold hp_A
    refine ⟨a160, by rw [nu_s]; exact b128, by rw [nu_s]; omega, by rw [nu_s]; exact Or.inl rhe, by rw [nu_s, nu_s, nu_n nhe, pk_us], by rw [nu_s, pk_un nhe]; exact e6, Or.inr ⟨e, pk_us, Or.inl re, by rw [nu_s, nu_n ne], by rw [nu_s, nu_n ne], by rw [nu_s, pk_us, nu_n ne], ?_, fun j hj => ?_⟩⟩
    · rw [nu_s, pk_uLs, pk_uLs]; exact conv hv rv
    · rw [nu_s, pk_uLn (by omega)]; exact mk_ci (by omega) (by omega)
  · by_cases z : 3 * a ≤ i ∧ i < 3 * a + 3
    · rw [mk_ci z.1 z.2]; exact vN
    · rw [mk_co (by omega)]; exact q4 i hi
  · by_cases z : i = a
    · subst z; rw [pk_uLs]; exact hp_v_V hv
    · rw [pk_uLn z, pk_uLn z]; exact q5 i hi
  · by_cases z1 : z = a
    · subst z1; rw [pk_us]; exact Or.inr ⟨e, e1, rfl⟩
    · rw [pk_un z1]; exact q7 z hz
  · by_cases z1 : z = b
    · subst z1; rw [pk_us]; exact Or.inr ⟨σ e, e2, rfl⟩
    · rw [pk_un z1]; exact X.2 z hz
end
