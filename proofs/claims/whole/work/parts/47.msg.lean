/-! a message begins an activation of a BODY -/
section
variable {x_classCount x_bodyCount x_draftCount x_wrongPlace x_madeCount x_frameCount x_current x_next x_mode x_outcome x_stepCount x_atWork x_mostAtWork x_saidCount x_pendingCount : Int32} {x_inHand : Int64} {x_classParent x_classFields x_bound x_tokenKind x_tokenValue x_thingClass x_thingToken x_thingMaker x_homeOf x_within x_foundIn x_baseFrame x_frameToken x_frameStage x_frameLink x_marked x_pending : Nat → Int32} {x_globals x_thingShown x_thingFields x_variables x_operands x_saidValues : Nat → Int64}
variable {y_classes y_bodies y_fault y_made y_working y_peak y_steps y_depth y_waiting y_code y_running y_has y_todos y_marks y_spoken : Int32} {y_got y_shown : Int64} {y_parent y_fields y_bound y_kind y_word y_size y_sort y_number y_stands y_keeps y_within y_foundIn y_live y_work y_under y_at y_in y_phase y_base y_goal y_marked y_todo : Nat → Int32} {y_cells y_globals y_self y_args y_temps y_param y_operands y_heard : Nat → Int64}
variable {cc bc dc mc st sp d w np md B M : Nat} {T ST SA : Nat → Prop} {lv τ σ lev ho fa ph bs ow gg wk un rt : Nat → Nat}
/-- the heap with the new activation of a BODY -/
theorem msg_A {a b c : Nat} {R RX : Nat → Prop} {xr xa xb yr ya yb : Int64} (A : rn_A cc bc dc mc T ST SA lv τ σ lev ho x_tokenKind x_tokenValue y_kind y_word y_size y_parent y_fields y_bound x_globals y_globals x_thingShown x_thingClass x_thingFields x_thingToken x_thingMaker x_variables x_homeOf x_within x_foundIn y_sort y_number y_stands y_keeps y_cells y_within y_foundIn y_self y_args y_temps y_param) (P1 : ∀ n, cl_r R (gy_E y_sort y_keeps y_cells y_within y_self y_args y_temps y_param) n → hp_S ST SA n ∧ cl_r RX (gx_E x_thingShown x_thingFields x_thingMaker x_variables x_within) (hp_f τ σ n)) (hc : c < cc) (a160 : a < 160) (b128 : b < 128) (na : ¬ cl_r R (gy_E y_sort y_keeps y_cells y_within y_self y_args y_temps y_param) (32 + a)) (nb : ¬ cl_r RX (gx_E x_thingShown x_thingFields x_thingMaker x_variables x_within) (24 + b)) (rg : ∀ i, i < 4 → ∀ k, vv_T (y_globals i) k → cl_r R (gy_E y_sort y_keeps y_cells y_within y_self y_args y_temps y_param) k)
    (hr : hp_v ST (hp_s y_sort y_number) xr yr) (ha : hp_v ST (hp_s y_sort y_number) xa ya) (hb : hp_v ST (hp_s y_sort y_number) xb yb) (rr : ∀ k, vv_T yr k → cl_r R (gy_E y_sort y_keeps y_cells y_within y_self y_args y_temps y_param) k) (ra : ∀ k, vv_T ya k → cl_r R (gy_E y_sort y_keeps y_cells y_within y_self y_args y_temps y_param) k) (rb : ∀ k, vv_T yb k → cl_r R (gy_E y_sort y_keeps y_cells y_within y_self y_args y_temps y_param) k) :
    rn_A cc bc dc mc T (fun k => k < 32 ∧ cl_r R (gy_E y_sort y_keeps y_cells y_within y_self y_args y_temps y_param) k) (fun z => cl_r R (gy_E y_sort y_keeps y_cells y_within y_self y_args y_temps y_param) (32 + z) ∨ z = a) lv τ (nu σ a b) (nu lev a 0) (nu ho a a) x_tokenKind x_tokenValue y_kind y_word y_size y_parent y_fields y_bound x_globals y_globals x_thingShown x_thingClass x_thingFields x_thingToken x_thingMaker (vp_updL (vp_updL (vp_updL (mk_c x_variables (b * 7) 7 10000000000) (b * 7) xr) (b * 7 + 1) xa) (b * 7 + 2) xb) (upd x_homeOf b (nI b)) (upd x_within b (-1)) (upd x_foundIn b (nI c)) y_sort y_number y_stands y_keeps y_cells (upd y_within a (-1)) (upd y_foundIn a (nI c)) (vp_updL y_self a yr) (vp_updL (vp_updL y_args (2 * a) ya) (2 * a + 1) yb) (mk_c y_temps (3 * a) 3 4294967296) (vp_updL y_param a 4294967296) := by
  have H1 := hp_shrink A.2.2.1 (fun n cn => (P1 n cn).1)
  have conv : ∀ {x y : Int64}, hp_v ST (hp_s y_sort y_number) x y → (∀ k, vv_T y k → cl_r R (gy_E y_sort y_keeps y_cells y_within y_self y_args y_temps y_param) k) → hp_v (fun k => k < 32 ∧ cl_r R (gy_E y_sort y_keeps y_cells y_within y_self y_args y_temps y_param) k) (hp_s y_sort y_number) x y := fun h q => hp_v_to h fun k _ hT => ⟨⟨hT.1, q k hT⟩, rfl⟩
  obtain ⟨s1, g1, H, U, ⟨q1, q2, q3, q4, q5, q6, q7⟩, X⟩ := A
  have vN : vv_V 4294967296 := ⟨.inr none, fun l e => (by cases e), rfl⟩
  refine ⟨s1, fun i hi => conv (g1 i hi) (rg i hi), hp_act H1 na (fun z hz e => nb (by
      have := (P1 _ hz).2
      rw [hp_f2, e] at this
      exact this)) (fun z hz => ⟨pk_un hz, pk_un hz, pk_un hz, fun j hj => by rw [pk_uLn (by omega), pk_uLn (by omega), pk_uLn (by omega)]; exact mk_co (by omega)⟩)
    (fun z hz => ⟨pk_un hz, pk_un hz, pk_uLn hz, pk_uLn hz, fun j hj => by rw [pk_uLn (by omega), pk_uLn (by omega)], fun j hj => mk_co (by omega)⟩) ?_, U, ⟨q1, fun i hi => ?_, fun i hi => ?_, fun i hi => ?_, fun i hi => ?_, q6, fun z hz => ?_⟩, X.1, fun z hz => ?_⟩
  · unfold hp_A
    rw [nu_s, nu_s, nu_s, nu_s, pk_us, pk_us, pk_us, pk_us, pk_us, pk_uLs]
    refine ⟨a160, b128, by omega, Or.inr rfl, rfl, rfl, Or.inl ⟨rfl, rfl, rfl, rfl, ⟨c, hc, rfl, rfl⟩, ?_, fun j hj => ?_, fun j hj => ?_, ?_⟩⟩
    · rw [pk_uLn (by omega), pk_uLn (by omega), pk_uLs]; exact conv hr rr
    · rcases (show j = 0 ∨ j = 1 by omega) with rfl | rfl
      · rw [show b * 7 + 1 + 0 = b * 7 + 1 from rfl, show 2 * a + 0 = 2 * a from rfl, pk_uLn (by omega), pk_uLs, pk_uLn (by omega), pk_uLs]; exact conv ha ra
      · rw [show b * 7 + 1 + 1 = b * 7 + 2 by omega, pk_uLs, pk_uLs]; exact conv hb rb
    · rw [pk_uLn (by omega), pk_uLn (by omega), pk_uLn (by omega), mk_ci (by omega) (by omega), mk_ci (by omega) (by omega)]
      exact ⟨.inr none, fun l e => (by cases e), rfl, rfl⟩
    · rw [pk_uLn (by omega), pk_uLn (by omega), pk_uLn (by omega)]
      exact mk_ci (by omega) (by omega)
  · by_cases z : i = a
    · subst z; rw [pk_uLs]; exact hp_v_V hr
    · rw [pk_uLn z]; exact q2 i hi
  · by_cases z : i = 2 * a + 1
    · subst z; rw [pk_uLs]; exact hp_v_V hb
    · rw [pk_uLn z]
      by_cases z' : i = 2 * a
      · subst z'; rw [pk_uLs]; exact hp_v_V ha
      · rw [pk_uLn z']; exact q3 i hi
  · by_cases z : 3 * a ≤ i ∧ i < 3 * a + 3
    · rw [mk_ci z.1 z.2]; exact vN
    · rw [mk_co (by omega)]; exact q4 i hi
  · by_cases z : i = a
    · subst z; rw [pk_uLs]; exact vN
    · rw [pk_uLn z]; exact q5 i hi
  · by_cases e : z = a
    · subst e; rw [pk_us]; exact Or.inl rfl
    · rw [pk_un e]; exact q7 z hz
  · by_cases e : z = b
    · subst e; rw [pk_us]; exact Or.inl rfl
    · rw [pk_un e]; exact X.2 z hz
theorem mu_beg {p r : Nat} (TF : fr_T y_kind (tk_nd y_kind y_word) T) (w1 : 1 ≤ w) (tr : T r) (hs : st < 200) (n : rn_n B (M + 1) mc st sp (rn_mu (tk_nd y_kind y_word) fa un rt st (p + 1) w (ex_e (tk_nd y_kind y_word) (fa p)) 1)) : rn_n B (M + 1) mc (st + 1) sp (rn_mu (tk_nd y_kind y_word) fa (nu un w (p + 1)) (nu rt w r) (st + 1) (p + 1) (w + 1) r 0) := by
  obtain ⟨n1, n2, n3, n4⟩ := n
  have e := fr_en TF tr
  obtain ⟨v, rfl⟩ : ∃ v, w = v + 1 := ⟨w - 1, by omega⟩
  have sm : fr_sum (fun i => 10 * (ex_e (tk_nd y_kind y_word) (nu rt (v + 1) r i) - ex_e (tk_nd y_kind y_word) (fa (nu un (v + 1) (p + 1) (i + 1) - 1)))) (v + 1 + 1 - 1) = fr_sum (fun i => 10 * (ex_e (tk_nd y_kind y_word) (rt i) - ex_e (tk_nd y_kind y_word) (fa (un (i + 1) - 1)))) (v + 1 - 1) + 10 * (ex_e (tk_nd y_kind y_word) (rt (v + 1 - 1)) - ex_e (tk_nd y_kind y_word) (fa p)) := by
    show fr_sum _ v + 10 * _ = fr_sum _ v + _
    rw [fr_sumc (n := v) (g := fun i => 10 * (ex_e (tk_nd y_kind y_word) (rt i) - ex_e (tk_nd y_kind y_word) (fa (un (i + 1) - 1)))) (fun i hi => by rw [nu_n (show i ≠ v + 1 by omega), nu_n (show i + 1 ≠ v + 1 by omega)]), nu_n (show v ≠ v + 1 by omega), nu_s]
    rfl
  have er : nu rt (v + 1) r (v + 1 + 1 - 1) = r := by
    rw [show v + 1 + 1 - 1 = v + 1 by omega, nu_s]
  unfold rn_mu at n2 n3 n4
  refine ⟨by omega, ?_⟩
  unfold rn_mu
  rw [sm, er]
  omega
end
