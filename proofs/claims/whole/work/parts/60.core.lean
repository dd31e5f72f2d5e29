/-! a way out: where it comes to -/
section
variable {x_classCount x_bodyCount x_draftCount x_wrongPlace x_madeCount x_frameCount x_current x_next x_mode x_outcome x_stepCount x_atWork x_mostAtWork x_saidCount x_pendingCount : Int32} {x_inHand : Int64} {x_classParent x_classFields x_bound x_tokenKind x_tokenValue x_thingClass x_thingToken x_thingMaker x_homeOf x_within x_foundIn x_baseFrame x_frameToken x_frameStage x_frameLink x_marked x_pending : Nat → Int32} {x_globals x_thingShown x_thingFields x_variables x_operands x_saidValues : Nat → Int64}
variable {y_classes y_bodies y_fault y_made y_working y_peak y_steps y_depth y_waiting y_code y_running y_has y_todos y_marks y_spoken : Int32} {y_got y_shown : Int64} {y_parent y_fields y_bound y_kind y_word y_size y_sort y_number y_stands y_keeps y_within y_foundIn y_live y_work y_under y_at y_in y_phase y_base y_goal y_marked y_todo : Nat → Int32} {y_cells y_globals y_self y_args y_temps y_param y_operands y_heard : Nat → Int64}
variable {cc bc dc mc st sp d w np md B M : Nat} {T ST SA : Nat → Prop} {lv τ σ lev ho fa ph bs ow gg wk un rt : Nat → Nat}
def rn_Lv (B M : Nat) (u1 : SX) (v1 : SY) : Prop := rn_St B M u1 v1 ∨ ∃ u2 v2, (∀ PX tm, tm + 1 ≤ 1000000 → XL PX (tm + 1) u2 → XL PX tm u1) ∧ (∀ PY m, YL PY m v2 → YL PY (m + 1) v1) ∧ (rn_E B u2 v2 ∨ rn_St B M u2 v2)
theorem xg_home (A : rn_A cc bc dc mc T ST SA lv τ σ lev ho x_tokenKind x_tokenValue y_kind y_word y_size y_parent y_fields y_bound x_globals y_globals x_thingShown x_thingClass x_thingFields x_thingToken x_thingMaker x_variables x_homeOf x_within x_foundIn y_sort y_number y_stands y_keeps y_cells y_within y_foundIn y_self y_args y_temps y_param) (F : rn_F T ST SA lv σ lev ho y_kind y_word fa ph bs ow gg wk un rt d w y_sort y_number x_frameToken x_frameStage x_frameLink x_operands x_baseFrame y_operands y_self y_at y_in y_phase y_base y_goal y_work y_under y_live) {post : SX → Prop} {x2 : Int64} {g : Nat} (hg : g < w) (h : ∃ n, wX_goHome_16 post (nI (σ (wk g))) x2 (nI (fr_x y_kind fa ph (un g) - 1)) n (nI (fr_x y_kind fa ph d) - 1) (nI cc) (nI bc) (nI dc) y_fault (nI mc) (nI (fr_x y_kind fa ph d)) (nI (σ (wk (w - 1)))) x_next x_inHand 1 100 (nI st) (nI w) y_peak (nI sp) x_pendingCount y_parent y_fields y_bound x_tokenKind x_tokenValue x_globals x_thingShown x_thingClass x_thingFields x_thingToken x_thingMaker x_variables x_homeOf x_within x_foundIn x_baseFrame x_frameToken x_frameStage x_frameLink x_operands y_heard x_marked x_pending) : wpX_goHome post (nI cc, nI bc, nI dc, y_fault, nI mc, nI (fr_x y_kind fa ph d), nI (σ (wk (w - 1))), x_next, x_inHand, 1, 100, nI st, nI w, y_peak, nI sp, x_pendingCount, y_parent, y_fields, y_bound, x_tokenKind, x_tokenValue, x_globals, x_thingShown, x_thingClass, x_thingFields, x_thingToken, x_thingMaker, x_variables, x_homeOf, x_within, x_foundIn, x_baseFrame, x_frameToken, x_frameStage, x_frameLink, x_operands, y_heard, x_marked, x_pending) (nI (σ (wk g))) x2 := by
  obtain ⟨a1, _, a3⟩ := F.2.2.2.1 g hg
  have cl := (A.2.2.1.2.1 _ a1).2.1
  unfold wpX_goHome
  dsimp only
  rw [nI_clamp (show σ (wk g) < 2 ^ 31 by omega), a3]
  exact ⟨vp_in_nI cl (by decide), nm_e (nm_e h)⟩
/-- down from the top, both sides -/
theorem lv_down (A : rn_A cc bc dc mc T ST SA lv τ σ lev ho x_tokenKind x_tokenValue y_kind y_word y_size y_parent y_fields y_bound x_globals y_globals x_thingShown x_thingClass x_thingFields x_thingToken x_thingMaker x_variables x_homeOf x_within x_foundIn y_sort y_number y_stands y_keeps y_cells y_within y_foundIn y_self y_args y_temps y_param) (F : rn_F T ST SA lv σ lev ho y_kind y_word fa ph bs ow gg wk un rt d w y_sort y_number x_frameToken x_frameStage x_frameLink x_operands x_baseFrame y_operands y_self y_at y_in y_phase y_base y_goal y_work y_under y_live) {xv yv : Int64} {g t v' : Nat} (hg : g < w) (ht : un g ≤ t) (htd : t ≤ d) (hv' : fr_lo ph ow un t v') (no : ∀ s, t ≤ s → s < d → ¬ (y_kind (fa s) = 27 ∧ ph s = 0)) :
    v' < w ∧ ∃ np' : Int32, (∀ (post : SX → Prop) (n : Nat), wX_goHome_16 post (nI (σ (wk g))) xv (nI (fr_x y_kind fa ph (un g) - 1)) n (nI (fr_x y_kind fa ph t) - 1) (nI cc) (nI bc) (nI dc) y_fault (nI mc) (nI (fr_x y_kind fa ph t)) (nI (σ (wk v'))) np' x_inHand 1 100 (nI st) (nI (v' + 1)) y_peak (nI sp) x_pendingCount y_parent y_fields y_bound x_tokenKind x_tokenValue x_globals x_thingShown x_thingClass x_thingFields x_thingToken x_thingMaker x_variables x_homeOf x_within x_foundIn (ct_w x_baseFrame (fun i => σ (wk i)) w (-1) (w - (v' + 1))) x_frameToken x_frameStage x_frameLink x_operands y_heard x_marked x_pending → wpX_goHome post (nI cc, nI bc, nI dc, y_fault, nI mc, nI (fr_x y_kind fa ph d), nI (σ (wk (w - 1))), x_next, x_inHand, 1, 100, nI st, nI w, y_peak, nI sp, x_pendingCount, y_parent, y_fields, y_bound, x_tokenKind, x_tokenValue, x_globals, x_thingShown, x_thingClass, x_thingFields, x_thingToken, x_thingMaker, x_variables, x_homeOf, x_within, x_foundIn, x_baseFrame, x_frameToken, x_frameStage, x_frameLink, x_operands, y_heard, x_marked, x_pending) (nI (σ (wk g))) xv) ∧
      (∀ (post : SY → Prop), wY_leave_28 post (nI (wk g)) yv (nI g) (nI cc) (nI bc) y_fault (nI mc) (nI w) y_peak (nI st) y_depth y_waiting y_code 1 0 y_got y_todos y_marks (-10000000000) (nI sp) y_parent y_fields y_bound y_kind y_word y_size y_sort y_number y_stands y_keeps y_cells y_globals y_within y_foundIn y_self y_args y_temps y_param y_live y_work y_under y_at y_in y_phase y_base y_goal y_operands y_marked y_todo y_heard 1 (nI t - 1) → ∃ n, wY_leave_28 post (nI (wk g)) yv (nI g) (nI cc) (nI bc) y_fault (nI mc) (nI w) y_peak (nI st) y_depth y_waiting y_code 1 0 y_got y_todos y_marks (-10000000000) (nI sp) y_parent y_fields y_bound y_kind y_word y_size y_sort y_number y_stands y_keeps y_cells y_globals y_within y_foundIn y_self y_args y_temps y_param y_live y_work y_under y_at y_in y_phase y_base y_goal y_operands y_marked y_todo y_heard n (nI d - 1)) := by
  obtain ⟨k, rfl⟩ : ∃ k, d = t + k := ⟨d - t, by omega⟩
  have w1 : 1 ≤ w := F.1.1
  obtain ⟨a, np', b⟩ := xl_down (x_inHand := x_inHand) (x_pendingCount := x_pendingCount) (x_marked := x_marked) (x_pending := x_pending) (y_fault := y_fault) (y_peak := y_peak) (y_heard := y_heard) (st := st) (sp := sp) A F (x1 := nI (σ (wk g))) (x2 := xv) hg ht hv' k (Nat.le_refl _) no (w - 1) (by omega) F.1.2.2.2.2.2.1 x_next
  refine ⟨by omega, np', fun post n h => ?_, fun post h => ⟨1 + k, yl_down A F hg ht k (Nat.le_refl _) no 1 h⟩⟩
  have h' := b post n h
  rw [show w - 1 + 1 = w by omega, Nat.sub_self] at h'
  exact xg_home A F hg h'
theorem lv_ens {p g e : Nat} (A : rn_A cc bc dc mc T ST SA lv τ σ lev ho x_tokenKind x_tokenValue y_kind y_word y_size y_parent y_fields y_bound x_globals y_globals x_thingShown x_thingClass x_thingFields x_thingToken x_thingMaker x_variables x_homeOf x_within x_foundIn y_sort y_number y_stands y_keeps y_cells y_within y_foundIn y_self y_args y_temps y_param) (F0 : rn_F T ST SA lv σ lev ho y_kind y_word fa ph bs ow gg wk un rt (p + 1) w y_sort y_number x_frameToken x_frameStage x_frameLink x_operands x_baseFrame y_operands y_self y_at y_in y_phase y_base y_goal y_work y_under y_live) (F : rn_F T ST SA lv σ lev ho y_kind y_word fa ph bs ow gg wk un rt p w y_sort y_number x_frameToken x_frameStage x_frameLink x_operands x_baseFrame y_operands y_self y_at y_in y_phase y_base y_goal y_work y_under y_live) (hp : ph p ≠ 100) {xv yv : Int64} (hg : g < w) (hv : hp_v ST (hp_s y_sort y_number) xv yv) (he : un g ≤ e) (hep : e < p) (k27 : y_kind (fa e) = 27) (h0 : ph e = 0) (no : ∀ s, e + 1 ≤ s → s < p → ¬ (y_kind (fa s) = 27 ∧ ph s = 0)) (hm : 1 ≤ md) (n : rn_n B (M + 1) mc st sp (rn_mu (tk_nd y_kind y_word) fa un rt st (p + 1) w (ex_e (tk_nd y_kind y_word) (fa p)) md)) :
    ∃ u1 v1, (∀ Q : SX → Prop, Q u1 → wpX_goHome Q (nI cc, nI bc, nI dc, y_fault, nI mc, nI (fr_x y_kind fa ph p), nI (σ (wk (w - 1))), x_next, x_inHand, 1, 100, nI st, nI w, y_peak, nI sp, x_pendingCount, y_parent, y_fields, y_bound, x_tokenKind, x_tokenValue, x_globals, x_thingShown, x_thingClass, x_thingFields, x_thingToken, x_thingMaker, x_variables, x_homeOf, x_within, x_foundIn, x_baseFrame, x_frameToken, x_frameStage, x_frameLink, x_operands, y_heard, x_marked, x_pending) (nI (σ (wk g))) xv) ∧ (∀ Q : SY → Prop, Q v1 → ∃ n28, wY_leave_28 Q (nI (wk g)) yv (nI g) (nI cc) (nI bc) y_fault (nI mc) (nI w) y_peak (nI st) y_depth y_waiting y_code 1 0 y_got y_todos y_marks (-10000000000) (nI sp) y_parent y_fields y_bound y_kind y_word y_size y_sort y_number y_stands y_keeps y_cells y_globals y_within y_foundIn y_self y_args y_temps y_param y_live y_work y_under y_at y_in y_phase y_base y_goal y_operands y_marked y_todo y_heard n28 (nI p - 1)) ∧ rn_St B M u1 v1 := by
  have S := F.1
  have TF := rn_TF A
  have w12 := S.2.1
  obtain ⟨b1, b2, b3, b4⟩ := rn_fr A F hep
  have hn : ph e ≠ 100 := by omega
  have S' := fr_low S hep hn
  have lo : fr_lo ph ow un (e + 1) (ow e) := S'.2.2.2.2.2.1
  have oe := (S.2.2.2.2.1 e hep).2.1
  have ntφ : ∀ φ, ¬ fr_tail (y_kind (fa e)) φ := fun φ z => by
    rcases z with ⟨z, _⟩ | ⟨z, _⟩ <;> (rw [k27] at z; exact absurd z (by decide))
  have xr : fr_x y_kind fa ph (e + 1) = fr_x y_kind fa ph e + 1 := by
    show _ + ct_b _ = _
    rw [ct_bt (ntφ _)]
  have xle := fr_xle (K := y_kind) (fa := fa) (ph := ph) e
  have xug := fr_xle (K := y_kind) (fa := fa) (ph := ph) (un g)
  have xm := fr_xmono (K := y_kind) (fa := fa) (ph := ph) he
  have hxr : fr_x y_kind fa ph e < 385 := by omega
  have vxr : vp_in (nI (fr_x y_kind fa ph e)) 385 := vp_in_nI hxr (by decide)
  have xrc : (nI (fr_x y_kind fa ph e)).toNatClampNeg = fr_x y_kind fa ph e := nI_clamp (by omega)
  have e3 : nI (fr_x y_kind fa ph e) * (3 : Int32) = nI (fr_x y_kind fa ph e * 3) := pk_mul _ 3
  have c3 : (nI (fr_x y_kind fa ph e * 3)).toNatClampNeg = fr_x y_kind fa ph e * 3 := nI_clamp (by omega)
  have v3 : vp_in (nI (fr_x y_kind fa ph e * 3)) 1155 := vp_in_nI (by omega) (by decide)
  obtain ⟨xtk, xsg, xlk, xO⟩ := (F.2.2.1.2 e hep (ntφ _)).2 hn
  obtain ⟨y1, y2, y3, y4, _⟩ := F.2.1.1 e hep
  have xkd : x_tokenKind (fa e) = y_kind (fa e) := (A.1.2.2.1.2.1 _ b4).2.1
  have nd2 : tk_nd y_kind y_word (fa e) = 2 := by unfold tk_nd; rw [k27]; rfl
  have ce : fr_c (y_kind (fa e)) (ph e) = 0 := by rw [k27, h0]; rfl
  have ce2 : fr_c (y_kind (fa e)) 2 = 1 := by rw [k27]; rfl
  have pe2 : fr_pt (y_kind (fa e)) 2 = 1 := by unfold fr_pt; rw [if_pos ⟨k27, rfl⟩]
  have pe0 : fr_pt (y_kind (fa e)) (ph e) = 0 := by unfold fr_pt; rw [if_neg (fun z => by have := z.2; omega)]; exact h0
  have s0 : fr_s (y_kind (fa e)) = 0 := by unfold fr_s; rw [k27, if_neg (by decide)]
  rw [ce] at xO
  have bpos := fr_pos TF S e (by omega) (fa e) (ow e) (fun z => by omega) (fun _ => rfl) (S.2.2.2.2.1 e hep).2.2.1 (S.2.2.2.2.1 e hep).2.2.2.1 b4
  have brr := fr_en TF (S.2.2.2.2.2.2.1 (ow e) oe)
  have bb : bs e ≤ 383 := by omega
  have gl : g ≤ ow e := (fr_uo S hep hg).mp he
  obtain ⟨vw, np', dX, dY⟩ := lv_down (x_next := x_next) (x_inHand := x_inHand) (x_pendingCount := x_pendingCount) (x_marked := x_marked) (x_pending := x_pending) (y_depth := y_depth) (y_waiting := y_waiting) (y_code := y_code) (y_got := y_got) (y_todos := y_todos) (y_marks := y_marks) (y_marked := y_marked) (y_todo := y_todo) (y_fault := y_fault) (y_peak := y_peak) (y_heard := y_heard) (st := st) (sp := sp) A F (xv := xv) (yv := yv) hg (t := e + 1) (v' := ow e) (by omega) (by omega) lo no
  have ch := fr_ch TF b4 (j := 0) (by omega)
  have ch0 : ex_pt (tk_nd y_kind y_word) (fa e) 0 = fa e + 1 := rfl
  rw [ch0] at ch
  have W' := cut_W A F (v := ow e + 1) (by omega)
  have F1 := rn_low (d' := e + 1) (w' := ow e + 1) (aat' := y_at) (ain' := y_in) (aph' := y_phase) (aba' := y_base) (ago' := y_goal) (xtk' := x_frameToken) (xsg' := x_frameStage) (xlk' := x_frameLink) (xop' := x_operands) (yop' := y_operands) F (by omega) (by omega) S' (fun _ _ => ⟨rfl, rfl, rfl, rfl, rfl⟩) (fun _ _ => ⟨rfl, rfl, rfl⟩) (fun _ _ => rfl) (fun _ _ => rfl) W'
  have F2 := rn_set (φ := 2) (g := g) (aph' := upd y_phase e 2) (ago' := upd y_goal e (nI (wk g))) (xtk' := x_frameToken) (xsg' := upd x_frameStage (fr_x y_kind fa ph e) 2) (xlk' := upd x_frameLink (fr_x y_kind fa ph e) (nI (σ (wk g)))) (xop' := vp_updL x_operands (fr_x y_kind fa ph e * 3) xv) (yop' := vp_updL y_operands (bs e) yv) F1 hn (by decide) (Or.inr (Or.inr (Or.inr (Or.inr (Or.inl ⟨k27, by omega⟩))))) (fun _ _ => ⟨gl, pk_us⟩) ⟨pk_us, fun q hq => ⟨pk_un (by omega), pk_un (by omega)⟩⟩ (fun R hR => ⟨rfl, pk_un (by omega), pk_un (by omega)⟩) (fun j hj => pk_uLn (by omega)) (fun j hj => pk_uLn (by omega)) (fun _ => ⟨xtk, by rw [s0]; exact pk_us, fun _ _ => pk_us, fun i hi => by
    obtain ⟨o1, o2, o3⟩ := xO i hi
    rw [ce2]
    rw [s0] at o1 o2 o3 ⊢
    refine ⟨fun z => by omega, fun z1 z2 => ?_, fun z1 z2 => ?_⟩
    · obtain rfl : i = 0 := by omega
      rw [Nat.add_zero, pk_uLs, show bs e + (0 - 0) = bs e from rfl, pk_uLs]; exact hv
    · rw [pk_uLn (by omega)]; exact o3 z1 (by omega)⟩)
  have mu : rn_n B M mc st sp (rn_mu (tk_nd y_kind y_word) fa un rt st (e + 1) (ow e + 1) (ex_pt (tk_nd y_kind y_word) (fa e) 1) 0) := by
    obtain ⟨n1, n2, n3, n4⟩ := n
    refine ⟨n1, ?_⟩
    have key : fr_sum (fun i => 10 * (ex_e (tk_nd y_kind y_word) (rt i) - ex_e (tk_nd y_kind y_word) (fa (un (i + 1) - 1)))) (ow e) + 10 * (ex_e (tk_nd y_kind y_word) (rt (ow e)) - ex_pt (tk_nd y_kind y_word) (fa e) 1) ≤ fr_sum (fun i => 10 * (ex_e (tk_nd y_kind y_word) (rt i) - ex_e (tk_nd y_kind y_word) (fa (un (i + 1) - 1)))) (w - 1) + 10 * (ex_e (tk_nd y_kind y_word) (rt (w - 1)) - ex_e (tk_nd y_kind y_word) (fa p)) := by
      have eo := (rn_top A F0 hp).2.1
      by_cases z : ow e = w - 1
      · have h := (fr_in TF F0.1 (e := e) (p := p) hep (by omega) (by omega)).2.2
        rw [pe0] at h
        rw [z]
        have : 10 * (ex_e (tk_nd y_kind y_word) (rt (w - 1)) - ex_pt (tk_nd y_kind y_word) (fa e) 1) ≤ 10 * (ex_e (tk_nd y_kind y_word) (rt (w - 1)) - ex_e (tk_nd y_kind y_word) (fa p)) := by
          have : ex_e (tk_nd y_kind y_word) (fa p) ≤ ex_pt (tk_nd y_kind y_word) (fa e) 1 := h
          omega
        omega
      · obtain ⟨q, q1, q2, q3, q4⟩ := S.2.2.2.2.2.2.2 (ow e) (by omega)
        have eq : e < q := by
          rcases Nat.lt_or_ge e q with y | y
          · exact y
          · have : q ≠ e := fun y => by subst y; omega
            have m := fr_owm S (q := q + 1) (p := e) (by omega) hep
            have := (((S.2.2.2.2.1 (q + 1) (by omega)).2.2.1.2 q rfl).1 q3).1
            omega
        have h := (fr_in TF S (e := e) (p := q) eq q1 q4).2.2
        rw [pe0] at h
        have h' : ex_e (tk_nd y_kind y_word) (fa q) ≤ ex_pt (tk_nd y_kind y_word) (fa e) 1 := h
        have sl := fr_sumle (f := fun i => 10 * (ex_e (tk_nd y_kind y_word) (rt i) - ex_e (tk_nd y_kind y_word) (fa (un (i + 1) - 1)))) (a := ow e + 1) (b := w - 1) (by omega)
        have ss : fr_sum (fun i => 10 * (ex_e (tk_nd y_kind y_word) (rt i) - ex_e (tk_nd y_kind y_word) (fa (un (i + 1) - 1)))) (ow e + 1) = fr_sum (fun i => 10 * (ex_e (tk_nd y_kind y_word) (rt i) - ex_e (tk_nd y_kind y_word) (fa (un (i + 1) - 1)))) (ow e) + 10 * (ex_e (tk_nd y_kind y_word) (rt (ow e)) - ex_e (tk_nd y_kind y_word) (fa q)) := by
          show fr_sum _ (ow e) + _ = _
          dsimp only
          rw [q2]; rfl
        rw [ss] at sl
        omega
    unfold rn_mu at n2 n3 n4 ⊢
    rw [show ow e + 1 - 1 = ow e by omega]
    omega
  refine ⟨(nI cc, nI bc, nI dc, y_fault, nI mc, nI (fr_x y_kind fa ph e + 1), nI (σ (wk ((ow e + 1) - 1))), nI (ex_pt (tk_nd y_kind y_word) (fa e) 1), x_inHand, 0, 100, nI st, nI (ow e + 1), y_peak, nI sp, x_pendingCount, y_parent, y_fields, y_bound, x_tokenKind, x_tokenValue, x_globals, x_thingShown, x_thingClass, x_thingFields, x_thingToken, x_thingMaker, x_variables, x_homeOf, x_within, x_foundIn, ct_w x_baseFrame (fun i => σ (wk i)) w (-1) (w - (ow e + 1)), x_frameToken, upd x_frameStage (fr_x y_kind fa ph e) 2, upd x_frameLink (fr_x y_kind fa ph e) (nI (σ (wk g))), vp_updL x_operands (fr_x y_kind fa ph e * 3) xv, y_heard, x_marked, x_pending), (nI cc, nI bc, y_fault, nI mc, nI (ow e + 1), y_peak, nI st, nI (e + 1), nI (bs e + 1), y_code, 1, 0, y_got, y_todos, y_marks, -10000000000, nI sp, y_parent, y_fields, y_bound, y_kind, y_word, y_size, y_sort, y_number, y_stands, y_keeps, y_cells, y_globals, y_within, y_foundIn, y_self, y_args, y_temps, y_param, ct_w y_live wk w 0 (w - (ow e + 1)), y_work, y_under, y_at, y_in, upd y_phase e 2, y_base, upd y_goal e (nI (wk g)), vp_updL y_operands (bs e) yv, y_marked, y_todo, y_heard), fun Q q => dX Q 1 ?_, fun Q q => dY Q ?_, set_N A F2 (by decide) (by rw [ct_bt (ntφ _)]) (by rw [ce2]) (by rw [pe2]) (Or.inl ⟨by rw [pe2, nd2]; omega, rfl, rfl⟩) mu⟩
  · unfold wX_goHome_16
    rw [xr, nI_pred, xrc, xtk, xsg, h0, s0, e3, c3]
    refine br_f (nI_ge (by omega) (by omega)) ⟨vxr, nm_e ?_⟩
    rw [nI_clamp (show fa e < 2 ^ 31 by omega), xkd, nI_1]
    refine br_f (gx_m1 (by omega)) ⟨vp_in_nI (by omega) (by decide), br_t k27 ⟨vxr, br_t rfl ⟨vxr, nm_e ⟨vxr, nm_e ⟨v3, nm_e ?_⟩⟩⟩⟩⟩
    exact xw_endT A ch.1 q
  · have e1 : nI (e + 1) - 1 = nI e := nI_pred e
    have uy := (F.2.1.2 g hg).2
    have nl : ¬ nI e < nI (un g) := nI_nlt he (by omega)
    have ve : vp_in (nI e) 500 := vp_in_nI (by omega) (by decide)
    have ec : (nI e).toNatClampNeg = e := nI_clamp (by omega)
    have vg : vp_in (nI g) 12 := vp_in_nI (by omega) (by decide)
    have l73 : wY_leave_73 Q (nI (wk g)) yv (nI g) (nI e) (nI cc) (nI bc) y_fault (nI mc) (nI w) y_peak (nI st) y_depth y_waiting y_code 1 0 y_got y_todos y_marks (-10000000000) (nI sp) y_parent y_fields y_bound y_kind y_word y_size y_sort y_number y_stands y_keeps y_cells y_globals y_within y_foundIn y_self y_args y_temps y_param y_live y_work y_under y_at y_in y_phase y_base y_goal y_operands y_marked y_todo y_heard := by
      unfold wY_leave_73
      rw [nI_clamp (show g < 2 ^ 31 by omega), uy, nI_1]
      refine ⟨vg, br_t (nI_le he (by omega)) ?_⟩
      refine yl_cut A F (c := e + 1) (v := ow e + 1) (by omega) (by omega) (fun i i1 i2 => ?_) (fun i i1 => ?_) ?_
      · have := (fr_uo S hep i2).mp
        omega
      · have := (fr_uo S hep (show i < w by omega)).mpr (by omega)
        omega
      · dsimp only
        rw [ec, y4]
        refine ⟨ve, nm_e ?_⟩
        rw [nI_1, nI_clamp (show bs e < 2 ^ 31 by omega)]
        exact nm_e ⟨vp_in_nI (by omega) (by decide), nm_e ⟨ve, nm_e ⟨ve, nm_e q⟩⟩⟩
    unfold wY_leave_28
    rw [e1, nI_clamp (show g < 2 ^ 31 by omega), uy, ec, y1, y3, nI_clamp (show fa e < 2 ^ 31 by omega), h0]
    exact ⟨vg, br_f nl ⟨ve, vp_in_nI (by omega) (by decide), br_t k27 ⟨ve, br_t rfl l73⟩⟩⟩
end
