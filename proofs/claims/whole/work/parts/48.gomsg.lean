/-! a BODY begins for a message: both sides -/
section
variable {x_classCount x_bodyCount x_draftCount x_wrongPlace x_madeCount x_frameCount x_current x_next x_mode x_outcome x_stepCount x_atWork x_mostAtWork x_saidCount x_pendingCount : Int32} {x_inHand : Int64} {x_classParent x_classFields x_bound x_tokenKind x_tokenValue x_thingClass x_thingToken x_thingMaker x_homeOf x_within x_foundIn x_baseFrame x_frameToken x_frameStage x_frameLink x_marked x_pending : Nat → Int32} {x_globals x_thingShown x_thingFields x_variables x_operands x_saidValues : Nat → Int64}
variable {y_classes y_bodies y_fault y_made y_working y_peak y_steps y_depth y_waiting y_code y_running y_has y_todos y_marks y_spoken : Int32} {y_got y_shown : Int64} {y_parent y_fields y_bound y_kind y_word y_size y_sort y_number y_stands y_keeps y_within y_foundIn y_live y_work y_under y_at y_in y_phase y_base y_goal y_marked y_todo : Nat → Int32} {y_cells y_globals y_self y_args y_temps y_param y_operands y_heard : Nat → Int64}
variable {cc bc dc mc st sp d w np md B M : Nat} {T ST SA : Nat → Prop} {lv τ σ lev ho fa ph bs ow gg wk un rt : Nat → Nat}
theorem rn_wroot (A : rn_A cc bc dc mc T ST SA lv τ σ lev ho x_tokenKind x_tokenValue y_kind y_word y_size y_parent y_fields y_bound x_globals y_globals x_thingShown x_thingClass x_thingFields x_thingToken x_thingMaker x_variables x_homeOf x_within x_foundIn y_sort y_number y_stands y_keeps y_cells y_within y_foundIn y_self y_args y_temps y_param) (F : rn_F T ST SA lv σ lev ho y_kind y_word fa ph bs ow gg wk un rt d w y_sort y_number x_frameToken x_frameStage x_frameLink x_operands x_baseFrame y_operands y_self y_at y_in y_phase y_base y_goal y_work y_under y_live) {i : Nat} (hi : i < w) : cl_r (gy_R y_globals y_operands (bs d) y_work w) (gy_E y_sort y_keeps y_cells y_within y_self y_args y_temps y_param) (32 + wk i) ∧ cl_r (gy_R y_globals y_operands (bs d) y_work w) (gy_E y_sort y_keeps y_cells y_within y_self y_args y_temps y_param) (32 + ho (wk i)) ∧ ∀ k, vv_T (y_self (ho (wk i))) k → cl_r (gy_R y_globals y_operands (bs d) y_work w) (gy_E y_sort y_keeps y_cells y_within y_self y_args y_temps y_param) k := by
  have sa := (F.2.2.2.1 i hi).1
  have c1 : cl_r (gy_R y_globals y_operands (bs d) y_work w) (gy_E y_sort y_keeps y_cells y_within y_self y_args y_temps y_param) (32 + wk i) := cl_root (Or.inr (Or.inr ⟨i, wk i, hi, (A.2.2.1.2.1 _ sa).1, (F.2.1.2 i hi).1, rfl⟩))
  have c := hp_home A.2.2.1 (lev (wk i)) (wk i) (Nat.le_refl _) sa c1
  exact ⟨c1, c, fun k hT => cl_step c (Or.inr (Or.inr (Or.inl ⟨ho (wk i), rfl, by rw [(A.2.2.1.2.1 _ sa).2.2.2.2.2.1]; decide, Or.inl hT⟩)))⟩
theorem go_msg {p tm c b s : Nat} {xa xb yr ya yb : Int64} (A : rn_A cc bc dc mc T ST SA lv τ σ lev ho x_tokenKind x_tokenValue y_kind y_word y_size y_parent y_fields y_bound x_globals y_globals x_thingShown x_thingClass x_thingFields x_thingToken x_thingMaker x_variables x_homeOf x_within x_foundIn y_sort y_number y_stands y_keeps y_cells y_within y_foundIn y_self y_args y_temps y_param) (F : rn_F T ST SA lv σ lev ho y_kind y_word fa ph bs ow gg wk un rt (p + 1) w y_sort y_number x_frameToken x_frameStage x_frameLink x_operands x_baseFrame y_operands y_self y_at y_in y_phase y_base y_goal y_work y_under y_live) (hp : ph p ≠ 100) (hk : y_kind (fa p) = 10 ∨ y_kind (fa p) = 11 ∨ y_kind (fa p) = 14 ∨ y_kind (fa p) = 15) (nt : ¬ fr_tail (y_kind (fa p)) (ph p)) (hc : c < cc) (hb1 : b < bc) (hs : s < 12) (hbd : y_bound (c * 12 + s) = nI b)
    (hr : hp_v ST (hp_s y_sort y_number) (x_operands (fr_x y_kind fa ph p * 3)) yr) (ha : hp_v ST (hp_s y_sort y_number) xa ya) (hb : hp_v ST (hp_s y_sort y_number) xb yb) (rr : ∀ k, vv_T yr k → cl_r (gy_R y_globals y_operands (bs (p + 1)) y_work w) (gy_E y_sort y_keeps y_cells y_within y_self y_args y_temps y_param) k) (ra : ∀ k, vv_T ya k → cl_r (gy_R y_globals y_operands (bs (p + 1)) y_work w) (gy_E y_sort y_keeps y_cells y_within y_self y_args y_temps y_param) k) (rb : ∀ k, vv_T yb k → cl_r (gy_R y_globals y_operands (bs (p + 1)) y_work w) (gy_E y_sort y_keeps y_cells y_within y_self y_args y_temps y_param) k)
    (n : rn_n B (M + 1) mc st sp (rn_mu (tk_nd y_kind y_word) fa un rt st (p + 1) w (ex_e (tk_nd y_kind y_word) (fa p)) 1)) (hB : B < 2 ^ 30) (ht : tm + 2 ≤ 1000000)
    (gX : ∀ Q : SX → Prop, wX_sendMessage_85 Q (x_operands (fr_x y_kind fa ph p * 3)) xa xb (nI s) (nI c) (nI cc) (nI bc) (nI dc) y_fault (nI mc) (nI (fr_x y_kind fa ph p + 1)) (nI (σ (wk (w - 1)))) (nI (ex_e (tk_nd y_kind y_word) (fa p))) x_inHand 2 100 (nI st) (nI w) y_peak (nI sp) x_pendingCount y_parent y_fields y_bound x_tokenKind x_tokenValue x_globals x_thingShown x_thingClass x_thingFields x_thingToken x_thingMaker x_variables x_homeOf x_within x_foundIn x_baseFrame x_frameToken x_frameStage x_frameLink x_operands y_heard x_marked x_pending → wpX_applyOperator Q (nI cc, nI bc, nI dc, y_fault, nI mc, nI (fr_x y_kind fa ph p + 1), nI (σ (wk (w - 1))), nI (ex_e (tk_nd y_kind y_word) (fa p)), x_inHand, 2, 100, nI st, nI w, y_peak, nI sp, x_pendingCount, y_parent, y_fields, y_bound, x_tokenKind, x_tokenValue, x_globals, x_thingShown, x_thingClass, x_thingFields, x_thingToken, x_thingMaker, x_variables, x_homeOf, x_within, x_foundIn, x_baseFrame, x_frameToken, x_frameStage, x_frameLink, x_operands, y_heard, x_marked, x_pending))
    (gY : ∀ Q : SY → Prop, wY_message_118 Q yr (nI c) ya yb (nI b) (nI cc) (nI bc) y_fault (nI mc) (nI w) y_peak (nI st) (nI (p + 1)) (nI (bs (p + 1))) y_code 1 0 y_got y_todos y_marks (-10000000000) (nI sp) y_parent y_fields y_bound y_kind y_word y_size y_sort y_number y_stands y_keeps y_cells y_globals y_within y_foundIn y_self y_args y_temps y_param y_live y_work y_under y_at y_in y_phase y_base y_goal y_operands y_marked y_todo y_heard → wpY_next Q (nI cc, nI bc, y_fault, nI mc, nI w, y_peak, nI st, nI (p + 1), nI (bs (p + 1)), y_code, 1, 0, y_got, y_todos, y_marks, -10000000000, nI sp, y_parent, y_fields, y_bound, y_kind, y_word, y_size, y_sort, y_number, y_stands, y_keeps, y_cells, y_globals, y_within, y_foundIn, y_self, y_args, y_temps, y_param, y_live, y_work, y_under, y_at, y_in, y_phase, y_base, y_goal, y_operands, y_marked, y_todo, y_heard)) :
    rn_Go B M tm (nI cc, nI bc, nI dc, y_fault, nI mc, nI (fr_x y_kind fa ph p + 1), nI (σ (wk (w - 1))), nI (ex_e (tk_nd y_kind y_word) (fa p)), x_inHand, 2, 100, nI st, nI w, y_peak, nI sp, x_pendingCount, y_parent, y_fields, y_bound, x_tokenKind, x_tokenValue, x_globals, x_thingShown, x_thingClass, x_thingFields, x_thingToken, x_thingMaker, x_variables, x_homeOf, x_within, x_foundIn, x_baseFrame, x_frameToken, x_frameStage, x_frameLink, x_operands, y_heard, x_marked, x_pending) (nI cc, nI bc, y_fault, nI mc, nI w, y_peak, nI st, nI (p + 1), nI (bs (p + 1)), y_code, 1, 0, y_got, y_todos, y_marks, -10000000000, nI sp, y_parent, y_fields, y_bound, y_kind, y_word, y_size, y_sort, y_number, y_stands, y_keeps, y_cells, y_globals, y_within, y_foundIn, y_self, y_args, y_temps, y_param, y_live, y_work, y_under, y_at, y_in, y_phase, y_base, y_goal, y_operands, y_marked, y_todo, y_heard) := by
  obtain ⟨f1, eo, f5, p3, p5, b3, y1, y2, y3, y4, a3, n3, p383⟩ := rn_top A F hp
  have hxr := rn_xr A F hp
  have TF := rn_TF A
  have pc : (nI p).toNatClampNeg = p := nI_clamp (by omega)
  have xr : fr_x y_kind fa ph (p + 1) = fr_x y_kind fa ph p + 1 := by
    show _ + ct_b _ = _
    rw [ct_bt nt]
  have cc10 := A.1.1.2.1
  have bc12 := A.1.2.1.1
  have w12 := F.1.2.1
  have w1 := F.1.1
  have hst := n.1
  have nB : mc ≤ B := by have := n.2.2.2; omega
  have e12 : nI c * (12 : Int32) + nI s = nI (c * 12 + s) := ix_r 12 c s
  have ce12 : (nI (c * 12 + s)).toNatClampNeg = c * 12 + s := nI_clamp (by omega)
  have v12 : vp_in (nI (c * 12 + s)) 120 := vp_in_nI (by omega) (by decide)
  have e32 : nI b * (32 : Int32) = nI (32 * b) := by rw [Nat.mul_comm]; exact pk_mul b 32
  have e32' : (32 : Int32) * nI b = nI (32 * b) := by rw [Int32.mul_comm]; exact e32
  have cpos : (0 : Int32) ≤ nI c := nI_pos' (by omega)
  by_cases z : st = 200 ∨ w = 12
  · obtain ⟨st', o, q, hX⟩ := xd_begin0 (x_classCount := nI cc) (x_bodyCount := nI bc) (x_draftCount := nI dc) (x_wrongPlace := y_fault) (x_madeCount := nI mc) (x_current := nI (σ (wk (w - 1)))) (x_next := nI (ex_e (tk_nd y_kind y_word) (fa p))) (x_inHand := x_inHand) (x_mode := 2) (x_outcome := 100) (x_mostAtWork := y_peak) (x_saidCount := nI sp) (x_pendingCount := x_pendingCount) (x_classParent := y_parent) (x_classFields := y_fields) (x_bound := y_bound) (x_tokenKind := x_tokenKind) (x_tokenValue := x_tokenValue) (x_globals := x_globals) (x_thingShown := x_thingShown) (x_thingClass := x_thingClass) (x_thingFields := x_thingFields) (x_thingToken := x_thingToken) (x_thingMaker := x_thingMaker) (x_variables := x_variables) (x_homeOf := x_homeOf) (x_within := x_within) (x_foundIn := x_foundIn) (x_baseFrame := x_baseFrame) (x_frameToken := x_frameToken) (x_frameStage := x_frameStage) (x_frameLink := x_frameLink) (x_operands := x_operands) (x_saidValues := y_heard) (x_marked := x_marked) (x_pending := x_pending) (fc := fr_x y_kind fa ph p) (nI (32 * b)) hst w12 z
    obtain ⟨st2, o2, q2, hY⟩ := yd_begin0 (y_classes := nI cc) (y_bodies := nI bc) (y_fault := y_fault) (y_made := nI mc) (y_peak := y_peak) (y_depth := nI (p + 1)) (y_waiting := nI (bs (p + 1))) (y_code := y_code) (y_has := 0) (y_got := y_got) (y_todos := y_todos) (y_marks := y_marks) (y_shown := -10000000000) (y_spoken := nI sp) (y_parent := y_parent) (y_fields := y_fields) (y_bound := y_bound) (y_kind := y_kind) (y_word := y_word) (y_size := y_size) (y_sort := y_sort) (y_number := y_number) (y_stands := y_stands) (y_keeps := y_keeps) (y_cells := y_cells) (y_globals := y_globals) (y_within := y_within) (y_foundIn := y_foundIn) (y_self := y_self) (y_args := y_args) (y_temps := y_temps) (y_param := y_param) (y_live := y_live) (y_work := y_work) (y_under := y_under) (y_at := y_at) (y_in := y_in) (y_phase := y_phase) (y_base := y_base) (y_goal := y_goal) (y_operands := y_operands) (y_marked := y_marked) (y_todo := y_todo) (y_heard := y_heard) (-1) hst w12 z
    have es : st' = st2 ∧ o = o2 ∧ ¬ o = 100 ∧ ¬ o = 0 := by
      rcases q with ⟨a1, a2, a3⟩ | ⟨a1, a2, a3, a4⟩ <;> rcases q2 with ⟨b1, b2, b3⟩ | ⟨b1, b2, b3, b4⟩
      · exact ⟨by omega, by rw [a3, b3], by rw [a3]; decide, by rw [a3]; decide⟩
      · omega
      · omega
      · exact ⟨by omega, by rw [a4, b4], by rw [a4]; decide, by rw [a4]; decide⟩
    obtain ⟨rfl, rfl, o1, o0⟩ := es
    refine ⟨(nI cc, nI bc, nI dc, y_fault, nI mc, nI (fr_x y_kind fa ph p + 1), nI (σ (wk (w - 1))), nI (ex_e (tk_nd y_kind y_word) (fa p)), x_inHand, 2, o, nI st', nI w, y_peak, nI sp, x_pendingCount, y_parent, y_fields, y_bound, x_tokenKind, x_tokenValue, x_globals, x_thingShown, x_thingClass, x_thingFields, x_thingToken, x_thingMaker, x_variables, x_homeOf, x_within, x_foundIn, x_baseFrame, x_frameToken, x_frameStage, x_frameLink, x_operands, y_heard, x_marked, x_pending), (nI cc, nI bc, y_fault, nI mc, nI w, y_peak, nI st', nI (p + 1), nI (bs (p + 1)), o, 0, 0, y_got, y_todos, y_marks, -10000000000, nI sp, y_parent, y_fields, y_bound, y_kind, y_word, y_size, y_sort, y_number, y_stands, y_keeps, y_cells, y_globals, y_within, y_foundIn, y_self, y_args, y_temps, y_param, y_live, y_work, y_under, y_at, y_in, y_phase, y_base, y_goal, y_operands, y_marked, y_todo, y_heard), tm + 1, by omega, fun PX k => xt_apply (by omega) (fun Q q => gX Q ?_) k, fun PY m k => YL_mono (yt_next (fun Q q => gY Q ?_) k) (by omega), Or.inl (rn_stop2 (st := st') A (rn_wl A F) o1 o0 nB)⟩
    · unfold wX_sendMessage_85
      refine br_f (gx_m1 (by omega)) ?_
      rw [e12, ce12, hbd, e32]
      exact ⟨v12, hX _ (br_t rfl q)⟩
    · unfold wY_message_118
      exact br_t cpos (hY _ (br_f (by decide) q))
  · have hs' : st < 200 := by omega
    have hw : w < 12 := by omega
    obtain ⟨P1, P2⟩ := rn_roots A F
    have freeX := rn_freeX A F
    rw [xr] at P1 freeX
    have hbs : bs p ≤ bs (p + 1) ∧ bs (p + 1) ≤ 500 := by
      have f6 := (F.1.2.2.2.2.1 p (by omega)).2.2.2.2.2.1
      have := fr_cs f5 n3 (rn_11 A f1)
      omega
    obtain ⟨mk, td, t, b', bl, nb, hX⟩ := xd_begin (x_classCount := nI cc) (x_bodyCount := nI bc) (x_draftCount := nI dc) (x_wrongPlace := y_fault) (x_madeCount := nI mc) (x_current := nI (σ (wk (w - 1)))) (x_next := nI (ex_e (tk_nd y_kind y_word) (fa p))) (x_inHand := x_inHand) (x_mode := 2) (x_outcome := 100) (x_mostAtWork := y_peak) (x_saidCount := nI sp) (x_pendingCount := x_pendingCount) (x_classParent := y_parent) (x_classFields := y_fields) (x_bound := y_bound) (x_tokenKind := x_tokenKind) (x_tokenValue := x_tokenValue) (x_globals := x_globals) (x_thingShown := x_thingShown) (x_thingClass := x_thingClass) (x_thingFields := x_thingFields) (x_thingToken := x_thingToken) (x_thingMaker := x_thingMaker) (x_variables := x_variables) (x_homeOf := x_homeOf) (x_within := x_within) (x_foundIn := x_foundIn) (x_baseFrame := x_baseFrame) (x_frameToken := x_frameToken) (x_frameStage := x_frameStage) (x_frameLink := x_frameLink) (x_operands := x_operands) (x_saidValues := y_heard) (x_marked := x_marked) (x_pending := x_pending) (fc := fr_x y_kind fa ph p) (w := w) (st := st) (nI (32 * b)) hs' hw hxr A.2.2.2.2.2.1 A.2.2.2.2.2.2 freeX
    obtain ⟨mk2, td2, a, al, na, hY⟩ := yd_begin (y_classes := nI cc) (y_bodies := nI bc) (y_fault := y_fault) (y_made := nI mc) (y_peak := y_peak) (y_depth := nI (p + 1)) (y_waiting := nI (bs (p + 1))) (y_code := y_code) (y_has := 0) (y_got := y_got) (y_todos := y_todos) (y_marks := y_marks) (y_shown := -10000000000) (y_spoken := nI sp) (y_parent := y_parent) (y_fields := y_fields) (y_bound := y_bound) (y_kind := y_kind) (y_word := y_word) (y_size := y_size) (y_sort := y_sort) (y_number := y_number) (y_stands := y_stands) (y_keeps := y_keeps) (y_cells := y_cells) (y_globals := y_globals) (y_within := y_within) (y_foundIn := y_foundIn) (y_self := y_self) (y_args := y_args) (y_temps := y_temps) (y_param := y_param) (y_live := y_live) (y_work := y_work) (y_under := y_under) (y_at := y_at) (y_in := y_in) (y_phase := y_phase) (y_base := y_base) (y_goal := y_goal) (y_operands := y_operands) (y_marked := y_marked) (y_todo := y_todo) (y_heard := y_heard) (w := w) (st := st) (wt := bs (p + 1)) (-1) hs' hw rfl hbs.2 (fun k hk => hp_v_V (A.2.1 k hk)) (fun k hk => rn_opV A F hk) (rn_wl A F).2.1 A.2.2.2.2.1 (rn_freeY A F)
    obtain ⟨tb1, tb2, _⟩ := A.1.2.2.1.2.2.2.1 b hb1
    have nbs : ∀ z, (cl_r (gy_R y_globals y_operands (bs (p + 1)) y_work w) (gy_E y_sort y_keeps y_cells y_within y_self y_args y_temps y_param)) (32 + z) → σ z ≠ b' := fun z hz e => nb (by
      have := (P1 _ hz).2
      rw [hp_f2, e] at this
      exact this)
    have A' := msg_A (a := a) (b := b') (c := c) A P1 hc al bl na nb (fun i hi k hT => cl_root (Or.inl ⟨i, hi, hT⟩)) hr ha hb rr ra rb
    have F' := rn_act (a := a) (b := b') (r := 32 * b) (lv0 := 0) (ho0 := a) (xtk' := upd x_frameToken (fr_x y_kind fa ph p) (-1)) (xsg' := upd x_frameStage (fr_x y_kind fa ph p) (nI (ex_e (tk_nd y_kind y_word) (fa p)))) (xlk' := upd x_frameLink (fr_x y_kind fa ph p) (nI (σ (wk (w - 1))))) (xop' := mk_c x_operands (fr_x y_kind fa ph p * 3) 3 10000000000) (se' := vp_updL y_self a yr) (ST' := fun k => k < 32 ∧ cl_r (gy_R y_globals y_operands (bs (p + 1)) y_work w) (gy_E y_sort y_keeps y_cells y_within y_self y_args y_temps y_param) k) (SA1 := fun z => (cl_r (gy_R y_globals y_operands (bs (p + 1)) y_work w) (gy_E y_sort y_keeps y_cells y_within y_self y_args y_temps y_param)) (32 + z)) A F hp hk hw tb1 (fun i hi => (rn_wroot A F hi).1) (fun z hz => by
        rcases (P1 _ hz).1 with ⟨q, _⟩ | ⟨z', e, q⟩
        · omega
        · obtain rfl : z = z' := by omega
          exact q) (fun i hi => (rn_wroot A F hi).2.1) na nbs al bl tb2.symm (fun x y hy h => hp_v_to h fun k _ hT => ⟨⟨hT.1, by
          rcases hy with ⟨j, hj, rfl⟩ | ⟨i, hi, rfl⟩
          · exact cl_root (Or.inr (Or.inl ⟨j, by omega, hT⟩))
          · exact (rn_wroot A F hi).2.2 k hT⟩, rfl⟩) (fun z hz => pk_uLn hz) ⟨pk_us, pk_us, pk_us, fun i hi => mk_ci (by omega) (by omega)⟩ (fun R hR => ⟨pk_un (by omega), pk_un (by omega), pk_un (by omega), fun i hi => mk_co (by omega)⟩) rfl rfl rfl rfl rfl
    have n' := mu_beg TF w1 tb1 hs' n
    have ew : w + 1 - 1 = w := rfl
    have lt : fr_lt y_kind (tk_nd y_kind y_word) fa (nu ph p 100) (nu rt w (32 * b)) (p + 1) (32 * b) (w + 1 - 1) := ⟨fun e => by omega, fun q e => by
      obtain rfl : q = p := by omega
      rw [nu_s]
      exact ⟨fun _ => by rw [ew, nu_s], fun z => absurd rfl z⟩⟩
    have nt100 : ¬ fr_tail (y_kind (fa p)) 100 := fun z => by rcases z with ⟨_, z⟩ | ⟨_, z⟩ <;> omega
    have ex1 : fr_x y_kind fa (nu ph p 100) (p + 1) = fr_x y_kind fa ph p + 1 := by
      show fr_x y_kind fa (nu ph p 100) p + ct_b _ = _
      rw [fr_xc (fun s hs => ⟨rfl, nu_n (by omega)⟩), nu_s, ct_bt nt100]
    have ev : rn_Ev B M (nI cc, nI bc, nI dc, y_fault, nI mc, nI (fr_x y_kind fa (nu ph p 100) (p + 1)), nI (nu σ a b' (nu wk w a (w + 1 - 1))), nI (32 * b), x_inHand, 0, 100, nI (st + 1), nI (w + 1), bg_mx y_peak w, nI sp, nI t, y_parent, y_fields, y_bound, x_tokenKind, x_tokenValue, x_globals, x_thingShown, x_thingClass, x_thingFields, x_thingToken, x_thingMaker, vp_updL (vp_updL (vp_updL (mk_c x_variables (b' * 7) 7 10000000000) (b' * 7) (x_operands (fr_x y_kind fa ph p * 3))) (b' * 7 + 1) xa) (b' * 7 + 2) xb, upd x_homeOf b' (nI b'), upd x_within b' (-1), upd x_foundIn b' (nI c), upd x_baseFrame b' (nI (fr_x y_kind fa ph p)), upd x_frameToken (fr_x y_kind fa ph p) (-1), upd x_frameStage (fr_x y_kind fa ph p) (nI (ex_e (tk_nd y_kind y_word) (fa p))), upd x_frameLink (fr_x y_kind fa ph p) (nI (σ (wk (w - 1)))), mk_c x_operands (fr_x y_kind fa ph p * 3) 3 10000000000, y_heard, mk, td) (nI cc, nI bc, y_fault, nI mc, nI (w + 1), bg_mx y_peak w, nI (st + 1), nI (p + 1), nI (nu bs (p + 1) (bs p) (p + 1)), y_code, 1, 0, y_got, nI 0, nI (ct_n (fun k => mk2 k = 1) 32), -10000000000, nI sp, y_parent, y_fields, y_bound, y_kind, y_word, y_size, y_sort, y_number, y_stands, y_keeps, y_cells, y_globals, upd y_within a (-1), upd y_foundIn a (nI c), vp_updL y_self a yr, vp_updL (vp_updL y_args (2 * a) ya) (2 * a + 1) yb, mk_c y_temps (3 * a) 3 4294967296, vp_updL y_param a 4294967296, upd y_live a 1, upd y_work w (nI a), upd y_under w (nI (p + 1)), y_at, y_in, upd y_phase p 100, y_base, y_goal, y_operands, mk2, td2, y_heard) (32 * b) (nu wk w a (w + 1 - 1)) := ev_all A' F' tb1 lt n' hB
    rw [ew, nu_s, nu_s, nu_s, ex1] at ev
    obtain ⟨u1, v1, eX, eY, eR⟩ := ev
    refine ⟨u1, v1, tm + 1 + 1, by omega, fun PX k => xt_apply (by omega) (fun Q q => gX Q ?_) (xt_read (by omega) eX k), fun PY m k => YL_mono (yt_next (fun Q q => gY Q ?_) k) (by omega), eR⟩
    · have e7 : nI b' * (7 : Int32) + 0 = nI (b' * 7) := ix_r 7 b' 0
      have e71 : nI b' * (7 : Int32) + 1 = nI (b' * 7 + 1) := ix_r 7 b' 1
      unfold wX_sendMessage_85
      refine br_f (gx_m1 (by omega)) ?_
      rw [e12, ce12, hbd, e32]
      refine ⟨v12, hX _ (br_f (gx_m1 (by omega)) ?_)⟩
      rw [e7, e71, nI_1, nI_clamp (show b' * 7 < 2 ^ 31 by omega), nI_clamp (show b' * 7 + 1 < 2 ^ 31 by omega), nI_clamp (show b' * 7 + 1 + 1 < 2 ^ 31 by omega), nI_clamp (show b' < 2 ^ 31 by omega)]
      have vb : vp_in (nI b') 128 := vp_in_nI bl (by decide)
      exact ⟨vp_in_nI (by omega) (by decide), nm_e ⟨vp_in_nI (by omega) (by decide), nm_e ⟨vp_in_nI (by omega) (by decide), nm_e ⟨vb, nm_e ⟨vb, nm_e ⟨vb, nm_e q⟩⟩⟩⟩⟩⟩
    · have e2 : (2 : Int32) * nI a = nI (2 * a) := by rw [Int32.mul_comm, Nat.mul_comm]; exact pk_mul a 2
      have va : vp_in (nI a) 160 := vp_in_nI al (by decide)
      have vp : vp_in (nI p) 500 := vp_in_nI p5 (by decide)
      unfold wY_message_118
      refine br_t cpos (hY _ (br_t (nI_pos' (by omega)) ?_))
      rw [e2, nI_1, nI_clamp (show a < 2 ^ 31 by omega), nI_clamp (show 2 * a < 2 ^ 31 by omega), nI_clamp (show 2 * a + 1 < 2 ^ 31 by omega)]
      refine ⟨va, nm_e ⟨vp_in_nI (by omega) (by decide), nm_e ⟨vp_in_nI (by omega) (by decide), nm_e ⟨va, nm_e ?_⟩⟩⟩⟩
      unfold wpY_await
      dsimp only
      rw [nI_pred, pc, y4, e32']
      refine br_f (fun z => by have := (nI_eq (b := 0) (by omega) (by decide)).mp z; omega) ⟨vp, nm_e ⟨vp, nm_e (eY Q q)⟩⟩
end
