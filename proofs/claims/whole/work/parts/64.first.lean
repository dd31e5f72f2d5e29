/-! the first message of a run -/
theorem rt_1 {sh gl op : Nat → Int64} {bf : Nat → Int32} {g : Nat} (hg : g < 4) (h0 : op 0 = gl g) (h1 : ¬ 20000000000 ≤ op 1) (h2 : ¬ 20000000000 ≤ op 2) : gx_R sh gl op 0 bf = gx_R sh gl op (0 + 1) bf := by
  funext n
  refine propext ⟨fun h => ?_, fun h => ?_⟩
  · rcases h with h | ⟨i, i1, _⟩ | h
    · exact Or.inl h
    · omega
    · exact Or.inr (Or.inr h)
  · rcases h with h | ⟨i, i1, z⟩ | h
    · exact Or.inl h
    · rcases (show i = 0 ∨ i = 1 ∨ i = 2 by omega) with rfl | rfl | rfl
      · rw [h0] at z; exact Or.inl ⟨g, hg, z⟩
      · exact absurd z.2.1 h1
      · exact absurd z.2.1 h2
    · exact Or.inr (Or.inr h)
section
variable {x_classCount x_bodyCount x_draftCount x_wrongPlace x_madeCount x_frameCount x_current x_next x_mode x_outcome x_stepCount x_atWork x_mostAtWork x_saidCount x_pendingCount : Int32} {x_inHand : Int64} {x_classParent x_classFields x_bound x_tokenKind x_tokenValue x_thingClass x_thingToken x_thingMaker x_homeOf x_within x_foundIn x_baseFrame x_frameToken x_frameStage x_frameLink x_marked x_pending : Nat → Int32} {x_globals x_thingShown x_thingFields x_variables x_operands x_saidValues : Nat → Int64}
variable {y_classes y_bodies y_fault y_made y_working y_peak y_steps y_depth y_waiting y_code y_running y_has y_todos y_marks y_spoken : Int32} {y_got y_shown : Int64} {y_parent y_fields y_bound y_kind y_word y_size y_sort y_number y_stands y_keeps y_within y_foundIn y_live y_work y_under y_at y_in y_phase y_base y_goal y_marked y_todo : Nat → Int32} {y_cells y_globals y_self y_args y_temps y_param y_operands y_heard : Nat → Int64}
variable {cc bc dc mc st sp d w np md B M : Nat} {T ST SA : Nat → Prop} {lv τ σ lev ho fa ph bs ow gg wk un rt : Nat → Nat}
/-- the stack with the first activation alone -/
theorem fs_F {a b r : Nat} {ST' SA' : Nat → Prop} {xtk' xsg' xlk' awo' aun' : Nat → Int32} {xop' se' : Nat → Int64} (tr : T r) (hlv : lv r = 0) (hSA : SA' a) (xtk : xtk' 0 = -1) (xop : ∀ i, i < 3 → xop' i = 10000000000) (bf : ∀ c, c < 128 → x_baseFrame c = -1) (lz : ∀ c, c < 160 → y_live c = 0) (ywo : awo' 0 = nI a) (yun : aun' 0 = nI 0) :
    rn_F T ST' SA' lv (nu σ a b) (nu lev a 0) (nu ho a a) y_kind y_word (fun _ => 0) (fun _ => 0) (fun _ => 0) (fun _ => 0) (fun _ => 0) (fun _ => a) (fun _ => 0) (fun _ => r) 0 (0 + 1) y_sort y_number xtk' xsg' xlk' xop' (upd x_baseFrame b (nI 0)) y_operands se' y_at y_in y_phase y_base y_goal awo' aun' (upd y_live a 1) := by
  refine ⟨⟨by omega, by omega, rfl, rfl, fun p hp => by omega, ⟨fun _ => rfl, fun q e => by omega⟩, fun _ _ => tr, fun i hi => by omega⟩, ⟨fun p hp => by omega, fun i hi => ?_⟩, ⟨⟨xtk, xop⟩, fun p hp => by omega⟩, ⟨fun i hi => ?_, fun i j hi hj _ => by omega, fun c hc z => ?_, fun c hc => ?_⟩⟩
  · obtain rfl : i = 0 := by omega
    exact ⟨ywo, yun⟩
  · rw [nu_s, nu_s, pk_us, hlv]
    exact ⟨hSA, rfl, rfl⟩
  · by_cases e : c = b
    · subst e; exact ⟨0, by omega, by rw [nu_s]⟩
    · rw [pk_un e] at z
      exact absurd (bf c hc) z
  · by_cases e : c = a
    · subst e
      rw [pk_us]
      exact ⟨Or.inr rfl, fun _ => ⟨0, by omega, rfl⟩, fun _ => rfl⟩
    · rw [pk_un e, lz c hc]
      exact ⟨Or.inl rfl, fun z => absurd z (by decide), fun ⟨i, i1, i2⟩ => absurd i2.symm e⟩
theorem fs_msg {g s c : Nat} {yr ya yb : Int64} (A : rn_A cc bc dc mc T ST SA lv τ σ lev ho x_tokenKind x_tokenValue y_kind y_word y_size y_parent y_fields y_bound x_globals y_globals x_thingShown x_thingClass x_thingFields x_thingToken x_thingMaker x_variables x_homeOf x_within x_foundIn y_sort y_number y_stands y_keeps y_cells y_within y_foundIn y_self y_args y_temps y_param) (bf : ∀ c, c < 128 → x_baseFrame c = -1) (lz : ∀ c, c < 160 → y_live c = 0) (hg : g < 4) (o0 : x_operands 0 = x_globals g) (o1 : ¬ 20000000000 ≤ x_operands 1) (o2 : ¬ 20000000000 ≤ x_operands 2) (hs : s < 12) (hc : c < cc)
    (hr : y_globals g = yr) (ha : hp_v ST (hp_s y_sort y_number) (x_operands 1) ya) (hb : hp_v ST (hp_s y_sort y_number) (x_operands 2) yb) (hna : s < 4 → ya = 4294967296) (xt : x_frameToken 0 = -1) (hm : mc + 80000 ≤ B) (hB : B < 2 ^ 30) :
    ∃ u1 v1 t1, t1 ≤ 1 ∧ (∀ (PX : Int32 → SX → Prop) (Q : SX → Prop), (∀ u, XL PX 0 u → Q u) → XL PX t1 u1 → wpX_sendMessage Q (nI cc, nI bc, nI dc, y_fault, nI mc, nI (0 + 1), -1, 0, x_inHand, 0, 100, nI 0, nI 0, 0, nI 0, x_pendingCount, y_parent, y_fields, y_bound, x_tokenKind, x_tokenValue, x_globals, x_thingShown, x_thingClass, x_thingFields, x_thingToken, x_thingMaker, x_variables, x_homeOf, x_within, x_foundIn, x_baseFrame, x_frameToken, x_frameStage, x_frameLink, x_operands, y_heard, x_marked, x_pending) (nI s) (nI c)) ∧ (∀ (PY : Int32 → SY → Prop) (m : Nat) (Q : SY → Prop), (∀ u, YL PY m u → Q u) → YL PY m v1 → wpY_message Q (nI cc, nI bc, y_fault, nI mc, nI 0, 0, nI 0, nI 0, nI 0, y_code, 1, 0, y_got, y_todos, y_marks, -10000000000, nI 0, y_parent, y_fields, y_bound, y_kind, y_word, y_size, y_sort, y_number, y_stands, y_keeps, y_cells, y_globals, y_within, y_foundIn, y_self, y_args, y_temps, y_param, y_live, y_work, y_under, y_at, y_in, y_phase, y_base, y_goal, y_operands, y_marked, y_todo, y_heard) yr (nI c) (nI s) ya yb) ∧ (rn_E B u1 v1 ∨ rn_St B 79999 u1 v1) := by
  have cc10 := A.1.1.2.1
  have bc12 := A.1.2.1.1
  have hv0 : hp_v ST (hp_s y_sort y_number) (x_operands 0) yr := by rw [o0, ← hr]; exact A.2.1 g hg
  have nT : ∀ {x y : Int64} {k : Nat}, hp_v ST (hp_s y_sort y_number) x y → ¬ 20000000000 ≤ x → ¬ vv_T y k := fun h q z => by
    obtain ⟨sk, e⟩ := hp_vT h z
    obtain ⟨n, n1, n2⟩ := (A.2.2.1.1 _ sk).2.2.2.1
    exact q (by rw [e]; exact (hp_s_n n2 (by have := A.2.2.2.1.1; omega)).2)
  have eR := rt_1 (sh := x_thingShown) (bf := x_baseFrame) hg o0 o1 o2
  have P := hp_roots (fc := 0) (wt := 0) (wk := 0) (x_operands := x_operands) (y_operands := y_operands) (y_work := y_work) (x_baseFrame := x_baseFrame) A.2.2.2.1 A.2.2.1 A.2.1 (fun j hj => by omega) (fun i hi => by omega) (fun j hj => by omega) (fun b hb z => absurd (bf b hb) z)
  rw [eR] at P
  obtain ⟨P1, P2⟩ := P
  rcases msg_find (x_classCount := nI cc) (x_bodyCount := nI bc) (x_draftCount := nI dc) (x_wrongPlace := y_fault) (x_madeCount := nI mc) (x_current := -1) (x_next := 0) (x_inHand := x_inHand) (x_mode := 0) (x_outcome := 100) (x_stepCount := nI 0) (x_atWork := nI 0) (x_mostAtWork := 0) (x_saidCount := nI 0) (x_pendingCount := x_pendingCount) (x_classFields := y_fields) (x_tokenKind := x_tokenKind) (x_tokenValue := x_tokenValue) (x_globals := x_globals) (x_thingShown := x_thingShown) (x_thingClass := x_thingClass) (x_thingFields := x_thingFields) (x_thingToken := x_thingToken) (x_thingMaker := x_thingMaker) (x_variables := x_variables) (x_homeOf := x_homeOf) (x_within := x_within) (x_foundIn := x_foundIn) (x_baseFrame := x_baseFrame) (x_frameToken := x_frameToken) (x_frameStage := x_frameStage) (x_frameLink := x_frameLink) (x_operands := x_operands) (x_saidValues := y_heard) (x_marked := x_marked) (x_pending := x_pending) (y_classes := nI cc) (y_bodies := nI bc) (y_fault := y_fault) (y_made := nI mc) (y_working := nI 0) (y_peak := 0) (y_steps := nI 0) (y_depth := nI 0) (y_waiting := nI 0) (y_code := y_code) (y_running := 1) (y_has := 0) (y_got := y_got) (y_todos := y_todos) (y_marks := y_marks) (y_shown := -10000000000) (y_spoken := nI 0) (y_parent := y_parent) (y_fields := y_fields) (y_bound := y_bound) (y_kind := y_kind) (y_word := y_word) (y_size := y_size) (y_sort := y_sort) (y_number := y_number) (y_stands := y_stands) (y_keeps := y_keeps) (y_cells := y_cells) (y_globals := y_globals) (y_within := y_within) (y_foundIn := y_foundIn) (y_self := y_self) (y_args := y_args) (y_temps := y_temps) (y_param := y_param) (y_live := y_live) (y_work := y_work) (y_under := y_under) (y_at := y_at) (y_in := y_in) (y_phase := y_phase) (y_base := y_base) (y_goal := y_goal) (y_operands := y_operands) (y_marked := y_marked) (y_todo := y_todo) (y_heard := y_heard) A.2.2.2.1 A.2.2.1 A.1.1 A.1.2.1 (fc := 0) (l := nI c) (by decide) hs (Or.inr ⟨c, hc, rfl⟩) hv0 ha hb hna with ⟨fX, fY⟩ | ⟨c', b, s', xa, xb, ya', yb', hc', hb1, hs', hbd, hxa, hxb, ea, eb, mX, mY⟩
  · exact ⟨(nI cc, nI bc, nI dc, y_fault, nI mc, nI (0 + 1), -1, 0, x_inHand, 0, 1, nI 0, nI 0, 0, nI 0, x_pendingCount, y_parent, y_fields, y_bound, x_tokenKind, x_tokenValue, x_globals, x_thingShown, x_thingClass, x_thingFields, x_thingToken, x_thingMaker, x_variables, x_homeOf, x_within, x_foundIn, x_baseFrame, x_frameToken, x_frameStage, x_frameLink, x_operands, y_heard, x_marked, x_pending), (nI cc, nI bc, y_fault, nI mc, nI 0, 0, nI 0, nI 0, nI 0, 1, 0, 0, y_got, y_todos, y_marks, -10000000000, nI 0, y_parent, y_fields, y_bound, y_kind, y_word, y_size, y_sort, y_number, y_stands, y_keeps, y_cells, y_globals, y_within, y_foundIn, y_self, y_args, y_temps, y_param, y_live, y_work, y_under, y_at, y_in, y_phase, y_base, y_goal, y_operands, y_marked, y_todo, y_heard), 0, by omega, fun PX Q hQ k => fX Q (hQ _ k), fun PY m Q hQ k => fY Q (hQ _ k), Or.inl (rn_stop2 (w := 0) (st := 0) (sp := 0) A ⟨by omega, fun i hi => by omega, fun a ha => Or.inl (lz a ha)⟩ (by decide) (by decide) (by omega))⟩
  have e12 : nI c' * (12 : Int32) + nI s' = nI (c' * 12 + s') := ix_r 12 c' s'
  have ce12 : (nI (c' * 12 + s')).toNatClampNeg = c' * 12 + s' := nI_clamp (by omega)
  have v12 : vp_in (nI (c' * 12 + s')) 120 := vp_in_nI (by omega) (by decide)
  have e32 : nI b * (32 : Int32) = nI (32 * b) := by rw [Nat.mul_comm]; exact pk_mul b 32
  have e32' : (32 : Int32) * nI b = nI (32 * b) := by rw [Int32.mul_comm]; exact e32
  obtain ⟨mk, td, t, b', bl, nb, hX⟩ := xd_begin (x_classCount := nI cc) (x_bodyCount := nI bc) (x_draftCount := nI dc) (x_wrongPlace := y_fault) (x_madeCount := nI mc) (x_current := -1) (x_next := 0) (x_inHand := x_inHand) (x_mode := 0) (x_outcome := 100) (x_mostAtWork := 0) (x_saidCount := nI 0) (x_pendingCount := x_pendingCount) (x_classParent := y_parent) (x_classFields := y_fields) (x_bound := y_bound) (x_tokenKind := x_tokenKind) (x_tokenValue := x_tokenValue) (x_globals := x_globals) (x_thingShown := x_thingShown) (x_thingClass := x_thingClass) (x_thingFields := x_thingFields) (x_thingToken := x_thingToken) (x_thingMaker := x_thingMaker) (x_variables := x_variables) (x_homeOf := x_homeOf) (x_within := x_within) (x_foundIn := x_foundIn) (x_baseFrame := x_baseFrame) (x_frameToken := x_frameToken) (x_frameStage := x_frameStage) (x_frameLink := x_frameLink) (x_operands := x_operands) (x_saidValues := y_heard) (x_marked := x_marked) (x_pending := x_pending) (fc := 0) (w := 0) (st := 0) (nI (32 * b)) (by omega) (by omega) (by decide) A.2.2.2.2.2.1 A.2.2.2.2.2.2 (rn_freeX0 (wk := fun _ => 0) (w := 0) A ⟨P1, P2⟩ (fun i hi => by omega) (by omega))
  obtain ⟨mk2, td2, a, al, na, hY⟩ := yd_begin (y_classes := nI cc) (y_bodies := nI bc) (y_fault := y_fault) (y_made := nI mc) (y_peak := 0) (y_depth := nI 0) (y_waiting := nI 0) (y_code := y_code) (y_has := 0) (y_got := y_got) (y_todos := y_todos) (y_marks := y_marks) (y_shown := -10000000000) (y_spoken := nI 0) (y_parent := y_parent) (y_fields := y_fields) (y_bound := y_bound) (y_kind := y_kind) (y_word := y_word) (y_size := y_size) (y_sort := y_sort) (y_number := y_number) (y_stands := y_stands) (y_keeps := y_keeps) (y_cells := y_cells) (y_globals := y_globals) (y_within := y_within) (y_foundIn := y_foundIn) (y_self := y_self) (y_args := y_args) (y_temps := y_temps) (y_param := y_param) (y_live := y_live) (y_work := y_work) (y_under := y_under) (y_at := y_at) (y_in := y_in) (y_phase := y_phase) (y_base := y_base) (y_goal := y_goal) (y_operands := y_operands) (y_marked := y_marked) (y_todo := y_todo) (y_heard := y_heard) (w := 0) (st := 0) (wt := 0) (-1) (by omega) (by omega) rfl (by omega) (fun k hk => hp_v_V (A.2.1 k hk)) (fun k hk => by omega) (fun k hk => by omega) A.2.2.2.2.1 (rn_freeY0 (wk := fun _ => 0) (w := 0) A ⟨P1, P2⟩ (fun i hi => by omega) (by omega))
  obtain ⟨tb1, tb2, _⟩ := A.1.2.2.1.2.2.2.1 b hb1
  have A' := msg_A (a := a) (b := b') (c := c') A P1 hc' al bl na nb (fun i hi k hT => cl_root (Or.inl ⟨i, hi, hT⟩)) hv0 hxa hxb (fun k hT => cl_root (Or.inl ⟨g, hg, by rw [hr]; exact hT⟩)) (fun k hT => by
    rcases ea with rfl | ea
    · exact absurd hT (nT ha o1)
    · exact absurd hT (ea k)) (fun k hT => by
    rcases eb with rfl | rfl
    · exact absurd hT (nT hb o2)
    · exact absurd hT (nT ha o1))
  have F' := fs_F (a := a) (b := b') (r := 32 * b) (σ := σ) (lev := lev) (ho := ho) (y_kind := y_kind) (y_word := y_word) (y_sort := y_sort) (y_number := y_number) (y_operands := y_operands) (y_at := y_at) (y_in := y_in) (y_phase := y_phase) (y_base := y_base) (y_goal := y_goal) (ST' := fun k => k < 32 ∧ cl_r (gy_R y_globals y_operands 0 y_work 0) (gy_E y_sort y_keeps y_cells y_within y_self y_args y_temps y_param) k) (SA' := fun z => cl_r (gy_R y_globals y_operands 0 y_work 0) (gy_E y_sort y_keeps y_cells y_within y_self y_args y_temps y_param) (32 + z) ∨ z = a) (xtk' := upd x_frameToken 0 (-1)) (xsg' := upd x_frameStage 0 0) (xlk' := upd x_frameLink 0 (-1)) (xop' := mk_c x_operands (0 * 3) 3 10000000000) (se' := vp_updL y_self a yr) (awo' := upd y_work 0 (nI a)) (aun' := upd y_under 0 (nI 0)) tb1 tb2 (Or.inr rfl) pk_us (fun i hi => mk_ci (by omega) (by omega)) bf lz pk_us pk_us
  have n' : rn_n B (79999 + 1) mc (0 + 1) 0 (rn_mu (tk_nd y_kind y_word) (fun _ => 0) (fun _ => 0) (fun _ => 32 * b) (0 + 1) 0 (0 + 1) (32 * b) 0) := by
    have e := fr_en (rn_TF A) tb1
    unfold rn_mu rn_n
    show _ ∧ _ < 2 ^ 30 - (400 * (200 - (0 + 1)) + 0 + 10 * (ex_e (tk_nd y_kind y_word) (32 * b) - 32 * b) + 3 * 0 + 0) ∧ 400 * (200 - (0 + 1)) + 0 + 10 * (ex_e (tk_nd y_kind y_word) (32 * b) - 32 * b) + 3 * 0 + 0 < _ ∧ mc + (400 * (200 - (0 + 1)) + 0 + 10 * (ex_e (tk_nd y_kind y_word) (32 * b) - 32 * b) + 3 * 0 + 0) ≤ B
    omega
  have lt : fr_lt y_kind (tk_nd y_kind y_word) (fun _ => 0) (fun _ => 0) (fun _ => 32 * b) 0 (32 * b) (0 + 1 - 1) := ⟨fun _ => rfl, fun q e => by omega⟩
  have ev : rn_Ev B 79999 (nI cc, nI bc, nI dc, y_fault, nI mc, nI (0 + 1), nI (nu σ a b' a), nI (32 * b), x_inHand, 0, 100, nI (0 + 1), nI (0 + 1), bg_mx 0 0, nI 0, nI t, y_parent, y_fields, y_bound, x_tokenKind, x_tokenValue, x_globals, x_thingShown, x_thingClass, x_thingFields, x_thingToken, x_thingMaker, vp_updL (vp_updL (vp_updL (mk_c x_variables (b' * 7) 7 10000000000) (b' * 7) (x_operands 0)) (b' * 7 + 1) xa) (b' * 7 + 2) xb, upd x_homeOf b' (nI b'), upd x_within b' (-1), upd x_foundIn b' (nI c'), upd x_baseFrame b' (nI 0), upd x_frameToken 0 (-1), upd x_frameStage 0 0, upd x_frameLink 0 (-1), mk_c x_operands (0 * 3) 3 10000000000, y_heard, mk, td) (nI cc, nI bc, y_fault, nI mc, nI (0 + 1), bg_mx 0 0, nI (0 + 1), nI 0, nI 0, y_code, 1, 0, y_got, nI 0, nI (ct_n (fun k => mk2 k = 1) 32), -10000000000, nI 0, y_parent, y_fields, y_bound, y_kind, y_word, y_size, y_sort, y_number, y_stands, y_keeps, y_cells, y_globals, upd y_within a (-1), upd y_foundIn a (nI c'), vp_updL y_self a yr, vp_updL (vp_updL y_args (2 * a) ya') (2 * a + 1) yb', mk_c y_temps (3 * a) 3 4294967296, vp_updL y_param a 4294967296, upd y_live a 1, upd y_work 0 (nI a), upd y_under 0 (nI 0), y_at, y_in, y_phase, y_base, y_goal, y_operands, mk2, td2, y_heard) (32 * b) a := ev_all A' F' tb1 lt n' hB
  rw [nu_s] at ev
  obtain ⟨u1, v1, eX, eY, eE⟩ := ev
  refine ⟨u1, v1, 1, by omega, fun PX Q hQ k => mX Q ?_, fun PY m Q hQ k => mY Q ?_, eE⟩
  · have e7 : nI b' * (7 : Int32) + 0 = nI (b' * 7) := ix_r 7 b' 0
    have e71 : nI b' * (7 : Int32) + 1 = nI (b' * 7 + 1) := ix_r 7 b' 1
    unfold wX_sendMessage_85
    refine br_f (gx_m1 (by omega)) ?_
    rw [e12, ce12, hbd, e32]
    refine ⟨v12, hX _ (br_f (gx_m1 (by omega)) ?_)⟩
    rw [e7, e71, nI_1, nI_clamp (show b' * 7 < 2 ^ 31 by omega), nI_clamp (show b' * 7 + 1 < 2 ^ 31 by omega), nI_clamp (show b' * 7 + 1 + 1 < 2 ^ 31 by omega), nI_clamp (show b' < 2 ^ 31 by omega)]
    have vb : vp_in (nI b') 128 := vp_in_nI bl (by decide)
    exact ⟨vp_in_nI (by omega) (by decide), nm_e ⟨vp_in_nI (by omega) (by decide), nm_e ⟨vp_in_nI (by omega) (by decide), nm_e ⟨vb, nm_e ⟨vb, nm_e ⟨vb, nm_e (hQ _ (xt_read (by omega) eX k))⟩⟩⟩⟩⟩⟩
  · have e2 : (2 : Int32) * nI a = nI (2 * a) := by rw [Int32.mul_comm, Nat.mul_comm]; exact pk_mul a 2
    have va : vp_in (nI a) 160 := vp_in_nI al (by decide)
    unfold wY_message_118
    refine br_t (nI_pos' (by omega)) (hY _ (br_t (nI_pos' (by omega)) ?_))
    rw [e2, nI_1, nI_clamp (show a < 2 ^ 31 by omega), nI_clamp (show 2 * a < 2 ^ 31 by omega), nI_clamp (show 2 * a + 1 < 2 ^ 31 by omega)]
    refine ⟨va, nm_e ⟨vp_in_nI (by omega) (by decide), nm_e ⟨vp_in_nI (by omega) (by decide), nm_e ⟨va, nm_e ?_⟩⟩⟩⟩
    unfold wpY_await
    dsimp only
    rw [e32']
    exact br_t rfl (eY Q (hQ _ k))
theorem fs_go {k g s : Nat} {ya yb : Int64} (A : rn_A cc bc dc mc T ST SA lv τ σ lev ho x_tokenKind x_tokenValue y_kind y_word y_size y_parent y_fields y_bound x_globals y_globals x_thingShown x_thingClass x_thingFields x_thingToken x_thingMaker x_variables x_homeOf x_within x_foundIn y_sort y_number y_stands y_keeps y_cells y_within y_foundIn y_self y_args y_temps y_param) (bf : ∀ c, c < 128 → x_baseFrame c = -1) (lz : ∀ c, c < 160 → y_live c = 0) (hg : g < 4) (o0 : x_operands 0 = x_globals g) (o1 : ¬ 20000000000 ≤ x_operands 1) (o2 : ¬ 20000000000 ≤ x_operands 2) (hs : s < 12)
    (ha : hp_v ST (hp_s y_sort y_number) (x_operands 1) ya) (hb : hp_v ST (hp_s y_sort y_number) (x_operands 2) yb) (hna : s < 4 → ya = 4294967296) (xt : x_frameToken 0 = -1) (hm : mc ≤ 20000 * k) (hk : k + 5 ≤ 2560) :
    ∃ r u2, (∀ PX : Int32 → SX → Prop, PX r u2 → wX_send_69 PX (nI s) (nI g) (nI cc) (nI bc) (nI dc) y_fault (nI mc) (nI (0 + 1)) (-1) 0 x_inHand 0 100 (nI 0) (nI 0) 0 (nI 0) x_pendingCount y_parent y_fields y_bound x_tokenKind x_tokenValue x_globals x_thingShown x_thingClass x_thingFields x_thingToken x_thingMaker x_variables x_homeOf x_within x_foundIn x_baseFrame x_frameToken x_frameStage x_frameLink x_operands y_heard x_marked x_pending) ∧ (∀ (PY : Int32 → SY → Prop) (K : Int32 → Prop), (∀ r6, wY_send_107 PY (nI s) (nI g) r6 ya yb (nI cc) (nI bc) y_fault (nI mc) (nI 0) 0 (nI 0) (nI 0) (nI 0) y_code 1 0 y_got y_todos y_marks (-10000000000) (nI 0) y_parent y_fields y_bound y_kind y_word y_size y_sort y_number y_stands y_keeps y_cells y_globals y_within y_foundIn y_self y_args y_temps y_param y_live y_work y_under y_at y_in y_phase y_base y_goal y_operands y_marked y_todo y_heard → K r6) → (∀ v', i_Rel (k + 5) u2 v' → PY r v') → wpY_classOf K (nI cc, nI bc, y_fault, nI mc, nI 0, 0, nI 0, nI 0, nI 0, y_code, 1, 0, y_got, y_todos, y_marks, -10000000000, nI 0, y_parent, y_fields, y_bound, y_kind, y_word, y_size, y_sort, y_number, y_stands, y_keeps, y_cells, y_globals, y_within, y_foundIn, y_self, y_args, y_temps, y_param, y_live, y_work, y_under, y_at, y_in, y_phase, y_base, y_goal, y_operands, y_marked, y_todo, y_heard) (y_globals g)) := by
  have hB : mc + 80000 < 2 ^ 30 := by omega
  obtain ⟨c, hc, cX, cY⟩ := xv_class (x_classCount := nI cc) (x_bodyCount := nI bc) (x_draftCount := nI dc) (x_wrongPlace := y_fault) (x_madeCount := nI mc) (x_frameCount := nI (0 + 1)) (x_current := -1) (x_next := 0) (x_inHand := x_inHand) (x_mode := 0) (x_outcome := 100) (x_stepCount := nI 0) (x_atWork := nI 0) (x_mostAtWork := 0) (x_saidCount := nI 0) (x_pendingCount := x_pendingCount) (x_classParent := y_parent) (x_classFields := y_fields) (x_bound := y_bound) (x_tokenKind := x_tokenKind) (x_tokenValue := x_tokenValue) (x_globals := x_globals) (x_thingShown := x_thingShown) (x_thingClass := x_thingClass) (x_thingFields := x_thingFields) (x_thingToken := x_thingToken) (x_thingMaker := x_thingMaker) (x_variables := x_variables) (x_homeOf := x_homeOf) (x_within := x_within) (x_foundIn := x_foundIn) (x_baseFrame := x_baseFrame) (x_frameToken := x_frameToken) (x_frameStage := x_frameStage) (x_frameLink := x_frameLink) (x_operands := x_operands) (x_saidValues := y_heard) (x_marked := x_marked) (x_pending := x_pending) (y_classes := nI cc) (y_bodies := nI bc) (y_fault := y_fault) (y_made := nI mc) (y_working := nI 0) (y_peak := 0) (y_steps := nI 0) (y_depth := nI 0) (y_waiting := nI 0) (y_code := y_code) (y_running := 1) (y_has := 0) (y_got := y_got) (y_todos := y_todos) (y_marks := y_marks) (y_shown := -10000000000) (y_spoken := nI 0) (y_parent := y_parent) (y_fields := y_fields) (y_bound := y_bound) (y_kind := y_kind) (y_word := y_word) (y_size := y_size) (y_sort := y_sort) (y_number := y_number) (y_stands := y_stands) (y_keeps := y_keeps) (y_cells := y_cells) (y_globals := y_globals) (y_within := y_within) (y_foundIn := y_foundIn) (y_self := y_self) (y_args := y_args) (y_temps := y_temps) (y_param := y_param) (y_live := y_live) (y_work := y_work) (y_under := y_under) (y_at := y_at) (y_in := y_in) (y_phase := y_phase) (y_base := y_base) (y_goal := y_goal) (y_operands := y_operands) (y_marked := y_marked) (y_todo := y_todo) (y_heard := y_heard) A.2.2.2.1 A.2.2.1 A.1.1.1 (A.2.1 g hg)
  obtain ⟨u1, v1, t1, t1l, fX, fY, fE⟩ := fs_msg (B := mc + 80000) (x_frameStage := x_frameStage) (x_frameLink := x_frameLink) (x_pendingCount := x_pendingCount) (x_marked := x_marked) (x_pending := x_pending) (x_inHand := x_inHand) (y_code := y_code) (y_got := y_got) (y_todos := y_todos) (y_marks := y_marks) (y_marked := y_marked) (y_todo := y_todo) (y_fault := y_fault) (y_heard := y_heard) (y_operands := y_operands) (y_work := y_work) (y_under := y_under) (y_at := y_at) (y_in := y_in) (y_phase := y_phase) (y_base := y_base) (y_goal := y_goal) A bf lz hg o0 o1 o2 hs hc rfl ha hb hna xt (Nat.le_refl _) hB
  have fin : ∃ u' v' t', t' ≤ 1000000 ∧ rn_E (mc + 80000) u' v' ∧ (∀ PX, XL PX t' u' → XL PX t1 u1) ∧ (∀ PY, YL PY 0 v' → YL PY (2 * 79999) v1) := by
    rcases fE with e | s
    · exact ⟨u1, v1, t1, by omega, e, fun _ q => q, fun PY q => YL_mono q (by omega)⟩
    · exact rn_main (rn_step hB) 79999 t1 u1 v1 (by omega) s
  obtain ⟨u', v', t', t'l, e', hX, hY⟩ := fin
  obtain ⟨r, u2, gX, gY⟩ := rn_fin (k := k) t'l (by omega) e'
  refine ⟨r, u2, fun PX q => ?_, fun PY K hK q => cY K (hK _ ?_)⟩
  · unfold wX_send_69
    rw [nI_clamp (show g < 2 ^ 31 by omega)]
    refine ⟨vp_in_nI hg (by decide), cX _ (fX PX _ (fun u h => ?_) (hX PX (gX PX q)))⟩
    obtain ⟨x_classCount, x_bodyCount, x_draftCount, x_wrongPlace, x_madeCount, x_frameCount, x_current, x_next, x_inHand, x_mode, x_outcome, x_stepCount, x_atWork, x_mostAtWork, x_saidCount, x_pendingCount, x_classParent, x_classFields, x_bound, x_tokenKind, x_tokenValue, x_globals, x_thingShown, x_thingClass, x_thingFields, x_thingToken, x_thingMaker, x_variables, x_homeOf, x_within, x_foundIn, x_baseFrame, x_frameToken, x_frameStage, x_frameLink, x_operands, x_saidValues, x_marked, x_pending⟩ := u
    exact ⟨1000001, h 1000001 (by omega)⟩
  · unfold wY_send_107
    rw [nI_clamp (show g < 2 ^ 31 by omega)]
    refine ⟨vp_in_nI hg (by decide), fY PY (2 * 79999) _ (fun u h => ?_) (hY PY (gY PY q))⟩
    obtain ⟨y_classes, y_bodies, y_fault, y_made, y_working, y_peak, y_steps, y_depth, y_waiting, y_code, y_running, y_has, y_got, y_todos, y_marks, y_shown, y_spoken, y_parent, y_fields, y_bound, y_kind, y_word, y_size, y_sort, y_number, y_stands, y_keeps, y_cells, y_globals, y_within, y_foundIn, y_self, y_args, y_temps, y_param, y_live, y_work, y_under, y_at, y_in, y_phase, y_base, y_goal, y_operands, y_marked, y_todo, y_heard⟩ := u
    exact ⟨2 * 79999 + 1, h (2 * 79999 + 1) (by omega)⟩
end
theorem dv_4 (s : Nat) (hs : s < 12) : ((nI s / 4 ≤ 0) ↔ s < 4) ∧ ((nI s / 4 ≤ 1) ↔ s < 8) := by
  have e : nI s / 4 = nI (s / 4) := pk_div (d := 4) (by omega) (by omega) (by omega)
  rw [e]
  refine ⟨⟨fun h => Classical.byContradiction fun z => ?_, fun h => nI_le (b := 0) (by omega) (by decide)⟩, ⟨fun h => Classical.byContradiction fun z => ?_, fun h => nI_le (b := 1) (by omega) (by decide)⟩⟩
  · exact nI_ge (a := 0) (b := s / 4) (by omega) (by omega) h
  · exact nI_ge (a := 1) (b := s / 4) (by omega) (by omega) h
theorem i_vc_send {k : Nat} {u : SX} {v : SY} (I : i_Rel k u v) (hk : k + 5 ≤ 2560) (v1 : Int32) (v2 : Int32) (v3 : Int32) (v4 : Int32) : wpX_send (fun r u' => wpY_send (fun r' v' => r' = r ∧ i_Rel (k + 5) u' v') v v1 v2 v3 v4) u v1 v2 v3 v4 := by
  have J := i_up I
  obtain ⟨x_classCount, x_bodyCount, x_draftCount, x_wrongPlace, x_madeCount, x_frameCount, x_current, x_next, x_inHand, x_mode, x_outcome, x_stepCount, x_atWork, x_mostAtWork, x_saidCount, x_pendingCount, x_classParent, x_classFields, x_bound, x_tokenKind, x_tokenValue, x_globals, x_thingShown, x_thingClass, x_thingFields, x_thingToken, x_thingMaker, x_variables, x_homeOf, x_within, x_foundIn, x_baseFrame, x_frameToken, x_frameStage, x_frameLink, x_operands, x_saidValues, x_marked, x_pending⟩ := u
  obtain ⟨y_classes, y_bodies, y_fault, y_made, y_working, y_peak, y_steps, y_depth, y_waiting, y_code, y_running, y_has, y_got, y_todos, y_marks, y_shown, y_spoken, y_parent, y_fields, y_bound, y_kind, y_word, y_size, y_sort, y_number, y_stands, y_keeps, y_cells, y_globals, y_within, y_foundIn, y_self, y_args, y_temps, y_param, y_live, y_work, y_under, y_at, y_in, y_phase, y_base, y_goal, y_operands, y_marked, y_todo, y_heard⟩ := v
  obtain ⟨cc, bc, dc, mc, T, ST, SA, lv, τ, σ, lev, ho, ⟨rfl, rfl, rfl, rfl, rfl, rfl, rfl, rfl, rfl, rfl, rfl, rfl, rfl, rfl, rfl⟩, ⟨rfl, rfl, rfl, rfl⟩, h3, tt, mcl, gl, ⟨H, U, Y, X⟩, bf, lz⟩ := I
  rcases pk_ix v1 (n := 12) (by decide) with h | h | ⟨s, hs, rfl⟩
  · exact br_t h (br_t rfl (br_t h (br_t rfl ⟨rfl, J⟩)))
  · have h0 : ¬ v1 < 0 := Int32.not_lt.mpr (Int32.le_trans (by decide) h)
    exact br_f h0 (br_t h (br_t rfl (br_f h0 (br_t h (br_t rfl ⟨rfl, J⟩)))))
  have s0 : ¬ nI s < 0 := nI_pos (by omega)
  have s12 : ¬ (12 : Int32) ≤ nI s := nI_ge (b := 12) hs (by decide)
  rcases pk_ix v2 (n := 4) (by decide) with h | h | ⟨g, hg, rfl⟩
  · exact br_f s0 (br_f s12 (br_f (by decide) (br_t h (br_t rfl (br_f s0 (br_f s12 (br_f (by decide) (br_t h (br_t rfl ⟨rfl, J⟩)))))))))
  · have h0 : ¬ v2 < 0 := Int32.not_lt.mpr (Int32.le_trans (by decide) h)
    exact br_f s0 (br_f s12 (br_f (by decide) (br_f h0 (br_t h (br_t rfl (br_f s0 (br_f s12 (br_f (by decide) (br_f h0 (br_t h (br_t rfl ⟨rfl, J⟩)))))))))))
  have g0 : ¬ nI g < 0 := nI_pos (by omega)
  have g4 : ¬ (4 : Int32) ≤ nI g := nI_ge (b := 4) hg (by decide)
  have vg : vp_in (nI g) 4 := vp_in_nI hg (by decide)
  have gc : (nI g).toNatClampNeg = g := nI_clamp (by omega)
  have d4 : ¬ (4 : Int32) = 0 := by decide
  obtain ⟨dv0, dv1⟩ := dv_4 s hs
  refine br_f s0 (br_f s12 (br_f (by decide) (br_f g0 (br_f g4 (br_f (by decide) ?_)))))
  unfold wpX_startRun
  dsimp only
  refine xw_push (fc := 0) (by decide) ?_
  dsimp only
  rw [gc]
  refine ⟨vg, nm_e ⟨d4, ?_⟩⟩
  have m1 : mk_c x_operands (0 * 3) 3 10000000000 1 = 10000000000 := mk_ci (by omega) (by omega)
  have m2 : mk_c x_operands (0 * 3) 3 10000000000 2 = 10000000000 := mk_ci (by omega) (by omega)
  have e1 : vp_updL (mk_c x_operands (0 * 3) 3 10000000000) 0 (x_globals g) 1 = 10000000000 := by rw [pk_uLn (by omega)]; exact m1
  have e2 : vp_updL (mk_c x_operands (0 * 3) 3 10000000000) 0 (x_globals g) 2 = 10000000000 := by rw [pk_uLn (by omega)]; exact m2
  rcases (show s < 4 ∨ (4 ≤ s ∧ s < 8) ∨ 8 ≤ s by omega) with z | ⟨z, z'⟩ | z
  · obtain ⟨r, u2, gX, gY⟩ := fs_go (k := k) (g := g) (s := s) (ya := 4294967296) (yb := 4294967296) (x_frameToken := upd x_frameToken 0 (-1)) (x_frameStage := upd x_frameStage 0 0) (x_frameLink := upd x_frameLink 0 (-1)) (x_operands := vp_updL (mk_c x_operands (0 * 3) 3 10000000000) 0 (x_globals g)) (x_inHand := x_inHand) (x_pendingCount := x_pendingCount) (x_marked := x_marked) (x_pending := x_pending) (y_code := y_code) (y_got := y_got) (y_todos := y_todos) (y_marks := y_marks) (y_marked := y_marked) (y_todo := y_todo) (y_fault := y_fault) (y_heard := y_heard) (y_operands := y_operands) (y_work := y_work) (y_under := y_under) (y_at := y_at) (y_in := y_in) (y_phase := y_phase) (y_base := y_base) (y_goal := y_goal) ⟨tt, gl, H, U, Y, X⟩ bf lz hg pk_uLs (by rw [e1]; exact hp_NIL) (by rw [e2]; exact hp_NIL) hs (by rw [e1]; exact hp_nil) (by rw [e2]; exact hp_nil) (fun _ => rfl) pk_us mcl hk
    refine br_t (dv0.mpr z) ?_
    unfold wX_send_53
    refine ⟨d4, br_t (dv1.mpr (by omega)) (gX _ ?_)⟩
    refine br_f s0 (br_f s12 (br_f (by decide) (br_f g0 (br_f g4 (br_f (by decide) ⟨vg, ?_⟩)))))
    rw [gc]
    refine gY (fun r' v' => r' = r ∧ i_Rel (k + 5) u2 v') _ (fun r6 h => br_t (nI_le (b := 3) (by omega) (by decide)) ?_) (fun v' h => ⟨rfl, h⟩)
    unfold wY_send_88
    exact br_t (nI_le (b := 7) (by omega) (by decide)) h
  · have q1 : vp_updL (vp_updL (mk_c x_operands (0 * 3) 3 10000000000) 0 (x_globals g)) 1 v3.toInt64 1 = v3.toInt64 := pk_uLs
    have q2 : vp_updL (vp_updL (mk_c x_operands (0 * 3) 3 10000000000) 0 (x_globals g)) 1 v3.toInt64 2 = 10000000000 := by rw [pk_uLn (by omega)]; exact e2
    obtain ⟨r, u2, gX, gY⟩ := fs_go (k := k) (g := g) (s := s) (ya := lN v3.toBitVec.toNat) (yb := 4294967296) (x_frameToken := upd x_frameToken 0 (-1)) (x_frameStage := upd x_frameStage 0 0) (x_frameLink := upd x_frameLink 0 (-1)) (x_operands := vp_updL (vp_updL (mk_c x_operands (0 * 3) 3 10000000000) 0 (x_globals g)) 1 v3.toInt64) (x_inHand := x_inHand) (x_pendingCount := x_pendingCount) (x_marked := x_marked) (x_pending := x_pending) (y_code := y_code) (y_got := y_got) (y_todos := y_todos) (y_marks := y_marks) (y_marked := y_marked) (y_todo := y_todo) (y_fault := y_fault) (y_heard := y_heard) (y_operands := y_operands) (y_work := y_work) (y_under := y_under) (y_at := y_at) (y_in := y_in) (y_phase := y_phase) (y_base := y_base) (y_goal := y_goal) ⟨tt, gl, H, U, Y, X⟩ bf lz hg (by rw [pk_uLn (by omega)]; exact pk_uLs) (by rw [q1]; exact hp_int v3) (by rw [q2]; exact hp_NIL) hs (by rw [q1]; exact hp_vint v3) (by rw [q2]; exact hp_nil) (fun q => by omega) pk_us mcl hk
    refine br_f (fun q => by have := dv0.mp q; omega) (nm_e ?_)
    unfold wX_send_53
    refine ⟨d4, br_t (dv1.mpr (by omega)) (gX _ ?_)⟩
    refine br_f s0 (br_f s12 (br_f (by decide) (br_f g0 (br_f g4 (br_f (by decide) ⟨vg, ?_⟩)))))
    rw [gc]
    refine gY (fun r' v' => r' = r ∧ i_Rel (k + 5) u2 v') _ (fun r6 h => br_f (nI_ge (a := 3) (b := s) (by omega) (by omega)) ?_) (fun v' h => ⟨rfl, h⟩)
    unfold wpY_ofInt
    rw [vv_w]
    unfold wY_send_88
    exact br_t (nI_le (b := 7) (by omega) (by decide)) h
  · have q1 : vp_updL (vp_updL (vp_updL (mk_c x_operands (0 * 3) 3 10000000000) 0 (x_globals g)) 1 v3.toInt64) 2 v4.toInt64 1 = v3.toInt64 := by rw [pk_uLn (by omega)]; exact pk_uLs
    have q2 : vp_updL (vp_updL (vp_updL (mk_c x_operands (0 * 3) 3 10000000000) 0 (x_globals g)) 1 v3.toInt64) 2 v4.toInt64 2 = v4.toInt64 := pk_uLs
    obtain ⟨r, u2, gX, gY⟩ := fs_go (k := k) (g := g) (s := s) (ya := lN v3.toBitVec.toNat) (yb := lN v4.toBitVec.toNat) (x_frameToken := upd x_frameToken 0 (-1)) (x_frameStage := upd x_frameStage 0 0) (x_frameLink := upd x_frameLink 0 (-1)) (x_operands := vp_updL (vp_updL (vp_updL (mk_c x_operands (0 * 3) 3 10000000000) 0 (x_globals g)) 1 v3.toInt64) 2 v4.toInt64) (x_inHand := x_inHand) (x_pendingCount := x_pendingCount) (x_marked := x_marked) (x_pending := x_pending) (y_code := y_code) (y_got := y_got) (y_todos := y_todos) (y_marks := y_marks) (y_marked := y_marked) (y_todo := y_todo) (y_fault := y_fault) (y_heard := y_heard) (y_operands := y_operands) (y_work := y_work) (y_under := y_under) (y_at := y_at) (y_in := y_in) (y_phase := y_phase) (y_base := y_base) (y_goal := y_goal) ⟨tt, gl, H, U, Y, X⟩ bf lz hg (by rw [pk_uLn (by omega), pk_uLn (by omega)]; exact pk_uLs) (by rw [q1]; exact hp_int v3) (by rw [q2]; exact hp_int v4) hs (by rw [q1]; exact hp_vint v3) (by rw [q2]; exact hp_vint v4) (fun q => by omega) pk_us mcl hk
    refine br_f (fun q => by have := dv0.mp q; omega) (nm_e ?_)
    unfold wX_send_53
    refine ⟨d4, br_f (fun q => by have := dv1.mp q; omega) (nm_e (gX _ ?_))⟩
    refine br_f s0 (br_f s12 (br_f (by decide) (br_f g0 (br_f g4 (br_f (by decide) ⟨vg, ?_⟩)))))
    rw [gc]
    refine gY (fun r' v' => r' = r ∧ i_Rel (k + 5) u2 v') _ (fun r6 h => br_f (nI_ge (a := 3) (b := s) (by omega) (by omega)) ?_) (fun v' h => ⟨rfl, h⟩)
    unfold wpY_ofInt
    rw [vv_w]
    unfold wY_send_88
    refine br_f (nI_ge (a := 7) (b := s) (by omega) (by omega)) ?_
    unfold wpY_ofInt
    rw [vv_w]
    exact h
