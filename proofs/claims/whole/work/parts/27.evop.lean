/-! working out an operator: it is opened -/
theorem fr_sumc {f g : Nat → Nat} : ∀ {n : Nat}, (∀ i, i < n → f i = g i) → fr_sum f n = fr_sum g n
  | 0, _ => rfl
  | n + 1, h => by
    show fr_sum f n + f n = fr_sum g n + g n
    rw [fr_sumc (n := n) (fun i hi => h i (by omega)), h n (by omega)]
def fr_op (kn : Nat) : Prop := kn = 5 ∨ kn = 7 ∨ kn = 9 ∨ kn = 10 ∨ kn = 11 ∨ kn = 14 ∨ kn = 15 ∨ kn = 16 ∨ kn = 17 ∨ kn = 18 ∨ kn = 19 ∨ kn = 20 ∨ kn = 21 ∨ kn = 22 ∨ kn = 23 ∨ kn = 24 ∨ kn = 26 ∨ kn = 27 ∨ kn = 29
theorem fr_opb {kn : Nat} (h : fr_op kn) : kn < 30 := by
  rcases h with h | h | h | h | h | h | h | h | h | h | h | h | h | h | h | h | h | h | h <;> omega
theorem fr_opok {kn n : Nat} (h : fr_op kn) : fr_ok (nI kn) n 0 := by
  rcases h with rfl | rfl | rfl | rfl | rfl | rfl | rfl | rfl | rfl | rfl | rfl | rfl | rfl | rfl | rfl | rfl | rfl | rfl | rfl
  all_goals first
    | exact Or.inr (Or.inr (Or.inr (Or.inr (Or.inr ⟨by unfold fr_gen; decide, Nat.zero_le _⟩))))
    | exact Or.inr (Or.inl ⟨rfl, by omega⟩)
    | exact Or.inr (Or.inr (Or.inl ⟨rfl, by omega⟩))
    | exact Or.inr (Or.inr (Or.inr (Or.inl ⟨rfl, by omega⟩)))
    | exact Or.inr (Or.inr (Or.inr (Or.inr (Or.inl ⟨rfl, by omega⟩))))
section
variable {x_classCount x_bodyCount x_draftCount x_wrongPlace x_madeCount x_frameCount x_current x_next x_mode x_outcome x_stepCount x_atWork x_mostAtWork x_saidCount x_pendingCount : Int32} {x_inHand : Int64} {x_classParent x_classFields x_bound x_tokenKind x_tokenValue x_thingClass x_thingToken x_thingMaker x_homeOf x_within x_foundIn x_baseFrame x_frameToken x_frameStage x_frameLink x_marked x_pending : Nat → Int32} {x_globals x_thingShown x_thingFields x_variables x_operands x_saidValues : Nat → Int64}
variable {y_classes y_bodies y_fault y_made y_working y_peak y_steps y_depth y_waiting y_code y_running y_has y_todos y_marks y_spoken : Int32} {y_got y_shown : Int64} {y_parent y_fields y_bound y_kind y_word y_size y_sort y_number y_stands y_keeps y_within y_foundIn y_live y_work y_under y_at y_in y_phase y_base y_goal y_marked y_todo : Nat → Int32} {y_cells y_globals y_self y_args y_temps y_param y_operands y_heard : Nat → Int64}
variable {cc bc dc mc st sp d w np md B M : Nat} {T ST SA : Nat → Prop} {lv τ σ lev ho fa ph bs ow gg wk un rt : Nat → Nat}
theorem rn_frm (A : rn_A cc bc dc mc T ST SA lv τ σ lev ho x_tokenKind x_tokenValue y_kind y_word y_size y_parent y_fields y_bound x_globals y_globals x_thingShown x_thingClass x_thingFields x_thingToken x_thingMaker x_variables x_homeOf x_within x_foundIn y_sort y_number y_stands y_keeps y_cells y_within y_foundIn y_self y_args y_temps y_param) (F : rn_F T ST SA lv σ lev ho y_kind y_word fa ph bs ow gg wk un rt d w y_sort y_number x_frameToken x_frameStage x_frameLink x_operands x_baseFrame y_operands y_self y_at y_in y_phase y_base y_goal y_work y_under y_live) {t : Nat} (tt : T t) (lt : fr_lt y_kind (tk_nd y_kind y_word) fa ph rt d t (w - 1)) : fr_x y_kind fa ph d < 385 := by
  obtain ⟨_, _, d3, _⟩ := rn_le A F tt lt
  have := (fr_xle (K := y_kind) (fa := fa) (ph := ph) d).1
  omega
theorem ev_368 (A : rn_A cc bc dc mc T ST SA lv τ σ lev ho x_tokenKind x_tokenValue y_kind y_word y_size y_parent y_fields y_bound x_globals y_globals x_thingShown x_thingClass x_thingFields x_thingToken x_thingMaker x_variables x_homeOf x_within x_foundIn y_sort y_number y_stands y_keeps y_cells y_within y_foundIn y_self y_args y_temps y_param) (F : rn_F T ST SA lv σ lev ho y_kind y_word fa ph bs ow gg wk un rt d w y_sort y_number x_frameToken x_frameStage x_frameLink x_operands x_baseFrame y_operands y_self y_at y_in y_phase y_base y_goal y_work y_under y_live) {t : Nat} (ht : t < 416) {kn : Nat} (hk : fr_op kn) (ek : y_kind t = nI kn) {Q : SY → Prop} (h : wY_evaluate_368 Q (nI t) (nI (wk (w - 1))) (nI cc) (nI bc) y_fault (nI mc) (nI w) y_peak (nI st) (nI d) (nI (bs d)) y_code 1 0 y_got y_todos y_marks (-10000000000) (nI sp) y_parent y_fields y_bound y_kind y_word y_size y_sort y_number y_stands y_keeps y_cells y_globals y_within y_foundIn y_self y_args y_temps y_param y_live y_work y_under y_at y_in y_phase y_base y_goal y_operands y_marked y_todo y_heard) : wpY_evaluate Q (nI cc, nI bc, y_fault, nI mc, nI w, y_peak, nI st, nI d, nI (bs d), y_code, 1, 0, y_got, y_todos, y_marks, -10000000000, nI sp, y_parent, y_fields, y_bound, y_kind, y_word, y_size, y_sort, y_number, y_stands, y_keeps, y_cells, y_globals, y_within, y_foundIn, y_self, y_args, y_temps, y_param, y_live, y_work, y_under, y_at, y_in, y_phase, y_base, y_goal, y_operands, y_marked, y_todo, y_heard) (nI t) (nI (wk (w - 1))) := by
  have goY : ∀ Q : SY → Prop, (∀ k : Int32, k = y_kind t → _) → wpY_evaluate Q (nI cc, nI bc, y_fault, nI mc, nI w, y_peak, nI st, nI d, nI (bs d), y_code, 1, 0, y_got, y_todos, y_marks, -10000000000, nI sp, y_parent, y_fields, y_bound, y_kind, y_word, y_size, y_sort, y_number, y_stands, y_keeps, y_cells, y_globals, y_within, y_foundIn, y_self, y_args, y_temps, y_param, y_live, y_work, y_under, y_at, y_in, y_phase, y_base, y_goal, y_operands, y_marked, y_todo, y_heard) (nI t) (nI (wk (w - 1))) := fun Q h => by
    have vt : vp_in (nI t) 416 := vp_in_nI (by omega) (by decide)
    unfold wpY_evaluate
    dsimp only
    rw [nI_clamp (show t < 2 ^ 31 by omega)]
    exact ⟨vt, nm_e (yw_home A.2.2.1 (rn_cur A F).1 ⟨vt, h⟩)⟩
  refine goY Q (nm_r ek ?_)
  rcases hk with rfl | rfl | rfl | rfl | rfl | rfl | rfl | rfl | rfl | rfl | rfl | rfl | rfl | rfl | rfl | rfl | rfl | rfl | rfl
  all_goals first
    | exact br_f (by decide) (br_t (by decide) h)
    | (refine br_f (by decide) (br_f (by decide) ?_)
       repeat first | exact br_t rfl h | refine br_f (by decide) ?_)
/-- the reference's push -/
theorem ev_387 (hd : d < 500) {t a : Nat} {Q : SY → Prop} (h : Q (nI cc, nI bc, y_fault, nI mc, nI w, y_peak, nI st, nI (d + 1), nI (bs d), y_code, 1, 0, y_got, y_todos, y_marks, -10000000000, nI sp, y_parent, y_fields, y_bound, y_kind, y_word, y_size, y_sort, y_number, y_stands, y_keeps, y_cells, y_globals, y_within, y_foundIn, y_self, y_args, y_temps, y_param, y_live, y_work, y_under, upd y_at d (nI t), upd y_in d (nI a), upd y_phase d 0, upd y_base d (nI (bs d)), y_goal, y_operands, y_marked, y_todo, y_heard)) : wY_evaluate_387 Q (nI t) (nI a) (nI cc) (nI bc) y_fault (nI mc) (nI w) y_peak (nI st) (nI d) (nI (bs d)) y_code 1 0 y_got y_todos y_marks (-10000000000) (nI sp) y_parent y_fields y_bound y_kind y_word y_size y_sort y_number y_stands y_keeps y_cells y_globals y_within y_foundIn y_self y_args y_temps y_param y_live y_work y_under y_at y_in y_phase y_base y_goal y_operands y_marked y_todo y_heard := by
  have vd : vp_in (nI d) 500 := vp_in_nI hd (by decide)
  unfold wY_evaluate_387
  rw [nI_clamp (show d < 2 ^ 31 by omega)]
  exact ⟨vd, nm_e ⟨vd, nm_e ⟨vd, nm_e (nm_r (nI_1 d) ⟨vd, nm_e h⟩)⟩⟩⟩
/-- the state after a push -/
theorem ev_N (A : rn_A cc bc dc mc T ST SA lv τ σ lev ho x_tokenKind x_tokenValue y_kind y_word y_size y_parent y_fields y_bound x_globals y_globals x_thingShown x_thingClass x_thingFields x_thingToken x_thingMaker x_variables x_homeOf x_within x_foundIn y_sort y_number y_stands y_keeps y_cells y_within y_foundIn y_self y_args y_temps y_param) (F : rn_F T ST SA lv σ lev ho y_kind y_word fa ph bs ow gg wk un rt d w y_sort y_number x_frameToken x_frameStage x_frameLink x_operands x_baseFrame y_operands y_self y_at y_in y_phase y_base y_goal y_work y_under y_live) {t : Nat} (tt : T t) (lt : fr_lt y_kind (tk_nd y_kind y_word) fa ph rt d t (w - 1)) {kn : Nat} (hk : fr_op kn) (ek : y_kind t = nI kn) {xtk' xsg' xlk' : Nat → Int32} {xop' : Nat → Int64}
    (htk : xtk' (fr_x y_kind fa ph d) = nI t ∧ ∀ j, j ≠ fr_x y_kind fa ph d → xtk' j = x_frameToken j) (hsg : xsg' (fr_x y_kind fa ph d) = nI (fr_s (y_kind t)) ∧ ∀ j, j ≠ fr_x y_kind fa ph d → xsg' j = x_frameStage j) (hlk : ∀ j, j ≠ fr_x y_kind fa ph d → xlk' j = x_frameLink j)
    (hop : (∀ j, j < fr_x y_kind fa ph d * 3 → xop' j = x_operands j) ∧ fr_O ST (hp_s y_sort y_number) xop' y_operands (y_self (ho (wk (w - 1)))) (y_kind t) (fr_x y_kind fa ph d) (bs d) 0)
    {st' : Nat} (hst : st' ≤ 200) (n2 : sp < 2 ^ 30 - (rn_mu (tk_nd y_kind y_word) fa un rt st' d w t 0)) (n3 : rn_mu (tk_nd y_kind y_word) fa un rt st' d w t 0 < M + 1) (n4 : mc + (rn_mu (tk_nd y_kind y_word) fa un rt st' d w t 0) ≤ B) {xm : Int32} (hm : (0 < tk_nd y_kind y_word t ∧ xm = 0) ∨ (tk_nd y_kind y_word t = 0 ∧ xm = 2)) :
    rn_St B M (nI cc, nI bc, nI dc, y_fault, nI mc, nI (fr_x y_kind fa ph d + 1), nI (σ (wk (w - 1))), nI (t + 1), x_inHand, xm, 100, nI st', nI w, y_peak, nI sp, x_pendingCount, y_parent, y_fields, y_bound, x_tokenKind, x_tokenValue, x_globals, x_thingShown, x_thingClass, x_thingFields, x_thingToken, x_thingMaker, x_variables, x_homeOf, x_within, x_foundIn, x_baseFrame, xtk', xsg', xlk', xop', y_heard, x_marked, x_pending) (nI cc, nI bc, y_fault, nI mc, nI w, y_peak, nI st', nI (d + 1), nI (bs d), y_code, 1, 0, y_got, y_todos, y_marks, -10000000000, nI sp, y_parent, y_fields, y_bound, y_kind, y_word, y_size, y_sort, y_number, y_stands, y_keeps, y_cells, y_globals, y_within, y_foundIn, y_self, y_args, y_temps, y_param, y_live, y_work, y_under, upd y_at d (nI t), upd y_in d (nI (wk (w - 1))), upd y_phase d 0, upd y_base d (nI (bs d)), y_goal, y_operands, y_marked, y_todo, y_heard) := by
  have F' := rn_push F tt lt (by rw [ek]; exact fr_opok hk) htk hsg hlk hop
  obtain ⟨e1, e2, d3, _⟩ := rn_le A F tt lt
  have nt : ¬ fr_tail (y_kind t) 0 := fun z => by rcases z with ⟨_, z⟩ | ⟨_, z⟩ <;> omega
  have ex : fr_x y_kind (nu fa d t) (nu ph d 0) (d + 1) = fr_x y_kind fa ph d + 1 := by
    show fr_x y_kind (nu fa d t) (nu ph d 0) d + ct_b _ = _
    rw [fr_xc (fun q hq => ⟨nu_n (by omega), nu_n (by omega)⟩), nu_s, nu_s, ct_bt nt]
  have pt0 : fr_pt (y_kind t) 0 = 0 := by unfold fr_pt; rw [if_neg (fun z => by have := z.2; omega)]
  have sm : fr_sum (fun i => 10 * (ex_e (tk_nd y_kind y_word) (rt i) - ex_e (tk_nd y_kind y_word) (nu fa d t (un (i + 1) - 1)))) (w - 1) = fr_sum (fun i => 10 * (ex_e (tk_nd y_kind y_word) (rt i) - ex_e (tk_nd y_kind y_word) (fa (un (i + 1) - 1)))) (w - 1) := fr_sumc fun i hi => by
    obtain ⟨p, p1, p2, _⟩ := F.1.2.2.2.2.2.2.2 i (by omega)
    rw [nu_n (by omega)]
  refine ⟨cc, bc, dc, mc, st', sp, d + 1, w, t + 1, if 0 < tk_nd y_kind y_word t then 0 else 1, T, ST, SA, lv, τ, σ, lev, ho, nu fa d t, nu ph d 0, nu bs (d + 1) (bs d), nu ow d (w - 1), gg, wk, un, rt, ⟨rfl, rfl, rfl, rfl, rfl, by rw [ex], rfl, rfl, rfl, rfl, rfl, rfl, rfl, rfl, rfl, rfl, rfl⟩, ⟨rfl, rfl, rfl, rfl, rfl, rfl, by rw [nu_s], rfl, rfl, rfl⟩, A, F', Or.inr ⟨rfl, d, rfl, by rw [nu_s]; decide, ?_, ?_⟩, hst, ?_⟩
  · rw [nu_s, nu_s, pt0]; rfl
  · rw [nu_s, nu_s, pt0]
    rcases hm with ⟨a, b⟩ | ⟨a, b⟩
    · exact Or.inl ⟨a, b, if_pos a⟩
    · exact Or.inr ⟨a.symm, b, if_neg (by omega)⟩
  · unfold rn_mu at n2 n3 n4 ⊢
    rw [sm]
    split <;> omega
end
