/-! the stack cut down, and its top changed -/
section
variable {x_classCount x_bodyCount x_draftCount x_wrongPlace x_madeCount x_frameCount x_current x_next x_mode x_outcome x_stepCount x_atWork x_mostAtWork x_saidCount x_pendingCount : Int32} {x_inHand : Int64} {x_classParent x_classFields x_bound x_tokenKind x_tokenValue x_thingClass x_thingToken x_thingMaker x_homeOf x_within x_foundIn x_baseFrame x_frameToken x_frameStage x_frameLink x_marked x_pending : Nat → Int32} {x_globals x_thingShown x_thingFields x_variables x_operands x_saidValues : Nat → Int64}
variable {y_classes y_bodies y_fault y_made y_working y_peak y_steps y_depth y_waiting y_code y_running y_has y_todos y_marks y_spoken : Int32} {y_got y_shown : Int64} {y_parent y_fields y_bound y_kind y_word y_size y_sort y_number y_stands y_keeps y_within y_foundIn y_live y_work y_under y_at y_in y_phase y_base y_goal y_marked y_todo : Nat → Int32} {y_cells y_globals y_self y_args y_temps y_param y_operands y_heard : Nat → Int64}
variable {cc bc dc mc st sp d w np md B M : Nat} {T ST SA : Nat → Prop} {lv τ σ lev ho fa ph bs ow gg wk un rt : Nat → Nat}
theorem rn_low (F : rn_F T ST SA lv σ lev ho y_kind y_word fa ph bs ow gg wk un rt d w y_sort y_number x_frameToken x_frameStage x_frameLink x_operands x_baseFrame y_operands y_self y_at y_in y_phase y_base y_goal y_work y_under y_live) {d' w' : Nat} {aat' ain' aph' aba' ago' xtk' xsg' xlk' xbf' yli' : Nat → Int32} {xop' yop' : Nat → Int64} (hd : d' ≤ d) (hw : w' ≤ w) (S' : fr_S y_kind (tk_nd y_kind y_word) T fa ph bs ow gg un rt d' w')
    (hY : ∀ q, q < d' → aat' q = y_at q ∧ ain' q = y_in q ∧ aph' q = y_phase q ∧ aba' q = y_base q ∧ ago' q = y_goal q) (hX : ∀ R, R < fr_x y_kind fa ph d' → xtk' R = x_frameToken R ∧ xsg' R = x_frameStage R ∧ xlk' R = x_frameLink R) (hop : ∀ j, j < fr_x y_kind fa ph d' * 3 → xop' j = x_operands j) (hyop : ∀ j, j < bs d' → yop' j = y_operands j)
    (W' : fr_W SA lev lv σ xbf' yli' y_kind fa ph wk un rt w') : rn_F T ST SA lv σ lev ho y_kind y_word fa ph bs ow gg wk un rt d' w' y_sort y_number xtk' xsg' xlk' xop' xbf' yop' y_self aat' ain' aph' aba' ago' y_work y_under yli' := by
  obtain ⟨S, Y, X, W⟩ := F
  have xpos := (fr_xle (K := y_kind) (fa := fa) (ph := ph) d').2
  refine ⟨S', ⟨fun q hq => ?_, fun i hi => Y.2 i (by omega)⟩, ⟨⟨?_, fun i hi => ?_⟩, fun q hq nt => ?_⟩, W'⟩
  · obtain ⟨a, b, c, e, f⟩ := hY q hq
    rw [a, b, c, e, f]
    exact Y.1 q (by omega)
  · rw [(hX 0 (by omega)).1]; exact X.1.1
  · rw [hop i (by omega)]; exact X.1.2 i hi
  · have lx := fr_xlt (K := y_kind) (fa := fa) (ph := ph) hq nt
    obtain ⟨a, b, c⟩ := hX _ lx
    refine fr_XFc (X.2 q (by omega) nt) ⟨rfl, rfl⟩ ⟨rfl, rfl, rfl⟩ ⟨rfl, fun _ _ => rfl⟩ ⟨a, b, c, fun i hi => hop _ (by omega)⟩ (fun x j j1 j2 h => ?_) (fun x h => h)
    rw [hyop j (by have := fr_bsm S' hq (Nat.le_refl _); omega)]
    exact h
theorem rn_set {p : Nat} (F : rn_F T ST SA lv σ lev ho y_kind y_word fa ph bs ow gg wk un rt (p + 1) w y_sort y_number x_frameToken x_frameStage x_frameLink x_operands x_baseFrame y_operands y_self y_at y_in y_phase y_base y_goal y_work y_under y_live) {φ g : Nat} {aph' ago' xtk' xsg' xlk' : Nat → Int32} {xop' yop' : Nat → Int64} (h1 : ph p ≠ 100) (h2 : φ ≠ 100) (ok : fr_ok (y_kind (fa p)) (tk_nd y_kind y_word (fa p)) φ) (hg : y_kind (fa p) = 27 → φ = 2 → g ≤ ow p ∧ ago' p = nI (wk g))
    (hY : aph' p = nI φ ∧ ∀ q, q < p → aph' q = y_phase q ∧ ago' q = y_goal q) (hX : ∀ R, R < fr_x y_kind fa ph p → xtk' R = x_frameToken R ∧ xsg' R = x_frameStage R ∧ xlk' R = x_frameLink R) (hop : ∀ j, j < fr_x y_kind fa ph p * 3 → xop' j = x_operands j) (hyop : ∀ j, j < bs p → yop' j = y_operands j)
    (hn : ¬ fr_tail (y_kind (fa p)) φ → xtk' (fr_x y_kind fa ph p) = nI (fa p) ∧ xsg' (fr_x y_kind fa ph p) = nI (φ + fr_s (y_kind (fa p))) ∧ (y_kind (fa p) = 27 → φ = 2 → xlk' (fr_x y_kind fa ph p) = nI (σ (wk g))) ∧ fr_O ST (hp_s y_sort y_number) xop' yop' (y_self (ho (wk (ow p)))) (y_kind (fa p)) (fr_x y_kind fa ph p) (bs p) (fr_c (y_kind (fa p)) φ)) :
    rn_F T ST SA lv σ lev ho y_kind y_word fa (nu ph p φ) (nu bs (p + 1) (bs p + fr_c (y_kind (fa p)) φ)) ow (nu gg p g) wk un rt (p + 1) w y_sort y_number xtk' xsg' xlk' xop' x_baseFrame yop' y_self y_at y_in aph' y_base ago' y_work y_under y_live := by
  obtain ⟨S, Y, X, W⟩ := F
  have xe : ∀ q, q ≤ p → fr_x y_kind fa (nu ph p φ) q = fr_x y_kind fa ph q := fun q hq => fr_xc fun r hr => ⟨rfl, nu_n (by omega)⟩
  have xpos := (fr_xle (K := y_kind) (fa := fa) (ph := ph) p).2
  have unp : ∀ i, i < w → un i ≤ p := fun i hi => by
    cases i with
    | zero => rw [S.2.2.1]; omega
    | succ i =>
      obtain ⟨q, q1, q2, q3, _⟩ := S.2.2.2.2.2.2.2 i hi
      have : q ≠ p := fun z => by subst z; exact h1 q3
      omega
  refine ⟨fr_set S h1 h2 ok (fun a b => (hg a b).1), ⟨fun q hq => ?_, Y.2⟩, ⟨⟨?_, fun i hi => ?_⟩, fun q hq nt => ?_⟩, ⟨fun i hi => ?_, W.2⟩⟩
  · obtain ⟨y1, y2, y3, y4, y5⟩ := Y.1 q hq
    by_cases e : q = p
    · subst e
      rw [hY.1, nu_s, nu_s, nu_n (show q ≠ q + 1 by omega)]
      exact ⟨y1, y2, rfl, y4, fun a b => (hg a b).2⟩
    · rw [(hY.2 q (by omega)).1, (hY.2 q (by omega)).2, nu_n e, nu_n e, nu_n (show q ≠ p + 1 by omega)]
      exact ⟨y1, y2, y3, y4, y5⟩
  · rw [(hX 0 (by omega)).1]; exact X.1.1
  · rw [hop i (by omega)]; exact X.1.2 i hi
  · by_cases e : q = p
    · subst e
      rw [nu_s] at nt
      rw [xe q (Nat.le_refl _)]
      obtain ⟨a, b, c, f⟩ := hn nt
      unfold fr_XF
      rw [nu_s, nu_s, nu_n (show q ≠ q + 1 by omega)]
      exact ⟨fun z => absurd z h2, fun _ => ⟨a, b, c, f⟩⟩
    · rw [nu_n e] at nt
      rw [xe q (by omega)]
      have lx := fr_xlt (K := y_kind) (fa := fa) (ph := ph) (d := p) (show q < p by omega) nt
      obtain ⟨a, b, c⟩ := hX _ lx
      refine fr_XFc (X.2 q (by omega) nt) ⟨rfl, rfl⟩ ⟨rfl, nu_n e, nu_n (by omega)⟩ ⟨rfl, fun _ _ => by rw [nu_n e]⟩ ⟨a, b, c, fun i hi => hop _ (by omega)⟩ (fun x j j1 j2 h => ?_) (fun x h => h)
      rw [hyop j (by have := fr_bsm S (q := q) (p := p) (by omega) (by omega); omega)]
      exact h
  · rw [xe _ (unp i hi)]
    exact W.1 i hi
/-- the top frame's operator is done -/
theorem rn_pop {p : Nat} (A : rn_A cc bc dc mc T ST SA lv τ σ lev ho x_tokenKind x_tokenValue y_kind y_word y_size y_parent y_fields y_bound x_globals y_globals x_thingShown x_thingClass x_thingFields x_thingToken x_thingMaker x_variables x_homeOf x_within x_foundIn y_sort y_number y_stands y_keeps y_cells y_within y_foundIn y_self y_args y_temps y_param) (F : rn_F T ST SA lv σ lev ho y_kind y_word fa ph bs ow gg wk un rt (p + 1) w y_sort y_number x_frameToken x_frameStage x_frameLink x_operands x_baseFrame y_operands y_self y_at y_in y_phase y_base y_goal y_work y_under y_live) (hp : ph p ≠ 100) {aph' : Nat → Int32} (hY : ∀ q, q < p → aph' q = y_phase q) : rn_F T ST SA lv σ lev ho y_kind y_word fa ph bs ow gg wk un rt p w y_sort y_number x_frameToken x_frameStage x_frameLink x_operands x_baseFrame y_operands y_self y_at y_in aph' y_base y_goal y_work y_under y_live := by
  have eo := (rn_top A F hp).2.1
  have w1 := F.1.1
  have S' := fr_res F.1 (show p < p + 1 by omega)
  rw [show ow p + 1 = w by omega] at S'
  exact rn_low F (by omega) (Nat.le_refl _) S' (fun q hq => ⟨rfl, rfl, hY q hq, rfl, rfl⟩) (fun _ _ => ⟨rfl, rfl, rfl⟩) (fun _ _ => rfl) (fun _ _ => rfl) F.2.2.2
theorem fin_H {p : Nat} (A : rn_A cc bc dc mc T ST SA lv τ σ lev ho x_tokenKind x_tokenValue y_kind y_word y_size y_parent y_fields y_bound x_globals y_globals x_thingShown x_thingClass x_thingFields x_thingToken x_thingMaker x_variables x_homeOf x_within x_foundIn y_sort y_number y_stands y_keeps y_cells y_within y_foundIn y_self y_args y_temps y_param) (F : rn_F T ST SA lv σ lev ho y_kind y_word fa ph bs ow gg wk un rt (p + 1) w y_sort y_number x_frameToken x_frameStage x_frameLink x_operands x_baseFrame y_operands y_self y_at y_in y_phase y_base y_goal y_work y_under y_live) (hp : ph p ≠ 100) {aph' : Nat → Int32} (hY : ∀ q, q < p → aph' q = y_phase q) {xv yv : Int64} (hv : hp_v ST (hp_s y_sort y_number) xv yv) (hm : rn_mu (tk_nd y_kind y_word) fa un rt st p w (ex_e (tk_nd y_kind y_word) (fa p)) 2 < M) (n1 : st ≤ 200) (n2 : sp < 2 ^ 30 - (rn_mu (tk_nd y_kind y_word) fa un rt st p w (ex_e (tk_nd y_kind y_word) (fa p)) 2)) (n4 : mc + (rn_mu (tk_nd y_kind y_word) fa un rt st p w (ex_e (tk_nd y_kind y_word) (fa p)) 2) ≤ B) :
    rn_St B M (nI cc, nI bc, nI dc, y_fault, nI mc, nI (fr_x y_kind fa ph p), nI (σ (wk (w - 1))), nI (ex_e (tk_nd y_kind y_word) (fa p)), xv, 1, 100, nI st, nI w, y_peak, nI sp, x_pendingCount, y_parent, y_fields, y_bound, x_tokenKind, x_tokenValue, x_globals, x_thingShown, x_thingClass, x_thingFields, x_thingToken, x_thingMaker, x_variables, x_homeOf, x_within, x_foundIn, x_baseFrame, x_frameToken, x_frameStage, x_frameLink, x_operands, y_heard, x_marked, x_pending) (nI cc, nI bc, y_fault, nI mc, nI w, y_peak, nI st, nI p, nI (bs p), y_code, 1, 1, yv, y_todos, y_marks, -10000000000, nI sp, y_parent, y_fields, y_bound, y_kind, y_word, y_size, y_sort, y_number, y_stands, y_keeps, y_cells, y_globals, y_within, y_foundIn, y_self, y_args, y_temps, y_param, y_live, y_work, y_under, y_at, y_in, aph', y_base, y_goal, y_operands, y_marked, y_todo, y_heard) := by
  obtain ⟨f1, eo, f5, _⟩ := rn_top A F hp
  have F' := rn_pop A F hp hY
  have f4 := (F.1.2.2.2.2.1 p (by omega)).2.2.2.1
  rw [eo] at f4
  exact ⟨cc, bc, dc, mc, st, sp, p, w, ex_e (tk_nd y_kind y_word) (fa p), 2, T, ST, SA, lv, τ, σ, lev, ho, fa, ph, bs, ow, gg, wk, un, rt, ⟨rfl, rfl, rfl, rfl, rfl, rfl, rfl, rfl, rfl, rfl, rfl, rfl, rfl, rfl, rfl, rfl, rfl⟩, ⟨rfl, rfl, rfl, rfl, rfl, rfl, rfl, rfl, rfl, rfl⟩, A, F', Or.inl ⟨rfl, rfl, rfl, hv, fa p, f4, f1, rfl⟩, n1, n2, hm, n4⟩
end
