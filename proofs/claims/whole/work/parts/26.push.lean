/-! an operator is opened -/
theorem fr_XFc {K K' : Nat → Int32} {nd nd' : Nat → Nat} {ST ST' : Nat → Prop} {so nu1 so' nu1' xtk xsg xlk xtk' xsg' xlk' : Nat → Int32} {xop yop yse xop' yop' yse' : Nat → Int64} {σ ho fa ph bs ow gg wk σ' ho' fa' ph' bs' ow' gg' wk' : Nat → Nat} {X p : Nat}
    (h : fr_XF K nd ST so nu1 xtk xsg xlk xop yop yse σ ho fa ph bs ow gg wk X p) (eK : K' (fa p) = K (fa p) ∧ ex_e nd' (fa p) = ex_e nd (fa p)) (e : fa' p = fa p ∧ ph' p = ph p ∧ bs' p = bs p) (es : σ' (wk' (ow' p)) = σ (wk (ow p)) ∧ (K (fa p) = 27 → ph p = 2 → σ' (wk' (gg' p)) = σ (wk (gg p))))
    (eX : xtk' X = xtk X ∧ xsg' X = xsg X ∧ xlk' X = xlk X ∧ ∀ i, i < 3 → xop' (X * 3 + i) = xop (X * 3 + i))
    (hv1 : ∀ x j, bs p ≤ j → j < bs p + fr_c (K (fa p)) (ph p) → hp_v ST (hp_s so nu1) x (yop j) → hp_v ST' (hp_s so' nu1') x (yop' j))
    (hv2 : ∀ x, hp_v ST (hp_s so nu1) x (yse (ho (wk (ow p)))) → hp_v ST' (hp_s so' nu1') x (yse' (ho' (wk' (ow' p))))) : fr_XF K' nd' ST' so' nu1' xtk' xsg' xlk' xop' yop' yse' σ' ho' fa' ph' bs' ow' gg' wk' X p := by
  obtain ⟨h1, h2⟩ := h
  obtain ⟨e1, e2, e3⟩ := e
  obtain ⟨x1, x2, x3, x4⟩ := eX
  unfold fr_XF
  rw [e1, e2, e3, x1, x2, x3, eK.1, eK.2, es.1]
  refine ⟨fun z => ?_, fun z => ?_⟩
  · obtain ⟨a, b, c, f⟩ := h1 z
    exact ⟨a, b, c, fun i hi => by rw [x4 i hi]; exact f i hi⟩
  · obtain ⟨a, b, c, f⟩ := h2 z
    refine ⟨a, b, fun k1 k2 => by rw [es.2 k1 k2]; exact c k1 k2, fun i hi => ?_⟩
    obtain ⟨f1, f2, f3⟩ := f i hi
    rw [x4 i hi]
    exact ⟨fun q => hv2 _ (f1 q), fun q1 q2 => hv1 _ _ (by omega) (by omega) (f2 q1 q2), f3⟩
section
variable {K : Nat → Int32} {nd : Nat → Nat} {T : Nat → Prop} {fa ph bs ow gg un rt : Nat → Nat} {d w : Nat}
theorem fr_unle (S : fr_S K nd T fa ph bs ow gg un rt d w) {i : Nat} (hi : i < w) : un i ≤ d := by
  cases i with
  | zero => rw [S.2.2.1]; omega
  | succ i =>
    obtain ⟨p, p1, p2, _⟩ := S.2.2.2.2.2.2.2 i hi
    omega
theorem fr_xlt {p : Nat} (hp : p < d) (h : ¬ fr_tail (K (fa p)) (ph p)) : fr_x K fa ph p < fr_x K fa ph d := by
  have a : fr_x K fa ph (p + 1) = fr_x K fa ph p + 1 := by
    show _ + ct_b _ = _
    rw [ct_bt h]
  have b := fr_xmono (K := K) (fa := fa) (ph := ph) (q := p + 1) (p := d) (by omega)
  omega
end
section
variable {x_classCount x_bodyCount x_draftCount x_wrongPlace x_madeCount x_frameCount x_current x_next x_mode x_outcome x_stepCount x_atWork x_mostAtWork x_saidCount x_pendingCount : Int32} {x_inHand : Int64} {x_classParent x_classFields x_bound x_tokenKind x_tokenValue x_thingClass x_thingToken x_thingMaker x_homeOf x_within x_foundIn x_baseFrame x_frameToken x_frameStage x_frameLink x_marked x_pending : Nat → Int32} {x_globals x_thingShown x_thingFields x_variables x_operands x_saidValues : Nat → Int64}
variable {y_classes y_bodies y_fault y_made y_working y_peak y_steps y_depth y_waiting y_code y_running y_has y_todos y_marks y_spoken : Int32} {y_got y_shown : Int64} {y_parent y_fields y_bound y_kind y_word y_size y_sort y_number y_stands y_keeps y_within y_foundIn y_live y_work y_under y_at y_in y_phase y_base y_goal y_marked y_todo : Nat → Int32} {y_cells y_globals y_self y_args y_temps y_param y_operands y_heard : Nat → Int64}
variable {cc bc dc mc st sp d w np md B M : Nat} {T ST SA : Nat → Prop} {lv τ σ lev ho fa ph bs ow gg wk un rt : Nat → Nat}
theorem xw_clear {post : SX → Prop} {fc : Nat} (hf : fc < 385) (h : post (x_classCount, x_bodyCount, x_draftCount, x_wrongPlace, x_madeCount, x_frameCount, x_current, x_next, x_inHand, x_mode, x_outcome, x_stepCount, x_atWork, x_mostAtWork, x_saidCount, x_pendingCount, x_classParent, x_classFields, x_bound, x_tokenKind, x_tokenValue, x_globals, x_thingShown, x_thingClass, x_thingFields, x_thingToken, x_thingMaker, x_variables, x_homeOf, x_within, x_foundIn, x_baseFrame, x_frameToken, x_frameStage, x_frameLink, mk_c x_operands (fc * 3) 3 10000000000, x_saidValues, x_marked, x_pending)) : wpX_clearOperands post (x_classCount, x_bodyCount, x_draftCount, x_wrongPlace, x_madeCount, x_frameCount, x_current, x_next, x_inHand, x_mode, x_outcome, x_stepCount, x_atWork, x_mostAtWork, x_saidCount, x_pendingCount, x_classParent, x_classFields, x_bound, x_tokenKind, x_tokenValue, x_globals, x_thingShown, x_thingClass, x_thingFields, x_thingToken, x_thingMaker, x_variables, x_homeOf, x_within, x_foundIn, x_baseFrame, x_frameToken, x_frameStage, x_frameLink, x_operands, x_saidValues, x_marked, x_pending) (nI fc) := by
  unfold wpX_clearOperands
  dsimp only
  refine loop_0 (fun n i f => wX_clearOperands_2 post (nI fc) x_classCount x_bodyCount x_draftCount x_wrongPlace x_madeCount x_frameCount x_current x_next x_inHand x_mode x_outcome x_stepCount x_atWork x_mostAtWork x_saidCount x_pendingCount n (nI i) x_classParent x_classFields x_bound x_tokenKind x_tokenValue x_globals x_thingShown x_thingClass x_thingFields x_thingToken x_thingMaker x_variables x_homeOf x_within x_foundIn x_baseFrame x_frameToken x_frameStage x_frameLink f x_saidValues x_marked x_pending) (fun i f => f = mk_c x_operands (fc * 3) i 10000000000) 3 x_operands (mk_c0 _ _ _).symm ?_ ?_
  · intro n f I
    subst I
    exact br_t (by decide) h
  · intro n i f hi I k
    subst I
    have e : nI fc * (3 : Int32) + nI i = nI (fc * 3 + i) := ix_r 3 fc i
    refine br_f (nI_ge (b := 3) hi (by decide)) ⟨by rw [e]; exact vp_in_nI (by omega) (by decide), ?_⟩
    rw [e, nI_clamp (show fc * 3 + i < 2 ^ 31 by omega)]
    exact nm_r (mk_cs _ _ _ _) (nm_r (nI_1 i) (k _ rfl))
theorem xw_push {post : SX → Prop} {fc : Nat} {tok : Int32} (hf : fc < 385) (h : post (x_classCount, x_bodyCount, x_draftCount, x_wrongPlace, x_madeCount, nI (fc + 1), x_current, x_next, x_inHand, x_mode, x_outcome, x_stepCount, x_atWork, x_mostAtWork, x_saidCount, x_pendingCount, x_classParent, x_classFields, x_bound, x_tokenKind, x_tokenValue, x_globals, x_thingShown, x_thingClass, x_thingFields, x_thingToken, x_thingMaker, x_variables, x_homeOf, x_within, x_foundIn, x_baseFrame, upd x_frameToken fc tok, upd x_frameStage fc 0, upd x_frameLink fc (-1), mk_c x_operands (fc * 3) 3 10000000000, x_saidValues, x_marked, x_pending)) : wpX_pushFrame post (x_classCount, x_bodyCount, x_draftCount, x_wrongPlace, x_madeCount, nI fc, x_current, x_next, x_inHand, x_mode, x_outcome, x_stepCount, x_atWork, x_mostAtWork, x_saidCount, x_pendingCount, x_classParent, x_classFields, x_bound, x_tokenKind, x_tokenValue, x_globals, x_thingShown, x_thingClass, x_thingFields, x_thingToken, x_thingMaker, x_variables, x_homeOf, x_within, x_foundIn, x_baseFrame, x_frameToken, x_frameStage, x_frameLink, x_operands, x_saidValues, x_marked, x_pending) tok := by
  have vf : vp_in (nI fc) 385 := vp_in_nI hf (by decide)
  unfold wpX_pushFrame
  dsimp only
  rw [nI_clamp (show fc < 2 ^ 31 by omega)]
  exact ⟨vf, nm_e ⟨vf, nm_e ⟨vf, nm_e (nm_r (nI_1 fc) (xw_clear hf h))⟩⟩⟩
theorem rn_push (F : rn_F T ST SA lv σ lev ho y_kind y_word fa ph bs ow gg wk un rt d w y_sort y_number x_frameToken x_frameStage x_frameLink x_operands x_baseFrame y_operands y_self y_at y_in y_phase y_base y_goal y_work y_under y_live) {t : Nat} (tt : T t) (lt : fr_lt y_kind (tk_nd y_kind y_word) fa ph rt d t (w - 1)) (ok : fr_ok (y_kind t) (tk_nd y_kind y_word t) 0) {xtk' xsg' xlk' : Nat → Int32} {xop' : Nat → Int64}
    (htk : xtk' (fr_x y_kind fa ph d) = nI t ∧ ∀ j, j ≠ fr_x y_kind fa ph d → xtk' j = x_frameToken j) (hsg : xsg' (fr_x y_kind fa ph d) = nI (fr_s (y_kind t)) ∧ ∀ j, j ≠ fr_x y_kind fa ph d → xsg' j = x_frameStage j) (hlk : ∀ j, j ≠ fr_x y_kind fa ph d → xlk' j = x_frameLink j)
    (hop : (∀ j, j < fr_x y_kind fa ph d * 3 → xop' j = x_operands j) ∧ fr_O ST (hp_s y_sort y_number) xop' y_operands (y_self (ho (wk (w - 1)))) (y_kind t) (fr_x y_kind fa ph d) (bs d) 0) :
    rn_F T ST SA lv σ lev ho y_kind y_word (nu fa d t) (nu ph d 0) (nu bs (d + 1) (bs d)) (nu ow d (w - 1)) gg wk un rt (d + 1) w y_sort y_number xtk' xsg' xlk' xop' x_baseFrame y_operands y_self (upd y_at d (nI t)) (upd y_in d (nI (wk (w - 1)))) (upd y_phase d 0) (upd y_base d (nI (bs d))) y_goal y_work y_under y_live := by
  obtain ⟨S, Y, X, W⟩ := F
  have xe : ∀ p, p ≤ d → fr_x y_kind (nu fa d t) (nu ph d 0) p = fr_x y_kind fa ph p := fun p hp => fr_xc fun q hq => ⟨nu_n (by omega), nu_n (by omega)⟩
  have nc0 : fr_c (y_kind t) 0 = 0 := by unfold fr_c; simp
  have xpos := (fr_xle (K := y_kind) (fa := fa) (ph := ph) d).2
  refine ⟨fr_push S lt tt ok, ⟨fun p hp => ?_, Y.2⟩, ⟨⟨?_, fun i hi => ?_⟩, fun p hp nt => ?_⟩, ⟨fun i hi => ?_, W.2⟩⟩
  · by_cases e : p = d
    · subst e
      rw [pk_us, pk_us, pk_us, pk_us, nu_s, nu_s, nu_s, nu_n (show p ≠ p + 1 by omega)]
      exact ⟨rfl, rfl, rfl, rfl, fun _ z => by omega⟩
    · rw [pk_un e, pk_un e, pk_un e, pk_un e, nu_n e, nu_n e, nu_n e, nu_n (show p ≠ d + 1 by omega)]
      exact Y.1 p (by omega)
  · rw [htk.2 0 (by omega)]; exact X.1.1
  · rw [hop.1 i (by omega)]; exact X.1.2 i hi
  · by_cases e : p = d
    · subst e
      rw [xe p (Nat.le_refl _)]
      unfold fr_XF
      rw [nu_s, nu_s, nu_s, nu_n (show p ≠ p + 1 by omega), nc0, Nat.zero_add]
      exact ⟨fun z => by omega, fun _ => ⟨htk.1, hsg.1, fun _ z => by omega, hop.2⟩⟩
    · rw [nu_n e, nu_n e] at nt
      rw [xe p (by omega)]
      have lx := fr_xlt (K := y_kind) (fa := fa) (ph := ph) (d := d) (show p < d by omega) nt
      refine fr_XFc (X.2 p (by omega) nt) ⟨rfl, rfl⟩ ⟨nu_n e, nu_n e, nu_n (by omega)⟩ ⟨by rw [nu_n e], fun _ _ => rfl⟩ ⟨htk.2 _ (by omega), hsg.2 _ (by omega), hlk _ (by omega), fun i hi => hop.1 _ (by omega)⟩ (fun x j _ _ h => h) (fun x h => by rw [nu_n e]; exact h)
  · rw [xe _ (fr_unle S hi)]
    exact W.1 i hi
end
