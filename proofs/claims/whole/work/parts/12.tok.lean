/-! cls, token, bind, reachable -/
theorem tk_shr8 {w : Nat} (h : w < 2 ^ 31) : nI w >>> ((8 : Int32) &&& 31) = nI (w / 256) := pk_shrN h _ 8 (by decide)
theorem tk_shr4 {w : Nat} (h : w < 2 ^ 31) : nI w >>> ((4 : Int32) &&& 31) = nI (w / 16) := pk_shrN h _ 4 (by decide)
theorem tk_and15 {w : Nat} (h : w < 2 ^ 31) : nI w &&& 15 = nI (w % 16) := pk_andN (by omega) 4 (by decide)
theorem tk_d256 {w : Nat} (h : w < 2 ^ 31) : nI w / 256 = nI (w / 256) := pk_div (d := 256) h (by decide) (by decide)
theorem tk_d16 {w : Nat} (h : w < 2 ^ 31) : nI w / 16 = nI (w / 16) := pk_div (d := 16) h (by decide) (by decide)
theorem tk_r16 {w : Nat} (h : w < 2 ^ 31) : nI w - nI w / 16 * 16 = nI (w % 16) := pk_rem (d := 16) h (by decide) (by decide)
/-- a bound L: below 0, from L on, or between -/
theorem tk_bd {A0 A1 : Prop} {w : Int32} (L : Nat) (hL : L < 2 ^ 31) (hn : ∀ w : Int32, (w < 0 ∨ nI L ≤ w) → A0) (hy : ∀ wn, wn < L → w = nI wn → A1) : A0 ∨ A1 := by
  rcases pk_ix w (n := L) hL with h | h | ⟨j, hj, e⟩
  · exact Or.inl (hn w (Or.inl h))
  · exact Or.inl (hn w (Or.inr h))
  · exact Or.inr (hy j hj e)
section
variable {x_classCount x_bodyCount x_draftCount x_wrongPlace x_madeCount x_frameCount x_current x_next x_mode x_outcome x_stepCount x_atWork x_mostAtWork x_saidCount x_pendingCount : Int32} {x_inHand : Int64} {x_classParent x_classFields x_bound x_tokenKind x_tokenValue x_thingClass x_thingToken x_thingMaker x_homeOf x_within x_foundIn x_baseFrame x_frameToken x_frameStage x_frameLink x_marked x_pending : Nat → Int32} {x_globals x_thingShown x_thingFields x_variables x_operands x_saidValues : Nat → Int64}
variable {y_classes y_bodies y_fault y_made y_working y_peak y_steps y_depth y_waiting y_code y_running y_has y_todos y_marks y_spoken : Int32} {y_got y_shown : Int64} {y_parent y_fields y_bound y_kind y_word y_size y_sort y_number y_stands y_keeps y_within y_foundIn y_live y_work y_under y_at y_in y_phase y_base y_goal y_marked y_todo : Nat → Int32} {y_cells y_globals y_self y_args y_temps y_param y_operands y_heard : Nat → Int64}
variable {cc bc dc mc k : Nat} {T ST SA : Nat → Prop} {lv τ σ lev ho : Nat → Nat}
theorem tk_wlim {kn : Nat} (h : (3 ≤ kn ∧ kn < 14) ∨ kn = 25) (w : Int32)
    (hX : ∀ post : Int32 → Prop, ((w < 0 → post 0) ∧ (¬ w < 0 → ((nI (tk_lim kn) ≤ w → post 0) ∧ (¬ nI (tk_lim kn) ≤ w → post 1)))) → wpX_valueFits post (x_classCount, x_bodyCount, x_draftCount, x_wrongPlace, x_madeCount, x_frameCount, x_current, x_next, x_inHand, x_mode, x_outcome, x_stepCount, x_atWork, x_mostAtWork, x_saidCount, x_pendingCount, x_classParent, x_classFields, x_bound, x_tokenKind, x_tokenValue, x_globals, x_thingShown, x_thingClass, x_thingFields, x_thingToken, x_thingMaker, x_variables, x_homeOf, x_within, x_foundIn, x_baseFrame, x_frameToken, x_frameStage, x_frameLink, x_operands, x_saidValues, x_marked, x_pending) (nI kn) w)
    (hY : ∀ post : Int32 → Prop, ((w < 0 → post 0) ∧ (¬ w < 0 → ((nI (tk_lim kn) ≤ w → post 0) ∧ (¬ nI (tk_lim kn) ≤ w → post 1)))) → wpY_isWord post (nI kn) w) :
    ((∀ post : Int32 → Prop, post 0 → wpX_valueFits post (x_classCount, x_bodyCount, x_draftCount, x_wrongPlace, x_madeCount, x_frameCount, x_current, x_next, x_inHand, x_mode, x_outcome, x_stepCount, x_atWork, x_mostAtWork, x_saidCount, x_pendingCount, x_classParent, x_classFields, x_bound, x_tokenKind, x_tokenValue, x_globals, x_thingShown, x_thingClass, x_thingFields, x_thingToken, x_thingMaker, x_variables, x_homeOf, x_within, x_foundIn, x_baseFrame, x_frameToken, x_frameStage, x_frameLink, x_operands, x_saidValues, x_marked, x_pending) (nI kn) w) ∧ (∀ post : Int32 → Prop, post 0 → wpY_isWord post (nI kn) w)) ∨
    (tk_ok (nI kn) w ∧ (∀ post : Int32 → Prop, post 1 → wpX_valueFits post (x_classCount, x_bodyCount, x_draftCount, x_wrongPlace, x_madeCount, x_frameCount, x_current, x_next, x_inHand, x_mode, x_outcome, x_stepCount, x_atWork, x_mostAtWork, x_saidCount, x_pendingCount, x_classParent, x_classFields, x_bound, x_tokenKind, x_tokenValue, x_globals, x_thingShown, x_thingClass, x_thingFields, x_thingToken, x_thingMaker, x_variables, x_homeOf, x_within, x_foundIn, x_baseFrame, x_frameToken, x_frameStage, x_frameLink, x_operands, x_saidValues, x_marked, x_pending) (nI kn) w) ∧ (∀ post : Int32 → Prop, post 1 → wpY_isWord post (nI kn) w)) := by
  have hl : tk_lim kn < 2 ^ 31 := by unfold tk_lim; split <;> (try split) <;> (try split) <;> (try split) <;> decide
  rcases pk_ix w (n := tk_lim kn) hl with h0 | h0 | ⟨j, hj, rfl⟩
  · exact Or.inl ⟨fun post hp => hX post (br_t h0 hp), fun post hp => hY post (br_t h0 hp)⟩
  · have h1 : ¬ w < 0 := Int32.not_lt.mpr (Int32.le_trans (nI_pos' hl) h0)
    exact Or.inl ⟨fun post hp => hX post (br_f h1 (br_t h0 hp)), fun post hp => hY post (br_f h1 (br_t h0 hp))⟩
  · have h1 : ¬ nI j < 0 := nI_pos (by omega)
    have h2 : ¬ nI (tk_lim kn) ≤ nI j := nI_ge hj hl
    exact Or.inr ⟨⟨kn, by omega, rfl, fun _ => ⟨j, hj, rfl⟩, fun z => by omega⟩, fun post hp => hX post (br_f h1 (br_f h2 hp)), fun post hp => hY post (br_f h1 (br_f h2 hp))⟩
theorem tk_wfree {kn : Nat} (h : kn < 30) (h2 : ¬ ((3 ≤ kn ∧ kn < 14) ∨ kn = 25)) (h3 : kn ≠ 28) (w : Int32)
    (hX : ∀ post : Int32 → Prop, post 1 → wpX_valueFits post (x_classCount, x_bodyCount, x_draftCount, x_wrongPlace, x_madeCount, x_frameCount, x_current, x_next, x_inHand, x_mode, x_outcome, x_stepCount, x_atWork, x_mostAtWork, x_saidCount, x_pendingCount, x_classParent, x_classFields, x_bound, x_tokenKind, x_tokenValue, x_globals, x_thingShown, x_thingClass, x_thingFields, x_thingToken, x_thingMaker, x_variables, x_homeOf, x_within, x_foundIn, x_baseFrame, x_frameToken, x_frameStage, x_frameLink, x_operands, x_saidValues, x_marked, x_pending) (nI kn) w)
    (hY : ∀ post : Int32 → Prop, post 1 → wpY_isWord post (nI kn) w) :
    ((∀ post : Int32 → Prop, post 0 → wpX_valueFits post (x_classCount, x_bodyCount, x_draftCount, x_wrongPlace, x_madeCount, x_frameCount, x_current, x_next, x_inHand, x_mode, x_outcome, x_stepCount, x_atWork, x_mostAtWork, x_saidCount, x_pendingCount, x_classParent, x_classFields, x_bound, x_tokenKind, x_tokenValue, x_globals, x_thingShown, x_thingClass, x_thingFields, x_thingToken, x_thingMaker, x_variables, x_homeOf, x_within, x_foundIn, x_baseFrame, x_frameToken, x_frameStage, x_frameLink, x_operands, x_saidValues, x_marked, x_pending) (nI kn) w) ∧ (∀ post : Int32 → Prop, post 0 → wpY_isWord post (nI kn) w)) ∨
    (tk_ok (nI kn) w ∧ (∀ post : Int32 → Prop, post 1 → wpX_valueFits post (x_classCount, x_bodyCount, x_draftCount, x_wrongPlace, x_madeCount, x_frameCount, x_current, x_next, x_inHand, x_mode, x_outcome, x_stepCount, x_atWork, x_mostAtWork, x_saidCount, x_pendingCount, x_classParent, x_classFields, x_bound, x_tokenKind, x_tokenValue, x_globals, x_thingShown, x_thingClass, x_thingFields, x_thingToken, x_thingMaker, x_variables, x_homeOf, x_within, x_foundIn, x_baseFrame, x_frameToken, x_frameStage, x_frameLink, x_operands, x_saidValues, x_marked, x_pending) (nI kn) w) ∧ (∀ post : Int32 → Prop, post 1 → wpY_isWord post (nI kn) w)) :=
  Or.inr ⟨⟨kn, h, rfl, fun z => absurd z h2, fun z => absurd z h3⟩, hX, hY⟩
/-- the reference's walk through isWord for a kind that looks at its value -/
theorem yw_lim {post : Int32 → Prop} {w : Int32} {kn : Nat} (hk : (3 ≤ kn ∧ kn < 14) ∨ kn = 25) (h : (w < 0 → post 0) ∧ (¬ w < 0 → ((nI (tk_lim kn) ≤ w → post 0) ∧ (¬ nI (tk_lim kn) ≤ w → post 1)))) : wpY_isWord post (nI kn) w := by
  have l78 : wY_isWord_78 post (nI kn) w 1 := by
    have b1 : ∀ L : Int32, L = nI (tk_lim kn) → ((1 : Int32) = 0 → post 1) ∧ (¬ (1 : Int32) = 0 → wpY_isBelow (fun r_8 => (r_8 = 0 → post 0) ∧ (¬ r_8 = 0 → post 1)) w L) := fun L eL => by
      subst eL
      exact br_f (by decide) ⟨fun z => br_t rfl (h.1 z), fun z => ⟨fun y => br_t rfl ((h.2 z).1 y), fun y => br_f (by decide) ((h.2 z).2 y)⟩⟩
    unfold wY_isWord_78 wpY_limit
    rcases hk with ⟨a, b⟩ | rfl
    · rcases (show kn = 3 ∨ kn = 4 ∨ kn = 5 ∨ kn = 6 ∨ kn = 7 ∨ kn = 8 ∨ kn = 9 ∨ kn = 10 ∨ kn = 11 ∨ kn = 12 ∨ kn = 13 by omega) with rfl | rfl | rfl | rfl | rfl | rfl | rfl | rfl | rfl | rfl | rfl
      all_goals (repeat first | exact br_t rfl (b1 _ rfl) | exact b1 _ rfl | refine br_f (by decide) ?_)
    · repeat first | exact br_t rfl (b1 _ rfl) | refine br_f (by decide) ?_
  have h0 : ¬ nI kn < 0 := nI_pos (by omega)
  have h1 : ¬ (30 : Int32) ≤ nI kn := nI_ge (b := 30) (by omega) (by decide)
  have h2 : ¬ nI kn = 28 := fun z => by have := (nI_eq (b := 28) (by omega) (by decide)).mp z; omega
  have h3 : ¬ nI kn ≤ 2 := nI_ge (a := 2) (by omega) (by omega)
  unfold wpY_isWord
  refine br_f h0 (br_f h1 (br_f (by decide) (br_f h2 (br_f h3 ?_))))
  rcases hk with ⟨a, b⟩ | rfl
  · exact br_t (nI_lt (b := 14) b (by decide)) l78
  · exact br_f (by decide) (br_t rfl l78)
theorem yw_free {post : Int32 → Prop} {w : Int32} {kn : Nat} (hk : kn < 30) (hk2 : ¬ ((3 ≤ kn ∧ kn < 14) ∨ kn = 25)) (hk3 : kn ≠ 28) (h : post 1) : wpY_isWord post (nI kn) w := by
  have l78 : wY_isWord_78 post (nI kn) w 0 := by
    have b1 : ∀ L : Int32, ((0 : Int32) = 0 → post 1) ∧ (¬ (0 : Int32) = 0 → wpY_isBelow (fun r_8 => (r_8 = 0 → post 0) ∧ (¬ r_8 = 0 → post 1)) w L) := fun L => br_t rfl h
    unfold wY_isWord_78 wpY_limit
    exact br_c (fun _ => b1 _) (fun _ => br_c (fun _ => b1 _) (fun _ => br_c (fun _ => b1 _) (fun _ => br_c (fun _ => b1 _) (fun _ => br_c (fun _ => b1 _) (fun _ => br_c (fun _ => b1 _) (fun _ => br_c (fun _ => b1 _) (fun _ => br_c (fun _ => b1 _) (fun _ => b1 _))))))))
  have h0 : ¬ nI kn < 0 := nI_pos (by omega)
  have h1 : ¬ (30 : Int32) ≤ nI kn := nI_ge (b := 30) hk (by decide)
  have h2 : ¬ nI kn = 28 := fun z => by have := (nI_eq (b := 28) (by omega) (by decide)).mp z; omega
  have h25 : ¬ nI kn = 25 := fun z => by have := (nI_eq (b := 25) (by omega) (by decide)).mp z; omega
  unfold wpY_isWord
  refine br_f h0 (br_f h1 (br_f (by decide) (br_f h2 ?_)))
  rcases Nat.lt_or_ge kn 3 with q | q
  · exact br_t (nI_le (b := 2) (by omega) (by decide)) (br_f h25 l78)
  · exact br_f (nI_ge (a := 2) (by omega) (by omega)) (br_f (nI_nlt (b := 14) (by omega) (by omega)) (br_f h25 l78))
theorem tk_28 (w : Int32) :
    ((∀ post : Int32 → Prop, post 0 → wpX_valueFits post (x_classCount, x_bodyCount, x_draftCount, x_wrongPlace, x_madeCount, x_frameCount, x_current, x_next, x_inHand, x_mode, x_outcome, x_stepCount, x_atWork, x_mostAtWork, x_saidCount, x_pendingCount, x_classParent, x_classFields, x_bound, x_tokenKind, x_tokenValue, x_globals, x_thingShown, x_thingClass, x_thingFields, x_thingToken, x_thingMaker, x_variables, x_homeOf, x_within, x_foundIn, x_baseFrame, x_frameToken, x_frameStage, x_frameLink, x_operands, x_saidValues, x_marked, x_pending) (nI 28) w) ∧ (∀ post : Int32 → Prop, post 0 → wpY_isWord post (nI 28) w)) ∨
    (tk_ok (nI 28) w ∧ (∀ post : Int32 → Prop, post 1 → wpX_valueFits post (x_classCount, x_bodyCount, x_draftCount, x_wrongPlace, x_madeCount, x_frameCount, x_current, x_next, x_inHand, x_mode, x_outcome, x_stepCount, x_atWork, x_mostAtWork, x_saidCount, x_pendingCount, x_classParent, x_classFields, x_bound, x_tokenKind, x_tokenValue, x_globals, x_thingShown, x_thingClass, x_thingFields, x_thingToken, x_thingMaker, x_variables, x_homeOf, x_within, x_foundIn, x_baseFrame, x_frameToken, x_frameStage, x_frameLink, x_operands, x_saidValues, x_marked, x_pending) (nI 28) w) ∧ (∀ post : Int32 → Prop, post 1 → wpY_isWord post (nI 28) w)) := by
  have hX : ∀ post : Int32 → Prop, ((w < 0 → post 0) ∧ (¬ w < 0 → ((10 ≤ w / 256 → post 0) ∧ (¬ 10 ≤ w / 256 → ((12 ≤ ((w / 16) - (w / 16) / 16 * 16) → post 0) ∧ (¬ 12 ≤ ((w / 16) - (w / 16) / 16 * 16) → ((12 ≤ (w - w / 16 * 16) → post 0) ∧ (¬ 12 ≤ (w - w / 16 * 16) → post 1)))))))) → wpX_valueFits post (x_classCount, x_bodyCount, x_draftCount, x_wrongPlace, x_madeCount, x_frameCount, x_current, x_next, x_inHand, x_mode, x_outcome, x_stepCount, x_atWork, x_mostAtWork, x_saidCount, x_pendingCount, x_classParent, x_classFields, x_bound, x_tokenKind, x_tokenValue, x_globals, x_thingShown, x_thingClass, x_thingFields, x_thingToken, x_thingMaker, x_variables, x_homeOf, x_within, x_foundIn, x_baseFrame, x_frameToken, x_frameStage, x_frameLink, x_operands, x_saidValues, x_marked, x_pending) (nI 28) w := fun post h => by
    unfold wpX_valueFits
    refine br_f (by decide) (br_f (by decide) ?_)
    iterate 25 refine br_f (by decide) ?_
    refine br_t rfl ⟨h.1, fun z => ⟨by decide, (h.2 z).1, fun y => ⟨by decide, by decide, ((h.2 z).2 y).1, fun q => ⟨by decide, (((h.2 z).2 y).2 q)⟩⟩⟩⟩
  have hY : ∀ post : Int32 → Prop, ((w < 0 → post 0) ∧ (¬ w < 0 → ((10 ≤ (w >>> ((8 : Int32) &&& 31)) → post 0) ∧ (¬ 10 ≤ (w >>> ((8 : Int32) &&& 31)) → ((12 ≤ ((w >>> ((4 : Int32) &&& 31)) &&& 15) → post 0) ∧ (¬ 12 ≤ ((w >>> ((4 : Int32) &&& 31)) &&& 15) → ((12 ≤ (w &&& 15) → post 0) ∧ (¬ 12 ≤ (w &&& 15) → post 1)))))))) → wpY_isWord post (nI 28) w := fun post h => br_f (by decide) (br_f (by decide) (br_f (by decide) (br_t rfl h)))
  by_cases n : w < 0
  · exact Or.inl ⟨fun post hp => hX post (br_t n hp), fun post hp => hY post (br_t n hp)⟩
  · obtain ⟨j, hj, rfl⟩ := nI_of n
    have e1 := tk_shr8 hj
    have e2 : (nI j >>> ((4 : Int32) &&& 31)) &&& 15 = nI (j / 16 % 16) := by rw [tk_shr4 hj, tk_and15 (by omega)]
    have e3 := tk_and15 hj
    have f1 := tk_d256 hj
    have f2 : (nI j / 16) - (nI j / 16) / 16 * 16 = nI (j / 16 % 16) := by rw [tk_d16 hj, tk_r16 (by omega)]
    have f3 := tk_r16 hj
    rw [f1, f2, f3] at hX
    rw [e1, e2, e3] at hY
    rcases Nat.lt_or_ge (j / 256) 10 with a | a
    · have a' : ¬ (10 : Int32) ≤ nI (j / 256) := nI_ge (b := 10) a (by decide)
      rcases Nat.lt_or_ge (j / 16 % 16) 12 with b | b
      · have b' : ¬ (12 : Int32) ≤ nI (j / 16 % 16) := nI_ge (b := 12) b (by decide)
        rcases Nat.lt_or_ge (j % 16) 12 with c | c
        · have c' : ¬ (12 : Int32) ≤ nI (j % 16) := nI_ge (b := 12) c (by decide)
          exact Or.inr ⟨⟨28, by omega, rfl, fun z => by omega, fun _ => ⟨j, a, b, c, rfl⟩⟩, fun post hp => hX post (br_f n (br_f a' (br_f b' (br_f c' hp)))), fun post hp => hY post (br_f n (br_f a' (br_f b' (br_f c' hp))))⟩
        · have c' : (12 : Int32) ≤ nI (j % 16) := nI_le (a := 12) c (by omega)
          exact Or.inl ⟨fun post hp => hX post (br_f n (br_f a' (br_f b' (br_t c' hp)))), fun post hp => hY post (br_f n (br_f a' (br_f b' (br_t c' hp))))⟩
      · have b' : (12 : Int32) ≤ nI (j / 16 % 16) := nI_le (a := 12) b (by omega)
        exact Or.inl ⟨fun post hp => hX post (br_f n (br_f a' (br_t b' hp))), fun post hp => hY post (br_f n (br_f a' (br_t b' hp)))⟩
    · have a' : (10 : Int32) ≤ nI (j / 256) := nI_le (a := 10) a (by omega)
      exact Or.inl ⟨fun post hp => hX post (br_f n (br_t a' hp)), fun post hp => hY post (br_f n (br_t a' hp))⟩
theorem tk_word : ∀ (kn : Nat), kn < 30 → ∀ w : Int32,
    ((∀ post : Int32 → Prop, post 0 → wpX_valueFits post (x_classCount, x_bodyCount, x_draftCount, x_wrongPlace, x_madeCount, x_frameCount, x_current, x_next, x_inHand, x_mode, x_outcome, x_stepCount, x_atWork, x_mostAtWork, x_saidCount, x_pendingCount, x_classParent, x_classFields, x_bound, x_tokenKind, x_tokenValue, x_globals, x_thingShown, x_thingClass, x_thingFields, x_thingToken, x_thingMaker, x_variables, x_homeOf, x_within, x_foundIn, x_baseFrame, x_frameToken, x_frameStage, x_frameLink, x_operands, x_saidValues, x_marked, x_pending) (nI kn) w) ∧ (∀ post : Int32 → Prop, post 0 → wpY_isWord post (nI kn) w)) ∨
    (tk_ok (nI kn) w ∧ (∀ post : Int32 → Prop, post 1 → wpX_valueFits post (x_classCount, x_bodyCount, x_draftCount, x_wrongPlace, x_madeCount, x_frameCount, x_current, x_next, x_inHand, x_mode, x_outcome, x_stepCount, x_atWork, x_mostAtWork, x_saidCount, x_pendingCount, x_classParent, x_classFields, x_bound, x_tokenKind, x_tokenValue, x_globals, x_thingShown, x_thingClass, x_thingFields, x_thingToken, x_thingMaker, x_variables, x_homeOf, x_within, x_foundIn, x_baseFrame, x_frameToken, x_frameStage, x_frameLink, x_operands, x_saidValues, x_marked, x_pending) (nI kn) w) ∧ (∀ post : Int32 → Prop, post 1 → wpY_isWord post (nI kn) w)) := by
  have fr : ∀ kn, kn < 30 → ¬ ((3 ≤ kn ∧ kn < 14) ∨ kn = 25) → kn ≠ 28 → ∀ w : Int32, (∀ post : Int32 → Prop, post 1 → wpX_valueFits post (x_classCount, x_bodyCount, x_draftCount, x_wrongPlace, x_madeCount, x_frameCount, x_current, x_next, x_inHand, x_mode, x_outcome, x_stepCount, x_atWork, x_mostAtWork, x_saidCount, x_pendingCount, x_classParent, x_classFields, x_bound, x_tokenKind, x_tokenValue, x_globals, x_thingShown, x_thingClass, x_thingFields, x_thingToken, x_thingMaker, x_variables, x_homeOf, x_within, x_foundIn, x_baseFrame, x_frameToken, x_frameStage, x_frameLink, x_operands, x_saidValues, x_marked, x_pending) (nI kn) w) → ((∀ post : Int32 → Prop, post 0 → wpX_valueFits post (x_classCount, x_bodyCount, x_draftCount, x_wrongPlace, x_madeCount, x_frameCount, x_current, x_next, x_inHand, x_mode, x_outcome, x_stepCount, x_atWork, x_mostAtWork, x_saidCount, x_pendingCount, x_classParent, x_classFields, x_bound, x_tokenKind, x_tokenValue, x_globals, x_thingShown, x_thingClass, x_thingFields, x_thingToken, x_thingMaker, x_variables, x_homeOf, x_within, x_foundIn, x_baseFrame, x_frameToken, x_frameStage, x_frameLink, x_operands, x_saidValues, x_marked, x_pending) (nI kn) w) ∧ (∀ post : Int32 → Prop, post 0 → wpY_isWord post (nI kn) w)) ∨
    (tk_ok (nI kn) w ∧ (∀ post : Int32 → Prop, post 1 → wpX_valueFits post (x_classCount, x_bodyCount, x_draftCount, x_wrongPlace, x_madeCount, x_frameCount, x_current, x_next, x_inHand, x_mode, x_outcome, x_stepCount, x_atWork, x_mostAtWork, x_saidCount, x_pendingCount, x_classParent, x_classFields, x_bound, x_tokenKind, x_tokenValue, x_globals, x_thingShown, x_thingClass, x_thingFields, x_thingToken, x_thingMaker, x_variables, x_homeOf, x_within, x_foundIn, x_baseFrame, x_frameToken, x_frameStage, x_frameLink, x_operands, x_saidValues, x_marked, x_pending) (nI kn) w) ∧ (∀ post : Int32 → Prop, post 1 → wpY_isWord post (nI kn) w)) := fun kn a b c w hX => tk_wfree a b c w hX (fun post hp => yw_free a b c hp)
  have li : ∀ kn, ((3 ≤ kn ∧ kn < 14) ∨ kn = 25) → ∀ w : Int32, (∀ post : Int32 → Prop, ((w < 0 → post 0) ∧ (¬ w < 0 → ((nI (tk_lim kn) ≤ w → post 0) ∧ (¬ nI (tk_lim kn) ≤ w → post 1)))) → wpX_valueFits post (x_classCount, x_bodyCount, x_draftCount, x_wrongPlace, x_madeCount, x_frameCount, x_current, x_next, x_inHand, x_mode, x_outcome, x_stepCount, x_atWork, x_mostAtWork, x_saidCount, x_pendingCount, x_classParent, x_classFields, x_bound, x_tokenKind, x_tokenValue, x_globals, x_thingShown, x_thingClass, x_thingFields, x_thingToken, x_thingMaker, x_variables, x_homeOf, x_within, x_foundIn, x_baseFrame, x_frameToken, x_frameStage, x_frameLink, x_operands, x_saidValues, x_marked, x_pending) (nI kn) w) → ((∀ post : Int32 → Prop, post 0 → wpX_valueFits post (x_classCount, x_bodyCount, x_draftCount, x_wrongPlace, x_madeCount, x_frameCount, x_current, x_next, x_inHand, x_mode, x_outcome, x_stepCount, x_atWork, x_mostAtWork, x_saidCount, x_pendingCount, x_classParent, x_classFields, x_bound, x_tokenKind, x_tokenValue, x_globals, x_thingShown, x_thingClass, x_thingFields, x_thingToken, x_thingMaker, x_variables, x_homeOf, x_within, x_foundIn, x_baseFrame, x_frameToken, x_frameStage, x_frameLink, x_operands, x_saidValues, x_marked, x_pending) (nI kn) w) ∧ (∀ post : Int32 → Prop, post 0 → wpY_isWord post (nI kn) w)) ∨
    (tk_ok (nI kn) w ∧ (∀ post : Int32 → Prop, post 1 → wpX_valueFits post (x_classCount, x_bodyCount, x_draftCount, x_wrongPlace, x_madeCount, x_frameCount, x_current, x_next, x_inHand, x_mode, x_outcome, x_stepCount, x_atWork, x_mostAtWork, x_saidCount, x_pendingCount, x_classParent, x_classFields, x_bound, x_tokenKind, x_tokenValue, x_globals, x_thingShown, x_thingClass, x_thingFields, x_thingToken, x_thingMaker, x_variables, x_homeOf, x_within, x_foundIn, x_baseFrame, x_frameToken, x_frameStage, x_frameLink, x_operands, x_saidValues, x_marked, x_pending) (nI kn) w) ∧ (∀ post : Int32 → Prop, post 1 → wpY_isWord post (nI kn) w)) := fun kn a w hX => tk_wlim a w hX (fun post hp => yw_lim a hp)
  refine tk_cases ?_ ?_ ?_ ?_ ?_ ?_ ?_ ?_ ?_ ?_ ?_ ?_ ?_ ?_ ?_ ?_ ?_ ?_ ?_ ?_ ?_ ?_ ?_ ?_ ?_ ?_ ?_ ?_ ?_ ?_
  case refine_29 => exact tk_28
  all_goals intro w
  all_goals first
    | (refine fr _ (by decide) (by decide) (by decide) w (fun post hp => ?_)
       unfold wpX_valueFits
       first
         | exact br_t (by decide) hp
         | (refine br_f (by decide) ?_
            first
              | exact br_t (by decide) hp
              | (refine br_f (by decide) ?_
                 repeat first | exact br_t rfl hp | refine br_f (by decide) ?_)))
    | (refine li _ (by decide) w (fun post hp => ?_)
       unfold wpX_valueFits
       refine br_f (by decide) (br_f (by decide) ?_)
       repeat first | exact br_t rfl hp | refine br_f (by decide) ?_)
end
theorem i_vc_token {k : Nat} {u : SX} {v : SY} (I : i_Rel k u v) (hk : k + 5 ≤ 2560) (v1 : Int32) (v2 : Int32) : wpX_token (fun r u' => wpY_token (fun r' v' => r' = r ∧ i_Rel (k + 5) u' v') v v1 v2) u v1 v2 := by
  have J := i_up I
  obtain ⟨x_classCount, x_bodyCount, x_draftCount, x_wrongPlace, x_madeCount, x_frameCount, x_current, x_next, x_inHand, x_mode, x_outcome, x_stepCount, x_atWork, x_mostAtWork, x_saidCount, x_pendingCount, x_classParent, x_classFields, x_bound, x_tokenKind, x_tokenValue, x_globals, x_thingShown, x_thingClass, x_thingFields, x_thingToken, x_thingMaker, x_variables, x_homeOf, x_within, x_foundIn, x_baseFrame, x_frameToken, x_frameStage, x_frameLink, x_operands, x_saidValues, x_marked, x_pending⟩ := u
  obtain ⟨y_classes, y_bodies, y_fault, y_made, y_working, y_peak, y_steps, y_depth, y_waiting, y_code, y_running, y_has, y_got, y_todos, y_marks, y_shown, y_spoken, y_parent, y_fields, y_bound, y_kind, y_word, y_size, y_sort, y_number, y_stands, y_keeps, y_cells, y_globals, y_within, y_foundIn, y_self, y_args, y_temps, y_param, y_live, y_work, y_under, y_at, y_in, y_phase, y_base, y_goal, y_operands, y_marked, y_todo, y_heard⟩ := v
  obtain ⟨cc, bc, dc, mc, T, ST, SA, lv, τ, σ, lev, ho, ⟨a1, a2, rfl, rfl, rfl, a6⟩, h2, h3, ⟨C, B, TT, D⟩, h5, g, ⟨H, hU⟩, bf⟩ := I
  rcases pk_ix v1 (n := 30) (by decide) with h | h | ⟨kn, hkn, rfl⟩
  · exact br_t h (br_t h (br_t rfl (br_t rfl ⟨rfl, J⟩)))
  · have h0 : ¬ v1 < 0 := Int32.not_lt.mpr (Int32.le_trans (by decide) h)
    exact br_f h0 (br_t h (br_f h0 (br_t h (br_t rfl (br_t rfl ⟨rfl, J⟩)))))
  · have h0 : ¬ nI kn < 0 := nI_pos (by omega)
    have h1 : ¬ (30 : Int32) ≤ nI kn := nI_ge (b := 30) hkn (by decide)
    refine br_f h0 (br_f h1 ?_)
    rcases tk_word kn hkn v2 with ⟨wX, wY⟩ | ⟨ok, wX, wY⟩
    · refine wX _ (br_t rfl ?_)
      unfold wpY_token
      exact wY _ (br_t rfl ⟨rfl, J⟩)
    · obtain ⟨d1, d2, d3⟩ := D
      have b12 := TT.1
      have goY : ∀ post : Int32 → SY → Prop, _ → wpY_token post (y_classes, nI bc, y_fault, y_made, y_working, y_peak, y_steps, y_depth, y_waiting, y_code, y_running, y_has, y_got, y_todos, y_marks, y_shown, y_spoken, y_parent, y_fields, y_bound, y_kind, y_word, y_size, y_sort, y_number, y_stands, y_keeps, y_cells, y_globals, y_within, y_foundIn, y_self, y_args, y_temps, y_param, y_live, y_work, y_under, y_at, y_in, y_phase, y_base, y_goal, y_operands, y_marked, y_todo, y_heard) (nI kn) v2 := fun post h => by
        unfold wpY_token
        exact wY _ (br_f (by decide) h)
      refine wX _ (br_f (by decide) ?_)
      by_cases z : dc = 32
      · subst z
        exact br_t rfl (goY _ (br_t d2 ⟨rfl, J⟩))
      · have z1 : ¬ nI dc = 32 := fun q => z ((nI_eq (b := 32) (by omega) (by decide)).mp q)
        have eX : nI bc * (32 : Int32) + nI dc = nI (32 * bc + dc) := by rw [Nat.mul_comm]; exact ix_r 32 bc dc
        have eY : (384 : Int32) + y_size 12 = nI (384 + dc) := by rw [d2]; exact nI_add 384 dc
        have cX : (nI (32 * bc + dc)).toNatClampNeg = 32 * bc + dc := nI_clamp (by omega)
        have cY : (nI (384 + dc)).toNatClampNeg = 384 + dc := nI_clamp (by omega)
        have vX : vp_in (nI (32 * bc + dc)) 416 := vp_in_nI (by omega) (by decide)
        have vY : vp_in (nI (384 + dc)) 416 := vp_in_nI (by omega) (by decide)
        refine br_f z1 (nm_r eX ⟨vX, ?_⟩)
        rw [cX]
        refine nm_e ⟨vX, nm_e (nm_r (nI_1 dc) (goY _ (br_f (by rw [d2]; exact z1) ?_)))⟩
        rw [eY, cY, d2, nI_1]
        refine ⟨vY, nm_e ⟨vY, nm_e (nm_e ⟨rfl, cc, bc, dc + 1, mc, T, ST, SA, lv, τ, σ, lev, ho, ⟨a1, a2, rfl, rfl, rfl, a6⟩, h2, h3, ⟨C, B, ?_, ?_⟩, by omega, g, ⟨?_, hU⟩, bf⟩)⟩⟩
        · exact rl_Tsz TT (Nat.le_refl _) (fun p p1 p2 => ⟨pk_un (by omega), pk_un (by omega), pk_un (by omega), pk_un (by omega)⟩) (fun b hb => pk_un (by omega))
        · refine ⟨by omega, pk_us, fun i hi => ?_⟩
          by_cases q : i = dc
          · subst q
            rw [pk_us, pk_us, pk_us, pk_us]
            exact ⟨rfl, rfl, ok⟩
          · rw [pk_un (show 32 * bc + i ≠ 32 * bc + dc by omega), pk_un (show 32 * bc + i ≠ 32 * bc + dc by omega), pk_un (show 384 + i ≠ 384 + dc by omega), pk_un (show 384 + i ≠ 384 + dc by omega)]
            exact d3 i (by omega)
        · exact hp_TK H fun p tp => ⟨tp, rfl, pk_un (by have := (TT.2.1 p tp).1; omega)⟩
theorem i_vc_cls {k : Nat} {u : SX} {v : SY} (I : i_Rel k u v) (hk : k + 5 ≤ 2560) (v1 : Int32) (v2 : Int32) : wpX_cls (fun r u' => wpY_cls (fun r' v' => r' = r ∧ i_Rel (k + 5) u' v') v v1 v2) u v1 v2 := by
  have J := i_up I
  obtain ⟨x_classCount, x_bodyCount, x_draftCount, x_wrongPlace, x_madeCount, x_frameCount, x_current, x_next, x_inHand, x_mode, x_outcome, x_stepCount, x_atWork, x_mostAtWork, x_saidCount, x_pendingCount, x_classParent, x_classFields, x_bound, x_tokenKind, x_tokenValue, x_globals, x_thingShown, x_thingClass, x_thingFields, x_thingToken, x_thingMaker, x_variables, x_homeOf, x_within, x_foundIn, x_baseFrame, x_frameToken, x_frameStage, x_frameLink, x_operands, x_saidValues, x_marked, x_pending⟩ := u
  obtain ⟨y_classes, y_bodies, y_fault, y_made, y_working, y_peak, y_steps, y_depth, y_waiting, y_code, y_running, y_has, y_got, y_todos, y_marks, y_shown, y_spoken, y_parent, y_fields, y_bound, y_kind, y_word, y_size, y_sort, y_number, y_stands, y_keeps, y_cells, y_globals, y_within, y_foundIn, y_self, y_args, y_temps, y_param, y_live, y_work, y_under, y_at, y_in, y_phase, y_base, y_goal, y_operands, y_marked, y_todo, y_heard⟩ := v
  obtain ⟨cc, bc, dc, mc, T, ST, SA, lv, τ, σ, lev, ho, ⟨rfl, rfl, a3, a4, a5, a6, a7, a8, a9, a10, a11, rfl, rfl, a14⟩, h2, h3, ⟨C, B, TT, D⟩, h5, g, ⟨H, hU⟩, bf⟩ := I
  obtain ⟨c4, c10, c0, cp, cf, cf3⟩ := C
  unfold wpX_cls
  dsimp only
  rcases xw_made c4 c10 v1 with ⟨mX, mY⟩ | ⟨c, hc, rfl, hc2, mX, mY⟩
  · exact mX _ (br_t rfl (by unfold wpY_cls; exact mY _ (br_t rfl ⟨rfl, J⟩)))
  · refine mX _ (br_f (by decide) ?_)
    have goY : ∀ post : Int32 → SY → Prop, _ → wpY_cls post (nI cc, y_bodies, y_fault, y_made, y_working, y_peak, y_steps, y_depth, y_waiting, y_code, y_running, y_has, y_got, y_todos, y_marks, y_shown, y_spoken, y_parent, y_fields, y_bound, y_kind, y_word, y_size, y_sort, y_number, y_stands, y_keeps, y_cells, y_globals, y_within, y_foundIn, y_self, y_args, y_temps, y_param, y_live, y_work, y_under, y_at, y_in, y_phase, y_base, y_goal, y_operands, y_marked, y_todo, y_heard) (nI c) v2 := fun post h => by
      unfold wpY_cls
      exact mY _ (br_f (by decide) h)
    by_cases n2 : v2 < 0
    · exact br_t n2 (goY _ (br_t n2 ⟨rfl, J⟩))
    · obtain ⟨f, hf, rfl⟩ := nI_of n2
      obtain ⟨f0, f1, f2⟩ := cf c (by omega)
      have vc : vp_in (nI c) 10 := vp_in_nI (by omega) (by decide)
      have ec : (nI c).toNatClampNeg = c := nI_clamp (by omega)
      refine br_f n2 ?_
      rw [ec, f2]
      have e4 : (4 : Int32) - nI f0 = nI (4 - f0) := pk_sub (a := 4) f1
      rw [e4]
      refine ⟨vc, ?_⟩
      rcases Nat.lt_or_ge (4 - f0) f with q | q
      · refine br_f (nI_ge q hf) (goY _ (br_f n2 ?_))
        rcases Nat.lt_or_ge 4 f with q4 | q4
        · exact br_t (nI_lt (a := 4) q4 hf) ⟨rfl, J⟩
        · refine br_f (nI_nlt (a := f) (b := f) (Nat.le_refl _) hf |> fun _ => nI_nlt (b := f) (a := 4) q4 (by decide)) ?_
          rw [ec, f2, nI_add]
          exact ⟨vc, br_f (nI_ge (a := 4) (by omega) (by omega)) ⟨rfl, J⟩⟩
      · refine br_t (nI_le q (by omega)) ?_
        have y4 : ¬ (4 : Int32) < nI f := nI_nlt (b := f) (a := 4) (by omega) (by decide)
        have le4 : nI f0 + nI f ≤ 4 := by rw [nI_add]; exact nI_le (b := 4) (by omega) (by decide)
        by_cases z : cc = 10
        · subst z
          refine br_t rfl (goY _ (br_f n2 (br_f y4 ⟨vc, br_t ?_ (br_t rfl ⟨rfl, J⟩)⟩)))
          rw [ec, f2]; exact le4
        · have z1 : ¬ nI cc = 10 := fun q => z ((nI_eq (b := 10) (by omega) (by decide)).mp q)
          have vcc : vp_in (nI cc) 10 := vp_in_nI (by omega) (by decide)
          have ecc : (nI cc).toNatClampNeg = cc := nI_clamp (by omega)
          have em : nI (cc + 1) - 1 = nI cc := nI_pred cc
          refine br_f z1 ⟨vcc, ?_⟩
          rw [ecc]
          refine nm_e ⟨vc, vcc, nm_e (nm_r (nI_1 cc) ?_)⟩
          rw [em]
          refine goY _ (br_f n2 (br_f y4 ⟨vc, ?_⟩))
          rw [ec, f2, ecc]
          refine br_t le4 (br_f z1 ⟨vcc, nm_e ⟨vc, vcc, nm_e (nm_r (nI_1 cc) ⟨rfl, cc + 1, bc, dc, mc, T, ST, SA, lv, τ, σ, lev, ho, ⟨rfl, rfl, a3, a4, a5, a6, a7, a8, a9, a10, a11, rfl, rfl, a14⟩, h2, h3, ⟨⟨by omega, by omega, ?_, fun d d1 d2 => ?_, fun d d1 => ?_, ?_⟩, B, ?_, D⟩, by omega, g, ⟨?_, hU⟩, bf⟩)⟩⟩)
          · rw [pk_un (by omega)]; exact c0
          · by_cases e : d = cc
            · subst e; exact ⟨c, hc, pk_us⟩
            · rw [pk_un e]; exact cp d d1 (by omega)
          · by_cases e : d = cc
            · subst e; rw [pk_us, nI_add]; exact ⟨f0 + f, by omega, rfl⟩
            · rw [pk_un e]; exact cf d d1
          · rw [pk_un (by omega)]; exact cf3
          · exact rl_Tsz TT (by omega) (fun p _ _ => ⟨rfl, rfl, rfl, rfl⟩) (fun b _ => rfl)
          · exact hp_cc H (by omega) (Nat.le_refl _)
theorem i_vc_bind {k : Nat} {u : SX} {v : SY} (I : i_Rel k u v) (hk : k + 5 ≤ 2560) (v1 : Int32) (v2 : Int32) (v3 : Int32) : wpX_bind (fun r u' => wpY_bind (fun r' v' => r' = r ∧ i_Rel (k + 5) u' v') v v1 v2 v3) u v1 v2 v3 := by
  have J := i_up I
  obtain ⟨x_classCount, x_bodyCount, x_draftCount, x_wrongPlace, x_madeCount, x_frameCount, x_current, x_next, x_inHand, x_mode, x_outcome, x_stepCount, x_atWork, x_mostAtWork, x_saidCount, x_pendingCount, x_classParent, x_classFields, x_bound, x_tokenKind, x_tokenValue, x_globals, x_thingShown, x_thingClass, x_thingFields, x_thingToken, x_thingMaker, x_variables, x_homeOf, x_within, x_foundIn, x_baseFrame, x_frameToken, x_frameStage, x_frameLink, x_operands, x_saidValues, x_marked, x_pending⟩ := u
  obtain ⟨y_classes, y_bodies, y_fault, y_made, y_working, y_peak, y_steps, y_depth, y_waiting, y_code, y_running, y_has, y_got, y_todos, y_marks, y_shown, y_spoken, y_parent, y_fields, y_bound, y_kind, y_word, y_size, y_sort, y_number, y_stands, y_keeps, y_cells, y_globals, y_within, y_foundIn, y_self, y_args, y_temps, y_param, y_live, y_work, y_under, y_at, y_in, y_phase, y_base, y_goal, y_operands, y_marked, y_todo, y_heard⟩ := v
  obtain ⟨cc, bc, dc, mc, T, ST, SA, lv, τ, σ, lev, ho, ⟨rfl, rfl, rfl, rfl, a5, a6, a7, a8, a9, a10, a11, a12, a13, rfl, a15⟩, h2, h3, ⟨C, B, TT, D⟩, h5, g⟩ := I
  have cc10 := C.2.1
  have b12 := B.1
  rcases pk_ix v1 (n := cc) (by omega) with h | h | ⟨c, hc, rfl⟩
  · exact br_t h (br_t rfl (br_t h (br_t rfl ⟨rfl, J⟩)))
  · have h0 : ¬ v1 < 0 := Int32.not_lt.mpr (Int32.le_trans (nI_pos' (by omega)) h)
    exact br_f h0 (br_t h (br_t rfl (br_f h0 (br_t h (br_t rfl ⟨rfl, J⟩)))))
  · have h0 : ¬ nI c < 0 := nI_pos (by omega)
    have h1 : ¬ nI cc ≤ nI c := nI_ge hc (by omega)
    refine br_f h0 (br_f h1 (br_f (by decide) ?_))
    rcases pk_ix v2 (n := 12) (by decide) with q | q | ⟨s, hs, rfl⟩
    · exact br_t q (br_t rfl (br_f h0 (br_f h1 (br_f (by decide) (br_t q (br_t rfl ⟨rfl, J⟩))))))
    · have q0 : ¬ v2 < 0 := Int32.not_lt.mpr (Int32.le_trans (by decide) q)
      exact br_f q0 (br_t q (br_t rfl (br_f h0 (br_f h1 (br_f (by decide) (br_f q0 (br_t q (br_t rfl ⟨rfl, J⟩))))))))
    · have q0 : ¬ nI s < 0 := nI_pos (by omega)
      have q1 : ¬ (12 : Int32) ≤ nI s := nI_ge (b := 12) hs (by decide)
      have goY : ∀ post : Int32 → SY → Prop, _ → wpY_bind post (nI cc, nI bc, y_fault, y_made, y_working, y_peak, y_steps, y_depth, y_waiting, y_code, y_running, y_has, y_got, y_todos, y_marks, y_shown, y_spoken, y_parent, y_fields, y_bound, y_kind, y_word, y_size, y_sort, y_number, y_stands, y_keeps, y_cells, y_globals, y_within, y_foundIn, y_self, y_args, y_temps, y_param, y_live, y_work, y_under, y_at, y_in, y_phase, y_base, y_goal, y_operands, y_marked, y_todo, y_heard) (nI c) (nI s) v3 := fun post h => br_f h0 (br_f h1 (br_f (by decide) (br_f q0 (br_f q1 (br_f (by decide) h)))))
      refine br_f q0 (br_f q1 (br_f (by decide) ?_))
      have done : ∀ v3 : Int32, (v3 = -1 ∨ ∃ b, b < bc ∧ v3 = nI b) → i_Rel (k + 5) (nI cc, nI bc, x_draftCount, x_wrongPlace, x_madeCount, x_frameCount, x_current, x_next, x_inHand, x_mode, x_outcome, x_stepCount, x_atWork, x_mostAtWork, x_saidCount, x_pendingCount, x_classParent, x_classFields, upd y_bound (c * 12 + s) v3, x_tokenKind, x_tokenValue, x_globals, x_thingShown, x_thingClass, x_thingFields, x_thingToken, x_thingMaker, x_variables, x_homeOf, x_within, x_foundIn, x_baseFrame, x_frameToken, x_frameStage, x_frameLink, x_operands, x_saidValues, x_marked, x_pending) (nI cc, nI bc, y_fault, y_made, y_working, y_peak, y_steps, y_depth, y_waiting, y_code, y_running, y_has, y_got, y_todos, y_marks, y_shown, y_spoken, y_parent, y_fields, upd y_bound (c * 12 + s) v3, y_kind, y_word, y_size, y_sort, y_number, y_stands, y_keeps, y_cells, y_globals, y_within, y_foundIn, y_self, y_args, y_temps, y_param, y_live, y_work, y_under, y_at, y_in, y_phase, y_base, y_goal, y_operands, y_marked, y_todo, y_heard) := fun v3 hv => by
        refine ⟨cc, bc, dc, mc, T, ST, SA, lv, τ, σ, lev, ho, ⟨rfl, rfl, rfl, rfl, a5, a6, a7, a8, a9, a10, a11, a12, a13, rfl, a15⟩, h2, h3, ⟨C, ⟨b12, fun i hi => ?_⟩, TT, D⟩, by omega, g⟩
        by_cases e : i = c * 12 + s
        · subst e; rw [pk_us]; exact hv
        · rw [pk_un e]; exact B.2 i hi
      have eX : nI c * (12 : Int32) + nI s = nI (c * 12 + s) := ix_r 12 c s
      have eY : (12 : Int32) * nI c + nI s = nI (c * 12 + s) := by rw [Nat.mul_comm c 12]; exact ix_l 12 c s
      have ci : (nI (c * 12 + s)).toNatClampNeg = c * 12 + s := nI_clamp (by omega)
      have vi : vp_in (nI (c * 12 + s)) 120 := vp_in_nI (by omega) (by decide)
      have fin : ∀ v3 : Int32, (v3 = -1 ∨ ∃ b, b < bc ∧ v3 = nI b) → ∀ P : Prop, (wY_bind_48 (fun r' v' => r' = 1 ∧ i_Rel (k + 5) (nI cc, nI bc, x_draftCount, x_wrongPlace, x_madeCount, x_frameCount, x_current, x_next, x_inHand, x_mode, x_outcome, x_stepCount, x_atWork, x_mostAtWork, x_saidCount, x_pendingCount, x_classParent, x_classFields, upd y_bound (c * 12 + s) v3, x_tokenKind, x_tokenValue, x_globals, x_thingShown, x_thingClass, x_thingFields, x_thingToken, x_thingMaker, x_variables, x_homeOf, x_within, x_foundIn, x_baseFrame, x_frameToken, x_frameStage, x_frameLink, x_operands, x_saidValues, x_marked, x_pending) v') (nI c) (nI s) v3 (nI cc) (nI bc) y_fault y_made y_working y_peak y_steps y_depth y_waiting y_code y_running y_has y_got y_todos y_marks y_shown y_spoken y_parent y_fields y_bound y_kind y_word y_size y_sort y_number y_stands y_keeps y_cells y_globals y_within y_foundIn y_self y_args y_temps y_param y_live y_work y_under y_at y_in y_phase y_base y_goal y_operands y_marked y_todo y_heard → P) → P := fun v3 hv P hP => by
        refine hP ?_
        unfold wY_bind_48
        rw [eY, ci]
        exact ⟨vi, nm_e ⟨rfl, done v3 hv⟩⟩
      by_cases m1 : v3 < -1
      · exact br_t m1 (goY _ (br_t m1 ⟨rfl, J⟩))
      · refine br_f m1 ?_
        rcases pk_ix v3 (n := bc) (by omega) with r | r | ⟨b, hb, rfl⟩
        · have e : v3 = -1 := Int32.le_antisymm (by
            rw [Int32.le_iff_toInt_le]
            rw [Int32.lt_iff_toInt_lt] at r
            have : (0 : Int32).toInt = 0 := by decide
            have : (-1 : Int32).toInt = -1 := by decide
            omega) (Int32.not_lt.mp m1)
          subst e
          have lb : (-1 : Int32) < nI bc := by
            rw [Int32.lt_iff_toInt_lt, nI_toInt (by omega), show (-1 : Int32).toInt = -1 from by decide]; omega
          refine br_t lb (br_t rfl ?_)
          unfold wX_bind_49
          rw [eX, ci]
          refine ⟨vi, nm_e (goY _ (br_f m1 (br_f (Int32.not_le.mpr lb) (br_t (by decide) ?_))))⟩
          exact fin (-1) (Or.inl rfl) _ id
        · have lb : ¬ v3 < nI bc := Int32.not_lt.mpr r
          exact br_f lb (goY _ (br_f m1 (br_t r ⟨rfl, J⟩)))
        · have lb : nI b < nI bc := nI_lt hb (by omega)
          have r1 : ¬ nI bc ≤ nI b := nI_ge hb (by omega)
          have r0 : ¬ nI b < 0 := nI_pos (by omega)
          refine br_t lb (br_f (gx_m1 (by omega)) ⟨by decide, ?_⟩)
          rw [tk_div4 (by omega)]
          rcases xw_uses TT hb (show s < 2 ^ 31 by omega) with ⟨uX, uY⟩ | ⟨uX, uY⟩
          · refine uX _ (br_t rfl ?_)
            unfold wX_bind_49
            rw [eX, ci]
            refine ⟨vi, nm_e (goY _ (br_f m1 (br_f r1 (br_f r0 (uY _ (br_f (by decide) ?_))))))⟩
            exact fin (nI b) (Or.inr ⟨b, hb, rfl⟩) _ id
          · exact uX _ (br_f (by decide) (goY _ (br_f m1 (br_f r1 (br_f r0 (uY _ (br_t rfl ⟨rfl, J⟩)))))))
