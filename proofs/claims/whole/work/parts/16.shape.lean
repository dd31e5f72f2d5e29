/-! the shape of a BODY -/
def ex_r (nd : Nat → Nat) : Nat → Nat → Nat → Nat
  | 0, m, _ => m
  | n + 1, m, p => if m = 0 then 0 else ex_r nd n (m - 1 + nd p) (p + 1)
theorem ex_r0 {nd : Nat → Nat} : ∀ n p, ex_r nd n 0 p = 0
  | 0, _ => rfl
  | _ + 1, _ => if_pos rfl
theorem ex_rs {nd : Nat → Nat} {n m p : Nat} (h : m ≠ 0) : ex_r nd (n + 1) m p = ex_r nd n (m - 1 + nd p) (p + 1) := if_neg h
theorem ex_r_s {nd : Nat → Nat} : ∀ {n m p : Nat}, ex_r nd n m p = 0 → ∃ n', n' ≤ n ∧ ex_s nd n' m p
  | 0, m, p, h => ⟨0, Nat.le_refl _, h⟩
  | n + 1, m, p, h => by
    by_cases z : m = 0
    · exact ⟨0, by omega, z⟩
    · rw [ex_rs z] at h
      obtain ⟨n', a, b⟩ := ex_r_s h
      exact ⟨n' + 1, by omega, z, b⟩
theorem ex_s_r {nd : Nat → Nat} : ∀ {n' n m p : Nat}, ex_s nd n' m p → n' ≤ n → ex_r nd n m p = 0
  | 0, n, m, p, h, _ => by
    have e : m = 0 := h
    subst e; exact ex_r0 n p
  | n' + 1, 0, m, p, _, hn => by omega
  | n' + 1, n + 1, m, p, h, hn => by
    rw [ex_rs h.1]
    exact ex_s_r h.2 (by omega)
/-- k is a BLOCK around i -/
def sh_P (kd wd : Nat → Int32) (i k : Nat) : Prop := kd k = 12 ∧ ¬ ex_r (tk_nd kd wd) (i - k - 1) 1 (k + 1) = 0
def sh_e (s : Nat) : Option Nat → Int32
  | none => -1
  | some r => nI (s + r)
theorem sh_m1 (s : Nat) : nI s + (-1) = nI s - 1 := by grind
theorem sh_lt {s : Nat} (h : s < 2 ^ 31) : nI s - 1 < nI s := by
  cases s with
  | zero => decide
  | succ s => rw [nI_pred]; exact nI_lt (by omega) h
section
variable {x_classCount x_bodyCount x_draftCount x_wrongPlace x_madeCount x_frameCount x_current x_next x_mode x_outcome x_stepCount x_atWork x_mostAtWork x_saidCount x_pendingCount : Int32} {x_inHand : Int64} {x_classParent x_classFields x_bound x_tokenKind x_tokenValue x_thingClass x_thingToken x_thingMaker x_homeOf x_within x_foundIn x_baseFrame x_frameToken x_frameStage x_frameLink x_marked x_pending : Nat → Int32} {x_globals x_thingShown x_thingFields x_variables x_operands x_saidValues : Nat → Int64}
variable {y_classes y_bodies y_fault y_made y_working y_peak y_steps y_depth y_waiting y_code y_running y_has y_todos y_marks y_spoken : Int32} {y_got y_shown : Int64} {y_parent y_fields y_bound y_kind y_word y_size y_sort y_number y_stands y_keeps y_within y_foundIn y_live y_work y_under y_at y_in y_phase y_base y_goal y_marked y_todo : Nat → Int32} {y_cells y_globals y_self y_args y_temps y_param y_operands y_heard : Nat → Int64}
variable {cc bc dc s : Nat} {T : Nat → Prop} {lv : Nat → Nat} {kd wd : Nat → Int32}
theorem sh_y22 {post : Int32 → Prop} {i : Nat} (hi : i ≤ 32) (hY : ∀ q, q < i → y_kind (384 + q) = kd q ∧ y_word (384 + q) = wd q ∧ tk_ok (kd q) (wd q)) : ∀ (n m q f : Nat), q + n = i → n < f → m + 3 * n < 2 ^ 31 → ((ex_r (tk_nd kd wd) n m q = 0 → post 0) ∧ (¬ ex_r (tk_nd kd wd) n m q = 0 → post 1)) → wY_isAround_22 post (nI (384 + i)) y_classes y_bodies y_fault y_made y_working y_peak y_steps y_depth y_waiting y_code y_running y_has y_got y_todos y_marks y_shown y_spoken y_parent y_fields y_bound y_kind y_word y_size y_sort y_number y_stands y_keeps y_cells y_globals y_within y_foundIn y_self y_args y_temps y_param y_live y_work y_under y_at y_in y_phase y_base y_goal y_operands y_marked y_todo y_heard f (nI m) (nI (384 + q))
  | n, m, q, 0, _, hf, _, _ => by omega
  | 0, m, q, f + 1, e, hf, hm, h => by
    refine br_t (nI_le (by omega) (by omega)) ?_
    by_cases z : m = 0
    · subst z
      exact br_t (by decide) (h.1 rfl)
    · exact br_f (nI_nle (by omega) (by omega)) (h.2 z)
  | n + 1, m, q, f + 1, e, hf, hm, h => by
    refine br_f (nI_ge (by omega) (by omega)) ?_
    by_cases z : m = 0
    · subst z
      exact br_t (by decide) (br_t (by decide) (h.1 (ex_r0 _ _)))
    · obtain ⟨y1, y2, y3⟩ := hY q (by omega)
      refine br_f (nI_nle (by omega) (by omega)) (yw_needs (by omega) (by rw [y1, y2]; exact y3) ?_)
      rw [y1, y2]
      have l3 := tk_need_le y3
      refine nm_r (tk_mm z) (nm_r (nI_1 (384 + q)) ?_)
      rw [ex_rs z] at h
      have := sh_y22 hi hY n (m - 1 + tk_need (kd q) (wd q)) (q + 1) f (by omega) (by omega) (by omega) h
      exact this
theorem sh_x5 {post : Int32 → Prop} {i : Nat} (hi : i ≤ 32) (hs : s + 32 ≤ 416) (hX : ∀ q, q < i → x_tokenKind (s + q) = kd q ∧ x_tokenValue (s + q) = wd q ∧ tk_ok (kd q) (wd q)) : ∀ (n m q f : Nat), q + n = i → n < f → m + 3 * n < 2 ^ 31 → ((ex_r (tk_nd kd wd) n m q = 0 → post 0) ∧ (¬ ex_r (tk_nd kd wd) n m q = 0 → post 1)) → wX_lacksSomething_5 post (nI (s + i)) x_classCount x_bodyCount x_draftCount x_wrongPlace x_madeCount x_frameCount x_current x_next x_inHand x_mode x_outcome x_stepCount x_atWork x_mostAtWork x_saidCount x_pendingCount x_classParent x_classFields x_bound x_tokenKind x_tokenValue x_globals x_thingShown x_thingClass x_thingFields x_thingToken x_thingMaker x_variables x_homeOf x_within x_foundIn x_baseFrame x_frameToken x_frameStage x_frameLink x_operands x_saidValues x_marked x_pending f (nI m) (nI (s + q))
  | n, m, q, 0, _, hf, _, _ => by omega
  | 0, m, q, f + 1, e, hf, hm, h => by
    refine br_t (nI_le (by omega) (by omega)) ?_
    by_cases z : m = 0
    · subst z
      exact br_t (by decide) (h.1 rfl)
    · exact br_f (nI_nle (by omega) (by omega)) (h.2 z)
  | n + 1, m, q, f + 1, e, hf, hm, h => by
    refine br_f (nI_ge (by omega) (by omega)) ?_
    by_cases z : m = 0
    · subst z
      exact br_t (by decide) (br_t (by decide) (h.1 (ex_r0 _ _)))
    · obtain ⟨y1, y2, y3⟩ := hX q (by omega)
      have l3 := tk_need_le y3
      refine br_f (nI_nle (by omega) (by omega)) ⟨vp_in_nI (by omega) (by decide), vp_in_nI (by omega) (by decide), ?_⟩
      rw [nI_clamp (by omega), y1, y2]
      refine xw_needs y3 (nm_r (tk_mm z) (nm_r (nI_1 (s + q)) ?_))
      rw [ex_rs z] at h
      exact sh_x5 hi hs hX n (m - 1 + tk_need (kd q) (wd q)) (q + 1) f (by omega) (by omega) (by omega) h
theorem sh_around {i : Nat} (hi : i < 32) (hs : s + 32 ≤ 416) (hX : ∀ q, q < i → x_tokenKind (s + q) = kd q ∧ x_tokenValue (s + q) = wd q ∧ tk_ok (kd q) (wd q)) (hY : ∀ q, q < i → y_kind (384 + q) = kd q ∧ y_word (384 + q) = wd q ∧ tk_ok (kd q) (wd q)) : ∀ n, n ≤ i → ∀ l, l < 2 ^ 30 →
    ∃ o : Option Nat, (o = none → ct_n (sh_P kd wd i) n ≤ l) ∧ (∀ r, o = some r → r < n ∧ l < ct_n (sh_P kd wd i) n) ∧
    (∀ f (post : Int32 → Prop), n < f → post (sh_e s o) → wX_blockAround_8 post (nI s) (nI (s + i)) x_classCount x_bodyCount x_draftCount x_wrongPlace x_madeCount x_frameCount x_current x_next x_inHand x_mode x_outcome x_stepCount x_atWork x_mostAtWork x_saidCount x_pendingCount x_classParent x_classFields x_bound x_tokenKind x_tokenValue x_globals x_thingShown x_thingClass x_thingFields x_thingToken x_thingMaker x_variables x_homeOf x_within x_foundIn x_baseFrame x_frameToken x_frameStage x_frameLink x_operands x_saidValues x_marked x_pending f (nI l) (nI (s + n) - 1)) ∧
    (∀ f (post : Int32 → Prop), n < f → post (sh_e 384 o) → wY_around_7 post (nI (384 + i)) y_classes y_bodies y_fault y_made y_working y_peak y_steps y_depth y_waiting y_code y_running y_has y_got y_todos y_marks y_shown y_spoken y_parent y_fields y_bound y_kind y_word y_size y_sort y_number y_stands y_keeps y_cells y_globals y_within y_foundIn y_self y_args y_temps y_param y_live y_work y_under y_at y_in y_phase y_base y_goal y_operands y_marked y_todo y_heard f (nI l) (nI (384 + n) - 1)) := by
  intro n
  induction n with
  | zero =>
    intro _ l hl
    refine ⟨none, fun _ => Nat.zero_le _, fun r e => (by cases e), fun f post hf hp => ?_, fun f post hf hp => ?_⟩
    · obtain ⟨f', rfl⟩ : ∃ f', f = f' + 1 := ⟨f - 1, by omega⟩
      exact br_t (sh_lt (by omega)) hp
    · obtain ⟨f', rfl⟩ : ∃ f', f = f' + 1 := ⟨f - 1, by omega⟩
      exact br_t (by decide) hp
  | succ n ih =>
    intro hn l hl
    obtain ⟨x1, x2, x3⟩ := hX n (by omega)
    obtain ⟨y1, y2, y3⟩ := hY n (by omega)
    have eX : nI (s + (n + 1)) - 1 = nI (s + n) := nI_pred (s + n)
    have eY : nI (384 + (n + 1)) - 1 = nI (384 + n) := nI_pred (384 + n)
    have cX : (nI (s + n)).toNatClampNeg = s + n := nI_clamp (by omega)
    have cY : (nI (384 + n)).toNatClampNeg = 384 + n := nI_clamp (by omega)
    have e1 : i - n = (i - n - 1) + 1 := by omega
    have k12 : kd n = 12 → tk_need (kd n) (wd n) = 1 := fun z => by rw [z]; rfl
    have sX : ∀ f (post : Int32 → Prop), ((sh_P kd wd i n → ((l = 0 → post (nI (s + n))) ∧ (l ≠ 0 → wX_blockAround_8 post (nI s) (nI (s + i)) x_classCount x_bodyCount x_draftCount x_wrongPlace x_madeCount x_frameCount x_current x_next x_inHand x_mode x_outcome x_stepCount x_atWork x_mostAtWork x_saidCount x_pendingCount x_classParent x_classFields x_bound x_tokenKind x_tokenValue x_globals x_thingShown x_thingClass x_thingFields x_thingToken x_thingMaker x_variables x_homeOf x_within x_foundIn x_baseFrame x_frameToken x_frameStage x_frameLink x_operands x_saidValues x_marked x_pending f (nI (l - 1)) (nI (s + n) - 1)))) ∧ (¬ sh_P kd wd i n → wX_blockAround_8 post (nI s) (nI (s + i)) x_classCount x_bodyCount x_draftCount x_wrongPlace x_madeCount x_frameCount x_current x_next x_inHand x_mode x_outcome x_stepCount x_atWork x_mostAtWork x_saidCount x_pendingCount x_classParent x_classFields x_bound x_tokenKind x_tokenValue x_globals x_thingShown x_thingClass x_thingFields x_thingToken x_thingMaker x_variables x_homeOf x_within x_foundIn x_baseFrame x_frameToken x_frameStage x_frameLink x_operands x_saidValues x_marked x_pending f (nI l) (nI (s + n) - 1))) → wX_blockAround_8 post (nI s) (nI (s + i)) x_classCount x_bodyCount x_draftCount x_wrongPlace x_madeCount x_frameCount x_current x_next x_inHand x_mode x_outcome x_stepCount x_atWork x_mostAtWork x_saidCount x_pendingCount x_classParent x_classFields x_bound x_tokenKind x_tokenValue x_globals x_thingShown x_thingClass x_thingFields x_thingToken x_thingMaker x_variables x_homeOf x_within x_foundIn x_baseFrame x_frameToken x_frameStage x_frameLink x_operands x_saidValues x_marked x_pending (f + 1) (nI l) (nI (s + (n + 1)) - 1) := fun f post h => by
      rw [eX]
      refine br_f (nI_nlt (by omega) (by omega)) ⟨vp_in_nI (by omega) (by decide), ?_⟩
      rw [cX, x1]
      by_cases z : kd n = 12
      · refine br_t z ⟨i - n + 1, ?_⟩
        refine sh_x5 (by omega) hs hX (i - n) 1 n (i - n + 1) (by omega) (by omega) (by omega) ?_
        have e2 : ex_r (tk_nd kd wd) (i - n) 1 n = ex_r (tk_nd kd wd) (i - n - 1) 1 (n + 1) := by
          rw [e1, ex_rs (by decide)]
          show ex_r _ _ (1 - 1 + tk_need (kd n) (wd n)) _ = _
          rw [k12 z]; rfl
        rw [e2]
        refine ⟨fun q => br_t rfl (nm_r (sh_m1 _) (h.2 fun P => P.2 q)), fun q => br_f (by decide) ?_⟩
        have hh := h.1 ⟨z, q⟩
        by_cases l0 : l = 0
        · subst l0
          exact br_t rfl (hh.1 rfl)
        · refine br_f (nI_ne0 (by omega) (by omega)) (nm_r (show nI l + (-1) = nI (l - 1) from ?_) (nm_r (sh_m1 _) (hh.2 l0)))
          obtain ⟨j, rfl⟩ : ∃ j, l = j + 1 := ⟨l - 1, by omega⟩
          exact pk_m1 j
      · exact br_f z (nm_r (sh_m1 _) (h.2 fun P => z P.1))
    have sY : ∀ f (post : Int32 → Prop), ((sh_P kd wd i n → ((l = 0 → post (nI (384 + n))) ∧ (l ≠ 0 → wY_around_7 post (nI (384 + i)) y_classes y_bodies y_fault y_made y_working y_peak y_steps y_depth y_waiting y_code y_running y_has y_got y_todos y_marks y_shown y_spoken y_parent y_fields y_bound y_kind y_word y_size y_sort y_number y_stands y_keeps y_cells y_globals y_within y_foundIn y_self y_args y_temps y_param y_live y_work y_under y_at y_in y_phase y_base y_goal y_operands y_marked y_todo y_heard f (nI (l - 1)) (nI (384 + n) - 1)))) ∧ (¬ sh_P kd wd i n → wY_around_7 post (nI (384 + i)) y_classes y_bodies y_fault y_made y_working y_peak y_steps y_depth y_waiting y_code y_running y_has y_got y_todos y_marks y_shown y_spoken y_parent y_fields y_bound y_kind y_word y_size y_sort y_number y_stands y_keeps y_cells y_globals y_within y_foundIn y_self y_args y_temps y_param y_live y_work y_under y_at y_in y_phase y_base y_goal y_operands y_marked y_todo y_heard f (nI l) (nI (384 + n) - 1))) → wY_around_7 post (nI (384 + i)) y_classes y_bodies y_fault y_made y_working y_peak y_steps y_depth y_waiting y_code y_running y_has y_got y_todos y_marks y_shown y_spoken y_parent y_fields y_bound y_kind y_word y_size y_sort y_number y_stands y_keeps y_cells y_globals y_within y_foundIn y_self y_args y_temps y_param y_live y_work y_under y_at y_in y_phase y_base y_goal y_operands y_marked y_todo y_heard (f + 1) (nI l) (nI (384 + (n + 1)) - 1) := fun f post h => by
      rw [eY]
      refine br_f (nI_nlt (b := 384) (by omega) (by omega)) ?_
      have no : ∀ r : Int32, r = 0 → ¬ sh_P kd wd i n → _ := fun r e q => br_t (c := r = 0) (B := ∀ x3_53 : Int32, x3_53 = nI l + (-1) → ((nI l = 0 → post (nI (384 + n))) ∧ (¬ nI l = 0 → ∀ x4_55 : Int32, x4_55 = nI (384 + n) + (-1) → wY_around_7 post (nI (384 + i)) y_classes y_bodies y_fault y_made y_working y_peak y_steps y_depth y_waiting y_code y_running y_has y_got y_todos y_marks y_shown y_spoken y_parent y_fields y_bound y_kind y_word y_size y_sort y_number y_stands y_keeps y_cells y_globals y_within y_foundIn y_self y_args y_temps y_param y_live y_work y_under y_at y_in y_phase y_base y_goal y_operands y_marked y_todo y_heard f x3_53 x4_55))) e (nm_r (P := fun z => wY_around_7 post (nI (384 + i)) y_classes y_bodies y_fault y_made y_working y_peak y_steps y_depth y_waiting y_code y_running y_has y_got y_todos y_marks y_shown y_spoken y_parent y_fields y_bound y_kind y_word y_size y_sort y_number y_stands y_keeps y_cells y_globals y_within y_foundIn y_self y_args y_temps y_param y_live y_work y_under y_at y_in y_phase y_base y_goal y_operands y_marked y_todo y_heard f (nI l) z) (sh_m1 (384 + n)) (h.2 q))
      unfold wpY_isAround
      dsimp only
      rw [cY, y1]
      refine ⟨vp_in_nI (by omega) (by decide), ?_⟩
      by_cases z : kd n = 12
      · refine br_t z (nm_r (nI_1 (384 + n)) ⟨i - n, ?_⟩)
        refine sh_y22 (by omega) hY (i - n - 1) 1 (n + 1) (i - n) (by omega) (by omega) (by omega) ?_
        refine ⟨fun q => no 0 rfl fun P => P.2 q, fun q => br_f (by decide) ?_⟩
        have hh := h.1 ⟨z, q⟩
        by_cases l0 : l = 0
        · subst l0
          exact nm_e (br_t rfl (hh.1 rfl))
        · have em : nI l + (-1) = nI (l - 1) := by
            obtain ⟨j, rfl⟩ : ∃ j, l = j + 1 := ⟨l - 1, by omega⟩
            exact pk_m1 j
          exact nm_r em (br_f (nI_ne0 (by omega) (by omega)) (nm_r (sh_m1 _) (hh.2 l0)))
      · refine br_f z (nm_r (nI_1 (384 + n)) ⟨i - n, ?_⟩)
        refine sh_y22 (by omega) hY (i - n - 1) 0 (n + 1) (i - n) (by omega) (by omega) (by omega) ?_
        exact ⟨fun _ => no 0 rfl fun P => z P.1, fun q => absurd (ex_r0 _ _) q⟩
    by_cases P : sh_P kd wd i n
    · have c : ct_n (sh_P kd wd i) (n + 1) = ct_n (sh_P kd wd i) n + 1 := by
        show _ + ct_b _ = _
        rw [ct_bt P]
      by_cases l0 : l = 0
      · subst l0
        refine ⟨some n, fun e => (by cases e), fun r e => by cases e; exact ⟨by omega, by omega⟩, fun f post hf hp => ?_, fun f post hf hp => ?_⟩
        · obtain ⟨f', rfl⟩ : ∃ f', f = f' + 1 := ⟨f - 1, by omega⟩
          exact sX f' post ⟨fun _ => ⟨fun _ => hp, fun z => absurd rfl z⟩, fun z => absurd P z⟩
        · obtain ⟨f', rfl⟩ : ∃ f', f = f' + 1 := ⟨f - 1, by omega⟩
          exact sY f' post ⟨fun _ => ⟨fun _ => hp, fun z => absurd rfl z⟩, fun z => absurd P z⟩
      · obtain ⟨o, o1, o2, o3, o4⟩ := ih (by omega) (l - 1) (by omega)
        refine ⟨o, fun e => by have := o1 e; omega, fun r e => by have := o2 r e; omega, fun f post hf hp => ?_, fun f post hf hp => ?_⟩
        · obtain ⟨f', rfl⟩ : ∃ f', f = f' + 1 := ⟨f - 1, by omega⟩
          exact sX f' post ⟨fun _ => ⟨fun z => absurd z l0, fun _ => o3 f' post (by omega) hp⟩, fun z => absurd P z⟩
        · obtain ⟨f', rfl⟩ : ∃ f', f = f' + 1 := ⟨f - 1, by omega⟩
          exact sY f' post ⟨fun _ => ⟨fun z => absurd z l0, fun _ => o4 f' post (by omega) hp⟩, fun z => absurd P z⟩
    · have c : ct_n (sh_P kd wd i) (n + 1) = ct_n (sh_P kd wd i) n := by
        show _ + ct_b _ = _
        rw [ct_bf P]; rfl
      obtain ⟨o, o1, o2, o3, o4⟩ := ih (by omega) l hl
      refine ⟨o, fun e => by have := o1 e; omega, fun r e => by have := o2 r e; omega, fun f post hf hp => ?_, fun f post hf hp => ?_⟩
      · obtain ⟨f', rfl⟩ : ∃ f', f = f' + 1 := ⟨f - 1, by omega⟩
        exact sX f' post ⟨fun z => absurd z P, fun _ => o3 f' post (by omega) hp⟩
      · obtain ⟨f', rfl⟩ : ∃ f', f = f' + 1 := ⟨f - 1, by omega⟩
        exact sY f' post ⟨fun z => absurd z P, fun _ => o4 f' post (by omega) hp⟩
end
