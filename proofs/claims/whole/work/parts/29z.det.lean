/-! marking has one outcome -/
def DT {α : Type} (W : (α → Prop) → Prop) : Prop := ∀ Q, W Q → ∃ a, Q a ∧ ∀ Q', Q' a → W Q'
theorem DT_ret {α : Type} {a : α} : DT (fun Q : α → Prop => Q a) := fun _ h => ⟨a, h, fun _ h' => h'⟩
theorem DT_no {α : Type} : DT (fun _ : α → Prop => False) := fun _ h => h.elim
theorem DT_and {α : Type} {P : Prop} {W : (α → Prop) → Prop} (h : DT W) : DT (fun Q => P ∧ W Q) := fun Q ⟨p, q⟩ => by
  obtain ⟨a, b, c⟩ := h Q q
  exact ⟨a, b, fun Q' q' => ⟨p, c Q' q'⟩⟩
theorem DT_br {α : Type} {c : Prop} {A B : (α → Prop) → Prop} (hA : DT A) (hB : DT B) : DT (fun Q => (c → A Q) ∧ (¬ c → B Q)) := fun Q h => by
  by_cases z : c
  · obtain ⟨a, b, e⟩ := hA Q (h.1 z)
    exact ⟨a, b, fun Q' q' => br_t z (e Q' q')⟩
  · obtain ⟨a, b, e⟩ := hB Q (h.2 z)
    exact ⟨a, b, fun Q' q' => br_f z (e Q' q')⟩
theorem DT_nm {α : Type} {β : Sort _} {e : β} {P : β → (α → Prop) → Prop} (h : DT (P e)) : DT (fun Q => ∀ y, y = e → P y Q) := fun Q q => by
  obtain ⟨a, b, c⟩ := h Q (q e rfl)
  exact ⟨a, b, fun Q' q' => nm_e (c Q' q')⟩
theorem DT_ex {α : Type} {W : Nat → (α → Prop) → Prop} (h : ∀ n, DT (W n)) : DT (fun Q => ∃ n, W n Q) := fun Q ⟨n, q⟩ => by
  obtain ⟨a, b, c⟩ := h n Q q
  exact ⟨a, b, fun Q' q' => ⟨n, c Q' q'⟩⟩
theorem DT_bind {α β : Type} {W : (α → Prop) → Prop} {K : α → (β → Prop) → Prop} (h : DT W) (k : ∀ a, DT (K a)) : DT (fun Q => W (fun a => K a Q)) := fun Q q => by
  obtain ⟨a, b, c⟩ := h _ q
  obtain ⟨a', b', c'⟩ := k a Q b
  exact ⟨a', b', fun Q' q' => c _ (c' Q' q')⟩
section
variable {x_classCount x_bodyCount x_draftCount x_wrongPlace x_madeCount x_frameCount x_current x_next x_mode x_outcome x_stepCount x_atWork x_mostAtWork x_saidCount x_pendingCount : Int32} {x_inHand : Int64} {x_classParent x_classFields x_bound x_tokenKind x_tokenValue x_thingClass x_thingToken x_thingMaker x_homeOf x_within x_foundIn x_baseFrame x_frameToken x_frameStage x_frameLink x_marked x_pending : Nat → Int32} {x_globals x_thingShown x_thingFields x_variables x_operands x_saidValues : Nat → Int64}
variable {y_classes y_bodies y_fault y_made y_working y_peak y_steps y_depth y_waiting y_code y_running y_has y_todos y_marks y_spoken : Int32} {y_got y_shown : Int64} {y_parent y_fields y_bound y_kind y_word y_size y_sort y_number y_stands y_keeps y_within y_foundIn y_live y_work y_under y_at y_in y_phase y_base y_goal y_marked y_todo : Nat → Int32} {y_cells y_globals y_self y_args y_temps y_param y_operands y_heard : Nat → Int64}
theorem dt_reach (p : Int32) : DT (fun Q : SY → Prop => wpY_reach Q (y_classes, y_bodies, y_fault, y_made, y_working, y_peak, y_steps, y_depth, y_waiting, y_code, y_running, y_has, y_got, y_todos, y_marks, y_shown, y_spoken, y_parent, y_fields, y_bound, y_kind, y_word, y_size, y_sort, y_number, y_stands, y_keeps, y_cells, y_globals, y_within, y_foundIn, y_self, y_args, y_temps, y_param, y_live, y_work, y_under, y_at, y_in, y_phase, y_base, y_goal, y_operands, y_marked, y_todo, y_heard) p) := by
  unfold wpY_reach
  dsimp only
  repeat first | exact DT_ret | refine DT_and ?_ | refine DT_br ?_ ?_ | refine DT_nm ?_
theorem dt_value (y : Int64) : DT (fun Q : SY → Prop => wpY_reachValue Q (y_classes, y_bodies, y_fault, y_made, y_working, y_peak, y_steps, y_depth, y_waiting, y_code, y_running, y_has, y_got, y_todos, y_marks, y_shown, y_spoken, y_parent, y_fields, y_bound, y_kind, y_word, y_size, y_sort, y_number, y_stands, y_keeps, y_cells, y_globals, y_within, y_foundIn, y_self, y_args, y_temps, y_param, y_live, y_work, y_under, y_at, y_in, y_phase, y_base, y_goal, y_operands, y_marked, y_todo, y_heard) y) := by
  unfold wpY_reachValue
  dsimp only
  refine DT_br DT_ret (DT_bind (dt_reach _) fun a => ?_)
  obtain ⟨y_classes, y_bodies, y_fault, y_made, y_working, y_peak, y_steps, y_depth, y_waiting, y_code, y_running, y_has, y_got, y_todos, y_marks, y_shown, y_spoken, y_parent, y_fields, y_bound, y_kind, y_word, y_size, y_sort, y_number, y_stands, y_keeps, y_cells, y_globals, y_within, y_foundIn, y_self, y_args, y_temps, y_param, y_live, y_work, y_under, y_at, y_in, y_phase, y_base, y_goal, y_operands, y_marked, y_todo, y_heard⟩ := a
  exact DT_ret
end
theorem dt_r72 (a : Int32) : ∀ (n : Nat) (i : Int32) (y_classes : Int32) (y_bodies : Int32) (y_fault : Int32) (y_made : Int32) (y_working : Int32) (y_peak : Int32) (y_steps : Int32) (y_depth : Int32) (y_waiting : Int32) (y_code : Int32) (y_running : Int32) (y_has : Int32) (y_got : Int64) (y_todos : Int32) (y_marks : Int32) (y_shown : Int64) (y_spoken : Int32) (y_parent : Nat → Int32) (y_fields : Nat → Int32) (y_bound : Nat → Int32) (y_kind : Nat → Int32) (y_word : Nat → Int32) (y_size : Nat → Int32) (y_sort : Nat → Int32) (y_number : Nat → Int32) (y_stands : Nat → Int32) (y_keeps : Nat → Int32) (y_cells : Nat → Int64) (y_globals : Nat → Int64) (y_within : Nat → Int32) (y_foundIn : Nat → Int32) (y_self : Nat → Int64) (y_args : Nat → Int64) (y_temps : Nat → Int64) (y_param : Nat → Int64) (y_live : Nat → Int32) (y_work : Nat → Int32) (y_under : Nat → Int32) (y_at : Nat → Int32) (y_in : Nat → Int32) (y_phase : Nat → Int32) (y_base : Nat → Int32) (y_goal : Nat → Int32) (y_operands : Nat → Int64) (y_marked : Nat → Int32) (y_todo : Nat → Int32) (y_heard : Nat → Int64), DT (fun Q : SY → Prop => wY_reachFrom_72 Q a n i y_classes y_bodies y_fault y_made y_working y_peak y_steps y_depth y_waiting y_code y_running y_has y_got y_todos y_marks y_shown y_spoken y_parent y_fields y_bound y_kind y_word y_size y_sort y_number y_stands y_keeps y_cells y_globals y_within y_foundIn y_self y_args y_temps y_param y_live y_work y_under y_at y_in y_phase y_base y_goal y_operands y_marked y_todo y_heard) := by
  intro n
  induction n with
  | zero => intros; exact DT_no
  | succ n ih =>
    intros
    unfold wY_reachFrom_72
    refine DT_br DT_ret (DT_and (DT_bind (dt_value _) fun b => ?_))
    obtain ⟨y_classes, y_bodies, y_fault, y_made, y_working, y_peak, y_steps, y_depth, y_waiting, y_code, y_running, y_has, y_got, y_todos, y_marks, y_shown, y_spoken, y_parent, y_fields, y_bound, y_kind, y_word, y_size, y_sort, y_number, y_stands, y_keeps, y_cells, y_globals, y_within, y_foundIn, y_self, y_args, y_temps, y_param, y_live, y_work, y_under, y_at, y_in, y_phase, y_base, y_goal, y_operands, y_marked, y_todo, y_heard⟩ := b
    exact DT_nm (ih _ _ _ _ _ _ _ _ _ _ _ _ _ _ _ _ _ _ _ _ _ _ _ _ _ _ _ _ _ _ _ _ _ _ _ _ _ _ _ _ _ _ _ _ _ _ _ _)
theorem dt_r45 (a : Int32) : ∀ (n : Nat) (i : Int32) (y_classes : Int32) (y_bodies : Int32) (y_fault : Int32) (y_made : Int32) (y_working : Int32) (y_peak : Int32) (y_steps : Int32) (y_depth : Int32) (y_waiting : Int32) (y_code : Int32) (y_running : Int32) (y_has : Int32) (y_got : Int64) (y_todos : Int32) (y_marks : Int32) (y_shown : Int64) (y_spoken : Int32) (y_parent : Nat → Int32) (y_fields : Nat → Int32) (y_bound : Nat → Int32) (y_kind : Nat → Int32) (y_word : Nat → Int32) (y_size : Nat → Int32) (y_sort : Nat → Int32) (y_number : Nat → Int32) (y_stands : Nat → Int32) (y_keeps : Nat → Int32) (y_cells : Nat → Int64) (y_globals : Nat → Int64) (y_within : Nat → Int32) (y_foundIn : Nat → Int32) (y_self : Nat → Int64) (y_args : Nat → Int64) (y_temps : Nat → Int64) (y_param : Nat → Int64) (y_live : Nat → Int32) (y_work : Nat → Int32) (y_under : Nat → Int32) (y_at : Nat → Int32) (y_in : Nat → Int32) (y_phase : Nat → Int32) (y_base : Nat → Int32) (y_goal : Nat → Int32) (y_operands : Nat → Int64) (y_marked : Nat → Int32) (y_todo : Nat → Int32) (y_heard : Nat → Int64), DT (fun Q : SY → Prop => wY_reachFrom_45 Q a n i y_classes y_bodies y_fault y_made y_working y_peak y_steps y_depth y_waiting y_code y_running y_has y_got y_todos y_marks y_shown y_spoken y_parent y_fields y_bound y_kind y_word y_size y_sort y_number y_stands y_keeps y_cells y_globals y_within y_foundIn y_self y_args y_temps y_param y_live y_work y_under y_at y_in y_phase y_base y_goal y_operands y_marked y_todo y_heard) := by
  intro n
  induction n with
  | zero => intros; exact DT_no
  | succ n ih =>
    intros
    unfold wY_reachFrom_45
    refine DT_br (DT_ex fun m => dt_r72 _ _ _ _ _ _ _ _ _ _ _ _ _ _ _ _ _ _ _ _ _ _ _ _ _ _ _ _ _ _ _ _ _ _ _ _ _ _ _ _ _ _ _ _ _ _ _ _ _ _) (DT_and (DT_bind (dt_value _) fun b => ?_))
    obtain ⟨y_classes, y_bodies, y_fault, y_made, y_working, y_peak, y_steps, y_depth, y_waiting, y_code, y_running, y_has, y_got, y_todos, y_marks, y_shown, y_spoken, y_parent, y_fields, y_bound, y_kind, y_word, y_size, y_sort, y_number, y_stands, y_keeps, y_cells, y_globals, y_within, y_foundIn, y_self, y_args, y_temps, y_param, y_live, y_work, y_under, y_at, y_in, y_phase, y_base, y_goal, y_operands, y_marked, y_todo, y_heard⟩ := b
    exact DT_nm (ih _ _ _ _ _ _ _ _ _ _ _ _ _ _ _ _ _ _ _ _ _ _ _ _ _ _ _ _ _ _ _ _ _ _ _ _ _ _ _ _ _ _ _ _ _ _ _ _)
section
variable {x_classCount x_bodyCount x_draftCount x_wrongPlace x_madeCount x_frameCount x_current x_next x_mode x_outcome x_stepCount x_atWork x_mostAtWork x_saidCount x_pendingCount : Int32} {x_inHand : Int64} {x_classParent x_classFields x_bound x_tokenKind x_tokenValue x_thingClass x_thingToken x_thingMaker x_homeOf x_within x_foundIn x_baseFrame x_frameToken x_frameStage x_frameLink x_marked x_pending : Nat → Int32} {x_globals x_thingShown x_thingFields x_variables x_operands x_saidValues : Nat → Int64}
variable {y_classes y_bodies y_fault y_made y_working y_peak y_steps y_depth y_waiting y_code y_running y_has y_todos y_marks y_spoken : Int32} {y_got y_shown : Int64} {y_parent y_fields y_bound y_kind y_word y_size y_sort y_number y_stands y_keeps y_within y_foundIn y_live y_work y_under y_at y_in y_phase y_base y_goal y_marked y_todo : Nat → Int32} {y_cells y_globals y_self y_args y_temps y_param y_operands y_heard : Nat → Int64}
theorem dt_from (a : Int32) : DT (fun Q : SY → Prop => wpY_reachFrom Q (y_classes, y_bodies, y_fault, y_made, y_working, y_peak, y_steps, y_depth, y_waiting, y_code, y_running, y_has, y_got, y_todos, y_marks, y_shown, y_spoken, y_parent, y_fields, y_bound, y_kind, y_word, y_size, y_sort, y_number, y_stands, y_keeps, y_cells, y_globals, y_within, y_foundIn, y_self, y_args, y_temps, y_param, y_live, y_work, y_under, y_at, y_in, y_phase, y_base, y_goal, y_operands, y_marked, y_todo, y_heard) a) := by
  unfold wpY_reachFrom
  dsimp only
  refine DT_and (DT_br (DT_and (DT_bind (dt_value _) fun b => ?_)) (DT_and (DT_bind (dt_value _) fun b => ?_)))
  · obtain ⟨y_classes, y_bodies, y_fault, y_made, y_working, y_peak, y_steps, y_depth, y_waiting, y_code, y_running, y_has, y_got, y_todos, y_marks, y_shown, y_spoken, y_parent, y_fields, y_bound, y_kind, y_word, y_size, y_sort, y_number, y_stands, y_keeps, y_cells, y_globals, y_within, y_foundIn, y_self, y_args, y_temps, y_param, y_live, y_work, y_under, y_at, y_in, y_phase, y_base, y_goal, y_operands, y_marked, y_todo, y_heard⟩ := b
    exact DT_ex fun m => dt_r45 _ _ _ _ _ _ _ _ _ _ _ _ _ _ _ _ _ _ _ _ _ _ _ _ _ _ _ _ _ _ _ _ _ _ _ _ _ _ _ _ _ _ _ _ _ _ _ _ _ _
  · obtain ⟨y_classes, y_bodies, y_fault, y_made, y_working, y_peak, y_steps, y_depth, y_waiting, y_code, y_running, y_has, y_got, y_todos, y_marks, y_shown, y_spoken, y_parent, y_fields, y_bound, y_kind, y_word, y_size, y_sort, y_number, y_stands, y_keeps, y_cells, y_globals, y_within, y_foundIn, y_self, y_args, y_temps, y_param, y_live, y_work, y_under, y_at, y_in, y_phase, y_base, y_goal, y_operands, y_marked, y_todo, y_heard⟩ := b
    refine DT_and (DT_bind (dt_reach _) fun b => ?_)
    obtain ⟨y_classes, y_bodies, y_fault, y_made, y_working, y_peak, y_steps, y_depth, y_waiting, y_code, y_running, y_has, y_got, y_todos, y_marks, y_shown, y_spoken, y_parent, y_fields, y_bound, y_kind, y_word, y_size, y_sort, y_number, y_stands, y_keeps, y_cells, y_globals, y_within, y_foundIn, y_self, y_args, y_temps, y_param, y_live, y_work, y_under, y_at, y_in, y_phase, y_base, y_goal, y_operands, y_marked, y_todo, y_heard⟩ := b
    exact DT_ret
end
