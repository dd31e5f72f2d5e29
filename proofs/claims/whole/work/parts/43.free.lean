/-! there is always a place for another activation -/
def pw {α : Type} (f : α → α) : Nat → α → α
  | 0, x => x
  | n + 1, x => f (pw f n x)
theorem fl_len {α : Type} (f : α → List Nat) (c : Nat) : ∀ (L : List α), (∀ x, x ∈ L → (f x).length = c) → (L.flatMap f).length = L.length * c
  | [], _ => by simp
  | x :: L, h => by
    rw [List.flatMap_cons, List.length_append, h x (List.mem_cons.mpr (Or.inl rfl)), fl_len f c L (fun y hy => h y (List.mem_cons.mpr (Or.inr hy))), List.length_cons, Nat.add_mul]
    omega
section
variable {x_classCount x_bodyCount x_draftCount x_wrongPlace x_madeCount x_frameCount x_current x_next x_mode x_outcome x_stepCount x_atWork x_mostAtWork x_saidCount x_pendingCount : Int32} {x_inHand : Int64} {x_classParent x_classFields x_bound x_tokenKind x_tokenValue x_thingClass x_thingToken x_thingMaker x_homeOf x_within x_foundIn x_baseFrame x_frameToken x_frameStage x_frameLink x_marked x_pending : Nat → Int32} {x_globals x_thingShown x_thingFields x_variables x_operands x_saidValues : Nat → Int64}
variable {y_classes y_bodies y_fault y_made y_working y_peak y_steps y_depth y_waiting y_code y_running y_has y_todos y_marks y_spoken : Int32} {y_got y_shown : Int64} {y_parent y_fields y_bound y_kind y_word y_size y_sort y_number y_stands y_keeps y_within y_foundIn y_live y_work y_under y_at y_in y_phase y_base y_goal y_marked y_todo : Nat → Int32} {y_cells y_globals y_self y_args y_temps y_param y_operands y_heard : Nat → Int64}
variable {cc bc dc mc st sp d w np md B M : Nat} {T ST SA : Nat → Prop} {lv τ σ lev ho fa ph bs ow gg wk un rt : Nat → Nat}
theorem rn_cover0 {wt fc : Nat} (A : rn_A cc bc dc mc T ST SA lv τ σ lev ho x_tokenKind x_tokenValue y_kind y_word y_size y_parent y_fields y_bound x_globals y_globals x_thingShown x_thingClass x_thingFields x_thingToken x_thingMaker x_variables x_homeOf x_within x_foundIn y_sort y_number y_stands y_keeps y_cells y_within y_foundIn y_self y_args y_temps y_param) (P : (∀ n, cl_r (gy_R y_globals y_operands wt y_work w) (gy_E y_sort y_keeps y_cells y_within y_self y_args y_temps y_param) n → hp_S ST SA n ∧ cl_r (gx_R x_thingShown x_globals x_operands fc x_baseFrame) (gx_E x_thingShown x_thingFields x_thingMaker x_variables x_within) (hp_f τ σ n)) ∧ (∀ n, cl_r (gx_R x_thingShown x_globals x_operands fc x_baseFrame) (gx_E x_thingShown x_thingFields x_thingMaker x_variables x_within) n → ∃ n', cl_r (gy_R y_globals y_operands wt y_work w) (gy_E y_sort y_keeps y_cells y_within y_self y_args y_temps y_param) n' ∧ hp_f τ σ n' = n)) (WW : ∀ i, i < w → y_work i = nI (wk i) ∧ SA (wk i)) : ∀ n, cl_r (gy_R y_globals y_operands wt y_work w) (gy_E y_sort y_keeps y_cells y_within y_self y_args y_temps y_param) n →
    cl_r (gy_R y_globals y_operands wt y_work w) (gy_E y_sort y_keeps y_cells y_within y_self y_args y_temps y_param) n ∧ ∀ a, n = 32 + a → SA a ∧ ((∃ i j, i < w ∧ j < 4 ∧ a = pw (fun b => (y_within b).toNatClampNeg) j (wk i) ∧ lev a + j = lev (wk i)) ∨ (∃ k j, k < 32 ∧ cl_r (gy_R y_globals y_operands wt y_work w) (gy_E y_sort y_keeps y_cells y_within y_self y_args y_temps y_param) k ∧ j < 3 ∧ a = pw (fun b => (y_within b).toNatClampNeg) j (y_keeps k).toNatClampNeg ∧ lev a + j ≤ 2)) := by
  intro n c
  have H := A.2.2.1
  have P1 := P.1
  have P2 := P.2
  have sa : ∀ a, cl_r (gy_R y_globals y_operands wt y_work w) (gy_E y_sort y_keeps y_cells y_within y_self y_args y_temps y_param) (32 + a) → SA a := fun a c => by
    rcases (P1 _ c).1 with ⟨e, _⟩ | ⟨b, e, z⟩
    · omega
    · obtain rfl : a = b := by omega
      exact z
  refine cl_min c (fun n => cl_r (gy_R y_globals y_operands wt y_work w) (gy_E y_sort y_keeps y_cells y_within y_self y_args y_temps y_param) n ∧ ∀ a, n = 32 + a → SA a ∧ ((∃ i j, i < w ∧ j < 4 ∧ a = pw (fun b => (y_within b).toNatClampNeg) j (wk i) ∧ lev a + j = lev (wk i)) ∨ (∃ k j, k < 32 ∧ cl_r (gy_R y_globals y_operands wt y_work w) (gy_E y_sort y_keeps y_cells y_within y_self y_args y_temps y_param) k ∧ j < 3 ∧ a = pw (fun b => (y_within b).toNatClampNeg) j (y_keeps k).toNatClampNeg ∧ lev a + j ≤ 2))) (fun m hm => ⟨cl_root hm, fun a e => ?_⟩) (fun m k hm e => ⟨cl_step hm.1 e, fun b eb => ?_⟩)
  · subst e
    refine ⟨sa a (cl_root hm), Or.inl ?_⟩
    rcases hm with ⟨k, _, z⟩ | ⟨k, _, z⟩ | ⟨i, b, i1, b1, b2, b3⟩
    · have := z.1; omega
    · have := z.1; omega
    · obtain rfl : a = b := by omega
      have e := (WW i i1).1
      have := (H.2.1 _ (WW i i1).2).1
      have : a = wk i := (nI_eq (by omega) (by omega)).mp (b2.symm.trans e)
      exact ⟨i, 0, i1, by omega, this, by rw [this]; omega⟩
  · subst eb
    refine ⟨sa b (cl_step hm.1 e), ?_⟩
    rcases e with ⟨m1, s3, a, a1, a2, a3⟩ | ⟨_, _, j, _, z⟩ | ⟨a, _, _, z | ⟨j, _, z⟩ | ⟨j, _, z⟩⟩ | ⟨a, ea, wl, z | ⟨b', b1, b2, b3⟩⟩
    · obtain rfl : a = b := by omega
      rcases (P1 _ hm.1).1 with ⟨_, sk⟩ | ⟨x, ex, _⟩
      · obtain ⟨q, a', q1, q2, _, _, q5, q6, _, q8, _⟩ := (H.1 m sk).2.2.2.2.2.2.1 s3
        have ha' := (H.2.1 _ q6).1
        have : a = a' := (nI_eq (by omega) (by omega)).mp (a2.symm.trans q5)
        subst this
        have fit := (A.1.2.2.1.2.1 q q1).2.2.2.2.1 q2
        exact Or.inr ⟨m, 0, m1, hm.1, by omega, by rw [a2, nI_clamp (by omega)]; rfl, by omega⟩
      · omega
    · have := z.1; omega
    · have := z.1; omega
    · have := z.1; omega
    · have := z.1; omega
    · have := z.1; omega
    · obtain rfl : b = b' := by omega
      obtain ⟨sA, cov⟩ := hm.2 a ea
      obtain ⟨k1, k2, k3, _, _, _, k7⟩ := H.2.1 a sA
      have eb : (y_within a).toNatClampNeg = b := by rw [b2, nI_clamp (by omega)]
      have lb : lev a = lev b + 1 := by
        rcases k7 with ⟨w1, _⟩ | ⟨b'', w1, sb, l1, _⟩
        · rw [w1] at wl; exact absurd (by decide) wl
        · have := (H.2.1 _ sb).1
          have : b'' = b := (nI_eq (by omega) (by omega)).mp (w1.symm.trans b2)
          subst this; exact l1
      rcases cov with ⟨i, j, i1, j1, e1, e2⟩ | ⟨k, j, i1, i2, j1, e1, e2⟩
      · have l3 := (H.2.1 _ (WW i i1).2).2.2.1
        refine Or.inl ⟨i, j + 1, i1, by omega, ?_, by omega⟩
        show b = (y_within (pw _ j (wk i))).toNatClampNeg
        rw [← e1, eb]
      · refine Or.inr ⟨k, j + 1, i1, i2, by omega, ?_, by omega⟩
        show b = (y_within (pw _ j (y_keeps k).toNatClampNeg)).toNatClampNeg
        rw [← e1, eb]
theorem rn_freeY0 {wt fc : Nat} (A : rn_A cc bc dc mc T ST SA lv τ σ lev ho x_tokenKind x_tokenValue y_kind y_word y_size y_parent y_fields y_bound x_globals y_globals x_thingShown x_thingClass x_thingFields x_thingToken x_thingMaker x_variables x_homeOf x_within x_foundIn y_sort y_number y_stands y_keeps y_cells y_within y_foundIn y_self y_args y_temps y_param) (P : (∀ n, cl_r (gy_R y_globals y_operands wt y_work w) (gy_E y_sort y_keeps y_cells y_within y_self y_args y_temps y_param) n → hp_S ST SA n ∧ cl_r (gx_R x_thingShown x_globals x_operands fc x_baseFrame) (gx_E x_thingShown x_thingFields x_thingMaker x_variables x_within) (hp_f τ σ n)) ∧ (∀ n, cl_r (gx_R x_thingShown x_globals x_operands fc x_baseFrame) (gx_E x_thingShown x_thingFields x_thingMaker x_variables x_within) n → ∃ n', cl_r (gy_R y_globals y_operands wt y_work w) (gy_E y_sort y_keeps y_cells y_within y_self y_args y_temps y_param) n' ∧ hp_f τ σ n' = n)) (WW : ∀ i, i < w → y_work i = nI (wk i) ∧ SA (wk i)) (w12 : w ≤ 12) : ∃ a, a < 160 ∧ ¬ cl_r (gy_R y_globals y_operands wt y_work w) (gy_E y_sort y_keeps y_cells y_within y_self y_args y_temps y_param) (32 + a) := by
  refine ct_lst (P := fun a => cl_r (gy_R y_globals y_operands wt y_work w) (gy_E y_sort y_keeps y_cells y_within y_self y_args y_temps y_param) (32 + a)) (((List.range w).flatMap fun i => (List.range 4).map fun j => pw (fun b => (y_within b).toNatClampNeg) j (wk i)) ++ ((List.range 32).flatMap fun k => (List.range 3).map fun j => pw (fun b => (y_within b).toNatClampNeg) j (y_keeps k).toNatClampNeg)) (fun a _ c => ?_) ?_
  · obtain ⟨_, cov⟩ := ((rn_cover0 A P WW) _ c).2 a rfl
    rw [List.mem_append, List.mem_flatMap, List.mem_flatMap]
    rcases cov with ⟨i, j, i1, j1, e1, _⟩ | ⟨k, j, i1, i2, j1, e1, _⟩
    · exact Or.inl ⟨i, List.mem_range.mpr i1, List.mem_map.mpr ⟨j, List.mem_range.mpr j1, e1.symm⟩⟩
    · exact Or.inr ⟨k, List.mem_range.mpr i1, List.mem_map.mpr ⟨j, List.mem_range.mpr j1, e1.symm⟩⟩
  · rw [List.length_append, fl_len _ 4 _ (fun x _ => by rw [List.length_map, List.length_range]), fl_len _ 3 _ (fun x _ => by rw [List.length_map, List.length_range]), List.length_range, List.length_range]
    omega
theorem rn_freeX0 {wt fc : Nat} (A : rn_A cc bc dc mc T ST SA lv τ σ lev ho x_tokenKind x_tokenValue y_kind y_word y_size y_parent y_fields y_bound x_globals y_globals x_thingShown x_thingClass x_thingFields x_thingToken x_thingMaker x_variables x_homeOf x_within x_foundIn y_sort y_number y_stands y_keeps y_cells y_within y_foundIn y_self y_args y_temps y_param) (P : (∀ n, cl_r (gy_R y_globals y_operands wt y_work w) (gy_E y_sort y_keeps y_cells y_within y_self y_args y_temps y_param) n → hp_S ST SA n ∧ cl_r (gx_R x_thingShown x_globals x_operands fc x_baseFrame) (gx_E x_thingShown x_thingFields x_thingMaker x_variables x_within) (hp_f τ σ n)) ∧ (∀ n, cl_r (gx_R x_thingShown x_globals x_operands fc x_baseFrame) (gx_E x_thingShown x_thingFields x_thingMaker x_variables x_within) n → ∃ n', cl_r (gy_R y_globals y_operands wt y_work w) (gy_E y_sort y_keeps y_cells y_within y_self y_args y_temps y_param) n' ∧ hp_f τ σ n' = n)) (WW : ∀ i, i < w → y_work i = nI (wk i) ∧ SA (wk i)) (w12 : w ≤ 12) : ∃ b, b < 128 ∧ ¬ cl_r (gx_R x_thingShown x_globals x_operands fc x_baseFrame) (gx_E x_thingShown x_thingFields x_thingMaker x_variables x_within) (24 + b) := by
  have P1 := P.1
  have P2 := P.2
  refine ct_lst (P := fun b => cl_r (gx_R x_thingShown x_globals x_operands fc x_baseFrame) (gx_E x_thingShown x_thingFields x_thingMaker x_variables x_within) (24 + b)) (((List.range w).flatMap fun i => (List.range 4).map fun j => σ (pw (fun b => (y_within b).toNatClampNeg) j (wk i))) ++ ((List.range 24).flatMap fun t => (List.range 3).map fun j => σ (pw (fun b => (y_within b).toNatClampNeg) j (y_keeps (Classical.epsilon fun k => ST k ∧ τ k = t)).toNatClampNeg))) (fun b _ c => ?_) ?_
  · obtain ⟨n, cn, en⟩ := P2 _ c
    rcases (P1 n cn).1 with ⟨n1, sn⟩ | ⟨a, rfl, sA⟩
    · rw [hp_f1 n1] at en
      have := (A.2.2.1.1 n sn).2.1
      omega
    · rw [hp_f2] at en
      have eb : b = σ a := by omega
      obtain ⟨_, cov⟩ := ((rn_cover0 A P WW) _ cn).2 a rfl
      rw [List.mem_append, List.mem_flatMap, List.mem_flatMap]
      rcases cov with ⟨i, j, i1, j1, e1, _⟩ | ⟨k, j, i1, i2, j1, e1, _⟩
      · exact Or.inl ⟨i, List.mem_range.mpr i1, List.mem_map.mpr ⟨j, List.mem_range.mpr j1, by rw [eb, e1]⟩⟩
      · have sk : ST k := by
          rcases (P1 k i2).1 with ⟨_, z⟩ | ⟨x, ex, _⟩
          · exact z
          · omega
        have ep := Classical.epsilon_spec (p := fun l => ST l ∧ τ l = τ k) ⟨k, sk, rfl⟩
        have ek : Classical.epsilon (fun l => ST l ∧ τ l = τ k) = k := A.2.2.1.2.2.2 _ _ ep.1 sk ep.2
        exact Or.inr ⟨τ k, List.mem_range.mpr (A.2.2.1.1 k sk).2.1, List.mem_map.mpr ⟨j, List.mem_range.mpr j1, by rw [ek, eb, e1]⟩⟩
  · rw [List.length_append, fl_len _ 4 _ (fun x _ => by rw [List.length_map, List.length_range]), fl_len _ 3 _ (fun x _ => by rw [List.length_map, List.length_range]), List.length_range, List.length_range]
    omega
theorem rn_ww (F : rn_F T ST SA lv σ lev ho y_kind y_word fa ph bs ow gg wk un rt d w y_sort y_number x_frameToken x_frameStage x_frameLink x_operands x_baseFrame y_operands y_self y_at y_in y_phase y_base y_goal y_work y_under y_live) : ∀ i, i < w → y_work i = nI (wk i) ∧ SA (wk i) := fun i hi => ⟨(F.2.1.2 i hi).1, (F.2.2.2.1 i hi).1⟩
theorem rn_freeY (A : rn_A cc bc dc mc T ST SA lv τ σ lev ho x_tokenKind x_tokenValue y_kind y_word y_size y_parent y_fields y_bound x_globals y_globals x_thingShown x_thingClass x_thingFields x_thingToken x_thingMaker x_variables x_homeOf x_within x_foundIn y_sort y_number y_stands y_keeps y_cells y_within y_foundIn y_self y_args y_temps y_param) (F : rn_F T ST SA lv σ lev ho y_kind y_word fa ph bs ow gg wk un rt d w y_sort y_number x_frameToken x_frameStage x_frameLink x_operands x_baseFrame y_operands y_self y_at y_in y_phase y_base y_goal y_work y_under y_live) : ∃ a, a < 160 ∧ ¬ cl_r (gy_R y_globals y_operands (bs d) y_work w) (gy_E y_sort y_keeps y_cells y_within y_self y_args y_temps y_param) (32 + a) := rn_freeY0 A (rn_roots A F) (rn_ww F) F.1.2.1
theorem rn_freeX (A : rn_A cc bc dc mc T ST SA lv τ σ lev ho x_tokenKind x_tokenValue y_kind y_word y_size y_parent y_fields y_bound x_globals y_globals x_thingShown x_thingClass x_thingFields x_thingToken x_thingMaker x_variables x_homeOf x_within x_foundIn y_sort y_number y_stands y_keeps y_cells y_within y_foundIn y_self y_args y_temps y_param) (F : rn_F T ST SA lv σ lev ho y_kind y_word fa ph bs ow gg wk un rt d w y_sort y_number x_frameToken x_frameStage x_frameLink x_operands x_baseFrame y_operands y_self y_at y_in y_phase y_base y_goal y_work y_under y_live) : ∃ b, b < 128 ∧ ¬ cl_r (gx_R x_thingShown x_globals x_operands (fr_x y_kind fa ph d) x_baseFrame) (gx_E x_thingShown x_thingFields x_thingMaker x_variables x_within) (24 + b) := rn_freeX0 A (rn_roots A F) (rn_ww F) F.1.2.1
end
