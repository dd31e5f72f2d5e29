/-! what a run holds, on both sides -/
section
variable {K : Nat → Int32} {nd : Nat → Nat} {T : Nat → Prop} {fa ph bs ow gg un rt : Nat → Nat} {d w : Nat}
theorem fr_find (S : fr_S K nd T fa ph bs ow gg un rt d w) {j : Nat} : ∀ p, p ≤ d → j < bs p → ∃ q, q < p ∧ bs q ≤ j ∧ j < bs q + fr_c (K (fa q)) (ph q)
  | 0, _, h => by rw [S.2.2.2.1] at h; omega
  | p + 1, hp, h => by
    have e := (S.2.2.2.2.1 p (by omega)).2.2.2.2.2.1
    rcases Nat.lt_or_ge j (bs p) with z | z
    · obtain ⟨q, a, b, c⟩ := fr_find S p (by omega) z
      exact ⟨q, by omega, b, c⟩
    · exact ⟨p, by omega, z, by omega⟩
theorem fr_bsm (S : fr_S K nd T fa ph bs ow gg un rt d w) {q : Nat} : ∀ {p : Nat}, q < p → p ≤ d → bs q + fr_c (K (fa q)) (ph q) ≤ bs p
  | 0, h, _ => by omega
  | p + 1, h, hp => by
    have e := (S.2.2.2.2.1 p (by omega)).2.2.2.2.2.1
    by_cases z : q = p
    · subst z; omega
    · have := fr_bsm S (q := q) (p := p) (by omega) (by omega)
      omega
theorem fr_surj {R : Nat} : ∀ p, 1 ≤ R → R < fr_x K fa ph p → ∃ q, q < p ∧ ¬ fr_tail (K (fa q)) (ph q) ∧ fr_x K fa ph q = R
  | 0, h, h2 => by
    have h2 : R < 1 := h2
    omega
  | p + 1, h, h2 => by
    rcases Nat.lt_or_ge R (fr_x K fa ph p) with z | z
    · obtain ⟨q, a, b⟩ := fr_surj p h z
      exact ⟨q, by omega, b⟩
    · by_cases t : fr_tail (K (fa p)) (ph p)
      · have e : fr_x K fa ph (p + 1) = fr_x K fa ph p := by
          show _ + ct_b _ = _
          rw [ct_bf (fun q => q t)]; rfl
        omega
      · have e : fr_x K fa ph (p + 1) = fr_x K fa ph p + 1 := by
          show _ + ct_b _ = _
          rw [ct_bt t]
        exact ⟨p, by omega, t, by omega⟩
theorem fr_c0 {k : Int32} {ph : Nat} (h : fr_tail k ph) : fr_c k ph = 0 := by
  unfold fr_c
  rcases h with ⟨rfl, rfl⟩ | ⟨rfl, rfl⟩
  · rw [if_neg (by decide), if_pos (Or.inl rfl)]
  · rw [if_neg (by decide), if_pos (Or.inr (Or.inl rfl))]
theorem fr_cs {k : Int32} {n ph : Nat} (ok : fr_ok k n ph) (h3 : n ≤ 3) (h11 : k = 11 → n ≤ 2) : fr_c k ph + fr_s k ≤ 3 := by
  by_cases z : ph = 100
  · have : fr_c k ph = 0 := by unfold fr_c; rw [if_pos z]
    have : fr_s k ≤ 1 := by unfold fr_s; split <;> omega
    omega
  · rcases ok with ⟨a, _⟩ | ⟨rfl, a⟩ | ⟨rfl, a⟩ | ⟨rfl, a⟩ | ⟨rfl, a⟩ | ⟨g, a⟩
    · exact absurd a z
    · have : fr_c 16 ph = 0 := by unfold fr_c; rw [if_neg z, if_pos (Or.inl rfl)]
      have : fr_s 16 = 0 := by unfold fr_s; rw [if_neg (by decide)]
      omega
    · have : fr_c 23 ph = 0 := by unfold fr_c; rw [if_neg z, if_pos (Or.inr (Or.inl rfl))]
      have : fr_s 23 = 0 := by unfold fr_s; rw [if_neg (by decide)]
      omega
    · have : fr_c 24 ph = 0 := by unfold fr_c; rw [if_neg z, if_pos (Or.inr (Or.inr rfl))]
      have : fr_s 24 = 0 := by unfold fr_s; rw [if_neg (by decide)]
      omega
    · have : fr_c 27 ph ≤ 1 := by unfold fr_c; rw [if_neg z, if_neg (by decide), if_pos rfl]; split <;> omega
      have : fr_s 27 = 0 := by unfold fr_s; rw [if_neg (by decide)]
      omega
    · have c : fr_c k ph ≤ ph := by
        unfold fr_c
        split
        · omega
        · split
          · omega
          · split
            · split <;> omega
            · omega
      by_cases e : k = 11
      · have := h11 e
        have : fr_s k ≤ 1 := by unfold fr_s; split <;> omega
        omega
      · have : fr_s k = 0 := by unfold fr_s; rw [if_neg e]
        omega
end
section
variable {x_classCount x_bodyCount x_draftCount x_wrongPlace x_madeCount x_frameCount x_current x_next x_mode x_outcome x_stepCount x_atWork x_mostAtWork x_saidCount x_pendingCount : Int32} {x_inHand : Int64} {x_classParent x_classFields x_bound x_tokenKind x_tokenValue x_thingClass x_thingToken x_thingMaker x_homeOf x_within x_foundIn x_baseFrame x_frameToken x_frameStage x_frameLink x_marked x_pending : Nat → Int32} {x_globals x_thingShown x_thingFields x_variables x_operands x_saidValues : Nat → Int64}
variable {y_classes y_bodies y_fault y_made y_working y_peak y_steps y_depth y_waiting y_code y_running y_has y_todos y_marks y_spoken : Int32} {y_got y_shown : Int64} {y_parent y_fields y_bound y_kind y_word y_size y_sort y_number y_stands y_keeps y_within y_foundIn y_live y_work y_under y_at y_in y_phase y_base y_goal y_marked y_todo : Nat → Int32} {y_cells y_globals y_self y_args y_temps y_param y_operands y_heard : Nat → Int64}
variable {cc bc dc mc st sp d w np md B M : Nat} {T ST SA : Nat → Prop} {lv τ σ lev ho fa ph bs ow gg wk un rt : Nat → Nat}
theorem rn_11 (A : rn_A cc bc dc mc T ST SA lv τ σ lev ho x_tokenKind x_tokenValue y_kind y_word y_size y_parent y_fields y_bound x_globals y_globals x_thingShown x_thingClass x_thingFields x_thingToken x_thingMaker x_variables x_homeOf x_within x_foundIn y_sort y_number y_stands y_keeps y_cells y_within y_foundIn y_self y_args y_temps y_param) {t : Nat} (tt : T t) (h : y_kind t = 11) : tk_nd y_kind y_word t ≤ 2 := by
  obtain ⟨_, _, _, ok, _⟩ := A.1.2.2.1.2.1 t tt
  obtain ⟨kn, kl, ek, okl, _⟩ := ok
  have : kn = 11 := (nI_eq (by omega) (by decide)).mp (ek.symm.trans h)
  subst this
  obtain ⟨v, hv, ev⟩ := okl (by omega)
  have hv : v < 12 := hv
  unfold tk_nd
  rw [h]
  show (y_word t).toNatClampNeg / 4 ≤ 2
  rw [ev, nI_clamp (by omega)]
  omega
theorem rn_roots (A : rn_A cc bc dc mc T ST SA lv τ σ lev ho x_tokenKind x_tokenValue y_kind y_word y_size y_parent y_fields y_bound x_globals y_globals x_thingShown x_thingClass x_thingFields x_thingToken x_thingMaker x_variables x_homeOf x_within x_foundIn y_sort y_number y_stands y_keeps y_cells y_within y_foundIn y_self y_args y_temps y_param) (F : rn_F T ST SA lv σ lev ho y_kind y_word fa ph bs ow gg wk un rt d w y_sort y_number x_frameToken x_frameStage x_frameLink x_operands x_baseFrame y_operands y_self y_at y_in y_phase y_base y_goal y_work y_under y_live) :
    (∀ n, cl_r (gy_R y_globals y_operands (bs d) y_work w) (gy_E y_sort y_keeps y_cells y_within y_self y_args y_temps y_param) n → hp_S ST SA n ∧ cl_r (gx_R x_thingShown x_globals x_operands (fr_x y_kind fa ph d) x_baseFrame) (gx_E x_thingShown x_thingFields x_thingMaker x_variables x_within) (hp_f τ σ n)) ∧
    (∀ n, cl_r (gx_R x_thingShown x_globals x_operands (fr_x y_kind fa ph d) x_baseFrame) (gx_E x_thingShown x_thingFields x_thingMaker x_variables x_within) n → ∃ n', cl_r (gy_R y_globals y_operands (bs d) y_work w) (gy_E y_sort y_keeps y_cells y_within y_self y_args y_temps y_param) n' ∧ hp_f τ σ n' = n) := by
  obtain ⟨S, Y, X, W⟩ := F
  have Fp := S.2.2.2.2.1
  refine hp_roots A.2.2.2.1 A.2.2.1 A.2.1 (fun j hj => ?_) (fun i hi => ?_) (fun j hj => ?_) (fun b hb z => ?_)
  · obtain ⟨q, q1, q2, q3⟩ := fr_find S d (Nat.le_refl _) hj
    have nt : ¬ fr_tail (y_kind (fa q)) (ph q) := fun z => by rw [fr_c0 z] at q3; omega
    have nz : ph q ≠ 100 := fun z => by
      have : fr_c (y_kind (fa q)) (ph q) = 0 := by unfold fr_c; rw [if_pos z]
      omega
    obtain ⟨_, _, _, fo⟩ := (X.2 q q1 nt).2 nz
    have lx := fr_xlt (K := y_kind) (fa := fa) (ph := ph) q1 nt
    have cs := fr_cs (Fp q q1).2.2.2.2.1 ((rn_TF A) _ (Fp q q1).1).2.1 (rn_11 A (Fp q q1).1)
    have f2 := (fo (fr_s (y_kind (fa q)) + (j - bs q)) (by omega)).2.1 (by omega) (by omega)
    rw [show bs q + (fr_s (y_kind (fa q)) + (j - bs q) - fr_s (y_kind (fa q))) = j by omega] at f2
    exact ⟨_, by omega, f2⟩
  · rcases Nat.lt_or_ge i 3 with z | z
    · exact Or.inl (X.1.2 i z)
    · obtain ⟨q, q1, nt, q3⟩ := fr_surj (K := y_kind) (fa := fa) (ph := ph) (R := i / 3) d (by omega) (by omega)
      have ei : i = fr_x y_kind fa ph q * 3 + i % 3 := by
        have : fr_x y_kind fa ph q = i / 3 := q3
        omega
      by_cases nz : ph q = 100
      · obtain ⟨_, _, _, f⟩ := (X.2 q q1 nt).1 nz
        rw [ei]; exact Or.inl (f (i % 3) (by omega))
      · obtain ⟨_, _, _, fo⟩ := (X.2 q q1 nt).2 nz
        obtain ⟨f1, f2, f3⟩ := fo (i % 3) (by omega)
        rw [ei]
        rcases Nat.lt_or_ge (i % 3) (fr_s (y_kind (fa q))) with a | a
        · have ho := (Fp q q1).2.1
          exact Or.inr (Or.inr ⟨ow q, wk (ow q), ho, (Y.2 _ ho).1, (W.1 _ ho).1, f1 a⟩)
        · rcases Nat.lt_or_ge (i % 3 - fr_s (y_kind (fa q))) (fr_c (y_kind (fa q)) (ph q)) with b | b
          · have := fr_bsm S q1 (Nat.le_refl d)
            exact Or.inr (Or.inl ⟨_, by omega, f2 a b⟩)
          · exact Or.inl (f3 a b)
  · refine ⟨wk j, (Y.2 j hj).1, (W.1 j hj).1, ?_⟩
    rw [(W.1 j hj).2.2]
    have := (fr_xle (K := y_kind) (fa := fa) (ph := ph) (un j)).1
    have hu := fr_unle S hj
    have : d < 2 ^ 30 := by
      rcases Nat.eq_zero_or_pos d with e | e
      · omega
      · have fq := Fp (d - 1) (by omega)
        have p := fr_pos (rn_TF A) S (d - 1) (by omega) (fa (d - 1)) (ow (d - 1)) (fun e => by omega) (fun _ => rfl) fq.2.2.1 fq.2.2.2.1 fq.1
        have e2 := (rn_TF A) _ fq.1
        have := S.2.1
        have := fq.2.1
        omega
    exact gx_m1 (by omega)
  · obtain ⟨i, i1, i2⟩ := W.2.2.1 b hb z
    exact ⟨i, wk i, i1, (Y.2 i i1).1, (W.1 i i1).1, i2⟩
end
