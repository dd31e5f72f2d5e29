/-! a way out: the activations that it ends -/
def ct_w (f : Nat → Int32) (pl : Nat → Nat) (w : Nat) (x : Int32) : Nat → Nat → Int32
  | 0 => f
  | k + 1 => upd (ct_w f pl w x k) (pl (w - (k + 1))) x
theorem ct_win {f : Nat → Int32} {pl : Nat → Nat} {w : Nat} {x : Int32} {i : Nat} (hi : i < w) : ∀ k, w ≤ i + k → ct_w f pl w x k (pl i) = x
  | 0, h => by omega
  | k + 1, h => by
    show upd _ _ _ _ = _
    by_cases e : pl i = pl (w - (k + 1))
    · rw [e, pk_us]
    · rw [pk_un e]
      refine ct_win hi k ?_
      by_cases z : w = i + (k + 1)
      · exact absurd (by rw [show w - (k + 1) = i by omega]) e
      · omega
theorem ct_wout {f : Nat → Int32} {pl : Nat → Nat} {w : Nat} {x : Int32} {a : Nat} : ∀ k, k ≤ w → (∀ i, w ≤ i + k → i < w → pl i ≠ a) → ct_w f pl w x k a = f a
  | 0, _, _ => rfl
  | k + 1, hk, h => by
    show upd _ _ _ _ = _
    rw [pk_un (fun z => h (w - (k + 1)) (by omega) (by omega) z.symm)]
    exact ct_wout k (by omega) fun i i1 i2 => h i (by omega) i2
theorem ct_ws {f : Nat → Int32} {pl : Nat → Nat} {w v : Nat} {x : Int32} (hv : v < w) : upd (ct_w f pl w x (w - (v + 1))) (pl v) x = ct_w f pl w x (w - v) := by
  rw [show w - v = (w - (v + 1)) + 1 by omega]
  show _ = upd _ (pl (w - (w - (v + 1) + 1))) x
  rw [show w - (w - (v + 1) + 1) = v by omega]
/-- the latest one, if there is one -/
theorem lt_one {P : Nat → Prop} {u : Nat} : ∀ d, (∃ s, u ≤ s ∧ s < d ∧ P s ∧ ∀ r, s < r → r < d → ¬ P r) ∨ (∀ r, u ≤ r → r < d → ¬ P r)
  | 0 => Or.inr fun r _ h => by omega
  | d + 1 => by
    by_cases z : u ≤ d ∧ P d
    · exact Or.inl ⟨d, z.1, by omega, z.2, fun r r1 r2 => by omega⟩
    · rcases lt_one (P := P) (u := u) d with ⟨s, s1, s2, s3, s4⟩ | h
      · refine Or.inl ⟨s, s1, by omega, s3, fun r r1 r2 => ?_⟩
        by_cases e : r = d
        · subst e; exact fun q => z ⟨by omega, q⟩
        · exact s4 r r1 (by omega)
      · refine Or.inr fun r r1 r2 => ?_
        by_cases e : r = d
        · subst e; exact fun q => z ⟨r1, q⟩
        · exact h r r1 (by omega)
section
variable {K : Nat → Int32} {nd : Nat → Nat} {T : Nat → Prop} {fa ph bs ow gg un rt : Nat → Nat} {d w : Nat}
theorem fr_uo (S : fr_S K nd T fa ph bs ow gg un rt d w) {e i : Nat} (he : e < d) (hi : i < w) : un i ≤ e ↔ i ≤ ow e := by
  cases i with
  | zero => rw [S.2.2.1]; omega
  | succ i =>
    obtain ⟨p, p1, p2, p3, p4⟩ := S.2.2.2.2.2.2.2 i hi
    constructor
    · intro h
      have m := fr_owm S (q := p + 1) (p := e) (by omega) he
      have := (((S.2.2.2.2.1 (p + 1) (by omega)).2.2.1.2 p rfl).1 p3).1
      omega
    · intro h
      rcases Nat.lt_or_ge p e with z | z
      · omega
      · have m := fr_owm S (q := e) (p := p) z p1
        omega
theorem fr_unm (S : fr_S K nd T fa ph bs ow gg un rt d w) {i j : Nat} (hi : i < j) (hj : j < w) : un i < un j := by
  cases j with
  | zero => omega
  | succ j =>
    obtain ⟨p, p1, p2, p3, p4⟩ := S.2.2.2.2.2.2.2 j hj
    have := (fr_uo S p1 (show i < w by omega)).mpr (by omega)
    omega
theorem fr_sumle {f : Nat → Nat} {a : Nat} : ∀ {b : Nat}, a ≤ b → fr_sum f a ≤ fr_sum f b
  | 0, h => by rw [show a = 0 by omega]; exact Nat.le_refl _
  | b + 1, h => by
    by_cases e : a = b + 1
    · rw [e]; exact Nat.le_refl _
    · have := fr_sumle (f := f) (a := a) (b := b) (by omega)
      show _ ≤ fr_sum f b + f b
      omega
end
section
variable {x_classCount x_bodyCount x_draftCount x_wrongPlace x_madeCount x_frameCount x_current x_next x_mode x_outcome x_stepCount x_atWork x_mostAtWork x_saidCount x_pendingCount : Int32} {x_inHand : Int64} {x_classParent x_classFields x_bound x_tokenKind x_tokenValue x_thingClass x_thingToken x_thingMaker x_homeOf x_within x_foundIn x_baseFrame x_frameToken x_frameStage x_frameLink x_marked x_pending : Nat → Int32} {x_globals x_thingShown x_thingFields x_variables x_operands x_saidValues : Nat → Int64}
variable {y_classes y_bodies y_fault y_made y_working y_peak y_steps y_depth y_waiting y_code y_running y_has y_todos y_marks y_spoken : Int32} {y_got y_shown : Int64} {y_parent y_fields y_bound y_kind y_word y_size y_sort y_number y_stands y_keeps y_within y_foundIn y_live y_work y_under y_at y_in y_phase y_base y_goal y_marked y_todo : Nat → Int32} {y_cells y_globals y_self y_args y_temps y_param y_operands y_heard : Nat → Int64}
variable {cc bc dc mc st sp d w np md B M : Nat} {T ST SA : Nat → Prop} {lv τ σ lev ho fa ph bs ow gg wk un rt : Nat → Nat}
theorem cut_W (A : rn_A cc bc dc mc T ST SA lv τ σ lev ho x_tokenKind x_tokenValue y_kind y_word y_size y_parent y_fields y_bound x_globals y_globals x_thingShown x_thingClass x_thingFields x_thingToken x_thingMaker x_variables x_homeOf x_within x_foundIn y_sort y_number y_stands y_keeps y_cells y_within y_foundIn y_self y_args y_temps y_param) (F : rn_F T ST SA lv σ lev ho y_kind y_word fa ph bs ow gg wk un rt d w y_sort y_number x_frameToken x_frameStage x_frameLink x_operands x_baseFrame y_operands y_self y_at y_in y_phase y_base y_goal y_work y_under y_live) {v : Nat} (hv : v ≤ w) : fr_W SA lev lv σ (ct_w x_baseFrame (fun i => σ (wk i)) w (-1) (w - v)) (ct_w y_live wk w 0 (w - v)) y_kind fa ph wk un rt v := by
  obtain ⟨S, Y, X, W⟩ := F
  have inj := W.2.1
  have sinj := A.2.2.1.2.2.1
  refine ⟨fun i hi => ?_, fun i j hi hj => inj i j (by omega) (by omega), fun b hb z => ?_, fun a ha => ?_⟩
  · obtain ⟨a1, a2, a3⟩ := W.1 i (by omega)
    refine ⟨a1, a2, ?_⟩
    rw [ct_wout (w - v) (by omega) (fun j j1 j2 z => ?_)]
    · exact a3
    · have := inj j i j2 (by omega) (sinj _ _ (W.1 j j2).1 a1 z)
      omega
  · by_cases e : ∃ i, v ≤ i ∧ i < w ∧ b = σ (wk i)
    · obtain ⟨i, i1, i2, rfl⟩ := e
      exact absurd (ct_win (pl := fun i => σ (wk i)) i2 (w - v) (by omega)) z
    · rw [ct_wout (w - v) (by omega) (fun j j1 j2 z => e ⟨j, by omega, j2, z.symm⟩)] at z
      obtain ⟨i, i1, i2⟩ := W.2.2.1 b hb z
      refine ⟨i, ?_, i2⟩
      rcases Nat.lt_or_ge i v with q | q
      · exact q
      · exact absurd ⟨i, q, i1, i2⟩ e
  · obtain ⟨l1, l2⟩ := W.2.2.2 a ha
    by_cases e : ∃ i, v ≤ i ∧ i < w ∧ wk i = a
    · obtain ⟨i, i1, i2, rfl⟩ := e
      rw [ct_win (pl := wk) i2 (w - v) (by omega)]
      exact ⟨Or.inl rfl, fun z => absurd z (by decide), fun ⟨j, j1, j2⟩ => by
        have := inj j i (by omega) i2 j2
        omega⟩
    · rw [ct_wout (w - v) (by omega) (fun j j1 j2 z => e ⟨j, by omega, j2, z⟩)]
      refine ⟨l1, fun z => ?_, fun ⟨i, i1, i2⟩ => l2.mpr ⟨i, by omega, i2⟩⟩
      obtain ⟨i, i1, i2⟩ := l2.mp z
      refine ⟨i, ?_, i2⟩
      rcases Nat.lt_or_ge i v with q | q
      · exact q
      · exact absurd ⟨i, q, i1, i2⟩ e
theorem yl_cut (A : rn_A cc bc dc mc T ST SA lv τ σ lev ho x_tokenKind x_tokenValue y_kind y_word y_size y_parent y_fields y_bound x_globals y_globals x_thingShown x_thingClass x_thingFields x_thingToken x_thingMaker x_variables x_homeOf x_within x_foundIn y_sort y_number y_stands y_keeps y_cells y_within y_foundIn y_self y_args y_temps y_param) (F : rn_F T ST SA lv σ lev ho y_kind y_word fa ph bs ow gg wk un rt d w y_sort y_number x_frameToken x_frameStage x_frameLink x_operands x_baseFrame y_operands y_self y_at y_in y_phase y_base y_goal y_work y_under y_live) {post : SY → Prop} {c v : Nat} (hc : c < 2 ^ 31) (hv : v ≤ w) (hin : ∀ i, v ≤ i → i < w → c ≤ un i) (hout : ∀ i, i < v → un i < c) (h : post (nI cc, nI bc, y_fault, nI mc, nI v, y_peak, nI st, nI c, y_waiting, y_code, 1, 0, y_got, y_todos, y_marks, -10000000000, nI sp, y_parent, y_fields, y_bound, y_kind, y_word, y_size, y_sort, y_number, y_stands, y_keeps, y_cells, y_globals, y_within, y_foundIn, y_self, y_args, y_temps, y_param, ct_w y_live wk w 0 (w - v), y_work, y_under, y_at, y_in, y_phase, y_base, y_goal, y_operands, y_marked, y_todo, y_heard)) : wpY_cut post (nI cc, nI bc, y_fault, nI mc, nI w, y_peak, nI st, y_depth, y_waiting, y_code, 1, 0, y_got, y_todos, y_marks, -10000000000, nI sp, y_parent, y_fields, y_bound, y_kind, y_word, y_size, y_sort, y_number, y_stands, y_keeps, y_cells, y_globals, y_within, y_foundIn, y_self, y_args, y_temps, y_param, y_live, y_work, y_under, y_at, y_in, y_phase, y_base, y_goal, y_operands, y_marked, y_todo, y_heard) (nI c) := by
  have w12 : w ≤ 12 := F.1.2.1
  have ub : ∀ i, i < w → un i < 2 ^ 31 := fun i hi => by
    cases i with
    | zero => rw [F.1.2.2.1]; omega
    | succ i =>
      obtain ⟨p, p1, p2, _⟩ := F.1.2.2.2.2.2.2.2 i hi
      have := (rn_fr A F p1).1
      omega
  have key : ∀ k u, u = v + k → u ≤ w → wY_cut_5 post (nI c) (k + 1) (nI cc) (nI bc) y_fault (nI mc) (nI u) y_peak (nI st) (nI c) y_waiting y_code 1 0 y_got y_todos y_marks (-10000000000) (nI sp) y_parent y_fields y_bound y_kind y_word y_size y_sort y_number y_stands y_keeps y_cells y_globals y_within y_foundIn y_self y_args y_temps y_param (ct_w y_live wk w 0 (w - u)) y_work y_under y_at y_in y_phase y_base y_goal y_operands y_marked y_todo y_heard := by
    intro k
    induction k with
    | zero =>
      intro u hu huw
      obtain rfl : u = v := hu
      unfold wY_cut_5
      by_cases z : u = 0
      · subst z
        exact br_t (by decide) h
      · obtain ⟨u', rfl⟩ : ∃ u', u = u' + 1 := ⟨u - 1, by omega⟩
        rw [nI_pred, nI_clamp (show u' < 2 ^ 31 by omega), (F.2.1.2 u' (by omega)).2]
        exact br_f (nI_ge (a := 0) (by omega) (by omega)) ⟨vp_in_nI (by omega) (by decide), br_t (nI_lt (hout u' (by omega)) hc) h⟩
    | succ k ih =>
      intro u hu huw
      obtain ⟨u', rfl⟩ : ∃ u', u = u' + 1 := ⟨u - 1, by omega⟩
      have wl := (A.2.2.1.2.1 _ (F.2.2.2.1 u' (by omega)).1).1
      unfold wY_cut_5
      rw [nI_pred, nI_clamp (show u' < 2 ^ 31 by omega), (F.2.1.2 u' (by omega)).2]
      refine br_f (nI_ge (a := 0) (by omega) (by omega)) ⟨vp_in_nI (by omega) (by decide), br_f (Int32.not_lt.mpr (nI_le (hin u' (by omega) (by omega)) (ub u' (by omega)))) ?_⟩
      unfold wpY_end
      dsimp only
      rw [nI_pred]
      refine nm_e ?_
      rw [nI_clamp (show u' < 2 ^ 31 by omega), (F.2.1.2 u' (by omega)).1, nI_clamp (show wk u' < 2 ^ 31 by omega), show vp_nar .boolean 0 = 0 by rfl]
      exact ⟨vp_in_nI (by omega) (by decide), vp_in_nI wl (by decide), nm_r (ct_ws (by omega)) (ih u' (by omega) (by omega))⟩
  have := key (w - v) w (by omega) (by omega)
  rw [Nat.sub_self] at this
  exact ⟨_, this⟩
end
