/-! a way out: the component's loop comes down over the frames -/
section
variable {x_classCount x_bodyCount x_draftCount x_wrongPlace x_madeCount x_frameCount x_current x_next x_mode x_outcome x_stepCount x_atWork x_mostAtWork x_saidCount x_pendingCount : Int32} {x_inHand : Int64} {x_classParent x_classFields x_bound x_tokenKind x_tokenValue x_thingClass x_thingToken x_thingMaker x_homeOf x_within x_foundIn x_baseFrame x_frameToken x_frameStage x_frameLink x_marked x_pending : Nat → Int32} {x_globals x_thingShown x_thingFields x_variables x_operands x_saidValues : Nat → Int64}
variable {y_classes y_bodies y_fault y_made y_working y_peak y_steps y_depth y_waiting y_code y_running y_has y_todos y_marks y_spoken : Int32} {y_got y_shown : Int64} {y_parent y_fields y_bound y_kind y_word y_size y_sort y_number y_stands y_keeps y_within y_foundIn y_live y_work y_under y_at y_in y_phase y_base y_goal y_marked y_todo : Nat → Int32} {y_cells y_globals y_self y_args y_temps y_param y_operands y_heard : Nat → Int64}
variable {cc bc dc mc st sp d w np md B M : Nat} {T ST SA : Nat → Prop} {lv τ σ lev ho fa ph bs ow gg wk un rt : Nat → Nat}
theorem nI_m1 (a : Nat) : nI a + -1 = nI a - 1 := by rw [Int32.sub_eq_add_neg]
theorem xl_down (A : rn_A cc bc dc mc T ST SA lv τ σ lev ho x_tokenKind x_tokenValue y_kind y_word y_size y_parent y_fields y_bound x_globals y_globals x_thingShown x_thingClass x_thingFields x_thingToken x_thingMaker x_variables x_homeOf x_within x_foundIn y_sort y_number y_stands y_keeps y_cells y_within y_foundIn y_self y_args y_temps y_param) (F : rn_F T ST SA lv σ lev ho y_kind y_word fa ph bs ow gg wk un rt d w y_sort y_number x_frameToken x_frameStage x_frameLink x_operands x_baseFrame y_operands y_self y_at y_in y_phase y_base y_goal y_work y_under y_live) {x1 : Int32} {x2 : Int64} {g t v' : Nat} (hg : g < w) (ht : un g ≤ t) (hv' : fr_lo ph ow un t v') : ∀ k, t + k ≤ d → (∀ s, t ≤ s → s < t + k → ¬ (y_kind (fa s) = 27 ∧ ph s = 0)) → ∀ v, v < w → fr_lo ph ow un (t + k) v → ∀ np : Int32, v' ≤ v ∧ ∃ np' : Int32, ∀ (post : SX → Prop) (n : Nat), wX_goHome_16 post x1 x2 (nI (fr_x y_kind fa ph (un g) - 1)) n (nI (fr_x y_kind fa ph t) - 1) (nI cc) (nI bc) (nI dc) y_fault (nI mc) (nI (fr_x y_kind fa ph t)) (nI (σ (wk v'))) np' x_inHand 1 100 (nI st) (nI (v' + 1)) y_peak (nI sp) x_pendingCount y_parent y_fields y_bound x_tokenKind x_tokenValue x_globals x_thingShown x_thingClass x_thingFields x_thingToken x_thingMaker x_variables x_homeOf x_within x_foundIn (ct_w x_baseFrame (fun i => σ (wk i)) w (-1) (w - (v' + 1))) x_frameToken x_frameStage x_frameLink x_operands y_heard x_marked x_pending → ∃ n', wX_goHome_16 post x1 x2 (nI (fr_x y_kind fa ph (un g) - 1)) n' (nI (fr_x y_kind fa ph (t + k)) - 1) (nI cc) (nI bc) (nI dc) y_fault (nI mc) (nI (fr_x y_kind fa ph (t + k))) (nI (σ (wk v))) np x_inHand 1 100 (nI st) (nI (v + 1)) y_peak (nI sp) x_pendingCount y_parent y_fields y_bound x_tokenKind x_tokenValue x_globals x_thingShown x_thingClass x_thingFields x_thingToken x_thingMaker x_variables x_homeOf x_within x_foundIn (ct_w x_baseFrame (fun i => σ (wk i)) w (-1) (w - (v + 1))) x_frameToken x_frameStage x_frameLink x_operands y_heard x_marked x_pending
  | 0, _, _, v, hv, lo, np => by
    have e : v = v' := by
      cases t with
      | zero => have := lo.1 rfl; have := hv'.1 rfl; omega
      | succ q =>
        by_cases z : ph q = 100
        · have := ((lo.2 q rfl).1 z).1; have := ((hv'.2 q rfl).1 z).1; omega
        · have := (lo.2 q rfl).2 z; have := (hv'.2 q rfl).2 z; omega
    subst e
    exact ⟨Nat.le_refl _, np, fun post n h => ⟨n, h⟩⟩
  | k + 1, hk, no, v, hv, lo, np => by
    obtain ⟨b1, b2, b3, b4⟩ := rn_fr A F (show t + k < d by omega)
    have S := F.1
    have Fs := S.2.2.2.2.1 (t + k) (by omega)
    have lo' := Fs.2.2.1
    have xm := fr_xmono (K := y_kind) (fa := fa) (ph := ph) (show un g ≤ t + k by omega)
    have xle := fr_xle (K := y_kind) (fa := fa) (ph := ph) (t + k)
    have xug := fr_xle (K := y_kind) (fa := fa) (ph := ph) (un g)
    have nd : ∀ s, t ≤ s → s < t + k → ¬ (y_kind (fa s) = 27 ∧ ph s = 0) := fun s s1 s2 => no s s1 (by omega)
    by_cases tl : fr_tail (y_kind (fa (t + k))) (ph (t + k))
    · have np' : ph (t + k) ≠ 100 := fun z => by rcases tl with ⟨_, q⟩ | ⟨_, q⟩ <;> omega
      have ev := (lo.2 (t + k) rfl).2 np'
      subst ev
      have ih := xl_down A F (x1 := x1) (x2 := x2) hg ht hv' k (by omega) nd (ow (t + k)) hv lo' np
      have ex : fr_x y_kind fa ph (t + (k + 1)) = fr_x y_kind fa ph (t + k) := by
        show fr_x y_kind fa ph (t + k) + ct_b (¬ fr_tail (y_kind (fa (t + k))) (ph (t + k))) = _
        rw [ct_bf (fun z => z tl)]; rfl
      rw [ex]
      exact ih
    · have ex : fr_x y_kind fa ph (t + (k + 1)) = fr_x y_kind fa ph (t + k) + 1 := by
        show fr_x y_kind fa ph (t + k) + ct_b (¬ fr_tail (y_kind (fa (t + k))) (ph (t + k))) = _
        rw [ct_bt tl]
      have hxf : fr_x y_kind fa ph (t + k) < 385 := by omega
      have vxf : vp_in (nI (fr_x y_kind fa ph (t + k))) 385 := vp_in_nI hxf (by decide)
      have cxf : (nI (fr_x y_kind fa ph (t + k))).toNatClampNeg = fr_x y_kind fa ph (t + k) := nI_clamp (by omega)
      have gt : ¬ nI (fr_x y_kind fa ph (t + k)) ≤ nI (fr_x y_kind fa ph (un g) - 1) := nI_ge (by omega) (by omega)
      have XF := F.2.2.1.2 (t + k) (by omega) tl
      by_cases z : ph (t + k) = 100
      · obtain ⟨xtk, xsg, xlk, _⟩ := XF.1 z
        obtain ⟨ev, _⟩ := (lo.2 (t + k) rfl).1 z
        have ih := xl_down A F (x1 := x1) (x2 := x2) hg ht hv' k (by omega) nd (ow (t + k)) (by omega) lo' (nI (ex_e (tk_nd y_kind y_word) (fa (t + k))))
        obtain ⟨i1, np', i2⟩ := ih
        refine ⟨by omega, np', fun post n h => ?_⟩
        obtain ⟨n', h'⟩ := i2 post n h
        refine ⟨n' + 1, ?_⟩
        subst ev
        have cl : σ (wk (ow (t + k) + 1)) < 128 := (A.2.2.1.2.1 _ (F.2.2.2.1 _ hv).1).2.1
        unfold wX_goHome_16
        rw [ex, nI_pred, cxf, xtk]
        refine br_f gt ⟨vxf, nm_e (br_t rfl ?_)⟩
        refine xw_endAct (fc := fr_x y_kind fa ph (t + k)) (c := σ (wk (ow (t + k) + 1))) (w := ow (t + k) + 1) hxf cl ?_
        dsimp only
        rw [xsg, xlk, nI_m1]
        refine nm_e ?_
        rw [show upd (ct_w x_baseFrame (fun i => σ (wk i)) w (-1) (w - (ow (t + k) + 1 + 1))) (σ (wk (ow (t + k) + 1))) (-1) = ct_w x_baseFrame (fun i => σ (wk i)) w (-1) (w - (ow (t + k) + 1)) from ct_ws (pl := fun i => σ (wk i)) hv]
        exact h'
      · obtain ⟨xtk, xsg, _⟩ := XF.2 z
        have ev := (lo.2 (t + k) rfl).2 z
        subst ev
        have ih := xl_down A F (x1 := x1) (x2 := x2) hg ht hv' k (by omega) nd (ow (t + k)) hv lo' np
        obtain ⟨i1, np', i2⟩ := ih
        refine ⟨i1, np', fun post n h => ?_⟩
        obtain ⟨n', h'⟩ := i2 post n h
        refine ⟨n' + 1, ?_⟩
        have xkd : x_tokenKind (fa (t + k)) = y_kind (fa (t + k)) := (A.1.2.2.1.2.1 _ b4).2.1
        have go : wX_goHome_111 post (wX_goHome_16 post x1 x2 (nI (fr_x y_kind fa ph (un g) - 1)) n') x1 x2 (nI (fr_x y_kind fa ph (un g) - 1)) (nI (fr_x y_kind fa ph (t + k))) (nI cc) (nI bc) (nI dc) y_fault (nI mc) (nI (fr_x y_kind fa ph (t + k) + 1)) (nI (σ (wk (ow (t + k))))) np x_inHand 1 100 (nI st) (nI (ow (t + k) + 1)) y_peak (nI sp) x_pendingCount y_parent y_fields y_bound x_tokenKind x_tokenValue x_globals x_thingShown x_thingClass x_thingFields x_thingToken x_thingMaker x_variables x_homeOf x_within x_foundIn (ct_w x_baseFrame (fun i => σ (wk i)) w (-1) (w - (ow (t + k) + 1))) x_frameToken x_frameStage x_frameLink x_operands y_heard x_marked x_pending := by
          unfold wX_goHome_111
          rw [nI_pred, nI_m1]
          exact nm_e (nm_e h')
        unfold wX_goHome_16
        rw [ex, nI_pred, cxf, xtk, xsg]
        refine br_f gt ⟨vxf, nm_e ?_⟩
        rw [nI_clamp (show fa (t + k) < 2 ^ 31 by omega), xkd]
        refine br_f (gx_m1 (by omega)) ⟨vp_in_nI (by omega) (by decide), br_c (fun k27 => ⟨vxf, br_f (fun q => ?_) go⟩) (fun _ => go)⟩
        have s0 : fr_s (y_kind (fa (t + k))) = 0 := by unfold fr_s; rw [k27, if_neg (by decide)]
        rw [s0] at q
        exact no (t + k) (by omega) (by omega) ⟨k27, (nI_eq (b := 0) (by omega) (by decide)).mp q⟩
end
