/-! a value comes to the operator on top: THEN, IF, WHILE -/
section
variable {x_classCount x_bodyCount x_draftCount x_wrongPlace x_madeCount x_frameCount x_current x_next x_mode x_outcome x_stepCount x_atWork x_mostAtWork x_saidCount x_pendingCount : Int32} {x_inHand : Int64} {x_classParent x_classFields x_bound x_tokenKind x_tokenValue x_thingClass x_thingToken x_thingMaker x_homeOf x_within x_foundIn x_baseFrame x_frameToken x_frameStage x_frameLink x_marked x_pending : Nat → Int32} {x_globals x_thingShown x_thingFields x_variables x_operands x_saidValues : Nat → Int64}
variable {y_classes y_bodies y_fault y_made y_working y_peak y_steps y_depth y_waiting y_code y_running y_has y_todos y_marks y_spoken : Int32} {y_got y_shown : Int64} {y_parent y_fields y_bound y_kind y_word y_size y_sort y_number y_stands y_keeps y_within y_foundIn y_live y_work y_under y_at y_in y_phase y_base y_goal y_marked y_todo : Nat → Int32} {y_cells y_globals y_self y_args y_temps y_param y_operands y_heard : Nat → Int64}
variable {cc bc dc mc st sp d w np md B M : Nat} {T ST SA : Nat → Prop} {lv τ σ lev ho fa ph bs ow gg wk un rt : Nat → Nat}
theorem tv_so (H : hp_R cc mc T y_kind lv ST SA τ σ lev ho x_thingShown x_thingClass x_thingFields x_thingToken x_thingMaker x_variables x_homeOf x_within x_foundIn y_sort y_number y_stands y_keeps y_cells y_within y_foundIn y_self y_args y_temps y_param) (hmc : mc < 2 ^ 31) {x y : Int64} (hv : hp_v ST (hp_s y_sort y_number) x y) :
    ((∀ post : Int32 → Prop, post 0 → wpX_isSo post (x_classCount, x_bodyCount, x_draftCount, x_wrongPlace, x_madeCount, x_frameCount, x_current, x_next, x_inHand, x_mode, x_outcome, x_stepCount, x_atWork, x_mostAtWork, x_saidCount, x_pendingCount, x_classParent, x_classFields, x_bound, x_tokenKind, x_tokenValue, x_globals, x_thingShown, x_thingClass, x_thingFields, x_thingToken, x_thingMaker, x_variables, x_homeOf, x_within, x_foundIn, x_baseFrame, x_frameToken, x_frameStage, x_frameLink, x_operands, x_saidValues, x_marked, x_pending) x) ∧ (∀ post : Int32 → Prop, post 0 → wpY_isTrue post y)) ∨ ((∀ post : Int32 → Prop, post 1 → wpX_isSo post (x_classCount, x_bodyCount, x_draftCount, x_wrongPlace, x_madeCount, x_frameCount, x_current, x_next, x_inHand, x_mode, x_outcome, x_stepCount, x_atWork, x_mostAtWork, x_saidCount, x_pendingCount, x_classParent, x_classFields, x_bound, x_tokenKind, x_tokenValue, x_globals, x_thingShown, x_thingClass, x_thingFields, x_thingToken, x_thingMaker, x_variables, x_homeOf, x_within, x_foundIn, x_baseFrame, x_frameToken, x_frameStage, x_frameLink, x_operands, x_saidValues, x_marked, x_pending) x) ∧ (∀ post : Int32 → Prop, post 1 → wpY_isTrue post y)) := by
  have e0 : (4294967296 : Int64) = lN 4294967296 := by decide
  have z0 : (0 : Int64) = lN 0 := by decide
  obtain ⟨a, h1, rfl, rfl⟩ := hv
  rcases a with i | _ | k
  · have hl := i.toBitVec.isLt
    have nx : ¬ i.toInt64 = (10000000000 : Int64) := fun z => hp_int1 i (by rw [z]; decide)
    have ny : ¬ lN i.toBitVec.toNat = (4294967296 : Int64) := fun z => by
      rw [e0, pk_lEQ (by omega) (by omega)] at z; omega
    by_cases zi : i = 0
    · subst zi
      exact Or.inl ⟨fun post hp => br_f nx (br_t (show (0 : Int32).toInt64 = 0 by decide) hp), fun post hp => br_t (show lN (0 : Int32).toBitVec.toNat = 0 by decide) hp⟩
    · have zx : ¬ i.toInt64 = (0 : Int64) := fun z => zi (by
        have := congrArg Int64.toInt32 z
        rw [Int32.toInt32_toInt64] at this
        exact this)
      have zy : ¬ lN i.toBitVec.toNat = (0 : Int64) := fun z => zi (by
        have := congrArg Int64.toInt32 z
        rw [vv_i] at this
        exact this)
      exact Or.inr ⟨fun post hp => br_f nx (br_f zx hp), fun post hp => br_f zy (br_f ny hp)⟩
  · exact Or.inl ⟨fun post hp => br_t rfl hp, fun post hp => br_f (by decide) (br_t rfl hp)⟩
  · obtain ⟨hk, sk⟩ := h1 k rfl
    obtain ⟨_, _, _, ⟨n, n1, n2⟩, _⟩ := H.1 k sk
    have s2 := (hp_s_n (so := y_sort) n2 (by omega)).2
    have nx : ¬ hp_s y_sort y_number k = (10000000000 : Int64) := fun z => by rw [z] at s2; exact absurd s2 (by decide)
    have zx : ¬ hp_s y_sort y_number k = (0 : Int64) := fun z => by rw [z] at s2; exact absurd s2 (by decide)
    have zy : ¬ lN (8589934592 + k) = (0 : Int64) := fun z => by
      rw [z0, pk_lEQ (by omega) (by omega)] at z; omega
    exact Or.inr ⟨fun post hp => br_f nx (br_f zx hp), fun post hp => br_f zy (br_f (vv_ne hk) hp)⟩
/-- the state after the top frame's phase has changed -/
theorem set_N {p φ g fc' wt' np' md' : Nat} {aph' ago' xtk' xsg' xlk' : Nat → Int32} {xop' yop' : Nat → Int64} {xm : Int32} (A : rn_A cc bc dc mc T ST SA lv τ σ lev ho x_tokenKind x_tokenValue y_kind y_word y_size y_parent y_fields y_bound x_globals y_globals x_thingShown x_thingClass x_thingFields x_thingToken x_thingMaker x_variables x_homeOf x_within x_foundIn y_sort y_number y_stands y_keeps y_cells y_within y_foundIn y_self y_args y_temps y_param) (F' : rn_F T ST SA lv σ lev ho y_kind y_word fa (nu ph p φ) (nu bs (p + 1) (bs p + fr_c (y_kind (fa p)) φ)) ow (nu gg p g) wk un rt (p + 1) w y_sort y_number xtk' xsg' xlk' xop' x_baseFrame yop' y_self y_at y_in aph' y_base ago' y_work y_under y_live) (h2 : φ ≠ 100)
    (hfc : fr_x y_kind fa ph p + ct_b (¬ fr_tail (y_kind (fa p)) φ) = fc') (hwt : bs p + fr_c (y_kind (fa p)) φ = wt') (hnp : ex_pt (tk_nd y_kind y_word) (fa p) (fr_pt (y_kind (fa p)) φ) = np') (hmd : (fr_pt (y_kind (fa p)) φ < tk_nd y_kind y_word (fa p) ∧ xm = 0 ∧ md' = 0) ∨ (fr_pt (y_kind (fa p)) φ = tk_nd y_kind y_word (fa p) ∧ xm = 2 ∧ md' = 1)) (n : rn_n B M mc st sp (rn_mu (tk_nd y_kind y_word) fa un rt st (p + 1) w np' md')) :
    rn_St B M (nI cc, nI bc, nI dc, y_fault, nI mc, nI fc', nI (σ (wk (w - 1))), nI np', x_inHand, xm, 100, nI st, nI w, y_peak, nI sp, x_pendingCount, y_parent, y_fields, y_bound, x_tokenKind, x_tokenValue, x_globals, x_thingShown, x_thingClass, x_thingFields, x_thingToken, x_thingMaker, x_variables, x_homeOf, x_within, x_foundIn, x_baseFrame, xtk', xsg', xlk', xop', y_heard, x_marked, x_pending) (nI cc, nI bc, y_fault, nI mc, nI w, y_peak, nI st, nI (p + 1), nI wt', y_code, 1, 0, y_got, y_todos, y_marks, -10000000000, nI sp, y_parent, y_fields, y_bound, y_kind, y_word, y_size, y_sort, y_number, y_stands, y_keeps, y_cells, y_globals, y_within, y_foundIn, y_self, y_args, y_temps, y_param, y_live, y_work, y_under, y_at, y_in, aph', y_base, ago', yop', y_marked, y_todo, y_heard) := by
  have ex : fr_x y_kind fa (nu ph p φ) (p + 1) = fc' := by
    show fr_x y_kind fa (nu ph p φ) p + ct_b _ = _
    rw [fr_xc (fun q hq => ⟨rfl, nu_n (by omega)⟩), nu_s]; exact hfc
  refine ⟨cc, bc, dc, mc, st, sp, p + 1, w, np', md', T, ST, SA, lv, τ, σ, lev, ho, fa, nu ph p φ, nu bs (p + 1) (bs p + fr_c (y_kind (fa p)) φ), ow, nu gg p g, wk, un, rt, ⟨rfl, rfl, rfl, rfl, rfl, by rw [ex], rfl, rfl, rfl, rfl, rfl, rfl, rfl, rfl, rfl, rfl, rfl⟩, ⟨rfl, rfl, rfl, rfl, rfl, rfl, by rw [nu_s, hwt], rfl, rfl, rfl⟩, A, F', Or.inr ⟨rfl, p, rfl, by rw [nu_s]; exact h2, by rw [nu_s]; exact hnp.symm, by rw [nu_s]; exact hmd⟩, n⟩
theorem rn_xr {p : Nat} (A : rn_A cc bc dc mc T ST SA lv τ σ lev ho x_tokenKind x_tokenValue y_kind y_word y_size y_parent y_fields y_bound x_globals y_globals x_thingShown x_thingClass x_thingFields x_thingToken x_thingMaker x_variables x_homeOf x_within x_foundIn y_sort y_number y_stands y_keeps y_cells y_within y_foundIn y_self y_args y_temps y_param) (F : rn_F T ST SA lv σ lev ho y_kind y_word fa ph bs ow gg wk un rt (p + 1) w y_sort y_number x_frameToken x_frameStage x_frameLink x_operands x_baseFrame y_operands y_self y_at y_in y_phase y_base y_goal y_work y_under y_live) (hp : ph p ≠ 100) : fr_x y_kind fa ph p < 385 := by
  have h := (rn_top A F hp).2.2.2.2.2.2.2.2.2.2.2.2
  have := (fr_xle (K := y_kind) (fa := fa) (ph := ph) p).1
  omega
theorem dv_np {p t : Nat} (hp : ph p ≠ 100) (lt : fr_lt y_kind (tk_nd y_kind y_word) fa ph rt (p + 1) t (w - 1)) : fr_pt (y_kind (fa p)) (ph p) < tk_nd y_kind y_word (fa p) ∧ ex_e (tk_nd y_kind y_word) t = ex_pt (tk_nd y_kind y_word) (fa p) (fr_pt (y_kind (fa p)) (ph p) + 1) := by
  obtain ⟨a, b⟩ := (lt.2 p rfl).2 hp
  exact ⟨a, by rw [b]; rfl⟩
theorem go_then0 {p tm : Nat} (A : rn_A cc bc dc mc T ST SA lv τ σ lev ho x_tokenKind x_tokenValue y_kind y_word y_size y_parent y_fields y_bound x_globals y_globals x_thingShown x_thingClass x_thingFields x_thingToken x_thingMaker x_variables x_homeOf x_within x_foundIn y_sort y_number y_stands y_keeps y_cells y_within y_foundIn y_self y_args y_temps y_param) (F : rn_F T ST SA lv σ lev ho y_kind y_word fa ph bs ow gg wk un rt (p + 1) w y_sort y_number x_frameToken x_frameStage x_frameLink x_operands x_baseFrame y_operands y_self y_at y_in y_phase y_base y_goal y_work y_under y_live) {xv yv : Int64} (k16 : y_kind (fa p) = 16) (h0 : ph p = 0) {np : Nat} (enp : np = ex_pt (tk_nd y_kind y_word) (fa p) 1) (n : rn_n B (M + 1) mc st sp (rn_mu (tk_nd y_kind y_word) fa un rt st (p + 1) w np 2)) (ht : tm + 2 ≤ 1000000) :
    rn_Go B M tm (nI cc, nI bc, nI dc, y_fault, nI mc, nI (fr_x y_kind fa ph (p + 1)), nI (σ (wk (w - 1))), nI np, xv, 1, 100, nI st, nI w, y_peak, nI sp, x_pendingCount, y_parent, y_fields, y_bound, x_tokenKind, x_tokenValue, x_globals, x_thingShown, x_thingClass, x_thingFields, x_thingToken, x_thingMaker, x_variables, x_homeOf, x_within, x_foundIn, x_baseFrame, x_frameToken, x_frameStage, x_frameLink, x_operands, y_heard, x_marked, x_pending) (nI cc, nI bc, y_fault, nI mc, nI w, y_peak, nI st, nI (p + 1), nI (bs (p + 1)), y_code, 1, 1, yv, y_todos, y_marks, -10000000000, nI sp, y_parent, y_fields, y_bound, y_kind, y_word, y_size, y_sort, y_number, y_stands, y_keeps, y_cells, y_globals, y_within, y_foundIn, y_self, y_args, y_temps, y_param, y_live, y_work, y_under, y_at, y_in, y_phase, y_base, y_goal, y_operands, y_marked, y_todo, y_heard) := by
  have hp : ph p ≠ 100 := by omega
  have nt : ¬ fr_tail (y_kind (fa p)) (ph p) := fun z => by rcases z with ⟨_, z⟩ | ⟨_, z⟩ <;> omega
  obtain ⟨f1, eo, f5, p3, p5, b3, y1, y2, y3, y4, a3, n3, p383⟩ := rn_top A F hp
  have hxr := rn_xr A F hp
  have ep : nI (p + 1) - 1 = nI p := nI_pred p
  have pc : (nI p).toNatClampNeg = p := nI_clamp (by omega)
  have vp : vp_in (nI p) 500 := vp_in_nI p5 (by decide)
  have fac : (nI (fa p)).toNatClampNeg = fa p := nI_clamp (by omega)
  have xr : fr_x y_kind fa ph (p + 1) = fr_x y_kind fa ph p + 1 := by
    show _ + ct_b _ = _
    rw [ct_bt nt]
  have xrc : (nI (fr_x y_kind fa ph p)).toNatClampNeg = fr_x y_kind fa ph p := nI_clamp (by omega)
  have vxr : vp_in (nI (fr_x y_kind fa ph p)) 385 := vp_in_nI hxr (by decide)
  obtain ⟨xtk, xsg, xlk, xO⟩ := (F.2.2.1.2 p (by omega) nt).2 hp
  have xkd : x_tokenKind (fa p) = y_kind (fa p) := (A.1.2.2.1.2.1 _ f1).2.1
  have xvl : x_tokenValue (fa p) = y_word (fa p) := (A.1.2.2.1.2.1 _ f1).2.2.1
  have goY : ∀ Q : SY → Prop, (∀ k : Int32, k = y_kind (fa p) → _) → wpY_deliver Q (nI cc, nI bc, y_fault, nI mc, nI w, y_peak, nI st, nI (p + 1), nI (bs (p + 1)), y_code, 1, 1, yv, y_todos, y_marks, -10000000000, nI sp, y_parent, y_fields, y_bound, y_kind, y_word, y_size, y_sort, y_number, y_stands, y_keeps, y_cells, y_globals, y_within, y_foundIn, y_self, y_args, y_temps, y_param, y_live, y_work, y_under, y_at, y_in, y_phase, y_base, y_goal, y_operands, y_marked, y_todo, y_heard) := fun Q h => by
    unfold wpY_deliver
    dsimp only
    rw [ep]
    refine nm_e (br_t (nI_pos' (by omega)) ?_)
    rw [pc, y3]
    refine ⟨vp, br_f (fun z => hp ((nI_eq (b := 100) (by omega) (by decide)).mp z)) ⟨vp, ?_⟩⟩
    rw [y1, fac]
    exact ⟨vp_in_nI (by omega) (by decide), h⟩
  have goX : ∀ Q : SX → Prop, (∀ k : Int32, k = y_kind (fa p) → _) → wpX_handOn Q (nI cc, nI bc, nI dc, y_fault, nI mc, nI (fr_x y_kind fa ph (p + 1)), nI (σ (wk (w - 1))), nI np, xv, 1, 100, nI st, nI w, y_peak, nI sp, x_pendingCount, y_parent, y_fields, y_bound, x_tokenKind, x_tokenValue, x_globals, x_thingShown, x_thingClass, x_thingFields, x_thingToken, x_thingMaker, x_variables, x_homeOf, x_within, x_foundIn, x_baseFrame, x_frameToken, x_frameStage, x_frameLink, x_operands, y_heard, x_marked, x_pending) := fun Q h => by
    unfold wpX_handOn
    dsimp only
    rw [xr, nI_pred]
    refine nm_e ?_
    rw [xrc, xtk]
    refine ⟨vxr, nm_e (br_f (gx_m1 (by omega)) ⟨vp_in_nI (by omega) (by decide), ?_⟩)⟩
    rw [fac, xkd]
    exact h
  have nd2 : tk_nd y_kind y_word (fa p) = 2 := by unfold tk_nd; rw [k16]; rfl
  have pt1 : fr_pt (y_kind (fa p)) 1 = 1 := by unfold fr_pt; rw [if_neg (fun z => by have := z.2; omega)]
  have c1 : fr_c (y_kind (fa p)) 1 = 0 := by rw [k16]; rfl
  have c0 : fr_c (y_kind (fa p)) (ph p) = 0 := by rw [k16, h0]; rfl
  have tl : fr_tail (y_kind (fa p)) 1 := Or.inl ⟨k16, rfl⟩
  have bse : bs (p + 1) = bs p := by rw [(F.1.2.2.2.2.1 p (by omega)).2.2.2.2.2.1, c0]; rfl
  have F' := rn_set (φ := 1) (g := gg p) (aph' := upd y_phase p (nI 1)) (ago' := y_goal) (xtk' := x_frameToken) (xsg' := x_frameStage) (xlk' := x_frameLink) (xop' := x_operands) (yop' := y_operands) F hp (by decide) (Or.inr (Or.inl ⟨k16, by omega⟩)) (fun _ z => by omega) ⟨pk_us, fun q hq => ⟨pk_un (by omega), rfl⟩⟩ (fun _ _ => ⟨rfl, rfl, rfl⟩) (fun _ _ => rfl) (fun _ _ => rfl) (fun z => absurd tl z)
  obtain ⟨n1, n2, n3', n4⟩ := n
  refine ⟨(nI cc, nI bc, nI dc, y_fault, nI mc, nI (fr_x y_kind fa ph p), nI (σ (wk (w - 1))), nI np, xv, 0, 100, nI st, nI w, y_peak, nI sp, x_pendingCount, y_parent, y_fields, y_bound, x_tokenKind, x_tokenValue, x_globals, x_thingShown, x_thingClass, x_thingFields, x_thingToken, x_thingMaker, x_variables, x_homeOf, x_within, x_foundIn, x_baseFrame, x_frameToken, x_frameStage, x_frameLink, x_operands, y_heard, x_marked, x_pending), (nI cc, nI bc, y_fault, nI mc, nI w, y_peak, nI st, nI (p + 1), nI (bs (p + 1)), y_code, 1, 0, yv, y_todos, y_marks, -10000000000, nI sp, y_parent, y_fields, y_bound, y_kind, y_word, y_size, y_sort, y_number, y_stands, y_keeps, y_cells, y_globals, y_within, y_foundIn, y_self, y_args, y_temps, y_param, y_live, y_work, y_under, y_at, y_in, upd y_phase p (nI 1), y_base, y_goal, y_operands, y_marked, y_todo, y_heard), tm + 1, by omega, fun PX k => xt_hand (by omega) (fun Q q => goX Q (nm_r k16 (br_t rfl ?_))) k, fun PY m k => YL_mono (yt_deliver (fun Q q => goY Q (nm_r k16 (br_t rfl ?_))) k) (by omega), Or.inr (set_N A F' (by decide) (by rw [ct_bf (fun z => z tl)]; rfl) (by rw [c1, bse]; rfl) (by rw [pt1]; exact enp.symm) (Or.inl ⟨by rw [pt1, nd2]; omega, rfl, rfl⟩) ⟨n1, ?_⟩)⟩
  · unfold wpX_afterThen
    dsimp only
    exact nm_r (nI_pred _) q
  · rw [h0]
    exact ⟨vp, vp, nm_r (show upd y_phase p (nI 0 + 1) = upd y_phase p (nI 1) from rfl) (br_f (by decide) q)⟩
  · unfold rn_mu at n2 n3' n4 ⊢
    omega
end
