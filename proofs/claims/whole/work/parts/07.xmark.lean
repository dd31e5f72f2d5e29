/-! the component's marking -/
def gx_T (sh : Nat → Int64) (v : Int64) (t : Nat) : Prop := t < 24 ∧ 20000000000 ≤ v ∧ sh t = v
def gx_A (p : Int32) (n : Nat) : Prop := ∃ b, b < 128 ∧ p = nI b ∧ n = 24 + b
def gx_R (sh gl op : Nat → Int64) (fc : Nat) (bf : Nat → Int32) (n : Nat) : Prop :=
  (∃ k, k < 4 ∧ gx_T sh (gl k) n) ∨ (∃ k, k < fc * 3 ∧ gx_T sh (op k) n) ∨ (∃ a, a < 128 ∧ ¬ bf a = -1 ∧ n = 24 + a)
def gx_E (sh fl : Nat → Int64) (mr : Nat → Int32) (va : Nat → Int64) (wi : Nat → Int32) (m n : Nat) : Prop :=
  (m < 24 ∧ ((∃ j, j < 4 ∧ gx_T sh (fl (m * 4 + j)) n) ∨ gx_A (mr m) n)) ∨ (∃ a, m = 24 + a ∧ ((∃ j, j < 7 ∧ gx_T sh (va (a * 7 + j)) n) ∨ gx_A (wi a) n))
def gx_P (p : Int32) : Prop := p = -1 ∨ ∃ b, b < 128 ∧ p = nI b
theorem gx_m1 {b : Nat} (h : b < 2 ^ 31) : ¬ nI b = -1 := fun z => by
  have : (nI b).toInt = (-1 : Int32).toInt := by rw [z]
  rw [nI_toInt h, show (-1 : Int32).toInt = -1 from by decide] at this
  omega
theorem gx_24 (a : Nat) : (24 : Int32) + nI a = nI (24 + a) := nI_add 24 a
theorem ix_r (c a i : Nat) : nI a * nI c + nI i = nI (a * c + i) := by rw [pk_mul, nI_add]
section
variable {x_classCount x_bodyCount x_draftCount x_wrongPlace x_madeCount x_frameCount x_current x_next x_mode x_outcome x_stepCount x_atWork x_mostAtWork x_saidCount x_pendingCount : Int32} {x_inHand : Int64} {x_classParent x_classFields x_bound x_tokenKind x_tokenValue x_thingClass x_thingToken x_thingMaker x_homeOf x_within x_foundIn x_baseFrame x_frameToken x_frameStage x_frameLink x_marked x_pending : Nat → Int32} {x_globals x_thingShown x_thingFields x_variables x_operands x_saidValues : Nat → Int64}
variable {mk td : Nat → Int32} {t : Nat}
theorem xm_thing {post : SX → Prop} {v : Int64} (I : gm_I 152 mk td t) (h : ∀ mk' td' t', gm_G 152 (gx_T x_thingShown v) mk td t mk' td' t' → post (x_classCount, x_bodyCount, x_draftCount, x_wrongPlace, x_madeCount, x_frameCount, x_current, x_next, x_inHand, x_mode, x_outcome, x_stepCount, x_atWork, x_mostAtWork, x_saidCount, nI t', x_classParent, x_classFields, x_bound, x_tokenKind, x_tokenValue, x_globals, x_thingShown, x_thingClass, x_thingFields, x_thingToken, x_thingMaker, x_variables, x_homeOf, x_within, x_foundIn, x_baseFrame, x_frameToken, x_frameStage, x_frameLink, x_operands, x_saidValues, mk', td')) : wpX_markThing post (x_classCount, x_bodyCount, x_draftCount, x_wrongPlace, x_madeCount, x_frameCount, x_current, x_next, x_inHand, x_mode, x_outcome, x_stepCount, x_atWork, x_mostAtWork, x_saidCount, nI t, x_classParent, x_classFields, x_bound, x_tokenKind, x_tokenValue, x_globals, x_thingShown, x_thingClass, x_thingFields, x_thingToken, x_thingMaker, x_variables, x_homeOf, x_within, x_foundIn, x_baseFrame, x_frameToken, x_frameStage, x_frameLink, x_operands, x_saidValues, mk, td) v := by
  unfold wpX_markThing
  dsimp only
  by_cases hv : 20000000000 ≤ v
  · refine br_t hv ⟨25, ?_⟩
    refine gm_loop (NN := 152) (fun f i mk td t => wX_markThing_11 post v x_classCount x_bodyCount x_draftCount x_wrongPlace x_madeCount x_frameCount x_current x_next x_inHand x_mode x_outcome x_stepCount x_atWork x_mostAtWork x_saidCount f (nI i) (nI t) x_classParent x_classFields x_bound x_tokenKind x_tokenValue x_globals x_thingShown x_thingClass x_thingFields x_thingToken x_thingMaker x_variables x_homeOf x_within x_foundIn x_baseFrame x_frameToken x_frameStage x_frameLink x_operands x_saidValues mk td) (fun i n => n = i ∧ x_thingShown i = v) 24 0 I (by omega) ?_ ?_ 25 (by omega)
    · intro f i mk td t _ hi I k
      have ic : (nI i).toNatClampNeg = i := nI_clamp (by omega)
      have hi2 : vp_in (nI i) 152 := vp_in_nI (by omega) (by decide)
      refine br_f (nI_ge (b := 24) hi (by decide)) ⟨vp_in_nI hi (by decide), ?_⟩
      rw [ic]
      by_cases s : x_thingShown i = v
      · refine br_t s ⟨hi2, ?_⟩
        rcases I.1 i (by omega) with z | z
        · have z1 : ¬ mk i = 1 := by rw [z]; decide
          obtain ⟨g1, g2⟩ := gm_push I (by omega) z1
          have et : (nI t).toNatClampNeg = t := nI_clamp (by omega)
          refine br_t z ⟨hi2, ?_⟩
          rw [show vp_nar .boolean 1 = 1 by rfl, et]
          refine nm_e ⟨vp_in_nI g1 (by decide), nm_e (nm_r (nI_1 t) (nm_r (nI_1 i) (k _ _ _ (gm_cong g2 fun n _ => ⟨fun e => ⟨e, s⟩, fun e => e.1⟩))))⟩
        · have z1 : ¬ mk i = 0 := by rw [z]; decide
          exact br_f z1 (nm_r (nI_1 i) (k _ _ _ (gm_refl I fun n _ e => by rw [e.1]; exact z)))
      · exact br_f s (nm_r (nI_1 i) (k _ _ _ (gm_refl I fun n _ e => absurd e.2 s)))
    · intro f mk' td' t' g
      refine br_t (by decide) (h _ _ _ (gm_cong g fun n _ => ⟨fun ⟨k, _, k2, e, k3⟩ => ?_, fun ⟨a, _, c⟩ => ⟨n, by omega, a, rfl, c⟩⟩))
      subst e; exact ⟨k2, hv, k3⟩
  · exact br_f hv (h _ _ _ (gm_refl I fun n _ z => absurd z.2.1 hv))
theorem xm_act {post : SX → Prop} {p : Int32} (hp : gx_P p) (I : gm_I 152 mk td t) (h : ∀ mk' td' t', gm_G 152 (gx_A p) mk td t mk' td' t' → post (x_classCount, x_bodyCount, x_draftCount, x_wrongPlace, x_madeCount, x_frameCount, x_current, x_next, x_inHand, x_mode, x_outcome, x_stepCount, x_atWork, x_mostAtWork, x_saidCount, nI t', x_classParent, x_classFields, x_bound, x_tokenKind, x_tokenValue, x_globals, x_thingShown, x_thingClass, x_thingFields, x_thingToken, x_thingMaker, x_variables, x_homeOf, x_within, x_foundIn, x_baseFrame, x_frameToken, x_frameStage, x_frameLink, x_operands, x_saidValues, mk', td')) : wpX_markActivation post (x_classCount, x_bodyCount, x_draftCount, x_wrongPlace, x_madeCount, x_frameCount, x_current, x_next, x_inHand, x_mode, x_outcome, x_stepCount, x_atWork, x_mostAtWork, x_saidCount, nI t, x_classParent, x_classFields, x_bound, x_tokenKind, x_tokenValue, x_globals, x_thingShown, x_thingClass, x_thingFields, x_thingToken, x_thingMaker, x_variables, x_homeOf, x_within, x_foundIn, x_baseFrame, x_frameToken, x_frameStage, x_frameLink, x_operands, x_saidValues, mk, td) p := by
  unfold wpX_markActivation
  dsimp only
  rcases hp with e | ⟨b, hb, e⟩
  · refine br_t e (h _ _ _ (gm_refl I fun n _ ⟨b, b1, b2, _⟩ => ?_))
    exact absurd (b2.symm.trans e) (gx_m1 (by omega))
  · subst e
    have hc : (nI (24 + b)).toNatClampNeg = 24 + b := nI_clamp (by omega)
    have hi2 : vp_in (nI (24 + b)) 152 := vp_in_nI (by omega) (by decide)
    have eN : ∀ n, n < 152 → (n = 24 + b ↔ gx_A (nI b) n) := fun n _ => ⟨fun e => ⟨b, hb, rfl, e⟩, fun ⟨c, c1, c2, c3⟩ => by
      have : b = c := (nI_eq (by omega) (by omega)).mp c2
      omega⟩
    refine br_f (gx_m1 (by omega)) ?_
    rw [gx_24, hc]
    refine ⟨hi2, ?_⟩
    rcases I.1 (24 + b) (by omega) with z | z
    · have z1 : ¬ mk (24 + b) = 1 := by rw [z]; decide
      obtain ⟨g1, g2⟩ := gm_push I (by omega) z1
      have et : (nI t).toNatClampNeg = t := nI_clamp (by omega)
      refine br_t z ⟨hi2, ?_⟩
      rw [show vp_nar .boolean 1 = 1 by rfl, et]
      exact nm_e ⟨vp_in_nI g1 (by decide), nm_e (nm_r (nI_1 t) (h _ _ _ (gm_cong g2 eN)))⟩
    · have z1 : ¬ mk (24 + b) = 0 := by rw [z]; decide
      exact br_f z1 (h _ _ _ (gm_refl I fun n hn e => by rw [(eN n hn).mpr e]; exact z))
theorem xm_235 {post : Int32 → SX → Prop} (hb : ∀ n, n < 152 → x_marked n = 0 ∨ x_marked n = 1) (h : post (nI (ct_n (fun k => x_marked k = 1) 24)) (x_classCount, x_bodyCount, x_draftCount, x_wrongPlace, x_madeCount, x_frameCount, x_current, x_next, x_inHand, x_mode, x_outcome, x_stepCount, x_atWork, x_mostAtWork, x_saidCount, x_pendingCount, x_classParent, x_classFields, x_bound, x_tokenKind, x_tokenValue, x_globals, x_thingShown, x_thingClass, x_thingFields, x_thingToken, x_thingMaker, x_variables, x_homeOf, x_within, x_foundIn, x_baseFrame, x_frameToken, x_frameStage, x_frameLink, x_operands, x_saidValues, x_marked, x_pending)) : ∀ d i f, i + d = 24 → d < f → wX_markReachable_235 post x_classCount x_bodyCount x_draftCount x_wrongPlace x_madeCount x_frameCount x_current x_next x_inHand x_mode x_outcome x_stepCount x_atWork x_mostAtWork x_saidCount x_pendingCount x_classParent x_classFields x_bound x_tokenKind x_tokenValue x_globals x_thingShown x_thingClass x_thingFields x_thingToken x_thingMaker x_variables x_homeOf x_within x_foundIn x_baseFrame x_frameToken x_frameStage x_frameLink x_operands x_saidValues x_marked x_pending f (nI (ct_n (fun k => x_marked k = 1) i)) (nI i)
  | 0, i, 0, _, hf => by omega
  | 0, i, f + 1, e, hf => by
    have e : i = 24 := by omega
    subst e
    exact br_t (by decide) h
  | d + 1, i, 0, _, hf => by omega
  | d + 1, i, f + 1, e, hf => by
    have ic : (nI i).toNatClampNeg = i := nI_clamp (by omega)
    refine br_f (nI_ge (b := 24) (by omega) (by decide)) ⟨vp_in_nI (by omega) (by decide), ?_⟩
    rw [ic]
    have := xm_235 hb h d (i + 1) f (by omega) (by omega)
    rcases hb i (by omega) with z | z
    · have c : ct_n (fun k => x_marked k = 1) (i + 1) = ct_n (fun k => x_marked k = 1) i := by
        show _ + ct_b _ = _
        rw [ct_bf (show ¬ x_marked i = 1 by rw [z]; decide)]; rfl
      rw [c] at this
      exact br_t z (nm_r (nI_1 i) this)
    · have c : ct_n (fun k => x_marked k = 1) (i + 1) = ct_n (fun k => x_marked k = 1) i + 1 := by
        show _ + ct_b _ = _
        rw [ct_bt z]
      rw [c] at this
      exact br_f (by rw [z]; decide) (nm_r (nI_1 _) (nm_r (nI_1 i) this))
theorem xm_110 {post : Int32 → SX → Prop} {R : Nat → Prop} (hm : ∀ m, m < 24 → gx_P (x_thingMaker m)) (hw : ∀ a, a < 128 → gx_P (x_within a))
    (h : ∀ mk td t, (∀ n, n < 152 → mk n = 0 ∨ mk n = 1) → (∀ n, n < 152 → (mk n = 1 ↔ cl_r R (gx_E x_thingShown x_thingFields x_thingMaker x_variables x_within) n)) → post (nI (ct_n (fun k => mk k = 1) 24)) (x_classCount, x_bodyCount, x_draftCount, x_wrongPlace, x_madeCount, x_frameCount, x_current, x_next, x_inHand, x_mode, x_outcome, x_stepCount, x_atWork, x_mostAtWork, x_saidCount, nI t, x_classParent, x_classFields, x_bound, x_tokenKind, x_tokenValue, x_globals, x_thingShown, x_thingClass, x_thingFields, x_thingToken, x_thingMaker, x_variables, x_homeOf, x_within, x_foundIn, x_baseFrame, x_frameToken, x_frameStage, x_frameLink, x_operands, x_saidValues, mk, td)) :
    ∀ (f i : Nat) (mk td : Nat → Int32) (t : Nat), 152 - i < f → i ≤ t → t = ct_n (fun k => mk k = 1) 152 → gm_I 152 mk td t → gm_F 152 (gx_E x_thingShown x_thingFields x_thingMaker x_variables x_within) mk td i t → (∀ n, R n → n < 152 ∧ mk n = 1) → (∀ n, n < 152 → mk n = 1 → cl_r R (gx_E x_thingShown x_thingFields x_thingMaker x_variables x_within) n) → wX_markReachable_110 post f (nI i) x_classCount x_bodyCount x_draftCount x_wrongPlace x_madeCount x_frameCount x_current x_next x_inHand x_mode x_outcome x_stepCount x_atWork x_mostAtWork x_saidCount (nI t) x_classParent x_classFields x_bound x_tokenKind x_tokenValue x_globals x_thingShown x_thingClass x_thingFields x_thingToken x_thingMaker x_variables x_homeOf x_within x_foundIn x_baseFrame x_frameToken x_frameStage x_frameLink x_operands x_saidValues mk td := by
  intro f
  induction f with
  | zero => intro i mk td t hf; omega
  | succ f ih =>
    intro i mk td t hf hit ht I F r1 r2
    have tl : t ≤ 152 := Nat.le_trans I.2.2 (ct_le _ _)
    have fin : t ≤ i → ∃ n235 : Nat, wX_markReachable_235 post x_classCount x_bodyCount x_draftCount x_wrongPlace x_madeCount x_frameCount x_current x_next x_inHand x_mode x_outcome x_stepCount x_atWork x_mostAtWork x_saidCount (nI t) x_classParent x_classFields x_bound x_tokenKind x_tokenValue x_globals x_thingShown x_thingClass x_thingFields x_thingToken x_thingMaker x_variables x_homeOf x_within x_foundIn x_baseFrame x_frameToken x_frameStage x_frameLink x_operands x_saidValues mk td n235 0 0 := fun hti => by
      refine ⟨25, ?_⟩
      refine xm_235 I.1 (h mk td t I.1 ?_) 24 0 25 (by omega) (by omega)
      refine gm_done r1 (fun m k hm e => ?_) r2 F hti
      rcases e with ⟨_, ⟨j, _, z⟩ | ⟨b, b1, _, b3⟩⟩ | ⟨a, _, ⟨j, _, z⟩ | ⟨b, b1, _, b3⟩⟩
      · have := z.1; omega
      · omega
      · have := z.1; omega
      · omega
    refine pk_le 152 i (fun q => fin (by omega)) (fun q => pk_le t i (fun q2 => fin q2) (fun q2 => ?_))
    obtain ⟨n, hn, en, mn⟩ := I.2.1 i q2
    have ic : (nI i).toNatClampNeg = i := nI_clamp (by omega)
    have nc : (nI n).toNatClampNeg = n := nI_clamp (by omega)
    have go : ∀ mk' td' t', gm_G 152 (gx_E x_thingShown x_thingFields x_thingMaker x_variables x_within n) mk td t mk' td' t' → wX_markReachable_110 post f (nI (i + 1)) x_classCount x_bodyCount x_draftCount x_wrongPlace x_madeCount x_frameCount x_current x_next x_inHand x_mode x_outcome x_stepCount x_atWork x_mostAtWork x_saidCount (nI t') x_classParent x_classFields x_bound x_tokenKind x_tokenValue x_globals x_thingShown x_thingClass x_thingFields x_thingToken x_thingMaker x_variables x_homeOf x_within x_foundIn x_baseFrame x_frameToken x_frameStage x_frameLink x_operands x_saidValues mk' td' := fun mk' td' t' g => by
      have a := g.2.2.1
      have b := g.2.2.2.2.2
      refine ih (i + 1) mk' td' t' (by omega) (by omega) (by omega) g.1 (gm_popX (by decide) hn q2 en F g) (fun k hk => ⟨(r1 k hk).1, (g.2.1 k (r1 k hk).1).mpr (Or.inl (r1 k hk).2)⟩) (fun k hk z => ?_)
      rcases (g.2.1 k hk).mp z with y | y
      · exact r2 k hk y
      · exact cl_step (r2 n hn mn) y
    refine ⟨vp_in_nI (by omega) (by decide), nm_r (show td (nI i).toNatClampNeg = nI n by rw [ic]; exact en) ?_⟩
    refine pk_le 24 n (fun q3 => ?_) (fun q3 => ?_)
    · have e24 : nI n - 24 = nI (n - 24) := pk_sub (b := 24) q3
      have ac : (nI (n - 24)).toNatClampNeg = n - 24 := nI_clamp (by omega)
      refine nm_r e24 ⟨8, ?_⟩
      refine gm_loop (NN := 152) (fun f' j mk td t => wX_markReachable_186 post (wX_markReachable_110 post f) (nI i) (nI (n - 24)) f' (nI j) x_classCount x_bodyCount x_draftCount x_wrongPlace x_madeCount x_frameCount x_current x_next x_inHand x_mode x_outcome x_stepCount x_atWork x_mostAtWork x_saidCount (nI t) x_classParent x_classFields x_bound x_tokenKind x_tokenValue x_globals x_thingShown x_thingClass x_thingFields x_thingToken x_thingMaker x_variables x_homeOf x_within x_foundIn x_baseFrame x_frameToken x_frameStage x_frameLink x_operands x_saidValues mk td) (fun j => gx_T x_thingShown (x_variables ((n - 24) * 7 + j))) 7 0 I (by omega) ?_ ?_ 8 (by omega)
      · intro f' j mk td t _ hj I k
        have e : nI (n - 24) * (7 : Int32) + nI j = nI ((n - 24) * 7 + j) := ix_r 7 (n - 24) j
        refine br_f (nI_ge (b := 7) hj (by decide)) ⟨by rw [e]; exact vp_in_nI (by omega) (by decide), ?_⟩
        rw [e, nI_clamp (show (n - 24) * 7 + j < 2 ^ 31 by omega)]
        exact xm_thing I fun mk' td' t' g => nm_r (nI_1 j) (k mk' td' t' g)
      · intro f' mk' td' t' g
        refine br_t (by decide) ⟨vp_in_nI (by omega) (by decide), ?_⟩
        rw [ac]
        refine xm_act (hw _ (by omega)) g.1 fun mk2 td2 t2 g2 => nm_r (nI_1 i) (go mk2 td2 t2 (gm_cong (gm_trans g g2) fun k _ => ?_))
        constructor
        · rintro (⟨j, _, j2, z⟩ | z)
          · exact Or.inr ⟨n - 24, by omega, Or.inl ⟨j, j2, z⟩⟩
          · exact Or.inr ⟨n - 24, by omega, Or.inr z⟩
        · rintro (⟨z, _⟩ | ⟨a, e, ⟨j, j2, z⟩ | z⟩)
          · omega
          · obtain rfl : a = n - 24 := by omega
            exact Or.inl ⟨j, by omega, j2, z⟩
          · obtain rfl : a = n - 24 := by omega
            exact Or.inr z
    · refine ⟨5, ?_⟩
      refine gm_loop (NN := 152) (fun f' j mk td t => wX_markReachable_140 post (wX_markReachable_110 post f) (nI i) (nI n) f' (nI j) x_classCount x_bodyCount x_draftCount x_wrongPlace x_madeCount x_frameCount x_current x_next x_inHand x_mode x_outcome x_stepCount x_atWork x_mostAtWork x_saidCount (nI t) x_classParent x_classFields x_bound x_tokenKind x_tokenValue x_globals x_thingShown x_thingClass x_thingFields x_thingToken x_thingMaker x_variables x_homeOf x_within x_foundIn x_baseFrame x_frameToken x_frameStage x_frameLink x_operands x_saidValues mk td) (fun j => gx_T x_thingShown (x_thingFields (n * 4 + j))) 4 0 I (by omega) ?_ ?_ 5 (by omega)
      · intro f' j mk td t _ hj I k
        have e : nI n * (4 : Int32) + nI j = nI (n * 4 + j) := ix_r 4 n j
        refine br_f (nI_ge (b := 4) hj (by decide)) ⟨by rw [e]; exact vp_in_nI (by omega) (by decide), ?_⟩
        rw [e, nI_clamp (show n * 4 + j < 2 ^ 31 by omega)]
        exact xm_thing I fun mk' td' t' g => nm_r (nI_1 j) (k mk' td' t' g)
      · intro f' mk' td' t' g
        refine br_t (by decide) ⟨vp_in_nI q3 (by decide), ?_⟩
        rw [nc]
        refine xm_act (hm _ q3) g.1 fun mk2 td2 t2 g2 => nm_r (nI_1 i) (go mk2 td2 t2 (gm_cong (gm_trans g g2) fun k _ => ?_))
        constructor
        · rintro (⟨j, _, j2, z⟩ | z)
          · exact Or.inl ⟨q3, Or.inl ⟨j, j2, z⟩⟩
          · exact Or.inl ⟨q3, Or.inr z⟩
        · rintro (⟨_, ⟨j, j2, z⟩ | z⟩ | ⟨a, e, _⟩)
          · exact Or.inl ⟨j, by omega, j2, z⟩
          · exact Or.inr z
          · omega
theorem xm_markReachable {post : Int32 → SX → Prop} {fc : Nat} (hfc : x_frameCount = nI fc) (hfl : fc * 3 ≤ 1155) (hm : ∀ m, m < 24 → gx_P (x_thingMaker m)) (hw : ∀ a, a < 128 → gx_P (x_within a))
    (h : ∀ mk td t, (∀ n, n < 152 → mk n = 0 ∨ mk n = 1) → (∀ n, n < 152 → (mk n = 1 ↔ cl_r (gx_R x_thingShown x_globals x_operands fc x_baseFrame) (gx_E x_thingShown x_thingFields x_thingMaker x_variables x_within) n)) → post (nI (ct_n (fun k => mk k = 1) 24)) (x_classCount, x_bodyCount, x_draftCount, x_wrongPlace, x_madeCount, x_frameCount, x_current, x_next, x_inHand, x_mode, x_outcome, x_stepCount, x_atWork, x_mostAtWork, x_saidCount, nI t, x_classParent, x_classFields, x_bound, x_tokenKind, x_tokenValue, x_globals, x_thingShown, x_thingClass, x_thingFields, x_thingToken, x_thingMaker, x_variables, x_homeOf, x_within, x_foundIn, x_baseFrame, x_frameToken, x_frameStage, x_frameLink, x_operands, x_saidValues, mk, td)) : wpX_markReachable post (x_classCount, x_bodyCount, x_draftCount, x_wrongPlace, x_madeCount, x_frameCount, x_current, x_next, x_inHand, x_mode, x_outcome, x_stepCount, x_atWork, x_mostAtWork, x_saidCount, x_pendingCount, x_classParent, x_classFields, x_bound, x_tokenKind, x_tokenValue, x_globals, x_thingShown, x_thingClass, x_thingFields, x_thingToken, x_thingMaker, x_variables, x_homeOf, x_within, x_foundIn, x_baseFrame, x_frameToken, x_frameStage, x_frameLink, x_operands, x_saidValues, x_marked, x_pending) := by
  subst hfc
  have e3 : nI fc * (3 : Int32) = nI (fc * 3) := pk_mul fc 3
  have l80 : ∀ mk td t, gm_G 152 (fun n => (∃ k, 0 ≤ k ∧ k < 4 ∧ gx_T x_thingShown (x_globals k) n) ∨ ∃ k, 0 ≤ k ∧ k < fc * 3 ∧ gx_T x_thingShown (x_operands k) n) (fun _ => 0) x_pending 0 mk td t → wX_markReachable_80 post 129 (nI 0) x_classCount x_bodyCount x_draftCount x_wrongPlace x_madeCount (nI fc) x_current x_next x_inHand x_mode x_outcome x_stepCount x_atWork x_mostAtWork x_saidCount (nI t) x_classParent x_classFields x_bound x_tokenKind x_tokenValue x_globals x_thingShown x_thingClass x_thingFields x_thingToken x_thingMaker x_variables x_homeOf x_within x_foundIn x_baseFrame x_frameToken x_frameStage x_frameLink x_operands x_saidValues mk td := by
    intro mk td t g
    refine gm_loop (NN := 152) (fun f i mk td t => wX_markReachable_80 post f (nI i) x_classCount x_bodyCount x_draftCount x_wrongPlace x_madeCount (nI fc) x_current x_next x_inHand x_mode x_outcome x_stepCount x_atWork x_mostAtWork x_saidCount (nI t) x_classParent x_classFields x_bound x_tokenKind x_tokenValue x_globals x_thingShown x_thingClass x_thingFields x_thingToken x_thingMaker x_variables x_homeOf x_within x_foundIn x_baseFrame x_frameToken x_frameStage x_frameLink x_operands x_saidValues mk td) (fun k n => ¬ x_baseFrame k = -1 ∧ n = 24 + k) 128 0 g.1 (by omega) ?_ ?_ 129 (by omega)
    · intro f i mk td t _ hi I k
      have ic : (nI i).toNatClampNeg = i := nI_clamp (by omega)
      refine br_f (nI_ge (b := 128) hi (by decide)) ⟨vp_in_nI hi (by decide), ?_⟩
      rw [ic]
      by_cases z : x_baseFrame i = -1
      · exact br_t z (nm_r (nI_1 i) (k _ _ _ (gm_refl I fun n _ e => absurd z e.1)))
      · refine br_f z (xm_act (Or.inr ⟨i, hi, rfl⟩) I fun mk' td' t' g => nm_r (nI_1 i) (k mk' td' t' (gm_cong g fun n _ => ⟨fun ⟨b, b1, b2, b3⟩ => ⟨z, ?_⟩, fun e => ⟨i, hi, rfl, e.2⟩⟩)))
        have : i = b := (nI_eq (by omega) (by omega)).mp b2
        omega
    · intro f mk2 td2 t2 g2
      have eR : ∀ n, n < 152 → ((((∃ k, 0 ≤ k ∧ k < 4 ∧ gx_T x_thingShown (x_globals k) n) ∨ ∃ k, 0 ≤ k ∧ k < fc * 3 ∧ gx_T x_thingShown (x_operands k) n) ∨ ∃ k, 0 ≤ k ∧ k < 128 ∧ ¬ x_baseFrame k = -1 ∧ n = 24 + k) ↔ gx_R x_thingShown x_globals x_operands fc x_baseFrame n) := fun n _ =>
        ⟨fun z => by
          rcases z with (⟨k, _, a, b⟩ | ⟨k, _, a, b⟩) | ⟨k, _, a, b1, b2⟩
          · exact Or.inl ⟨k, a, b⟩
          · exact Or.inr (Or.inl ⟨k, a, b⟩)
          · exact Or.inr (Or.inr ⟨k, a, b1, b2⟩), fun z => by
          rcases z with ⟨k, a, b⟩ | ⟨k, a, b⟩ | ⟨k, a, b1, b2⟩
          · exact Or.inl (Or.inl ⟨k, by omega, a, b⟩)
          · exact Or.inl (Or.inr ⟨k, by omega, a, b⟩)
          · exact Or.inr ⟨k, by omega, a, b1, b2⟩⟩
      have G2 := gm_cong (gm_trans g g2) eR
      have hmr : ∀ n, n < 152 → (mk2 n = 1 ↔ gx_R x_thingShown x_globals x_operands fc x_baseFrame n) := fun n hn => by
        rw [G2.2.1 n hn]
        exact ⟨fun z => z.elim (fun q => absurd (show (0 : Int32) = 1 from q) (by decide)) id, Or.inr⟩
      have c0 : ct_n (fun _ => (0 : Int32) = 1) 152 = 0 := ct_none fun _ _ z => absurd z (by decide)
      have ec := G2.2.2.2.2.2
      rw [c0] at ec
      refine br_t (by decide) ⟨153, ?_⟩
      refine xm_110 hm hw h 153 0 mk2 td2 t2 (by omega) (by omega) (by omega) G2.1 ?_ (fun n hn => ?_) (fun n hn z => cl_root ((hmr n hn).mp z))
      · intro m hm1 hm2
        rcases G2.2.2.2.2.1 m hm1 hm2 with z | ⟨i, i1, i2, i3⟩
        · exact absurd (show (0 : Int32) = 1 from z) (by decide)
        · exact Or.inl ⟨i, i1, i2, i3⟩
      · have hl : n < 152 := by
          rcases hn with ⟨k, _, z⟩ | ⟨k, _, z⟩ | ⟨a, a1, _, a3⟩
          · have := z.1; omega
          · have := z.1; omega
          · omega
        exact ⟨hl, (hmr n hl).mpr hn⟩
  have l52 : ∀ mk td t, gm_G 152 (fun n => ∃ k, 0 ≤ k ∧ k < 4 ∧ gx_T x_thingShown (x_globals k) n) (fun _ => 0) x_pending 0 mk td t → wX_markReachable_52 post (fc * 3 + 1) (nI 0) x_classCount x_bodyCount x_draftCount x_wrongPlace x_madeCount (nI fc) x_current x_next x_inHand x_mode x_outcome x_stepCount x_atWork x_mostAtWork x_saidCount (nI t) x_classParent x_classFields x_bound x_tokenKind x_tokenValue x_globals x_thingShown x_thingClass x_thingFields x_thingToken x_thingMaker x_variables x_homeOf x_within x_foundIn x_baseFrame x_frameToken x_frameStage x_frameLink x_operands x_saidValues mk td := by
    intro mk td t g
    refine gm_loop (NN := 152) (fun f i mk td t => wX_markReachable_52 post f (nI i) x_classCount x_bodyCount x_draftCount x_wrongPlace x_madeCount (nI fc) x_current x_next x_inHand x_mode x_outcome x_stepCount x_atWork x_mostAtWork x_saidCount (nI t) x_classParent x_classFields x_bound x_tokenKind x_tokenValue x_globals x_thingShown x_thingClass x_thingFields x_thingToken x_thingMaker x_variables x_homeOf x_within x_foundIn x_baseFrame x_frameToken x_frameStage x_frameLink x_operands x_saidValues mk td) (fun k n => gx_T x_thingShown (x_operands k) n) (fc * 3) 0 g.1 (by omega) ?_ ?_ (fc * 3 + 1) (by omega)
    · intro f i mk td t _ hi I k
      have ic : (nI i).toNatClampNeg = i := nI_clamp (by omega)
      refine br_f (by rw [e3]; exact nI_ge hi (by omega)) ⟨vp_in_nI (by omega) (by decide), ?_⟩
      rw [ic]
      exact xm_thing I fun mk' td' t' g => nm_r (nI_1 i) (k mk' td' t' g)
    · intro f mk2 td2 t2 g2
      exact br_t (by rw [e3]; exact nI_le (Nat.le_refl _) (by omega)) ⟨129, l80 mk2 td2 t2 (gm_trans g g2)⟩
  have l29 : ∀ mk, (∀ n, n < 152 → mk n = 0) → wX_markReachable_29 post 5 (nI 0) x_classCount x_bodyCount x_draftCount x_wrongPlace x_madeCount (nI fc) x_current x_next x_inHand x_mode x_outcome x_stepCount x_atWork x_mostAtWork x_saidCount (nI 0) x_classParent x_classFields x_bound x_tokenKind x_tokenValue x_globals x_thingShown x_thingClass x_thingFields x_thingToken x_thingMaker x_variables x_homeOf x_within x_foundIn x_baseFrame x_frameToken x_frameStage x_frameLink x_operands x_saidValues mk x_pending := by
    intro mk hmk
    refine gm_loop (NN := 152) (fun f i mk td t => wX_markReachable_29 post f (nI i) x_classCount x_bodyCount x_draftCount x_wrongPlace x_madeCount (nI fc) x_current x_next x_inHand x_mode x_outcome x_stepCount x_atWork x_mostAtWork x_saidCount (nI t) x_classParent x_classFields x_bound x_tokenKind x_tokenValue x_globals x_thingShown x_thingClass x_thingFields x_thingToken x_thingMaker x_variables x_homeOf x_within x_foundIn x_baseFrame x_frameToken x_frameStage x_frameLink x_operands x_saidValues mk td) (fun k n => gx_T x_thingShown (x_globals k) n) 4 0 (gm_start 152 hmk) (by omega) ?_ ?_ 5 (by omega)
    · intro f i mk td t _ hi I k
      have ic : (nI i).toNatClampNeg = i := nI_clamp (by omega)
      refine br_f (nI_ge (b := 4) hi (by decide)) ⟨vp_in_nI (by omega) (by decide), ?_⟩
      rw [ic]
      exact xm_thing I fun mk' td' t' g => nm_r (nI_1 i) (k mk' td' t' g)
    · intro f mk2 td2 t2 g2
      refine br_t (by decide) ⟨fc * 3 + 1, l52 mk2 td2 t2 ⟨g2.1, fun n hn => ?_, g2.2.2.1, g2.2.2.2.1, fun n hn z => ?_, ?_⟩⟩
      · rw [g2.2.1 n hn, hmk n hn]
      · rcases g2.2.2.2.2.1 n hn z with q | q
        · rw [hmk n hn] at q; exact absurd q (by decide)
        · exact Or.inr q
      · have e : ct_n (fun n => mk n = 1) 152 = ct_n (fun _ => (0 : Int32) = 1) 152 := ct_eq fun k hk => by rw [hmk k hk]
        rw [← e]; exact g2.2.2.2.2.2
  refine loop_0 (fun n i mk => wX_markReachable_7 post x_classCount x_bodyCount x_draftCount x_wrongPlace x_madeCount (nI fc) x_current x_next x_inHand x_mode x_outcome x_stepCount x_atWork x_mostAtWork x_saidCount 0 n (nI i) x_classParent x_classFields x_bound x_tokenKind x_tokenValue x_globals x_thingShown x_thingClass x_thingFields x_thingToken x_thingMaker x_variables x_homeOf x_within x_foundIn x_baseFrame x_frameToken x_frameStage x_frameLink x_operands x_saidValues mk x_pending) (fun i mk => ∀ j, j < i → mk j = 0) 152 x_marked (fun j hj => by omega) ?_ ?_
  · intro n mk I
    exact br_t (by decide) ⟨5, l29 mk I⟩
  · intro n i mk hi I k
    have ic : (nI i).toNatClampNeg = i := nI_clamp (by omega)
    refine br_f (nI_ge (b := 152) hi (by decide)) ⟨vp_in_nI hi (by decide), ?_⟩
    rw [ic, show vp_nar .boolean 0 = 0 by rfl]
    refine nm_e (nm_r (nI_1 i) (k _ fun j hj => ?_))
    by_cases q : j = i
    · subst q; exact pk_us
    · rw [pk_un q]; exact I j (by omega)
end
