/-! another activation in the heap -/
section
variable {x_classCount x_bodyCount x_draftCount x_wrongPlace x_madeCount x_frameCount x_current x_next x_mode x_outcome x_stepCount x_atWork x_mostAtWork x_saidCount x_pendingCount : Int32} {x_inHand : Int64} {x_classParent x_classFields x_bound x_tokenKind x_tokenValue x_thingClass x_thingToken x_thingMaker x_homeOf x_within x_foundIn x_baseFrame x_frameToken x_frameStage x_frameLink x_marked x_pending : Nat → Int32} {x_globals x_thingShown x_thingFields x_variables x_operands x_saidValues : Nat → Int64}
variable {y_classes y_bodies y_fault y_made y_working y_peak y_steps y_depth y_waiting y_code y_running y_has y_todos y_marks y_spoken : Int32} {y_got y_shown : Int64} {y_parent y_fields y_bound y_kind y_word y_size y_sort y_number y_stands y_keeps y_within y_foundIn y_live y_work y_under y_at y_in y_phase y_base y_goal y_marked y_todo : Nat → Int32} {y_cells y_globals y_self y_args y_temps y_param y_operands y_heard : Nat → Int64}
variable {cc bc dc mc st sp d w np md B M : Nat} {T ST SA : Nat → Prop} {lv τ σ lev ho fa ph bs ow gg wk un rt : Nat → Nat}
theorem hp_act {a b lv0 ho0 : Nat} {xva' : Nat → Int64} {xho' xwi' xfi' wi' fi' : Nat → Int32} {se' ar' te' pa' : Nat → Int64} (H : hp_R cc mc T y_kind lv ST SA τ σ lev ho x_thingShown x_thingClass x_thingFields x_thingToken x_thingMaker x_variables x_homeOf x_within x_foundIn y_sort y_number y_stands y_keeps y_cells y_within y_foundIn y_self y_args y_temps y_param) (ha : ¬ SA a) (hb : ∀ c, SA c → σ c ≠ b)
    (ex : ∀ c, c ≠ b → xho' c = x_homeOf c ∧ xwi' c = x_within c ∧ xfi' c = x_foundIn c ∧ ∀ j, j < 7 → xva' (c * 7 + j) = x_variables (c * 7 + j))
    (ey : ∀ c, c ≠ a → wi' c = y_within c ∧ fi' c = y_foundIn c ∧ se' c = y_self c ∧ pa' c = y_param c ∧ (∀ j, j < 2 → ar' (2 * c + j) = y_args (2 * c + j)) ∧ (∀ j, j < 3 → te' (3 * c + j) = y_temps (3 * c + j)))
    (hn : hp_A cc ST (fun c => SA c ∨ c = a) (nu σ a b) (nu lev a lv0) (nu ho a ho0) y_sort y_number xva' xho' xwi' xfi' wi' fi' se' ar' te' pa' a) :
    hp_R cc mc T y_kind lv ST (fun c => SA c ∨ c = a) τ (nu σ a b) (nu lev a lv0) (nu ho a ho0) x_thingShown x_thingClass x_thingFields x_thingToken x_thingMaker xva' xho' xwi' xfi' y_sort y_number y_stands y_keeps y_cells wi' fi' se' ar' te' pa' := by
  have ne : ∀ c, SA c → c ≠ a := fun c h e => ha (e ▸ h)
  refine ⟨fun k sk => ?_, fun c h => ?_, fun c e h1 h2 eq => ?_, H.2.2.2⟩
  · obtain ⟨k1, k2, k3, k4, k5, k6, k7, k8⟩ := H.1 k sk
    refine ⟨k1, k2, k3, k4, k5, k6, fun s3 => ?_, k8⟩
    obtain ⟨p, c, p1, p2, p3, p4, p5, p6, p7, p8, p9⟩ := k7 s3
    exact ⟨p, c, p1, p2, p3, p4, p5, Or.inl p6, by rw [nu_n (ne c p6)]; exact p7, by rw [nu_n (ne c p6)]; exact p8, p9⟩
  · by_cases z : c = a
    · subst z; exact hn
    · have h := h.resolve_right z
      obtain ⟨k1, k2, k3, k4, k5, k6, k7⟩ := H.2.1 c h
      obtain ⟨y1, y2, y3, y4, y5, y6⟩ := ey c z
      obtain ⟨x1, x2, x3, x4⟩ := ex (σ c) (hb c h)
      have yh := ey (ho c) (ne _ k4)
      have x0 : xva' (σ c * 7) = x_variables (σ c * 7) := x4 0 (by omega)
      unfold hp_A
      rw [nu_n z, nu_n z, nu_n z, nu_n (ne _ k4), x1, x2, x3, y1, y2, y3, y4, yh.1]
      refine ⟨k1, k2, k3, Or.inl k4, k5, k6, ?_⟩
      rcases k7 with ⟨w1, a2, a3, a4, a5, v0, v1, v2, v3⟩ | ⟨e, w1, se1, b2, b3, b4, b5, b6⟩
      · refine Or.inl ⟨w1, a2, a3, a4, a5, by rw [x0]; exact v0, fun j hj => ?_, fun j hj => ?_, by rw [x4 6 (by omega)]; exact v3⟩
        · have := x4 (1 + j) (by omega)
          rw [← Nat.add_assoc] at this
          rw [this, y5 j hj]; exact v1 j hj
        · have := x4 (3 + j) (by omega)
          rw [← Nat.add_assoc] at this
          rw [this, y6 j hj]; exact v2 j hj
      · refine Or.inr ⟨e, w1, Or.inl se1, by rw [nu_n (ne e se1)]; exact b2, by rw [nu_n (ne e se1)]; exact b3, by rw [nu_n (ne e se1)]; exact b4, by rw [x4 6 (by omega)]; exact b5, fun j hj => by rw [x4 j (by omega)]; exact b6 j hj⟩
  · by_cases z1 : c = a
    · by_cases z2 : e = a
      · rw [z1, z2]
      · rw [z1, nu_s, nu_n z2] at eq
        exact absurd eq.symm (hb e (h2.resolve_right z2))
    · by_cases z2 : e = a
      · rw [z2, nu_s, nu_n z1] at eq
        exact absurd eq (hb c (h1.resolve_right z1))
      · rw [nu_n z1, nu_n z2] at eq
        exact H.2.2.1 c e (h1.resolve_right z1) (h2.resolve_right z2) eq
/-- the stack with another activation on it -/
theorem rn_act {p a b r lv0 ho0 : Nat} {xtk' xsg' xlk' xbf' aph' awo' aun' yli' : Nat → Int32} {xop' se' : Nat → Int64} {ST' : Nat → Prop} (A : rn_A cc bc dc mc T ST SA lv τ σ lev ho x_tokenKind x_tokenValue y_kind y_word y_size y_parent y_fields y_bound x_globals y_globals x_thingShown x_thingClass x_thingFields x_thingToken x_thingMaker x_variables x_homeOf x_within x_foundIn y_sort y_number y_stands y_keeps y_cells y_within y_foundIn y_self y_args y_temps y_param) (F : rn_F T ST SA lv σ lev ho y_kind y_word fa ph bs ow gg wk un rt (p + 1) w y_sort y_number x_frameToken x_frameStage x_frameLink x_operands x_baseFrame y_operands y_self y_at y_in y_phase y_base y_goal y_work y_under y_live) (hp : ph p ≠ 100) (hk : y_kind (fa p) = 10 ∨ y_kind (fa p) = 11 ∨ y_kind (fa p) = 14 ∨ y_kind (fa p) = 15) (hw : w < 12) (tr : T r)
    {SA1 : Nat → Prop} (hS1 : ∀ i, i < w → SA1 (wk i)) (hSA : ∀ c, SA1 c → SA c) (hho : ∀ i, i < w → SA1 (ho (wk i))) (ha : ¬ SA1 a) (hb : ∀ c, SA1 c → σ c ≠ b) (a160 : a < 160) (b128 : b < 128) (hlv : lv0 = lv r)
    (conv : ∀ x y, (∃ j, j < bs p ∧ y = y_operands j) ∨ (∃ i, i < w ∧ y = y_self (ho (wk i))) → hp_v ST (hp_s y_sort y_number) x y → hp_v ST' (hp_s y_sort y_number) x y) (hse : ∀ c, c ≠ a → se' c = y_self c)
    (xrow : xtk' (fr_x y_kind fa ph p) = -1 ∧ xsg' (fr_x y_kind fa ph p) = nI (ex_e (tk_nd y_kind y_word) (fa p)) ∧ xlk' (fr_x y_kind fa ph p) = nI (σ (wk (w - 1))) ∧ ∀ i, i < 3 → xop' (fr_x y_kind fa ph p * 3 + i) = 10000000000)
    (xoth : ∀ R, R < fr_x y_kind fa ph p → xtk' R = x_frameToken R ∧ xsg' R = x_frameStage R ∧ xlk' R = x_frameLink R ∧ ∀ i, i < 3 → xop' (R * 3 + i) = x_operands (R * 3 + i)) (hbf : xbf' = upd x_baseFrame b (nI (fr_x y_kind fa ph p)))
    (yph : aph' = upd y_phase p 100) (ywo : awo' = upd y_work w (nI a)) (yun : aun' = upd y_under w (nI (p + 1))) (yl : yli' = upd y_live a 1) :
    rn_F T ST' (fun c => SA1 c ∨ c = a) lv (nu σ a b) (nu lev a lv0) (nu ho a ho0) y_kind y_word fa (nu ph p 100) (nu bs (p + 1) (bs p)) ow gg (nu wk w a) (nu un w (p + 1)) (nu rt w r) (p + 1) (w + 1) y_sort y_number xtk' xsg' xlk' xop' xbf' y_operands se' y_at y_in aph' y_base y_goal awo' aun' yli' := by
  subst hbf yph ywo yun yl
  obtain ⟨f1, eo, f5, _⟩ := rn_top A F hp
  obtain ⟨S, Y, X, W⟩ := F
  have ne : ∀ i, i < w → wk i ≠ a := fun i hi e => ha (e ▸ hS1 i hi)
  have neh : ∀ i, i < w → ho (wk i) ≠ a := fun i hi e => ha (e ▸ hho i hi)
  have xe : ∀ q, q ≤ p → fr_x y_kind fa (nu ph p 100) q = fr_x y_kind fa ph q := fun q hq => fr_xc fun s hs => ⟨rfl, nu_n (by omega)⟩
  have xpos := (fr_xle (K := y_kind) (fa := fa) (ph := ph) p).2
  have unp : ∀ i, i < w → un i ≤ p := fun i hi => by
    cases i with
    | zero => rw [S.2.2.1]; omega
    | succ i =>
      obtain ⟨q, q1, q2, q3, _⟩ := S.2.2.2.2.2.2.2 i hi
      have : q ≠ p := fun z => by subst z; exact hp q3
      omega
  have nt100 : ¬ fr_tail (y_kind (fa p)) 100 := fun z => by rcases z with ⟨_, z⟩ | ⟨_, z⟩ <;> omega
  have w1 := S.1
  refine ⟨fr_beg S hp hk hw tr, ⟨fun q hq => ?_, fun i hi => ?_⟩, ⟨⟨?_, fun i hi => ?_⟩, fun q hq nt => ?_⟩, ⟨fun i hi => ?_, fun i j hi hj e => ?_, fun c hc z => ?_, fun c hc => ?_⟩⟩
  · obtain ⟨y1, y2, y3, y4, y5⟩ := Y.1 q hq
    have oq := (S.2.2.2.2.1 q hq).2.1
    by_cases e : q = p
    · subst e
      rw [pk_us, nu_s, nu_n (show q ≠ q + 1 by omega), nu_n (show ow q ≠ w by omega)]
      exact ⟨y1, y2, rfl, y4, fun _ z => by omega⟩
    · have gq := (S.2.2.2.2.1 q hq).2.2.2.2.2.2
      rw [pk_un e, nu_n e, nu_n (show q ≠ p + 1 by omega), nu_n (show ow q ≠ w by omega)]
      exact ⟨y1, y2, y3, y4, fun z1 z2 => by rw [nu_n (show gg q ≠ w by have := gq z1 z2; omega)]; exact y5 z1 z2⟩
  · by_cases e : i = w
    · subst e; rw [pk_us, pk_us, nu_s, nu_s]; exact ⟨rfl, rfl⟩
    · rw [pk_un e, pk_un e, nu_n e, nu_n e]; exact Y.2 i (by omega)
  · rw [(xoth 0 (by omega)).1]; exact X.1.1
  · have := (xoth 0 (by omega)).2.2.2 i hi
    rw [Nat.zero_mul, Nat.zero_add] at this
    rw [this]; exact X.1.2 i hi
  · have oq := (S.2.2.2.2.1 q hq).2.1
    by_cases e : q = p
    · subst e
      rw [xe q (Nat.le_refl _)]
      unfold fr_XF
      rw [nu_s, nu_n (show ow q ≠ w by omega), nu_n (ne _ oq), eo]
      exact ⟨fun _ => xrow, fun z => absurd rfl z⟩
    · rw [nu_n e] at nt
      rw [xe q (by omega)]
      have lx := fr_xlt (K := y_kind) (fa := fa) (ph := ph) (d := p) (show q < p by omega) nt
      obtain ⟨a1, a2, a3, a4⟩ := xoth _ lx
      have gq := (S.2.2.2.2.1 q hq).2.2.2.2.2.2
      have hbs := fr_bsm S (q := q) (p := p) (by omega) (by omega)
      refine fr_XFc (X.2 q hq nt) ⟨rfl, rfl⟩ ⟨rfl, nu_n e, nu_n (by omega)⟩ ⟨by rw [nu_n (show ow q ≠ w by omega), nu_n (ne _ oq)], fun z1 z2 => by rw [nu_n (show gg q ≠ w by have := gq z1 z2; omega), nu_n (ne _ (by have := gq z1 z2; omega))]⟩ ⟨a1, a2, a3, a4⟩ (fun x j j1 j2 h => conv _ _ (Or.inl ⟨j, by omega, rfl⟩) h) (fun x h => ?_)
      rw [nu_n (show ow q ≠ w by omega), nu_n (ne _ oq), hse _ (neh _ oq)]
      exact conv _ _ (Or.inr ⟨ow q, oq, rfl⟩) h
  · by_cases e : i = w
    · subst e
      rw [nu_s, nu_s, nu_s, nu_s, nu_s, pk_us]
      refine ⟨Or.inr rfl, hlv, ?_⟩
      have : fr_x y_kind fa (nu ph p 100) (p + 1) = fr_x y_kind fa ph p + 1 := by
        show fr_x y_kind fa (nu ph p 100) p + ct_b _ = _
        rw [xe p (Nat.le_refl _), nu_s, ct_bt nt100]
      rw [this]; rfl
    · have hi' : i < w := by omega
      obtain ⟨s1, s2, s3⟩ := W.1 i hi'
      rw [nu_n e, nu_n e, nu_n e, nu_n (ne i hi'), nu_n (ne i hi'), pk_un (hb _ (hS1 i hi')), xe _ (unp i hi')]
      exact ⟨Or.inl (hS1 i hi'), s2, s3⟩
  · by_cases e1 : i = w
    · by_cases e2 : j = w
      · omega
      · rw [e1, nu_s, nu_n e2] at e
        exact absurd e.symm (ne j (by omega))
    · by_cases e2 : j = w
      · rw [e2, nu_s, nu_n e1] at e
        exact absurd e (ne i (by omega))
      · rw [nu_n e1, nu_n e2] at e
        exact W.2.1 i j (by omega) (by omega) e
  · by_cases e : c = b
    · subst e; exact ⟨w, by omega, by rw [nu_s, nu_s]⟩
    · rw [pk_un e] at z
      obtain ⟨i, i1, i2⟩ := W.2.2.1 c hc z
      exact ⟨i, by omega, by rw [nu_n (show i ≠ w by omega), nu_n (ne i i1)]; exact i2⟩
  · obtain ⟨l1, l2⟩ := W.2.2.2 c hc
    by_cases e : c = a
    · subst e
      rw [pk_us]
      exact ⟨Or.inr rfl, fun _ => ⟨w, by omega, nu_s⟩, fun _ => rfl⟩
    · rw [pk_un e]
      refine ⟨l1, fun z => ?_, fun ⟨i, i1, i2⟩ => ?_⟩
      · obtain ⟨i, i1, i2⟩ := l2.mp z
        exact ⟨i, by omega, by rw [nu_n (show i ≠ w by omega)]; exact i2⟩
      · by_cases q : i = w
        · subst q; rw [nu_s] at i2; exact absurd i2.symm e
        · rw [nu_n q] at i2; exact l2.mpr ⟨i, by omega, i2⟩
end
