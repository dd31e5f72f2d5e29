/-! the relation of the two heaps -/
def hp_s (so nu : Nat → Int32) (k : Nat) : Int64 := lN ((if so k = 3 then 30000000000 else 20000000000) + (nu k).toNatClampNeg)
def hp_v (ST : Nat → Prop) (sh : Nat → Int64) (x y : Int64) : Prop := ∃ a : Int32 ⊕ Option Nat, (∀ k, a = .inr (some k) → k < 32 ∧ ST k) ∧ x = vv_x sh a ∧ y = vv_y a
def hp_n (v : Int64) (n : Nat) : Prop := v = lN (20000000000 + n) ∨ v = lN (30000000000 + n)
def hp_U (mc : Nat) (xsh : Nat → Int64) : Prop := mc < 2 ^ 30 ∧ (∀ t, t < 24 → ∀ n, hp_n (xsh t) n → n < 2 ^ 31 → n < mc) ∧ (∀ t t', t < 24 → t' < 24 → ∀ n, n < 2 ^ 31 → hp_n (xsh t) n → hp_n (xsh t') n → t = t')
def hp_T (cc mc : Nat) (T : Nat → Prop) (K : Nat → Int32) (lv : Nat → Nat) (ST SA : Nat → Prop) (τ σ lev : Nat → Nat) (xsh : Nat → Int64) (xcl : Nat → Int32) (xfl : Nat → Int64) (xtk xmr : Nat → Int32) (so nu st kp : Nat → Int32) (ce : Nat → Int64) (k : Nat) : Prop :=
  k < 32 ∧ τ k < 24 ∧ (∃ c, c < cc ∧ so k = nI c) ∧ (∃ n, n < mc ∧ nu k = nI n) ∧ xsh (τ k) = hp_s so nu k ∧ xcl (τ k) = so k ∧
  (so k = 3 → ∃ p a, T p ∧ K p = 12 ∧ st k = nI p ∧ xtk (τ k) = nI p ∧ kp k = nI a ∧ SA a ∧ xmr (τ k) = nI (σ a) ∧ lev a = lv p ∧ ∀ j, j < 4 → xfl (τ k * 4 + j) = 10000000000) ∧
  (¬ so k = 3 → xmr (τ k) = -1 ∧ ∀ j, j < 4 → hp_v ST (hp_s so nu) (xfl (τ k * 4 + j)) (ce (4 * k + j)))
def hp_A (cc : Nat) (ST SA : Nat → Prop) (σ lev ho : Nat → Nat) (so nu : Nat → Int32) (xva : Nat → Int64) (xho xwi xfi : Nat → Int32) (wi fi : Nat → Int32) (se ar te pa : Nat → Int64) (a : Nat) : Prop :=
  a < 160 ∧ σ a < 128 ∧ lev a ≤ 3 ∧ SA (ho a) ∧ xho (σ a) = nI (σ (ho a)) ∧ wi (ho a) = -1 ∧
  ((wi a = -1 ∧ lev a = 0 ∧ ho a = a ∧ xwi (σ a) = -1 ∧ (∃ c, c < cc ∧ fi a = nI c ∧ xfi (σ a) = nI c) ∧ hp_v ST (hp_s so nu) (xva (σ a * 7)) (se a) ∧ (∀ j, j < 2 → hp_v ST (hp_s so nu) (xva (σ a * 7 + 1 + j)) (ar (2 * a + j))) ∧ (∀ j, j < 3 → hp_v ST (hp_s so nu) (xva (σ a * 7 + 3 + j)) (te (3 * a + j))) ∧ xva (σ a * 7 + 6) = 10000000000) ∨
   (∃ b, wi a = nI b ∧ SA b ∧ lev a = lev b + 1 ∧ ho a = ho b ∧ xwi (σ a) = nI (σ b) ∧ hp_v ST (hp_s so nu) (xva (σ a * 7 + 6)) (pa a) ∧ ∀ j, j < 6 → xva (σ a * 7 + j) = 10000000000))
def hp_R (cc mc : Nat) (T : Nat → Prop) (K : Nat → Int32) (lv : Nat → Nat) (ST SA : Nat → Prop) (τ σ lev ho : Nat → Nat) (xsh : Nat → Int64) (xcl : Nat → Int32) (xfl : Nat → Int64) (xtk xmr : Nat → Int32) (xva : Nat → Int64) (xho xwi xfi : Nat → Int32) (so nu st kp : Nat → Int32) (ce : Nat → Int64) (wi fi : Nat → Int32) (se ar te pa : Nat → Int64) : Prop :=
  (∀ k, ST k → hp_T cc mc T K lv ST SA τ σ lev xsh xcl xfl xtk xmr so nu st kp ce k) ∧ (∀ a, SA a → hp_A cc ST SA σ lev ho so nu xva xho xwi xfi wi fi se ar te pa a) ∧
  (∀ a b, SA a → SA b → σ a = σ b → a = b) ∧ (∀ k l, ST k → ST l → τ k = τ l → k = l)
theorem hp_NIL : ¬ (20000000000 : Int64) ≤ 10000000000 := by decide
theorem hp_v_mono {ST ST' : Nat → Prop} {sh : Nat → Int64} {x y : Int64} (h : hp_v ST sh x y) (hm : ∀ k, ST k → ST' k) : hp_v ST' sh x y := by
  obtain ⟨a, h1, h2, h3⟩ := h
  exact ⟨a, fun k e => ⟨(h1 k e).1, hm k (h1 k e).2⟩, h2, h3⟩
theorem hp_v_V {ST : Nat → Prop} {sh : Nat → Int64} {x y : Int64} (h : hp_v ST sh x y) : vv_V y := by
  obtain ⟨a, h1, h2, h3⟩ := h
  exact ⟨a, fun k e => (h1 k e).1, h3⟩
theorem hp_vT {ST : Nat → Prop} {sh : Nat → Int64} {x y : Int64} {k : Nat} (h : hp_v ST sh x y) (ht : vv_T y k) : ST k ∧ x = sh k := by
  obtain ⟨a, h1, h2, h3⟩ := h
  have e : a = .inr (some k) := vv_inj (fun l e => (h1 l e).1) (fun l e => by cases e; exact ht.1) (h3.symm.trans ht.2)
  subst e
  exact ⟨(h1 k rfl).2, h2⟩
theorem hp_int (i : Int32) : ¬ (20000000000 : Int64) ≤ i.toInt64 := by
  rw [Int64.le_iff_toInt_le, Int32.toInt_toInt64, show (20000000000 : Int64).toInt = 20000000000 from by decide]
  have := Int32.toInt_lt i
  omega
theorem hp_vX {ST : Nat → Prop} {sh : Nat → Int64} {x y : Int64} (h : hp_v ST sh x y) (hx : 20000000000 ≤ x) : ∃ k, vv_T y k ∧ ST k ∧ x = sh k := by
  obtain ⟨a, h1, h2, h3⟩ := h
  rcases a with i | _ | k
  · have h2 : x = i.toInt64 := h2
    rw [h2] at hx; exact absurd hx (hp_int i)
  · have h2 : x = 10000000000 := h2
    rw [h2] at hx; exact absurd hx hp_NIL
  · exact ⟨k, ⟨(h1 k rfl).1, h3⟩, (h1 k rfl).2, h2⟩
theorem hp_s_n {so nu : Nat → Int32} {k n : Nat} (hn : nu k = nI n) (hl : n < 2 ^ 31) : hp_n (hp_s so nu k) n ∧ 20000000000 ≤ hp_s so nu k := by
  have e0 : (20000000000 : Int64) = lN 20000000000 := by decide
  unfold hp_s hp_n
  rw [hn, nI_clamp hl, e0]
  split
  · exact ⟨Or.inr rfl, (pk_lLE (by omega) (by omega)).mpr (by omega)⟩
  · exact ⟨Or.inl rfl, (pk_lLE (by omega) (by omega)).mpr (by omega)⟩
theorem hp_nn {v : Int64} {n m : Nat} (h : hp_n v n) (h' : hp_n v m) (hn : n < 2 ^ 31) (hm : m < 2 ^ 31) : n = m := by
  rcases h with rfl | rfl <;> rcases h' with e | e <;> rw [pk_lEQ (by omega) (by omega)] at e <;> omega
/-- the node of the component that stands for a node of the reference -/
def hp_f (τ σ : Nat → Nat) (n : Nat) : Nat := if n < 32 then τ n else 24 + σ (n - 32)
def hp_S (ST SA : Nat → Prop) (n : Nat) : Prop := (n < 32 ∧ ST n) ∨ (∃ a, n = 32 + a ∧ SA a)
theorem hp_f1 {τ σ : Nat → Nat} {n : Nat} (h : n < 32) : hp_f τ σ n = τ n := if_pos h
theorem hp_f2 {τ σ : Nat → Nat} {a : Nat} : hp_f τ σ (32 + a) = 24 + σ a := by
  unfold hp_f
  rw [if_neg (by omega), Nat.add_sub_cancel_left]
section
variable {x_classCount x_bodyCount x_draftCount x_wrongPlace x_madeCount x_frameCount x_current x_next x_mode x_outcome x_stepCount x_atWork x_mostAtWork x_saidCount x_pendingCount : Int32} {x_inHand : Int64} {x_classParent x_classFields x_bound x_tokenKind x_tokenValue x_thingClass x_thingToken x_thingMaker x_homeOf x_within x_foundIn x_baseFrame x_frameToken x_frameStage x_frameLink x_marked x_pending : Nat → Int32} {x_globals x_thingShown x_thingFields x_variables x_operands x_saidValues : Nat → Int64}
variable {y_classes y_bodies y_fault y_made y_working y_peak y_steps y_depth y_waiting y_code y_running y_has y_todos y_marks y_spoken : Int32} {y_got y_shown : Int64} {y_parent y_fields y_bound y_kind y_word y_size y_sort y_number y_stands y_keeps y_within y_foundIn y_live y_work y_under y_at y_in y_phase y_base y_goal y_marked y_todo : Nat → Int32} {y_cells y_globals y_self y_args y_temps y_param y_operands y_heard : Nat → Int64}
variable {cc mc : Nat} {T ST SA : Nat → Prop} {lv τ σ lev ho : Nat → Nat}
theorem hp_shT (U : hp_U mc x_thingShown) (H : hp_R cc mc T y_kind lv ST SA τ σ lev ho x_thingShown x_thingClass x_thingFields x_thingToken x_thingMaker x_variables x_homeOf x_within x_foundIn y_sort y_number y_stands y_keeps y_cells y_within y_foundIn y_self y_args y_temps y_param) {k t : Nat} (hk : ST k) : gx_T x_thingShown (hp_s y_sort y_number k) t ↔ t = τ k := by
  obtain ⟨k1, k2, _, ⟨n, n1, n2⟩, k5, _⟩ := H.1 k hk
  have u1 := U.1
  obtain ⟨s1, s2⟩ := hp_s_n (so := y_sort) n2 (by omega)
  exact ⟨fun ⟨a, b, c⟩ => U.2.2 t (τ k) a k2 n (by omega) (by rw [c]; exact s1) (by rw [k5]; exact s1), fun e => by subst e; exact ⟨k2, s2, k5⟩⟩
theorem hp_yx (U : hp_U mc x_thingShown) (H : hp_R cc mc T y_kind lv ST SA τ σ lev ho x_thingShown x_thingClass x_thingFields x_thingToken x_thingMaker x_variables x_homeOf x_within x_foundIn y_sort y_number y_stands y_keeps y_cells y_within y_foundIn y_self y_args y_temps y_param) {m n : Nat} (hm : hp_S ST SA m) (e : gy_E y_sort y_keeps y_cells y_within y_self y_args y_temps y_param m n) : hp_S ST SA n ∧ gx_E x_thingShown x_thingFields x_thingMaker x_variables x_within (hp_f τ σ m) (hp_f τ σ n) := by
  have val : ∀ {x y : Int64}, hp_v ST (hp_s y_sort y_number) x y → vv_T y n → hp_S ST SA n ∧ gx_T x_thingShown x (hp_f τ σ n) := fun hv ht => by
    obtain ⟨a, b⟩ := hp_vT hv ht
    refine ⟨Or.inl ⟨ht.1, a⟩, ?_⟩
    rw [hp_f1 ht.1, b]
    exact (hp_shT U H a).mpr rfl
  have acts : ∀ {a : Nat}, SA a → n = 32 + a → ∀ {p : Int32}, p = nI (σ a) → hp_S ST SA n ∧ gx_A p (hp_f τ σ n) := fun {a} h1 h2 p h3 => by
    subst h2
    exact ⟨Or.inr ⟨a, rfl, h1⟩, σ a, (H.2.1 a h1).2.1, h3, hp_f2⟩
  rcases hm with ⟨m1, m2⟩ | ⟨a, rfl, m2⟩
  · obtain ⟨k1, k2, k3, k4, k5, k6, k7, k8⟩ := H.1 m m2
    rw [hp_f1 m1]
    rcases e with ⟨_, s, a, a1, a2, a3⟩ | ⟨_, s, j, j1, j2⟩ | ⟨a, e, _⟩ | ⟨a, e, _⟩
    · obtain ⟨p, b, _, _, _, _, b1, b2, b3, _⟩ := k7 s
      have hb := (H.2.1 b b2).1
      have : a = b := (nI_eq (by omega) (by omega)).mp (a2.symm.trans b1)
      subst this
      obtain ⟨q1, q2⟩ := acts b2 a3 b3
      exact ⟨q1, Or.inl ⟨k2, Or.inr q2⟩⟩
    · obtain ⟨q1, q2⟩ := val ((k8 s).2 j j1) j2
      exact ⟨q1, Or.inl ⟨k2, Or.inl ⟨j, j1, q2⟩⟩⟩
    · omega
    · omega
  · obtain ⟨k1, k2, k3, k4, k5, k6, k7⟩ := H.2.1 a m2
    rw [hp_f2]
    rcases e with ⟨z, _⟩ | ⟨z, _⟩ | ⟨b, e, w, z⟩ | ⟨b, e, w, z⟩
    · omega
    · omega
    · obtain rfl : b = a := by omega
      rcases k7 with ⟨w1, _, _, _, _, v0, v1, v2, _⟩ | ⟨c, w1, c1, _⟩
      · rcases z with z | ⟨j, j1, z⟩ | ⟨j, j1, z⟩
        · obtain ⟨q1, q2⟩ := val v0 z
          exact ⟨q1, Or.inr ⟨σ b, rfl, Or.inl ⟨0, by omega, q2⟩⟩⟩
        · obtain ⟨q1, q2⟩ := val (v1 j j1) z
          exact ⟨q1, Or.inr ⟨σ b, rfl, Or.inl ⟨1 + j, by omega, by rw [← Nat.add_assoc]; exact q2⟩⟩⟩
        · obtain ⟨q1, q2⟩ := val (v2 j j1) z
          exact ⟨q1, Or.inr ⟨σ b, rfl, Or.inl ⟨3 + j, by omega, by rw [← Nat.add_assoc]; exact q2⟩⟩⟩
      · rw [w1] at w
        exact absurd w (nI_pos (by have := (H.2.1 c c1).1; omega))
    · obtain rfl : b = a := by omega
      rcases k7 with ⟨w1, _⟩ | ⟨c, w1, c1, _, _, c4, c5, _⟩
      · rw [w1] at w
        exact absurd (by decide) w
      · rcases z with z | ⟨d, d1, d2, d3⟩
        · obtain ⟨q1, q2⟩ := val c5 z
          exact ⟨q1, Or.inr ⟨σ b, rfl, Or.inl ⟨6, by omega, q2⟩⟩⟩
        · have hc := (H.2.1 c c1).1
          have : d = c := (nI_eq (by omega) (by omega)).mp (d2.symm.trans w1)
          subst this
          obtain ⟨q1, q2⟩ := acts c1 d3 c4
          exact ⟨q1, Or.inr ⟨σ b, rfl, Or.inr q2⟩⟩
theorem hp_xy (U : hp_U mc x_thingShown) (H : hp_R cc mc T y_kind lv ST SA τ σ lev ho x_thingShown x_thingClass x_thingFields x_thingToken x_thingMaker x_variables x_homeOf x_within x_foundIn y_sort y_number y_stands y_keeps y_cells y_within y_foundIn y_self y_args y_temps y_param) {m n : Nat} (hm : hp_S ST SA m) (e : gx_E x_thingShown x_thingFields x_thingMaker x_variables x_within (hp_f τ σ m) n) : ∃ n', gy_E y_sort y_keeps y_cells y_within y_self y_args y_temps y_param m n' ∧ hp_f τ σ n' = n := by
  have val : ∀ {x y : Int64}, hp_v ST (hp_s y_sort y_number) x y → gx_T x_thingShown x n → ∃ n', vv_T y n' ∧ hp_f τ σ n' = n := fun hv ht => by
    obtain ⟨k, a, b, c⟩ := hp_vX hv ht.2.1
    rw [c] at ht
    exact ⟨k, a, by rw [hp_f1 a.1]; exact ((hp_shT U H b).mp ht).symm⟩
  have nil : ∀ {x : Int64}, x = 10000000000 → ¬ gx_T x_thingShown x n := fun h z => by
    rw [h] at z; exact absurd z.2.1 hp_NIL
  rcases hm with ⟨m1, m2⟩ | ⟨a, rfl, m2⟩
  · obtain ⟨k1, k2, k3, k4, k5, k6, k7, k8⟩ := H.1 m m2
    rw [hp_f1 m1] at e
    rcases e with ⟨_, z⟩ | ⟨a, e, _⟩
    · by_cases s : y_sort m = 3
      · obtain ⟨p, b, _, _, _, _, b1, b2, b3, _, b5⟩ := k7 s
        have hb := (H.2.1 b b2)
        rcases z with ⟨j, j1, z⟩ | ⟨c, c1, c2, c3⟩
        · exact absurd z (nil (b5 j j1))
        · have : σ b = c := (nI_eq (by have := hb.2.1; omega) (by omega)).mp (b3.symm.trans c2)
          exact ⟨32 + b, Or.inl ⟨m1, s, b, hb.1, b1, rfl⟩, by rw [hp_f2]; omega⟩
      · obtain ⟨f1, f2⟩ := k8 s
        rcases z with ⟨j, j1, z⟩ | ⟨c, c1, c2, c3⟩
        · obtain ⟨n', n1, n2⟩ := val (f2 j j1) z
          exact ⟨n', Or.inr (Or.inl ⟨m1, s, j, j1, n1⟩), n2⟩
        · exact absurd (c2.symm.trans f1) (gx_m1 (by omega))
    · omega
  · obtain ⟨k1, k2, k3, k4, k5, k6, k7⟩ := H.2.1 a m2
    rw [hp_f2] at e
    rcases e with ⟨z, _⟩ | ⟨b, e, z⟩
    · omega
    · obtain rfl : b = σ a := by omega
      rcases k7 with ⟨w1, _, _, w2, _, v0, v1, v2, v3⟩ | ⟨c, w1, c1, _, _, c4, c5, c6⟩
      · have wl : y_within a < 0 := by rw [w1]; decide
        rcases z with ⟨j, j1, z⟩ | ⟨c, c1, c2, c3⟩
        · have cs : j = 0 ∨ (1 ≤ j ∧ j < 3) ∨ (3 ≤ j ∧ j < 6) ∨ j = 6 := by omega
          rcases cs with rfl | ⟨q1, q2⟩ | ⟨q1, q2⟩ | rfl
          · obtain ⟨n', n1, n2⟩ := val v0 z
            exact ⟨n', Or.inr (Or.inr (Or.inl ⟨a, rfl, wl, Or.inl n1⟩)), n2⟩
          · obtain ⟨i, rfl⟩ : ∃ i, j = 1 + i := ⟨j - 1, by omega⟩
            obtain ⟨n', n1, n2⟩ := val (v1 i (by omega)) (by rw [Nat.add_assoc]; exact z)
            exact ⟨n', Or.inr (Or.inr (Or.inl ⟨a, rfl, wl, Or.inr (Or.inl ⟨i, by omega, n1⟩)⟩)), n2⟩
          · obtain ⟨i, rfl⟩ : ∃ i, j = 3 + i := ⟨j - 3, by omega⟩
            obtain ⟨n', n1, n2⟩ := val (v2 i (by omega)) (by rw [Nat.add_assoc]; exact z)
            exact ⟨n', Or.inr (Or.inr (Or.inl ⟨a, rfl, wl, Or.inr (Or.inr ⟨i, by omega, n1⟩)⟩)), n2⟩
          · exact absurd z (nil v3)
        · exact absurd (c2.symm.trans w2) (gx_m1 (by omega))
      · have hc := (H.2.1 c c1)
        have wl : ¬ y_within a < 0 := by rw [w1]; exact nI_pos (by have := hc.1; omega)
        rcases z with ⟨j, j1, z⟩ | ⟨d, d1, d2, d3⟩
        · rcases Nat.lt_or_ge j 6 with q | q
          · exact absurd z (nil (c6 j q))
          · obtain rfl : j = 6 := by omega
            obtain ⟨n', n1, n2⟩ := val c5 z
            exact ⟨n', Or.inr (Or.inr (Or.inr ⟨a, rfl, wl, Or.inl n1⟩)), n2⟩
        · have : σ c = d := (nI_eq (by have := hc.2.1; omega) (by omega)).mp (c4.symm.trans d2)
          exact ⟨32 + c, Or.inr (Or.inr (Or.inr ⟨a, rfl, wl, Or.inr ⟨c, hc.1, w1, rfl⟩⟩)), by rw [hp_f2]; omega⟩
/-- what the two sides reach is the same, node for node -/
theorem hp_reach {RY RX : Nat → Prop} (U : hp_U mc x_thingShown) (H : hp_R cc mc T y_kind lv ST SA τ σ lev ho x_thingShown x_thingClass x_thingFields x_thingToken x_thingMaker x_variables x_homeOf x_within x_foundIn y_sort y_number y_stands y_keeps y_cells y_within y_foundIn y_self y_args y_temps y_param) (r1 : ∀ n, RY n → hp_S ST SA n ∧ cl_r RX (gx_E x_thingShown x_thingFields x_thingMaker x_variables x_within) (hp_f τ σ n)) (r2 : ∀ n, RX n → ∃ n', cl_r RY (gy_E y_sort y_keeps y_cells y_within y_self y_args y_temps y_param) n' ∧ hp_f τ σ n' = n) :
    (∀ n, cl_r RY (gy_E y_sort y_keeps y_cells y_within y_self y_args y_temps y_param) n → hp_S ST SA n ∧ cl_r RX (gx_E x_thingShown x_thingFields x_thingMaker x_variables x_within) (hp_f τ σ n)) ∧ (∀ n, cl_r RX (gx_E x_thingShown x_thingFields x_thingMaker x_variables x_within) n → ∃ n', cl_r RY (gy_E y_sort y_keeps y_cells y_within y_self y_args y_temps y_param) n' ∧ hp_f τ σ n' = n) := by
  have A : ∀ n, cl_r RY (gy_E y_sort y_keeps y_cells y_within y_self y_args y_temps y_param) n → hp_S ST SA n ∧ cl_r RX (gx_E x_thingShown x_thingFields x_thingMaker x_variables x_within) (hp_f τ σ n) := fun n c =>
    cl_min c (fun n => hp_S ST SA n ∧ cl_r RX (gx_E x_thingShown x_thingFields x_thingMaker x_variables x_within) (hp_f τ σ n)) r1 (fun m k hm e => ⟨(hp_yx U H hm.1 e).1, cl_step hm.2 (hp_yx U H hm.1 e).2⟩)
  refine ⟨A, fun n c => cl_min c (fun n => ∃ n', cl_r RY (gy_E y_sort y_keeps y_cells y_within y_self y_args y_temps y_param) n' ∧ hp_f τ σ n' = n) r2 (fun m k hm e => ?_)⟩
  obtain ⟨m', c', rfl⟩ := hm
  obtain ⟨k', e', rfl⟩ := hp_xy U H (A m' c').1 e
  exact ⟨k', cl_step c' e', rfl⟩
theorem hp_count {RY RX : Nat → Prop} (H : hp_R cc mc T y_kind lv ST SA τ σ lev ho x_thingShown x_thingClass x_thingFields x_thingToken x_thingMaker x_variables x_homeOf x_within x_foundIn y_sort y_number y_stands y_keeps y_cells y_within y_foundIn y_self y_args y_temps y_param) (A : ∀ n, cl_r RY (gy_E y_sort y_keeps y_cells y_within y_self y_args y_temps y_param) n → hp_S ST SA n ∧ cl_r RX (gx_E x_thingShown x_thingFields x_thingMaker x_variables x_within) (hp_f τ σ n)) (B : ∀ n, cl_r RX (gx_E x_thingShown x_thingFields x_thingMaker x_variables x_within) n → ∃ n', cl_r RY (gy_E y_sort y_keeps y_cells y_within y_self y_args y_temps y_param) n' ∧ hp_f τ σ n' = n) :
    ct_n (cl_r RX (gx_E x_thingShown x_thingFields x_thingMaker x_variables x_within)) 24 = ct_n (cl_r RY (gy_E y_sort y_keeps y_cells y_within y_self y_args y_temps y_param)) 32 := by
  have st : ∀ {n}, n < 32 → cl_r RY (gy_E y_sort y_keeps y_cells y_within y_self y_args y_temps y_param) n → ST n := fun {n} hn c => by
    rcases (A n c).1 with ⟨_, z⟩ | ⟨a, e, _⟩
    · exact z
    · omega
  refine Nat.le_antisymm ?_ ?_
  · have pick : ∀ t, t < 24 → cl_r RX (gx_E x_thingShown x_thingFields x_thingMaker x_variables x_within) t → ∃ k, k < 32 ∧ cl_r RY (gy_E y_sort y_keeps y_cells y_within y_self y_args y_temps y_param) k ∧ τ k = t := fun t ht c => by
      obtain ⟨n, c', e⟩ := B t c
      rcases (A n c').1 with ⟨n1, _⟩ | ⟨a, e', _⟩
      · rw [hp_f1 n1] at e; exact ⟨n, n1, c', e⟩
      · subst e'; rw [hp_f2] at e; omega
    refine ct_inj (fun t => Classical.epsilon (fun k => k < 32 ∧ cl_r RY (gy_E y_sort y_keeps y_cells y_within y_self y_args y_temps y_param) k ∧ τ k = t)) (fun t ht c => ?_) (fun i j hi hj ci cj e => ?_)
    · have q := Classical.epsilon_spec (pick t ht c)
      exact ⟨q.1, q.2.1⟩
    · have qi := Classical.epsilon_spec (pick i hi ci)
      have qj := Classical.epsilon_spec (pick j hj cj)
      rw [← qi.2.2, ← qj.2.2, e]
  · refine ct_inj τ (fun k hk c => ?_) (fun i j hi hj ci cj e => H.2.2.2 i j (st hi ci) (st hj cj) e)
    have q := (A k c).2
    rw [hp_f1 hk] at q
    exact ⟨(H.1 k (st hk c)).2.1, q⟩
end
