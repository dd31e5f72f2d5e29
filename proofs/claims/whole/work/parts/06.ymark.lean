/-! the reference's marking -/
def gy_R (gl op : Nat → Int64) (wt : Nat) (wo : Nat → Int32) (wk : Nat) (n : Nat) : Prop :=
  (∃ k, k < 4 ∧ vv_T (gl k) n) ∨ (∃ k, k < wt ∧ vv_T (op k) n) ∨ (∃ k a, k < wk ∧ a < 160 ∧ wo k = nI a ∧ n = 32 + a)
def gy_E (so kp : Nat → Int32) (ce : Nat → Int64) (wi : Nat → Int32) (se ar te pa : Nat → Int64) (m n : Nat) : Prop :=
  (m < 32 ∧ so m = 3 ∧ ∃ a, a < 160 ∧ kp m = nI a ∧ n = 32 + a) ∨ (m < 32 ∧ ¬ so m = 3 ∧ ∃ j, j < 4 ∧ vv_T (ce (4 * m + j)) n) ∨
  (∃ a, m = 32 + a ∧ wi a < 0 ∧ (vv_T (se a) n ∨ (∃ j, j < 2 ∧ vv_T (ar (2 * a + j)) n) ∨ (∃ j, j < 3 ∧ vv_T (te (3 * a + j)) n))) ∨
  (∃ a, m = 32 + a ∧ ¬ wi a < 0 ∧ (vv_T (pa a) n ∨ ∃ b, b < 160 ∧ wi a = nI b ∧ n = 32 + b))
/-- what node m holds can be followed -/
def gy_V (so kp : Nat → Int32) (ce : Nat → Int64) (wi : Nat → Int32) (se ar te pa : Nat → Int64) (m : Nat) : Prop :=
  (m < 32 → (so m = 3 → ∃ a, a < 160 ∧ kp m = nI a) ∧ (¬ so m = 3 → ∀ j, j < 4 → vv_V (ce (4 * m + j)))) ∧
  (∀ a, m = 32 + a → a < 160 → (wi a < 0 → vv_V (se a) ∧ (∀ j, j < 2 → vv_V (ar (2 * a + j))) ∧ (∀ j, j < 3 → vv_V (te (3 * a + j)))) ∧ (¬ wi a < 0 → vv_V (pa a) ∧ ∃ b, b < 160 ∧ wi a = nI b))
theorem gy_32 (a : Nat) : (32 : Int32) + nI a = nI (32 + a) := nI_add 32 a
theorem gy_m32 {n : Nat} (h : 32 ≤ n) : nI n - 32 = nI (n - 32) := pk_sub (b := 32) h
section
variable {y_classes y_bodies y_fault y_made y_working y_peak y_steps y_depth y_waiting y_code y_running y_has y_todos y_marks y_spoken : Int32} {y_got y_shown : Int64} {y_parent y_fields y_bound y_kind y_word y_size y_sort y_number y_stands y_keeps y_within y_foundIn y_live y_work y_under y_at y_in y_phase y_base y_goal y_marked y_todo : Nat → Int32} {y_cells y_globals y_self y_args y_temps y_param y_operands y_heard : Nat → Int64}
variable {post : SY → Prop} {mk td : Nat → Int32} {t : Nat}
theorem ym_reach {n : Nat} (hn : n < 192) (I : gm_I 192 mk td t) (h : ∀ mk' td' t', gm_G 192 (fun k => k = n) mk td t mk' td' t' → post (y_classes, y_bodies, y_fault, y_made, y_working, y_peak, y_steps, y_depth, y_waiting, y_code, y_running, y_has, y_got, nI t', nI (ct_n (fun k => mk' k = 1) 32), y_shown, y_spoken, y_parent, y_fields, y_bound, y_kind, y_word, y_size, y_sort, y_number, y_stands, y_keeps, y_cells, y_globals, y_within, y_foundIn, y_self, y_args, y_temps, y_param, y_live, y_work, y_under, y_at, y_in, y_phase, y_base, y_goal, y_operands, mk', td', y_heard)) : wpY_reach post (y_classes, y_bodies, y_fault, y_made, y_working, y_peak, y_steps, y_depth, y_waiting, y_code, y_running, y_has, y_got, nI t, nI (ct_n (fun k => mk k = 1) 32), y_shown, y_spoken, y_parent, y_fields, y_bound, y_kind, y_word, y_size, y_sort, y_number, y_stands, y_keeps, y_cells, y_globals, y_within, y_foundIn, y_self, y_args, y_temps, y_param, y_live, y_work, y_under, y_at, y_in, y_phase, y_base, y_goal, y_operands, mk, td, y_heard) (nI n) := by
  have hc : (nI n).toNatClampNeg = n := nI_clamp (by omega)
  have hv : vp_in (nI n) 192 := vp_in_nI hn (by decide)
  unfold wpY_reach
  dsimp only
  rw [hc]
  refine ⟨hv, ?_⟩
  rcases I.1 n hn with z | z
  · have z1 : ¬ mk n = 1 := by rw [z]; decide
    obtain ⟨g1, g2⟩ := gm_push I hn z1
    have et : (nI t).toNatClampNeg = t := nI_clamp (by omega)
    have hnar : vp_nar .boolean 1 = 1 := by rfl
    refine br_t z ⟨hv, ?_⟩
    refine nm_r (show upd mk n (vp_nar .boolean 1) = upd mk n 1 by rw [hnar]) (nm_r (nI_1 t) ⟨vp_in_nI g1 (by decide), ?_⟩)
    rw [et]
    refine nm_e ?_
    have h2 := h _ _ _ g2
    have e : ∀ k, (upd mk n 1 k = 1 ↔ (mk k = 1 ∨ k = n)) := fun k => by
      by_cases z : k = n
      · subst z; rw [pk_us]; exact ⟨fun _ => Or.inr rfl, fun _ => rfl⟩
      · rw [pk_un z]; exact ⟨Or.inl, fun y => y.elim id (fun w => absurd w z)⟩
    refine pk_le 32 n (fun q => ?_) (fun q => ?_)
    · have c : ct_n (fun k => upd mk n 1 k = 1) 32 = ct_n (fun k => mk k = 1) 32 := by
        rw [ct_eq (Q := fun k => mk k = 1 ∨ k = n) (fun k _ => e k)]
        exact ct_out q
      rw [c] at h2
      exact h2
    · have c : ct_n (fun k => upd mk n 1 k = 1) 32 = ct_n (fun k => mk k = 1) 32 + 1 := by
        rw [ct_eq (Q := fun k => mk k = 1 ∨ k = n) (fun k _ => e k)]
        exact ct_add (P := fun k => mk k = 1) z1 q
      rw [c] at h2
      exact nm_r (nI_1 _) h2
  · have z1 : ¬ mk n = 0 := by rw [z]; decide
    exact br_f z1 (h _ _ _ (gm_refl I fun k _ e => by subst e; exact z))
theorem ym_value {y : Int64} (hv : vv_V y) (I : gm_I 192 mk td t) (h : ∀ mk' td' t', gm_G 192 (vv_T y) mk td t mk' td' t' → post (y_classes, y_bodies, y_fault, y_made, y_working, y_peak, y_steps, y_depth, y_waiting, y_code, y_running, y_has, y_got, nI t', nI (ct_n (fun k => mk' k = 1) 32), y_shown, y_spoken, y_parent, y_fields, y_bound, y_kind, y_word, y_size, y_sort, y_number, y_stands, y_keeps, y_cells, y_globals, y_within, y_foundIn, y_self, y_args, y_temps, y_param, y_live, y_work, y_under, y_at, y_in, y_phase, y_base, y_goal, y_operands, mk', td', y_heard)) : wpY_reachValue post (y_classes, y_bodies, y_fault, y_made, y_working, y_peak, y_steps, y_depth, y_waiting, y_code, y_running, y_has, y_got, nI t, nI (ct_n (fun k => mk k = 1) 32), y_shown, y_spoken, y_parent, y_fields, y_bound, y_kind, y_word, y_size, y_sort, y_number, y_stands, y_keeps, y_cells, y_globals, y_within, y_foundIn, y_self, y_args, y_temps, y_param, y_live, y_work, y_under, y_at, y_in, y_phase, y_base, y_goal, y_operands, mk, td, y_heard) y := by
  rcases vv_cases hv with ⟨i, e, l, q⟩ | ⟨e, q⟩ | ⟨k, hk, e, l, q⟩
  · exact br_t l (h _ _ _ (gm_refl I fun k _ z => absurd ⟨k, z⟩ q))
  · subst e
    exact br_t (by decide) (h _ _ _ (gm_refl I fun k _ z => absurd ⟨k, z⟩ q))
  · refine br_f l ?_
    rw [e, vv_t (by omega)]
    exact ym_reach (by omega) I fun mk' td' t' g => h _ _ _ (gm_cong g fun n _ => (q n).symm)
theorem ix_l (c a i : Nat) : nI c * nI a + nI i = nI (c * a + i) := by rw [pk_mul, nI_add]
theorem ym_from {a : Nat} (ha : a < 160) (V : gy_V y_sort y_keeps y_cells y_within y_self y_args y_temps y_param (32 + a)) (I : gm_I 192 mk td t) (h : ∀ mk' td' t', gm_G 192 (gy_E y_sort y_keeps y_cells y_within y_self y_args y_temps y_param (32 + a)) mk td t mk' td' t' → post (y_classes, y_bodies, y_fault, y_made, y_working, y_peak, y_steps, y_depth, y_waiting, y_code, y_running, y_has, y_got, nI t', nI (ct_n (fun k => mk' k = 1) 32), y_shown, y_spoken, y_parent, y_fields, y_bound, y_kind, y_word, y_size, y_sort, y_number, y_stands, y_keeps, y_cells, y_globals, y_within, y_foundIn, y_self, y_args, y_temps, y_param, y_live, y_work, y_under, y_at, y_in, y_phase, y_base, y_goal, y_operands, mk', td', y_heard)) : wpY_reachFrom post (y_classes, y_bodies, y_fault, y_made, y_working, y_peak, y_steps, y_depth, y_waiting, y_code, y_running, y_has, y_got, nI t, nI (ct_n (fun k => mk k = 1) 32), y_shown, y_spoken, y_parent, y_fields, y_bound, y_kind, y_word, y_size, y_sort, y_number, y_stands, y_keeps, y_cells, y_globals, y_within, y_foundIn, y_self, y_args, y_temps, y_param, y_live, y_work, y_under, y_at, y_in, y_phase, y_base, y_goal, y_operands, mk, td, y_heard) (nI a) := by
  have hc : (nI a).toNatClampNeg = a := nI_clamp (by omega)
  have hv : vp_in (nI a) 160 := vp_in_nI ha (by decide)
  have V2 := V.2 a rfl ha
  unfold wpY_reachFrom
  dsimp only
  rw [hc]
  refine ⟨hv, ?_⟩
  by_cases w : y_within a < 0
  · obtain ⟨v1, v2, v3⟩ := V2.1 w
    refine br_t w ⟨hv, ym_value v1 I fun mk1 td1 t1 g1 => ⟨3, ?_⟩⟩
    refine gm_loop (NN := 192) (fun f i mk td t => wY_reachFrom_45 post (nI a) f (nI i) y_classes y_bodies y_fault y_made y_working y_peak y_steps y_depth y_waiting y_code y_running y_has y_got (nI t) (nI (ct_n (fun k => mk k = 1) 32)) y_shown y_spoken y_parent y_fields y_bound y_kind y_word y_size y_sort y_number y_stands y_keeps y_cells y_globals y_within y_foundIn y_self y_args y_temps y_param y_live y_work y_under y_at y_in y_phase y_base y_goal y_operands mk td y_heard) (fun j => vv_T (y_args (2 * a + j))) 2 0 g1.1 (by omega) ?_ ?_ 3 (by omega)
    · intro f i mk td t _ hi I k
      have e : (2 : Int32) * nI a + nI i = nI (2 * a + i) := ix_l 2 a i
      refine br_f (nI_ge (b := 2) hi (by decide)) ⟨by rw [e]; exact vp_in_nI (by omega) (by decide), ?_⟩
      rw [e, nI_clamp (show 2 * a + i < 2 ^ 31 by omega)]
      exact ym_value (v2 i hi) I fun mk' td' t' g => nm_r (nI_1 i) (k mk' td' t' g)
    · intro f mk2 td2 t2 g2
      refine br_t (by decide) ⟨4, ?_⟩
      refine gm_loop (NN := 192) (fun f i mk td t => wY_reachFrom_72 post (nI a) f (nI i) y_classes y_bodies y_fault y_made y_working y_peak y_steps y_depth y_waiting y_code y_running y_has y_got (nI t) (nI (ct_n (fun k => mk k = 1) 32)) y_shown y_spoken y_parent y_fields y_bound y_kind y_word y_size y_sort y_number y_stands y_keeps y_cells y_globals y_within y_foundIn y_self y_args y_temps y_param y_live y_work y_under y_at y_in y_phase y_base y_goal y_operands mk td y_heard) (fun j => vv_T (y_temps (3 * a + j))) 3 0 g2.1 (by omega) ?_ ?_ 4 (by omega)
      · intro f i mk td t _ hi I k
        have e : (3 : Int32) * nI a + nI i = nI (3 * a + i) := ix_l 3 a i
        refine br_f (nI_ge (b := 3) hi (by decide)) ⟨by rw [e]; exact vp_in_nI (by omega) (by decide), ?_⟩
        rw [e, nI_clamp (show 3 * a + i < 2 ^ 31 by omega)]
        exact ym_value (v3 i hi) I fun mk' td' t' g => nm_r (nI_1 i) (k mk' td' t' g)
      · intro f mk3 td3 t3 g3
        refine br_t (by decide) (h _ _ _ (gm_cong (gm_trans (gm_trans g1 g2) g3) fun n _ => ?_))
        constructor
        · rintro ((z | ⟨j, _, j2, z⟩) | ⟨j, _, j2, z⟩)
          · exact Or.inr (Or.inr (Or.inl ⟨a, rfl, w, Or.inl z⟩))
          · exact Or.inr (Or.inr (Or.inl ⟨a, rfl, w, Or.inr (Or.inl ⟨j, j2, z⟩)⟩))
          · exact Or.inr (Or.inr (Or.inl ⟨a, rfl, w, Or.inr (Or.inr ⟨j, j2, z⟩)⟩))
        · rintro (⟨z, _⟩ | ⟨z, _⟩ | ⟨b, e, _, z | ⟨j, j2, z⟩ | ⟨j, j2, z⟩⟩ | ⟨b, e, z, _⟩)
          · omega
          · omega
          · obtain rfl : b = a := by omega
            exact Or.inl (Or.inl z)
          · obtain rfl : b = a := by omega
            exact Or.inl (Or.inr ⟨j, by omega, j2, z⟩)
          · obtain rfl : b = a := by omega
            exact Or.inr ⟨j, by omega, j2, z⟩
          · obtain rfl : b = a := by omega
            exact absurd w z
  · obtain ⟨v1, b, hb, eb⟩ := V2.2 w
    refine br_f w ⟨hv, ym_value v1 I fun mk1 td1 t1 g1 => ⟨hv, ?_⟩⟩
    dsimp only
    rw [eb, gy_32]
    refine ym_reach (by omega) g1.1 fun mk2 td2 t2 g2 => h _ _ _ (gm_cong (gm_trans g1 g2) fun n _ => ?_)
    constructor
    · rintro (z | z)
      · exact Or.inr (Or.inr (Or.inr ⟨a, rfl, w, Or.inl z⟩))
      · exact Or.inr (Or.inr (Or.inr ⟨a, rfl, w, Or.inr ⟨b, hb, eb, z⟩⟩))
    · rintro (⟨z, _⟩ | ⟨z, _⟩ | ⟨b, e, z, _⟩ | ⟨c, e, _, z | ⟨d, hd, ed, z⟩⟩)
      · omega
      · omega
      · obtain rfl : b = a := by omega
        exact absurd z w
      · obtain rfl : c = a := by omega
        exact Or.inl z
      · obtain rfl : c = a := by omega
        have : b = d := (nI_eq (by omega) (by omega)).mp (eb.symm.trans ed)
        exact Or.inr (by omega)
theorem ym_110 {R : Nat → Prop} (S : Nat → Prop) (hS : ∀ n, S n → n < 192 ∧ gy_V y_sort y_keeps y_cells y_within y_self y_args y_temps y_param n) (hR : ∀ n, R n → S n) (hE : ∀ m n, S m → gy_E y_sort y_keeps y_cells y_within y_self y_args y_temps y_param m n → S n)
    (h : ∀ mk td, (∀ n, n < 192 → mk n = 0 ∨ mk n = 1) → (∀ n, n < 192 → (mk n = 1 ↔ cl_r R (gy_E y_sort y_keeps y_cells y_within y_self y_args y_temps y_param) n)) → post (y_classes, y_bodies, y_fault, y_made, y_working, y_peak, y_steps, y_depth, y_waiting, y_code, y_running, y_has, y_got, nI 0, nI (ct_n (fun k => mk k = 1) 32), y_shown, y_spoken, y_parent, y_fields, y_bound, y_kind, y_word, y_size, y_sort, y_number, y_stands, y_keeps, y_cells, y_globals, y_within, y_foundIn, y_self, y_args, y_temps, y_param, y_live, y_work, y_under, y_at, y_in, y_phase, y_base, y_goal, y_operands, mk, td, y_heard)) :
    ∀ (f : Nat) (mk td : Nat → Int32) (t : Nat), 2 * (192 - ct_n (fun k => mk k = 1) 192) + t < f → gm_I 192 mk td t → gm_F 192 (gy_E y_sort y_keeps y_cells y_within y_self y_args y_temps y_param) mk td 0 t → (∀ n, R n → n < 192 ∧ mk n = 1) → (∀ n, n < 192 → mk n = 1 → cl_r R (gy_E y_sort y_keeps y_cells y_within y_self y_args y_temps y_param) n) → wY_markAll_110 post f y_classes y_bodies y_fault y_made y_working y_peak y_steps y_depth y_waiting y_code y_running y_has y_got (nI t) (nI (ct_n (fun k => mk k = 1) 32)) y_shown y_spoken y_parent y_fields y_bound y_kind y_word y_size y_sort y_number y_stands y_keeps y_cells y_globals y_within y_foundIn y_self y_args y_temps y_param y_live y_work y_under y_at y_in y_phase y_base y_goal y_operands mk td y_heard := by
  intro f
  induction f with
  | zero => intro mk td t hf; omega
  | succ f ih =>
    intro mk td t hf I F r1 r2
    have tl : t ≤ 192 := Nat.le_trans I.2.2 (ct_le _ _)
    cases t with
    | zero =>
      refine br_t (by decide) (h mk td I.1 ?_)
      refine gm_done (lo := 0) (t := 0) r1 (fun m k hm e => ?_) r2 F (Nat.le_refl _)
      rcases e with ⟨_, _, a, a1, _, a3⟩ | ⟨_, _, j, _, a3⟩ | ⟨a, _, _, z | ⟨j, _, z⟩ | ⟨j, _, z⟩⟩ | ⟨a, _, _, z | ⟨b, b1, _, b3⟩⟩
      · omega
      · have := a3.1; omega
      · have := z.1; omega
      · have := z.1; omega
      · have := z.1; omega
      · have := z.1; omega
      · omega
    | succ t =>
      obtain ⟨n, hn, en, mn⟩ := I.2.1 t (by omega)
      have Sn : S n := cl_min (r2 n hn mn) S hR hE
      have Vn := (hS n Sn).2
      have It := gm_drop I
      have tc : (nI t).toNatClampNeg = t := nI_clamp (by omega)
      have nc : (nI n).toNatClampNeg = n := nI_clamp (by omega)
      have go : ∀ mk' td' t', gm_G 192 (gy_E y_sort y_keeps y_cells y_within y_self y_args y_temps y_param n) mk td t mk' td' t' → wY_markAll_110 post f y_classes y_bodies y_fault y_made y_working y_peak y_steps y_depth y_waiting y_code y_running y_has y_got (nI t') (nI (ct_n (fun k => mk' k = 1) 32)) y_shown y_spoken y_parent y_fields y_bound y_kind y_word y_size y_sort y_number y_stands y_keeps y_cells y_globals y_within y_foundIn y_self y_args y_temps y_param y_live y_work y_under y_at y_in y_phase y_base y_goal y_operands mk' td' y_heard := fun mk' td' t' g => by
        refine ih mk' td' t' ?_ g.1 (gm_popY (by decide) hn en F g) (fun k hk => ⟨(r1 k hk).1, (g.2.1 k (r1 k hk).1).mpr (Or.inl (r1 k hk).2)⟩) (fun k hk z => ?_)
        · have a := g.2.2.1
          have b := g.2.2.2.2.2
          have c := ct_le (fun k => mk' k = 1) 192
          omega
        · rcases (g.2.1 k hk).mp z with y | y
          · exact r2 k hk y
          · exact cl_step (r2 n hn mn) y
      refine br_f (nI_nle (by omega) (by omega)) ?_
      rw [nI_pred t, tc]
      refine nm_e ⟨vp_in_nI (by omega) (by decide), nm_r en ?_⟩
      rw [nc]
      refine pk_lt n 32 (fun q => ?_) (fun q => ?_)
      · obtain ⟨V1, V2⟩ := Vn.1 q
        refine ⟨vp_in_nI q (by decide), ?_⟩
        by_cases s3 : y_sort n = 3
        · obtain ⟨a, ha, ea⟩ := V1 s3
          refine br_t s3 ⟨vp_in_nI q (by decide), ?_⟩
          rw [ea, gy_32]
          refine ym_reach (by omega) It fun mk' td' t' g => go mk' td' t' (gm_cong g fun k _ => ?_)
          constructor
          · intro e; exact Or.inl ⟨q, s3, a, ha, ea, e⟩
          · rintro (⟨_, _, b, b1, b2, b3⟩ | ⟨_, z, _⟩ | ⟨b, e, _⟩ | ⟨b, e, _⟩)
            · have : a = b := (nI_eq (by omega) (by omega)).mp (ea.symm.trans b2)
              omega
            · exact absurd s3 z
            · omega
            · omega
        · refine br_f s3 ⟨5, ?_⟩
          refine gm_loop (NN := 192) (fun f' i mk td t => wY_markAll_179 post (wY_markAll_110 post f) (nI n) f' (nI i) y_classes y_bodies y_fault y_made y_working y_peak y_steps y_depth y_waiting y_code y_running y_has y_got (nI t) (nI (ct_n (fun k => mk k = 1) 32)) y_shown y_spoken y_parent y_fields y_bound y_kind y_word y_size y_sort y_number y_stands y_keeps y_cells y_globals y_within y_foundIn y_self y_args y_temps y_param y_live y_work y_under y_at y_in y_phase y_base y_goal y_operands mk td y_heard) (fun j => vv_T (y_cells (4 * n + j))) 4 0 It (by omega) ?_ ?_ 5 (by omega)
          · intro f' i mk td t _ hi I k
            have e : (4 : Int32) * nI n + nI i = nI (4 * n + i) := ix_l 4 n i
            refine br_f (nI_ge (b := 4) hi (by decide)) ⟨by rw [e]; exact vp_in_nI (by omega) (by decide), ?_⟩
            rw [e, nI_clamp (show 4 * n + i < 2 ^ 31 by omega)]
            exact ym_value (V2 s3 i hi) I fun mk' td' t' g => nm_r (nI_1 i) (k mk' td' t' g)
          · intro f' mk' td' t' g
            refine br_t (by decide) (go mk' td' t' (gm_cong g fun k _ => ?_))
            constructor
            · rintro ⟨j, _, j2, z⟩; exact Or.inr (Or.inl ⟨q, s3, j, j2, z⟩)
            · rintro (⟨_, z, _⟩ | ⟨_, _, j, j2, z⟩ | ⟨b, e, _⟩ | ⟨b, e, _⟩)
              · exact absurd z s3
              · exact ⟨j, by omega, j2, z⟩
              · omega
              · omega
      · rw [gy_m32 q]
        have e32 : 32 + (n - 32) = n := by omega
        exact ym_from (a := n - 32) (by omega) (by rw [e32]; exact Vn) It (by rw [e32]; exact go)
theorem ym_markAll {wt wk : Nat} (hw : y_waiting = nI wt) (hwt : wt ≤ 500) (hk : y_working = nI wk) (hwk : wk ≤ 12) (hgl : ∀ k, k < 4 → vv_V (y_globals k)) (hop : ∀ k, k < wt → vv_V (y_operands k)) (hwo : ∀ k, k < wk → ∃ a, a < 160 ∧ y_work k = nI a)
    (S : Nat → Prop) (hS : ∀ n, S n → n < 192 ∧ gy_V y_sort y_keeps y_cells y_within y_self y_args y_temps y_param n) (hR : ∀ n, gy_R y_globals y_operands wt y_work wk n → S n) (hE : ∀ m n, S m → gy_E y_sort y_keeps y_cells y_within y_self y_args y_temps y_param m n → S n)
    (h : ∀ mk td, (∀ n, n < 192 → mk n = 0 ∨ mk n = 1) → (∀ n, n < 192 → (mk n = 1 ↔ cl_r (gy_R y_globals y_operands wt y_work wk) (gy_E y_sort y_keeps y_cells y_within y_self y_args y_temps y_param) n)) → post (y_classes, y_bodies, y_fault, y_made, y_working, y_peak, y_steps, y_depth, y_waiting, y_code, y_running, y_has, y_got, nI 0, nI (ct_n (fun k => mk k = 1) 32), y_shown, y_spoken, y_parent, y_fields, y_bound, y_kind, y_word, y_size, y_sort, y_number, y_stands, y_keeps, y_cells, y_globals, y_within, y_foundIn, y_self, y_args, y_temps, y_param, y_live, y_work, y_under, y_at, y_in, y_phase, y_base, y_goal, y_operands, mk, td, y_heard)) : wpY_markAll post (y_classes, y_bodies, y_fault, y_made, y_working, y_peak, y_steps, y_depth, y_waiting, y_code, y_running, y_has, y_got, y_todos, y_marks, y_shown, y_spoken, y_parent, y_fields, y_bound, y_kind, y_word, y_size, y_sort, y_number, y_stands, y_keeps, y_cells, y_globals, y_within, y_foundIn, y_self, y_args, y_temps, y_param, y_live, y_work, y_under, y_at, y_in, y_phase, y_base, y_goal, y_operands, y_marked, y_todo, y_heard) := by
  subst hw hk
  have l83 : ∀ mk td t, gm_G 192 (fun n => (∃ k, 0 ≤ k ∧ k < 4 ∧ vv_T (y_globals k) n) ∨ ∃ k, 0 ≤ k ∧ k < wt ∧ vv_T (y_operands k) n) (fun _ => 0) y_todo 0 mk td t → wY_markAll_83 post (wk + 1) (nI 0) y_classes y_bodies y_fault y_made (nI wk) y_peak y_steps y_depth (nI wt) y_code y_running y_has y_got (nI t) (nI (ct_n (fun k => mk k = 1) 32)) y_shown y_spoken y_parent y_fields y_bound y_kind y_word y_size y_sort y_number y_stands y_keeps y_cells y_globals y_within y_foundIn y_self y_args y_temps y_param y_live y_work y_under y_at y_in y_phase y_base y_goal y_operands mk td y_heard := by
    intro mk td t g
    refine gm_loop (NN := 192) (fun f i mk td t => wY_markAll_83 post f (nI i) y_classes y_bodies y_fault y_made (nI wk) y_peak y_steps y_depth (nI wt) y_code y_running y_has y_got (nI t) (nI (ct_n (fun k => mk k = 1) 32)) y_shown y_spoken y_parent y_fields y_bound y_kind y_word y_size y_sort y_number y_stands y_keeps y_cells y_globals y_within y_foundIn y_self y_args y_temps y_param y_live y_work y_under y_at y_in y_phase y_base y_goal y_operands mk td y_heard) (fun k n => ∃ a, a < 160 ∧ y_work k = nI a ∧ n = 32 + a) wk 0 g.1 (by omega) ?_ ?_ (wk + 1) (by omega)
    · intro f i mk td t _ hi I k
      obtain ⟨a, ha, ea⟩ := hwo i hi
      have ic : (nI i).toNatClampNeg = i := nI_clamp (by omega)
      refine br_f (nI_ge hi (by omega)) ⟨vp_in_nI (by omega) (by decide), ?_⟩
      rw [ic, ea, gy_32]
      refine ym_reach (by omega) I fun mk' td' t' g => nm_r (nI_1 i) (k mk' td' t' (gm_cong g fun n _ => ⟨fun e => ⟨a, ha, ea, e⟩, fun ⟨b, b1, b2, b3⟩ => ?_⟩))
      have : a = b := (nI_eq (by omega) (by omega)).mp (ea.symm.trans b2)
      omega
    · intro f mk2 td2 t2 g2
      have G := gm_trans g g2
      have eR : ∀ n, n < 192 → ((((∃ k, 0 ≤ k ∧ k < 4 ∧ vv_T (y_globals k) n) ∨ ∃ k, 0 ≤ k ∧ k < wt ∧ vv_T (y_operands k) n) ∨ ∃ k, 0 ≤ k ∧ k < wk ∧ ∃ a, a < 160 ∧ y_work k = nI a ∧ n = 32 + a) ↔ gy_R y_globals y_operands wt y_work wk n) := fun n _ =>
        ⟨fun z => by
          rcases z with (⟨k, _, a, b⟩ | ⟨k, _, a, b⟩) | ⟨k, _, a, c, b1, b2, b3⟩
          · exact Or.inl ⟨k, a, b⟩
          · exact Or.inr (Or.inl ⟨k, a, b⟩)
          · exact Or.inr (Or.inr ⟨k, c, a, b1, b2, b3⟩), fun z => by
          rcases z with ⟨k, a, b⟩ | ⟨k, a, b⟩ | ⟨k, c, a, b1, b2, b3⟩
          · exact Or.inl (Or.inl ⟨k, by omega, a, b⟩)
          · exact Or.inl (Or.inr ⟨k, by omega, a, b⟩)
          · exact Or.inr ⟨k, by omega, a, c, b1, b2, b3⟩⟩
      have G2 := gm_cong G eR
      have hm : ∀ n, n < 192 → (mk2 n = 1 ↔ gy_R y_globals y_operands wt y_work wk n) := fun n hn => by
        rw [G2.2.1 n hn]
        exact ⟨fun z => z.elim (fun q => absurd (show (0 : Int32) = 1 from q) (by decide)) id, Or.inr⟩
      refine br_t (nI_le (Nat.le_refl _) (by omega)) ⟨2 * 192 + t2 + 1, ?_⟩
      refine ym_110 S hS hR hE h _ mk2 td2 t2 (by omega) G2.1 ?_ (fun n hn => ?_) (fun n hn z => cl_root ((hm n hn).mp z))
      · intro m hm1 hm2
        rcases G2.2.2.2.2.1 m hm1 hm2 with z | ⟨i, i1, i2, i3⟩
        · exact absurd (show (0 : Int32) = 1 from z) (by decide)
        · exact Or.inl ⟨i, i1, i2, i3⟩
      · have hl : n < 192 := (hS n (hR n hn)).1
        exact ⟨hl, (hm n hl).mpr hn⟩
  have l57 : ∀ mk td t, gm_G 192 (fun n => ∃ k, 0 ≤ k ∧ k < 4 ∧ vv_T (y_globals k) n) (fun _ => 0) y_todo 0 mk td t → wY_markAll_57 post (wt + 1) (nI 0) y_classes y_bodies y_fault y_made (nI wk) y_peak y_steps y_depth (nI wt) y_code y_running y_has y_got (nI t) (nI (ct_n (fun k => mk k = 1) 32)) y_shown y_spoken y_parent y_fields y_bound y_kind y_word y_size y_sort y_number y_stands y_keeps y_cells y_globals y_within y_foundIn y_self y_args y_temps y_param y_live y_work y_under y_at y_in y_phase y_base y_goal y_operands mk td y_heard := by
    intro mk td t g
    refine gm_loop (NN := 192) (fun f i mk td t => wY_markAll_57 post f (nI i) y_classes y_bodies y_fault y_made (nI wk) y_peak y_steps y_depth (nI wt) y_code y_running y_has y_got (nI t) (nI (ct_n (fun k => mk k = 1) 32)) y_shown y_spoken y_parent y_fields y_bound y_kind y_word y_size y_sort y_number y_stands y_keeps y_cells y_globals y_within y_foundIn y_self y_args y_temps y_param y_live y_work y_under y_at y_in y_phase y_base y_goal y_operands mk td y_heard) (fun k n => vv_T (y_operands k) n) wt 0 g.1 (by omega) ?_ ?_ (wt + 1) (by omega)
    · intro f i mk td t _ hi I k
      have ic : (nI i).toNatClampNeg = i := nI_clamp (by omega)
      refine br_f (nI_ge hi (by omega)) ⟨vp_in_nI (by omega) (by decide), ?_⟩
      rw [ic]
      exact ym_value (hop i hi) I fun mk' td' t' g => nm_r (nI_1 i) (k mk' td' t' g)
    · intro f mk2 td2 t2 g2
      exact br_t (nI_le (Nat.le_refl _) (by omega)) ⟨wk + 1, l83 mk2 td2 t2 (gm_trans g g2)⟩
  have l34 : ∀ mk, (∀ n, n < 192 → mk n = 0) → wY_markAll_34 post 5 (nI 0) y_classes y_bodies y_fault y_made (nI wk) y_peak y_steps y_depth (nI wt) y_code y_running y_has y_got (nI 0) (nI (ct_n (fun k => mk k = 1) 32)) y_shown y_spoken y_parent y_fields y_bound y_kind y_word y_size y_sort y_number y_stands y_keeps y_cells y_globals y_within y_foundIn y_self y_args y_temps y_param y_live y_work y_under y_at y_in y_phase y_base y_goal y_operands mk y_todo y_heard := by
    intro mk hmk
    refine gm_loop (NN := 192) (fun f i mk td t => wY_markAll_34 post f (nI i) y_classes y_bodies y_fault y_made (nI wk) y_peak y_steps y_depth (nI wt) y_code y_running y_has y_got (nI t) (nI (ct_n (fun k => mk k = 1) 32)) y_shown y_spoken y_parent y_fields y_bound y_kind y_word y_size y_sort y_number y_stands y_keeps y_cells y_globals y_within y_foundIn y_self y_args y_temps y_param y_live y_work y_under y_at y_in y_phase y_base y_goal y_operands mk td y_heard) (fun k n => vv_T (y_globals k) n) 4 0 (gm_start 192 hmk) (by omega) ?_ ?_ 5 (by omega)
    · intro f i mk td t _ hi I k
      have ic : (nI i).toNatClampNeg = i := nI_clamp (by omega)
      refine br_f (nI_ge (b := 4) hi (by decide)) ⟨vp_in_nI (by omega) (by decide), ?_⟩
      rw [ic]
      exact ym_value (hgl i hi) I fun mk' td' t' g => nm_r (nI_1 i) (k mk' td' t' g)
    · intro f mk2 td2 t2 g2
      refine br_t (by decide) ⟨wt + 1, l57 mk2 td2 t2 ⟨g2.1, fun n hn => ?_, g2.2.2.1, g2.2.2.2.1, fun n hn z => ?_, ?_⟩⟩
      · rw [g2.2.1 n hn, hmk n hn]
      · rcases g2.2.2.2.2.1 n hn z with q | q
        · rw [hmk n hn] at q; exact absurd q (by decide)
        · exact Or.inr q
      · have e : ct_n (fun n => mk n = 1) 192 = ct_n (fun _ => (0 : Int32) = 1) 192 := ct_eq fun k hk => by rw [hmk k hk]
        rw [← e]; exact g2.2.2.2.2.2
  refine loop_0 (fun n i mk => wY_markAll_2 post y_classes y_bodies y_fault y_made (nI wk) y_peak y_steps y_depth (nI wt) y_code y_running y_has y_got y_todos y_marks y_shown y_spoken n (nI i) y_parent y_fields y_bound y_kind y_word y_size y_sort y_number y_stands y_keeps y_cells y_globals y_within y_foundIn y_self y_args y_temps y_param y_live y_work y_under y_at y_in y_phase y_base y_goal y_operands mk y_todo y_heard) (fun i mk => ∀ j, j < i → mk j = 0) 192 y_marked (fun j hj => by omega) ?_ ?_
  · intro n mk I
    have c0 : ct_n (fun k => mk k = 1) 32 = 0 := ct_none fun k hk z => by rw [I k (by omega)] at z; exact absurd z (by decide)
    have q := l34 mk I
    rw [c0] at q
    exact br_t (by decide) ⟨5, q⟩
  · intro n i mk hi I k
    have ic : (nI i).toNatClampNeg = i := nI_clamp (by omega)
    refine br_f (nI_ge (b := 192) hi (by decide)) ⟨vp_in_nI hi (by decide), ?_⟩
    rw [ic, show vp_nar .boolean 0 = 0 by rfl]
    refine nm_e (nm_r (nI_1 i) (k _ fun j hj => ?_))
    by_cases q : j = i
    · subst q; exact pk_us
    · rw [pk_un q]; exact I j (by omega)
end
