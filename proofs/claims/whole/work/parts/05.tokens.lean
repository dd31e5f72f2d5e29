/-! tokens: what a kind needs, which values it may have -/
def tk_need (k w : Int32) : Nat :=
  if k = 10 then 1 + w.toNatClampNeg / 4 else if k = 11 then w.toNatClampNeg / 4
  else if k = 5 ∨ k = 7 ∨ k = 9 ∨ k = 12 ∨ k = 14 ∨ k = 17 ∨ k = 26 ∨ k = 29 then 1
  else if k = 15 ∨ k = 16 ∨ k = 18 ∨ k = 19 ∨ k = 20 ∨ k = 21 ∨ k = 22 ∨ k = 24 ∨ k = 27 then 2
  else if k = 23 then 3 else 0
def tk_lim (k : Nat) : Nat := if k = 3 ∨ k = 12 then 2 else if k = 4 ∨ k = 5 ∨ k = 13 then 3 else if k = 10 ∨ k = 11 then 12 else if k = 25 then 10 else 4
def tk_ok (k w : Int32) : Prop := ∃ kn : Nat, kn < 30 ∧ k = nI kn ∧ ((3 ≤ kn ∧ kn < 14 ∨ kn = 25) → ∃ wn, wn < tk_lim kn ∧ w = nI wn) ∧
  (kn = 28 → ∃ wn, wn / 256 < 10 ∧ wn / 16 % 16 < 12 ∧ wn % 16 < 12 ∧ w = nI wn)
theorem tk_div4 {a : Nat} (h : a < 2 ^ 31) : nI a / 4 = nI (a / 4) := pk_div (d := 4) h (by decide) (by decide)
theorem tk_need_le {k w : Int32} (h : tk_ok k w) : tk_need k w ≤ 3 := by
  obtain ⟨kn, h1, rfl, h3, h4⟩ := h
  unfold tk_need
  split
  · rename_i z
    have e : kn = 10 := (nI_eq (b := 10) (by omega) (by decide)).mp z
    subst e
    obtain ⟨wn, w1, rfl⟩ := h3 (by omega)
    rw [nI_clamp (by have : tk_lim 10 = 12 := rfl; omega)]
    have : tk_lim 10 = 12 := rfl
    omega
  · split
    · rename_i z
      have e : kn = 11 := (nI_eq (b := 11) (by omega) (by decide)).mp z
      subst e
      obtain ⟨wn, w1, rfl⟩ := h3 (by omega)
      rw [nI_clamp (by have : tk_lim 11 = 12 := rfl; omega)]
      have : tk_lim 11 = 12 := rfl
      omega
    · split
      · omega
      · split
        · omega
        · split <;> omega
/-- a kind is one of thirty -/
theorem tk_cases {P : Nat → Prop} (h0 : P 0) (h1 : P 1) (h2 : P 2) (h3 : P 3) (h4 : P 4) (h5 : P 5) (h6 : P 6) (h7 : P 7) (h8 : P 8) (h9 : P 9) (h10 : P 10) (h11 : P 11) (h12 : P 12) (h13 : P 13) (h14 : P 14) (h15 : P 15) (h16 : P 16) (h17 : P 17) (h18 : P 18) (h19 : P 19) (h20 : P 20) (h21 : P 21) (h22 : P 22) (h23 : P 23) (h24 : P 24) (h25 : P 25) (h26 : P 26) (h27 : P 27) (h28 : P 28) (h29 : P 29) : ∀ k, k < 30 → P k
  | 0, _ => h0 | 1, _ => h1 | 2, _ => h2 | 3, _ => h3 | 4, _ => h4 | 5, _ => h5 | 6, _ => h6 | 7, _ => h7 | 8, _ => h8 | 9, _ => h9
  | 10, _ => h10 | 11, _ => h11 | 12, _ => h12 | 13, _ => h13 | 14, _ => h14 | 15, _ => h15 | 16, _ => h16 | 17, _ => h17 | 18, _ => h18 | 19, _ => h19
  | 20, _ => h20 | 21, _ => h21 | 22, _ => h22 | 23, _ => h23 | 24, _ => h24 | 25, _ => h25 | 26, _ => h26 | 27, _ => h27 | 28, _ => h28 | 29, _ => h29
  | n + 30, h => absurd h (by omega)
theorem tk_mm {m d : Nat} (h : m ≠ 0) : nI m + (nI d - 1) = nI (m - 1 + d) := by
  obtain ⟨k, rfl⟩ : ∃ k, m = k + 1 := ⟨m - 1, by omega⟩
  rw [Nat.add_sub_cancel, ← nI_1, ← nI_add]
  grind
theorem ex_mle {nd : Nat → Nat} : ∀ {n m p : Nat}, ex_s nd n m p → m ≤ n
  | 0, _, _, h => by have : _ = 0 := h; omega
  | n + 1, m, p, h => by have := ex_mle h.2; omega
section
variable {y_classes y_bodies y_fault y_made y_working y_peak y_steps y_depth y_waiting y_code y_running y_has y_todos y_marks y_spoken : Int32} {y_got y_shown : Int64} {y_parent y_fields y_bound y_kind y_word y_size y_sort y_number y_stands y_keeps y_within y_foundIn y_live y_work y_under y_at y_in y_phase y_base y_goal y_marked y_todo : Nat → Int32} {y_cells y_globals y_self y_args y_temps y_param y_operands y_heard : Nat → Int64}
variable {post : Int32 → Prop}
theorem yw_needs {p : Nat} (hp : p < 416) (ok : tk_ok (y_kind p) (y_word p)) (h : post (nI (tk_need (y_kind p) (y_word p)))) : wpY_needs post (y_classes, y_bodies, y_fault, y_made, y_working, y_peak, y_steps, y_depth, y_waiting, y_code, y_running, y_has, y_got, y_todos, y_marks, y_shown, y_spoken, y_parent, y_fields, y_bound, y_kind, y_word, y_size, y_sort, y_number, y_stands, y_keeps, y_cells, y_globals, y_within, y_foundIn, y_self, y_args, y_temps, y_param, y_live, y_work, y_under, y_at, y_in, y_phase, y_base, y_goal, y_operands, y_marked, y_todo, y_heard) (nI p) := by
  have hc : (nI p).toNatClampNeg = p := nI_clamp (by omega)
  obtain ⟨kn, h1, h2, h3, -⟩ := ok
  unfold wpY_needs
  dsimp only
  rw [hc]
  refine ⟨vp_in_nI hp (by decide), nm_e ?_⟩
  have h4 : kn = 10 ∨ kn = 11 → ∃ wn, wn < 12 ∧ y_word p = nI wn := fun z => by
    obtain ⟨wn, w1, w2⟩ := h3 (by omega)
    rcases z with rfl | rfl
    · exact ⟨wn, w1, w2⟩
    · exact ⟨wn, w1, w2⟩
  clear h3
  revert h2 h4
  refine tk_cases (P := fun kn => y_kind p = nI kn → (kn = 10 ∨ kn = 11 → ∃ wn, wn < 12 ∧ y_word p = nI wn) → _) ?_ ?_ ?_ ?_ ?_ ?_ ?_ ?_ ?_ ?_ ?_ ?_ ?_ ?_ ?_ ?_ ?_ ?_ ?_ ?_ ?_ ?_ ?_ ?_ ?_ ?_ ?_ ?_ ?_ ?_ kn h1
  all_goals intro e h4
  all_goals rw [e] at h ⊢
  case refine_11 =>
    obtain ⟨wn, w1, w2⟩ := h4 (Or.inl rfl)
    have e2 : tk_need (nI 10) (y_word p) = 1 + wn / 4 := by
      show 1 + (y_word p).toNatClampNeg / 4 = _
      rw [w2, nI_clamp (by omega)]
    rw [e2] at h
    have e3 : (1 : Int32) + y_word p / 4 = nI (1 + wn / 4) := by rw [w2, tk_div4 (by omega), ← nI_add]; rfl
    refine br_f (by decide) (br_f (by decide) (br_f (by decide) (br_f (by decide) (br_f (by decide) (br_f (by decide) (br_f (by decide) (br_t rfl ⟨vp_in_nI hp (by decide), by decide, ?_⟩)))))))
    rw [e3]; exact h
  case refine_12 =>
    obtain ⟨wn, w1, w2⟩ := h4 (Or.inr rfl)
    have e2 : tk_need (nI 11) (y_word p) = wn / 4 := by
      show (y_word p).toNatClampNeg / 4 = _
      rw [w2, nI_clamp (by omega)]
    rw [e2] at h
    have e3 : y_word p / 4 = nI (wn / 4) := by rw [w2, tk_div4 (by omega)]
    refine br_f (by decide) (br_f (by decide) (br_f (by decide) (br_f (by decide) (br_f (by decide) (br_f (by decide) (br_f (by decide) (br_f (by decide) (br_t rfl ⟨vp_in_nI hp (by decide), by decide, ?_⟩))))))))
    rw [e3]; exact h
  all_goals first
    | exact br_t (by decide) h
    | (refine br_f (by decide) (br_f (by decide) ?_)
       repeat first | exact br_t rfl h | refine br_f (by decide) ?_)
/-- what a token needs, in the reference's arrays -/
def tk_nd (k w : Nat → Int32) (p : Nat) : Nat := tk_need (k p) (w p)
theorem yw_after4 : ∀ (n m t f : Nat), ex_s (tk_nd y_kind y_word) n m t → n < f → t + n ≤ 416 → (∀ q, t ≤ q → q < t + n → tk_ok (y_kind q) (y_word q)) → post (nI (t + n)) → wY_after_4 post y_classes y_bodies y_fault y_made y_working y_peak y_steps y_depth y_waiting y_code y_running y_has y_got y_todos y_marks y_shown y_spoken y_parent y_fields y_bound y_kind y_word y_size y_sort y_number y_stands y_keeps y_cells y_globals y_within y_foundIn y_self y_args y_temps y_param y_live y_work y_under y_at y_in y_phase y_base y_goal y_operands y_marked y_todo y_heard f (nI m) (nI t)
  | 0, m, t, 0, _, hf, _, _, _ => by omega
  | 0, m, t, f + 1, hs, hf, h4, hok, h => by
    have e : m = 0 := hs
    subst e
    exact br_t (by decide) h
  | n + 1, m, t, 0, _, hf, _, _, _ => by omega
  | n + 1, m, t, f + 1, hs, hf, h4, hok, h => by
    have hm := ex_mle hs
    refine br_f (nI_nle (by have := hs.1; omega) (by omega)) (yw_needs (by omega) (hok t (by omega) (by omega)) (nm_r (tk_mm hs.1) (nm_r (nI_1 t) ?_)))
    exact yw_after4 n _ _ f hs.2 (by omega) (by omega) (fun q h1 h2 => hok q (by omega) (by omega)) (by rw [show t + 1 + n = t + (n + 1) by omega]; exact h)
theorem yw_after {n t : Nat} (hs : ex_s (tk_nd y_kind y_word) n 1 t) (h4 : t + n ≤ 416) (hok : ∀ q, t ≤ q → q < t + n → tk_ok (y_kind q) (y_word q)) (h : post (nI (t + n))) : wpY_after post (y_classes, y_bodies, y_fault, y_made, y_working, y_peak, y_steps, y_depth, y_waiting, y_code, y_running, y_has, y_got, y_todos, y_marks, y_shown, y_spoken, y_parent, y_fields, y_bound, y_kind, y_word, y_size, y_sort, y_number, y_stands, y_keeps, y_cells, y_globals, y_within, y_foundIn, y_self, y_args, y_temps, y_param, y_live, y_work, y_under, y_at, y_in, y_phase, y_base, y_goal, y_operands, y_marked, y_todo, y_heard) (nI t) :=
  ⟨n + 1, yw_after4 n 1 t (n + 1) hs (by omega) h4 hok h⟩
theorem yw_part7 {n k J : Nat} (hs : ex_s (tk_nd y_kind y_word) n 1 k) (h4 : k + n ≤ 416) (hok : ∀ q, k ≤ q → q < k + n → tk_ok (y_kind q) (y_word q)) (hJ : J ≤ tk_nd y_kind y_word k) (hJ3 : J < 2 ^ 31) (h : post (nI (ex_pt (tk_nd y_kind y_word) k J))) : ∀ (d j f : Nat), j + d = J → d < f → wY_part_7 post (nI J) y_classes y_bodies y_fault y_made y_working y_peak y_steps y_depth y_waiting y_code y_running y_has y_got y_todos y_marks y_shown y_spoken y_parent y_fields y_bound y_kind y_word y_size y_sort y_number y_stands y_keeps y_cells y_globals y_within y_foundIn y_self y_args y_temps y_param y_live y_work y_under y_at y_in y_phase y_base y_goal y_operands y_marked y_todo y_heard f (nI (ex_pt (tk_nd y_kind y_word) k j)) (nI j)
  | 0, j, 0, _, hf => by omega
  | 0, j, f + 1, e, hf => by
    have e : j = J := by omega
    subst e
    exact br_t (nI_le (Nat.le_refl _) hJ3) h
  | d + 1, j, 0, _, hf => by omega
  | d + 1, j, f + 1, e, hf => by
    obtain ⟨a, b, m, hm, hm2⟩ := ex_part hs (show j < tk_nd y_kind y_word k by omega)
    refine br_f (nI_ge (by omega) hJ3) (yw_after hm (by omega) (fun q h1 h2 => hok q (by omega) (by omega)) (nm_r (nI_1 j) ?_))
    have := yw_part7 hs h4 hok hJ hJ3 h d (j + 1) f (by omega) (by omega)
    rw [show ex_pt (tk_nd y_kind y_word) k (j + 1) = ex_pt (tk_nd y_kind y_word) k j + m from ex_eq hm] at this
    exact this
theorem yw_part {n k J : Nat} (hs : ex_s (tk_nd y_kind y_word) n 1 k) (h4 : k + n ≤ 416) (hok : ∀ q, k ≤ q → q < k + n → tk_ok (y_kind q) (y_word q)) (hJ : J ≤ tk_nd y_kind y_word k) (hJ3 : J < 2 ^ 31) (h : post (nI (ex_pt (tk_nd y_kind y_word) k J))) : wpY_part post (y_classes, y_bodies, y_fault, y_made, y_working, y_peak, y_steps, y_depth, y_waiting, y_code, y_running, y_has, y_got, y_todos, y_marks, y_shown, y_spoken, y_parent, y_fields, y_bound, y_kind, y_word, y_size, y_sort, y_number, y_stands, y_keeps, y_cells, y_globals, y_within, y_foundIn, y_self, y_args, y_temps, y_param, y_live, y_work, y_under, y_at, y_in, y_phase, y_base, y_goal, y_operands, y_marked, y_todo, y_heard) (nI k) (nI J) :=
  nm_r (nI_1 k) ⟨J + 1, yw_part7 hs h4 hok hJ hJ3 h J 0 (J + 1) (by omega) (by omega)⟩
end
