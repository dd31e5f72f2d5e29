/-! the stack of a run: frames p below d, activations i below w -/
def nu {α : Type} (f : Nat → α) (k : Nat) (x : α) : Nat → α := fun j => if j = k then x else f j
theorem nu_s {α : Type} {f : Nat → α} {k : Nat} {x : α} : nu f k x k = x := if_pos rfl
theorem nu_n {α : Type} {f : Nat → α} {k j : Nat} {x : α} (h : j ≠ k) : nu f k x j = f j := if_neg h
def fr_tail (k : Int32) (ph : Nat) : Prop := (k = 16 ∧ ph = 1) ∨ (k = 23 ∧ ph = 2)
noncomputable def fr_x (K : Nat → Int32) (fa ph : Nat → Nat) : Nat → Nat
  | 0 => 1
  | p + 1 => fr_x K fa ph p + ct_b (¬ fr_tail (K (fa p)) (ph p))
def fr_pt (k : Int32) (ph : Nat) : Nat := if k = 27 ∧ ph = 2 then 1 else ph
def fr_c (k : Int32) (ph : Nat) : Nat := if ph = 100 then 0 else if k = 16 ∨ k = 23 ∨ k = 24 then 0 else if k = 27 then (if ph = 0 then 0 else 1) else ph
def fr_gen (k : Int32) : Prop := k = 5 ∨ k = 7 ∨ k = 9 ∨ k = 10 ∨ k = 11 ∨ k = 14 ∨ k = 15 ∨ k = 17 ∨ k = 18 ∨ k = 19 ∨ k = 20 ∨ k = 21 ∨ k = 22 ∨ k = 26 ∨ k = 29
def fr_ok (k : Int32) (n ph : Nat) : Prop := (ph = 100 ∧ (k = 10 ∨ k = 11 ∨ k = 14 ∨ k = 15)) ∨ (k = 16 ∧ ph ≤ 1) ∨ (k = 23 ∧ ph ≤ 2) ∨ (k = 24 ∧ ph ≤ 1) ∨ (k = 27 ∧ ph ≤ 2) ∨ (fr_gen k ∧ ph ≤ n)
def fr_lo (ph ow un : Nat → Nat) (p i : Nat) : Prop := (p = 0 → i = 0) ∧ (∀ q, p = q + 1 → (ph q = 100 → i = ow q + 1 ∧ un i = p) ∧ (ph q ≠ 100 → i = ow q))
def fr_lt (K : Nat → Int32) (nd : Nat → Nat) (fa ph rt : Nat → Nat) (p t i : Nat) : Prop := (p = 0 → t = rt 0) ∧ (∀ q, p = q + 1 → (ph q = 100 → t = rt i) ∧ (ph q ≠ 100 → fr_pt (K (fa q)) (ph q) < nd (fa q) ∧ t = ex_pt nd (fa q) (fr_pt (K (fa q)) (ph q))))
def fr_F (K : Nat → Int32) (nd : Nat → Nat) (T : Nat → Prop) (fa ph bs ow gg un rt : Nat → Nat) (w p : Nat) : Prop :=
  T (fa p) ∧ ow p < w ∧ fr_lo ph ow un p (ow p) ∧ fr_lt K nd fa ph rt p (fa p) (ow p) ∧ fr_ok (K (fa p)) (nd (fa p)) (ph p) ∧ bs (p + 1) = bs p + fr_c (K (fa p)) (ph p) ∧ (K (fa p) = 27 → ph p = 2 → gg p ≤ ow p)
def fr_S (K : Nat → Int32) (nd : Nat → Nat) (T : Nat → Prop) (fa ph bs ow gg un rt : Nat → Nat) (d w : Nat) : Prop :=
  1 ≤ w ∧ w ≤ 12 ∧ un 0 = 0 ∧ bs 0 = 0 ∧ (∀ p, p < d → fr_F K nd T fa ph bs ow gg un rt w p) ∧ fr_lo ph ow un d (w - 1) ∧ (∀ i, i < w → T (rt i)) ∧
  (∀ i, i + 1 < w → ∃ p, p < d ∧ un (i + 1) = p + 1 ∧ ph p = 100 ∧ ow p = i)
/-- what is known of the tokens -/
def fr_T (K : Nat → Int32) (nd : Nat → Nat) (T : Nat → Prop) : Prop :=
  ∀ p, T p → p < 384 ∧ nd p ≤ 3 ∧ ∃ m, ex_s nd m 1 p ∧ p + m ≤ 32 * (p / 32) + 32 ∧ ∀ q, p ≤ q → q < p + m → T q
section
variable {K : Nat → Int32} {nd : Nat → Nat} {T : Nat → Prop} {fa ph bs ow gg un rt : Nat → Nat} {d w : Nat}
theorem fr_en (TF : fr_T K nd T) {p : Nat} (tp : T p) : p < ex_e nd p ∧ ex_e nd p ≤ 32 * (p / 32) + 32 ∧ ex_pt nd p (nd p) = ex_e nd p := by
  obtain ⟨_, _, m, m1, m2, _⟩ := TF p tp
  have := ex_pos m1
  rw [ex_end m1, ex_eq m1]
  omega
theorem fr_ch (TF : fr_T K nd T) {p j : Nat} (tp : T p) (hj : j < nd p) : T (ex_pt nd p j) ∧ p + j + 1 ≤ ex_pt nd p j ∧ ex_pt nd p j < ex_e nd p ∧ ex_e nd (ex_pt nd p j) ≤ ex_e nd p ∧ ex_pt nd p j < ex_e nd (ex_pt nd p j) ∧ ex_pt nd p j / 32 = p / 32 := by
  obtain ⟨_, _, m, m1, m2, m3⟩ := TF p tp
  obtain ⟨a, b, m', c, e⟩ := ex_part m1 hj
  have := ex_pos c
  rw [ex_eq c, ex_eq m1]
  exact ⟨m3 _ (by omega) b, a, b, e, by omega, by omega⟩
theorem fr_cpt {k : Int32} {ph : Nat} (h : ph ≠ 100) : fr_c k ph ≤ fr_pt k ph := by
  unfold fr_c fr_pt
  rw [if_neg h]
  split
  · omega
  · split
    · rename_i z
      split
      · omega
      · split <;> omega
    · rename_i z
      rw [if_neg (fun q => z q.1)]
      exact Nat.le_refl _
/-- where frame p stands -/
theorem fr_pos (TF : fr_T K nd T) (S : fr_S K nd T fa ph bs ow gg un rt d w) : ∀ p, p ≤ d → ∀ t i, (p = d → i = w - 1) → (p < d → i = ow p) → fr_lo ph ow un p i → fr_lt K nd fa ph rt p t i → T t →
    i < w ∧ un i ≤ p ∧ rt i ≤ t ∧ t < ex_e nd (rt i) ∧ ex_e nd t ≤ ex_e nd (rt i) ∧ t / 32 = rt i / 32 ∧ p - un i ≤ t - rt i ∧ un i ≤ 32 * i ∧ bs p ≤ 32 * i + (t - rt i) := by
  obtain ⟨w1, w12, u0, b0, F, top, tr, act⟩ := S
  intro p
  induction p with
  | zero =>
    intro hp t i hd hl lo lt tt
    have e := lo.1 rfl
    have et := lt.1 rfl
    subst e
    subst et
    have := fr_en TF tt
    refine ⟨by omega, by omega, by omega, by omega, by omega, rfl, by omega, by omega, by omega⟩
  | succ q ih =>
    intro hp t i hd hl lo lt tt
    obtain ⟨f1, f2, f3, f4, f5, f6, _⟩ := F q (by omega)
    obtain ⟨g1, g2, g3, g4, g5, g6, g7, g8, g9⟩ := ih (by omega) (fa q) (ow q) (fun e => by omega) (fun _ => rfl) f3 f4 f1
    have hen := fr_en TF f1
    have hrt := fr_en TF (tr (ow q) g1)
    by_cases z : ph q = 100
    · obtain ⟨e1, e2⟩ := (lo.2 q rfl).1 z
      have et := (lt.2 q rfl).1 z
      have c0 : fr_c (K (fa q)) (ph q) = 0 := by unfold fr_c; rw [if_pos z]
      rw [c0] at f6
      have hi : i < w := by
        rcases Nat.lt_or_ge (q + 1) d with z2 | z2
        · rw [hl z2]; exact (F (q + 1) z2).2.1
        · rw [hd (by omega)]; omega
      subst et
      have h2 := fr_en TF tt
      refine ⟨hi, by omega, by omega, by omega, by omega, rfl, by omega, by omega, by omega⟩
    · have e1 := (lo.2 q rfl).2 z
      obtain ⟨l1, l2⟩ := (lt.2 q rfl).2 z
      obtain ⟨c1, c2, c3, c4, c5, c6⟩ := fr_ch TF f1 l1
      have cp := fr_cpt (k := K (fa q)) z
      subst e1
      rw [← l2] at c1 c2 c3 c4 c5 c6
      refine ⟨g1, by omega, by omega, by omega, by omega, by omega, by omega, by omega, by omega⟩
/-- there is room -/
theorem fr_room (TF : fr_T K nd T) (S : fr_S K nd T fa ph bs ow gg un rt d w) {t : Nat} (lt : fr_lt K nd fa ph rt d t (w - 1)) (tt : T t) : d ≤ 383 ∧ bs d ≤ 383 := by
  have h := fr_pos TF S d (Nat.le_refl _) t (w - 1) (fun _ => rfl) (fun z => by omega) S.2.2.2.2.2.1 lt tt
  obtain ⟨g1, g2, g3, g4, g5, g6, g7, g8, g9⟩ := h
  have w12 := S.2.1
  have := fr_en TF (S.2.2.2.2.2.2.1 (w - 1) g1)
  omega
theorem fr_xle : ∀ p, fr_x K fa ph p ≤ p + 1 ∧ 1 ≤ fr_x K fa ph p
  | 0 => ⟨Nat.le_refl _, Nat.le_refl _⟩
  | p + 1 => by
    have := fr_xle p
    have h := ct_ble (¬ fr_tail (K (fa p)) (ph p))
    show fr_x K fa ph p + _ ≤ _ ∧ 1 ≤ fr_x K fa ph p + _
    omega
theorem fr_xmono {q : Nat} : ∀ {p : Nat}, q ≤ p → fr_x K fa ph q ≤ fr_x K fa ph p
  | 0, h => by rw [show q = 0 by omega]; exact Nat.le_refl _
  | p + 1, h => by
    by_cases e : q = p + 1
    · rw [e]; exact Nat.le_refl _
    · have := fr_xmono (q := q) (p := p) (by omega)
      show _ ≤ fr_x K fa ph p + _
      omega
theorem fr_xc {fa' ph' : Nat → Nat} : ∀ {p : Nat}, (∀ q, q < p → fa' q = fa q ∧ ph' q = ph q) → fr_x K fa' ph' p = fr_x K fa ph p
  | 0, _ => rfl
  | p + 1, h => by
    show fr_x K fa' ph' p + ct_b _ = fr_x K fa ph p + ct_b _
    rw [fr_xc (fun q hq => h q (by omega)), (h p (by omega)).1, (h p (by omega)).2]
/-- only what lies below counts -/
theorem fr_Fc {fa' ph' bs' ow' gg' un' rt' : Nat → Nat} {w' p : Nat} (F : fr_F K nd T fa ph bs ow gg un rt w p) (hw : ow p < w') (h : ∀ q, q ≤ p → fa' q = fa q ∧ ph' q = ph q ∧ bs' q = bs q ∧ ow' q = ow q ∧ (K (fa q) = 27 → ph q = 2 → gg' q = gg q)) (hb : bs' (p + 1) = bs (p + 1)) (hu : ∀ i, i < w → un' i = un i ∧ rt' i = rt i) : fr_F K nd T fa' ph' bs' ow' gg' un' rt' w' p := by
  obtain ⟨f1, f2, f3, f4, f5, f6, f7⟩ := F
  obtain ⟨a1, a2, a3, a4, a5⟩ := h p (Nat.le_refl _)
  unfold fr_F
  rw [a1, a2, a3, a4, hb]
  refine ⟨f1, hw, ⟨f3.1, fun q e => ?_⟩, ⟨fun e => ?_, fun q e => ?_⟩, f5, f6, fun z1 z2 => ?_⟩
  · obtain ⟨b1, b2, b3, b4, _⟩ := h q (by omega)
    rw [b2, b4]
    refine ⟨fun z => ⟨((f3.2 q e).1 z).1, ?_⟩, (f3.2 q e).2⟩
    rw [(hu (ow p) f2).1]; exact ((f3.2 q e).1 z).2
  · have : ow p = 0 := f3.1 e
    rw [(hu 0 (by omega)).2]; exact f4.1 e
  · obtain ⟨b1, b2, b3, b4, _⟩ := h q (by omega)
    rw [b1, b2]
    refine ⟨fun z => ?_, (f4.2 q e).2⟩
    rw [(hu (ow p) f2).2]; exact (f4.2 q e).1 z
  · rw [a5 z1 z2]; exact f7 z1 z2
end
