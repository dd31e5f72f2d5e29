/-! marking with a list of what is still to be followed: mk the marks, td the list, its entries below t -/
def gm_I (NN : Nat) (mk td : Nat → Int32) (t : Nat) : Prop :=
  (∀ n, n < NN → mk n = 0 ∨ mk n = 1) ∧ (∀ i, i < t → ∃ n, n < NN ∧ td i = nI n ∧ mk n = 1) ∧ t ≤ ct_n (fun n => mk n = 1) NN
def gm_G (NN : Nat) (N : Nat → Prop) (mk td : Nat → Int32) (t : Nat) (mk' td' : Nat → Int32) (t' : Nat) : Prop :=
  gm_I NN mk' td' t' ∧ (∀ n, n < NN → (mk' n = 1 ↔ mk n = 1 ∨ N n)) ∧ t ≤ t' ∧ (∀ i, i < t → td' i = td i) ∧
  (∀ n, n < NN → mk' n = 1 → mk n = 1 ∨ ∃ i, t ≤ i ∧ i < t' ∧ td' i = nI n) ∧ t' + ct_n (fun n => mk n = 1) NN = t + ct_n (fun n => mk' n = 1) NN
theorem gm_refl {NN : Nat} {N : Nat → Prop} {mk td : Nat → Int32} {t : Nat} (h : gm_I NN mk td t) (hN : ∀ n, n < NN → N n → mk n = 1) : gm_G NN N mk td t mk td t :=
  ⟨h, fun n hn => ⟨Or.inl, fun z => z.elim id (hN n hn)⟩, Nat.le_refl _, fun _ _ => rfl, fun _ _ z => Or.inl z, rfl⟩
theorem gm_trans {NN : Nat} {N1 N2 : Nat → Prop} {mk td mk1 td1 mk2 td2 : Nat → Int32} {t t1 t2 : Nat} (h : gm_G NN N1 mk td t mk1 td1 t1) (g : gm_G NN N2 mk1 td1 t1 mk2 td2 t2) : gm_G NN (fun n => N1 n ∨ N2 n) mk td t mk2 td2 t2 := by
  obtain ⟨_, a2, a3, a4, a5, a6⟩ := h
  obtain ⟨b1, b2, b3, b4, b5, b6⟩ := g
  refine ⟨b1, fun n hn => ?_, Nat.le_trans a3 b3, fun i hi => (b4 i (by omega)).trans (a4 i hi), fun n hn z => ?_, by omega⟩
  · rw [b2 n hn, a2 n hn]
    exact ⟨fun z => z.elim (fun y => y.elim Or.inl (fun w => Or.inr (Or.inl w))) (fun y => Or.inr (Or.inr y)), fun z => z.elim (fun y => Or.inl (Or.inl y)) (fun y => y.elim (fun w => Or.inl (Or.inr w)) Or.inr)⟩
  · rcases b5 n hn z with y | ⟨i, i1, i2, i3⟩
    · rcases a5 n hn y with w | ⟨i, i1, i2, i3⟩
      · exact Or.inl w
      · exact Or.inr ⟨i, i1, by omega, (b4 i i2).trans i3⟩
    · exact Or.inr ⟨i, by omega, i2, i3⟩
theorem gm_cong {NN : Nat} {N N' : Nat → Prop} {mk td mk' td' : Nat → Int32} {t t' : Nat} (h : gm_G NN N mk td t mk' td' t') (e : ∀ n, n < NN → (N n ↔ N' n)) : gm_G NN N' mk td t mk' td' t' :=
  ⟨h.1, fun n hn => by rw [h.2.1 n hn, e n hn], h.2.2⟩
theorem gm_push {NN : Nat} {mk td : Nat → Int32} {t n : Nat} (h : gm_I NN mk td t) (hn : n < NN) (h0 : ¬ mk n = 1) : t < NN ∧ gm_G NN (fun k => k = n) mk td t (upd mk n 1) (upd td t (nI n)) (t + 1) := by
  have e : ∀ k, (upd mk n 1 k = 1 ↔ (mk k = 1 ∨ k = n)) := fun k => by
    by_cases z : k = n
    · subst z; rw [pk_us]; exact ⟨fun _ => Or.inr rfl, fun _ => rfl⟩
    · rw [pk_un z]; exact ⟨Or.inl, fun y => y.elim id (fun w => absurd w z)⟩
  have c : ct_n (fun k => upd mk n 1 k = 1) NN = ct_n (fun k => mk k = 1) NN + 1 := by
    rw [ct_eq (Q := fun k => mk k = 1 ∨ k = n) (fun k _ => e k)]
    exact ct_add (P := fun k => mk k = 1) h0 hn
  have l := ct_le (fun k => upd mk n 1 k = 1) NN
  have l3 := h.2.2
  refine ⟨by omega, ⟨fun k hk => ?_, fun i hi => ?_, by omega⟩, fun k _ => e k, by omega, fun i hi => pk_un (by omega), fun k hk z => ?_, by omega⟩
  · by_cases z : k = n
    · subst z; rw [pk_us]; exact Or.inr rfl
    · rw [pk_un z]; exact h.1 k hk
  · by_cases z : i = t
    · subst z; exact ⟨n, hn, pk_us, pk_us⟩
    · obtain ⟨m, m1, m2, m3⟩ := h.2.1 i (by omega)
      exact ⟨m, m1, by rw [pk_un z]; exact m2, (e m).mpr (Or.inl m3)⟩
  · rcases (e k).mp z with y | y
    · exact Or.inl y
    · subst y; exact Or.inr ⟨t, by omega, by omega, pk_us⟩
/-- every mark is followed already, or stands among the entries from lo to t -/
def gm_F (NN : Nat) (E : Nat → Nat → Prop) (mk td : Nat → Int32) (lo t : Nat) : Prop :=
  ∀ m, m < NN → mk m = 1 → (∃ i, lo ≤ i ∧ i < t ∧ td i = nI m) ∨ (∀ k, k < NN → E m k → mk k = 1)
theorem gm_ext {NN : Nat} {N : Nat → Prop} {E : Nat → Nat → Prop} {mk td mk' td' : Nat → Int32} {lo t t' : Nat} (h : gm_G NN N mk td t mk' td' t') (hl : lo ≤ t) (f : gm_F NN E mk td lo t) : gm_F NN E mk' td' lo t' := by
  obtain ⟨_, a2, a3, a4, a5, _⟩ := h
  intro m hm z
  rcases a5 m hm z with y | ⟨i, i1, i2, i3⟩
  · rcases f m hm y with ⟨i, i1, i2, i3⟩ | w
    · exact Or.inl ⟨i, i1, by omega, (a4 i i2).trans i3⟩
    · exact Or.inr fun k hk e => (a2 k hk).mpr (Or.inl (w k hk e))
  · exact Or.inl ⟨i, by omega, i2, i3⟩
/-- following the last entry (a stack) -/
theorem gm_popY {NN : Nat} {E : Nat → Nat → Prop} {mk td mk' td' : Nat → Int32} {t t' n : Nat} (hNN : NN < 2 ^ 31) (hn : n < NN) (hi : td t = nI n) (f : gm_F NN E mk td 0 (t + 1)) (h : gm_G NN (E n) mk td t mk' td' t') : gm_F NN E mk' td' 0 t' := by
  obtain ⟨_, a2, a3, a4, a5, _⟩ := h
  intro m hm z
  rcases a5 m hm z with y | ⟨i, i1, i2, i3⟩
  · rcases f m hm y with ⟨i, i1, i2, i3⟩ | w
    · by_cases q : i = t
      · subst q
        have e : m = n := (nI_eq (by omega) (by omega)).mp (i3.symm.trans hi)
        subst e
        exact Or.inr fun k hk e => (a2 k hk).mpr (Or.inr e)
      · exact Or.inl ⟨i, by omega, by omega, (a4 i (by omega)).trans i3⟩
    · exact Or.inr fun k hk e => (a2 k hk).mpr (Or.inl (w k hk e))
  · exact Or.inl ⟨i, by omega, i2, i3⟩
/-- following the first entry (a queue) -/
theorem gm_popX {NN : Nat} {E : Nat → Nat → Prop} {mk td mk' td' : Nat → Int32} {lo t t' n : Nat} (hNN : NN < 2 ^ 31) (hn : n < NN) (hl : lo < t) (hi : td lo = nI n) (f : gm_F NN E mk td lo t) (h : gm_G NN (E n) mk td t mk' td' t') : gm_F NN E mk' td' (lo + 1) t' := by
  obtain ⟨_, a2, a3, a4, a5, _⟩ := h
  intro m hm z
  rcases a5 m hm z with y | ⟨i, i1, i2, i3⟩
  · rcases f m hm y with ⟨i, i1, i2, i3⟩ | w
    · by_cases q : i = lo
      · subst q
        have e : m = n := (nI_eq (by omega) (by omega)).mp (i3.symm.trans hi)
        subst e
        exact Or.inr fun k hk e => (a2 k hk).mpr (Or.inr e)
      · exact Or.inl ⟨i, by omega, by omega, (a4 i (by omega)).trans i3⟩
    · exact Or.inr fun k hk e => (a2 k hk).mpr (Or.inl (w k hk e))
  · exact Or.inl ⟨i, by omega, i2, i3⟩
/-- at the end the marks are the least closed set -/
theorem gm_done {NN : Nat} {R : Nat → Prop} {E : Nat → Nat → Prop} {mk td : Nat → Int32} {lo t : Nat} (hR : ∀ n, R n → n < NN ∧ mk n = 1) (hE : ∀ m k, m < NN → E m k → k < NN) (hs : ∀ n, n < NN → mk n = 1 → cl_r R E n) (f : gm_F NN E mk td lo t) (hl : t ≤ lo) : ∀ n, n < NN → (mk n = 1 ↔ cl_r R E n) := fun n hn =>
  ⟨hs n hn, fun c => (cl_min c (fun n => n < NN ∧ mk n = 1) hR (fun m k hm e => by
    rcases f m hm.1 hm.2 with ⟨i, i1, i2, _⟩ | w
    · omega
    · exact ⟨hE m k hm.1 e, w k (hE m k hm.1 e) e⟩)).2⟩
theorem gm_drop {NN : Nat} {mk td : Nat → Int32} {t : Nat} (h : gm_I NN mk td (t + 1)) : gm_I NN mk td t :=
  ⟨h.1, fun i hi => h.2.1 i (by omega), by have := h.2.2; omega⟩
/-- a loop that marks the sets N i0, N (i0 + 1) .. one after the other -/
theorem gm_loop {NN : Nat} (W : Nat → Nat → (Nat → Int32) → (Nat → Int32) → Nat → Prop) (N : Nat → Nat → Prop) (e i0 : Nat) {mk0 td0 : Nat → Int32} {t0 : Nat} (h0 : gm_I NN mk0 td0 t0) (hi : i0 ≤ e)
    (hs : ∀ f i mk td t, i0 ≤ i → i < e → gm_I NN mk td t → (∀ mk' td' t', gm_G NN (N i) mk td t mk' td' t' → W f (i + 1) mk' td' t') → W (f + 1) i mk td t)
    (hx : ∀ f mk td t, gm_G NN (fun n => ∃ k, i0 ≤ k ∧ k < e ∧ N k n) mk0 td0 t0 mk td t → W (f + 1) e mk td t) : ∀ f, e - i0 < f → W f i0 mk0 td0 t0 := by
  have key : ∀ d i mk td t, i + d = e → i0 ≤ i → gm_G NN (fun n => ∃ k, i0 ≤ k ∧ k < i ∧ N k n) mk0 td0 t0 mk td t → ∀ f, d < f → W f i mk td t := by
    intro d
    induction d with
    | zero =>
      intro i mk td t e1 e2 g f hf
      obtain ⟨f', rfl⟩ : ∃ f', f = f' + 1 := ⟨f - 1, by omega⟩
      have e3 : i = e := by omega
      subst e3
      exact hx f' mk td t g
    | succ d ih =>
      intro i mk td t e1 e2 g f hf
      obtain ⟨f', rfl⟩ : ∃ f', f = f' + 1 := ⟨f - 1, by omega⟩
      refine hs f' i mk td t e2 (by omega) g.1 fun mk' td' t' g' => ih (i + 1) mk' td' t' (by omega) (by omega) (gm_cong (gm_trans g g') fun n _ => ?_) f' (by omega)
      exact ⟨fun z => z.elim (fun ⟨k, a, b, c⟩ => ⟨k, a, by omega, c⟩) (fun c => ⟨i, e2, by omega, c⟩), fun ⟨k, a, b, c⟩ => by
        by_cases q : k = i
        · subst q; exact Or.inr c
        · exact Or.inl ⟨k, a, by omega, c⟩⟩
  exact fun f hf => key (e - i0) i0 mk0 td0 t0 (by omega) (Nat.le_refl _) (gm_refl h0 fun n _ ⟨k, a, b, _⟩ => by omega) f hf
theorem gm_start (NN : Nat) {mk td : Nat → Int32} (h : ∀ n, n < NN → mk n = 0) : gm_I NN mk td 0 :=
  ⟨fun n hn => Or.inl (h n hn), fun i hi => by omega, Nat.zero_le _⟩
