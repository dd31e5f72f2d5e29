/-! counting below a bound -/
noncomputable def ct_b (P : Prop) : Nat := @ite Nat P (Classical.propDecidable P) 1 0
theorem ct_bt {P : Prop} (h : P) : ct_b P = 1 := by unfold ct_b; rw [if_pos h]
theorem ct_bf {P : Prop} (h : ¬ P) : ct_b P = 0 := by unfold ct_b; rw [if_neg h]
theorem ct_ble (P : Prop) : ct_b P ≤ 1 := by
  rcases Classical.em P with h | h
  · rw [ct_bt h]; omega
  · rw [ct_bf h]; omega
theorem ct_bm {P Q : Prop} (h : P → Q) : ct_b P ≤ ct_b Q := by
  rcases Classical.em P with hp | hp
  · rw [ct_bt hp, ct_bt (h hp)]; omega
  · rw [ct_bf hp]; omega
noncomputable def ct_n (P : Nat → Prop) : Nat → Nat
  | 0 => 0
  | k + 1 => ct_n P k + ct_b (P k)
theorem ct_mono {P Q : Nat → Prop} : ∀ {N : Nat}, (∀ k, k < N → P k → Q k) → ct_n P N ≤ ct_n Q N
  | 0, _ => Nat.le_refl _
  | N + 1, h => by
    have a := ct_mono (P := P) (Q := Q) (N := N) (fun k hk => h k (by omega))
    have b := ct_bm (h N (by omega))
    simp only [ct_n]; omega
theorem ct_le (P : Nat → Prop) : ∀ N, ct_n P N ≤ N
  | 0 => Nat.le_refl _
  | N + 1 => by have := ct_le P N; have := ct_ble (P N); simp only [ct_n]; omega
theorem ct_eq {P Q : Nat → Prop} {N : Nat} (h : ∀ k, k < N → (P k ↔ Q k)) : ct_n P N = ct_n Q N :=
  Nat.le_antisymm (ct_mono fun k hk => (h k hk).mp) (ct_mono fun k hk => (h k hk).mpr)
theorem ct_add {P : Nat → Prop} {a : Nat} (hp : ¬ P a) : ∀ {N : Nat}, a < N → ct_n (fun k => P k ∨ k = a) N = ct_n P N + 1
  | 0, h => by omega
  | N + 1, h => by
    simp only [ct_n]
    rcases Nat.lt_or_ge a N with z | z
    · rw [ct_add hp z]
      have : ct_b (P N ∨ N = a) = ct_b (P N) := Nat.le_antisymm (ct_bm fun q => q.elim id (fun e => by omega)) (ct_bm Or.inl)
      omega
    · have e : a = N := by omega
      subst e
      rw [ct_eq (P := fun k => P k ∨ k = a) (Q := P) (fun k hk => ⟨fun q => q.elim id (fun e => by omega), Or.inl⟩), ct_bt (Or.inr rfl), ct_bf hp]
theorem ct_out {P : Nat → Prop} {a N : Nat} (h : N ≤ a) : ct_n (fun k => P k ∨ k = a) N = ct_n P N :=
  ct_eq fun k hk => ⟨fun q => q.elim id (fun e => by omega), Or.inl⟩
theorem ct_rem {Q : Nat → Prop} {a : Nat} (hq : Q a) : ∀ {M : Nat}, a < M → ct_n Q M = ct_n (fun j => Q j ∧ j ≠ a) M + 1
  | 0, h => by omega
  | M + 1, h => by
    simp only [ct_n]
    rcases Nat.lt_or_ge a M with z | z
    · have e : ct_b (Q M ∧ M ≠ a) = ct_b (Q M) := Nat.le_antisymm (ct_bm fun q => q.1) (ct_bm fun q => ⟨q, by omega⟩)
      rw [ct_rem hq z, e]; omega
    · have e : a = M := by omega
      subst e
      have e2 : ct_b (Q a ∧ a ≠ a) = 0 := ct_bf fun q => q.2 rfl
      have e3 : ct_n (fun j => Q j ∧ j ≠ a) a = ct_n Q a := ct_eq fun k hk => ⟨fun q => q.1, fun q => ⟨q, by omega⟩⟩
      rw [e2, e3, ct_bt hq]
theorem ct_inj {P : Nat → Prop} (f : Nat → Nat) : ∀ {N : Nat} {Q : Nat → Prop} {M : Nat}, (∀ i, i < N → P i → f i < M ∧ Q (f i)) → (∀ i j, i < N → j < N → P i → P j → f i = f j → i = j) → ct_n P N ≤ ct_n Q M
  | 0, _, _, _, _ => Nat.zero_le _
  | N + 1, Q, M, h1, h2 => by
    simp only [ct_n]
    rcases Classical.em (P N) with z | z
    · have a := h1 N (by omega) z
      rw [ct_bt z, ct_rem a.2 a.1]
      have := ct_inj (P := P) f (N := N) (Q := fun j => Q j ∧ j ≠ f N) (M := M) (fun i hi p => ⟨(h1 i (by omega) p).1, (h1 i (by omega) p).2, fun e => absurd (h2 i N (by omega) (by omega) p z e) (by omega)⟩) (fun i j hi hj => h2 i j (by omega) (by omega))
      omega
    · rw [ct_bf z]
      have := ct_inj (P := P) f (N := N) (Q := Q) (M := M) (fun i hi => h1 i (by omega)) (fun i j hi hj => h2 i j (by omega) (by omega))
      omega
theorem ct_all {P : Nat → Prop} : ∀ {N : Nat}, (∀ k, k < N → P k) → ct_n P N = N
  | 0, _ => rfl
  | N + 1, h => by simp only [ct_n]; rw [ct_all (N := N) (fun k hk => h k (by omega)), ct_bt (h N (by omega))]
theorem ct_none {P : Nat → Prop} : ∀ {N : Nat}, (∀ k, k < N → ¬ P k) → ct_n P N = 0
  | 0, _ => rfl
  | N + 1, h => by simp only [ct_n]; rw [ct_none (N := N) (fun k hk => h k (by omega)), ct_bf (h N (by omega))]
theorem ct_free {P : Nat → Prop} {N : Nat} (h : ct_n P N < N) : ∃ a, a < N ∧ ¬ P a :=
  Classical.byContradiction fun z => by
    have : ct_n P N = N := ct_all fun k hk => Classical.byContradiction fun q => z ⟨k, hk, q⟩
    omega
theorem ct_list (N : Nat) : ∀ L : List Nat, ct_n (fun k => k ∈ L) N ≤ L.length
  | [] => by
    rw [ct_none (P := fun k => k ∈ ([] : List Nat)) (fun k _ h => by cases h)]
    exact Nat.zero_le _
  | x :: L => by
    have ih := ct_list N L
    rcases Classical.em (x < N ∧ ¬ x ∈ L) with z | z
    · have a := ct_add (P := fun k => k ∈ L) z.2 z.1
      have m := ct_mono (P := fun k => k ∈ x :: L) (Q := fun k => k ∈ L ∨ k = x) (N := N) (fun k _ h => (List.mem_cons.mp h).elim Or.inr Or.inl)
      simp only [List.length_cons]; omega
    · have m := ct_mono (P := fun k => k ∈ x :: L) (Q := fun k => k ∈ L) (N := N) (fun k hk h => by
        rcases List.mem_cons.mp h with e | e
        · subst e; exact Classical.byContradiction fun q => z ⟨hk, q⟩
        · exact e)
      simp only [List.length_cons]; omega
theorem ct_pg (L : List Nat) {N : Nat} (h : L.length < N) : ∃ a, a < N ∧ ¬ a ∈ L :=
  ct_free (P := fun k => k ∈ L) (Nat.lt_of_le_of_lt (ct_list N L) h)
theorem ct_lst {P : Nat → Prop} (L : List Nat) {N : Nat} (h : ∀ a, a < N → P a → a ∈ L) (hl : L.length < N) : ∃ a, a < N ∧ ¬ P a := by
  obtain ⟨a, ha, hn⟩ := ct_pg L hl
  exact ⟨a, ha, fun z => hn (h a ha z)⟩
/-! the least set that holds the roots and is closed -/
def cl_r (R : Nat → Prop) (E : Nat → Nat → Prop) (n : Nat) : Prop := ∀ S : Nat → Prop, (∀ m, R m → S m) → (∀ m k, S m → E m k → S k) → S n
theorem cl_root {R : Nat → Prop} {E : Nat → Nat → Prop} {n : Nat} (h : R n) : cl_r R E n := fun _ h1 _ => h1 n h
theorem cl_step {R : Nat → Prop} {E : Nat → Nat → Prop} {m k : Nat} (h : cl_r R E m) (e : E m k) : cl_r R E k := fun S h1 h2 => h2 m k (h S h1 h2) e
theorem cl_min {R : Nat → Prop} {E : Nat → Nat → Prop} {n : Nat} (h : cl_r R E n) (S : Nat → Prop) (h1 : ∀ m, R m → S m) (h2 : ∀ m k, S m → E m k → S k) : S n := h S h1 h2
/-! expressions operator first: ex_s nd n m p: from p on, m expressions that are wanting are just n tokens -/
def ex_s (nd : Nat → Nat) : Nat → Nat → Nat → Prop
  | 0, m, _ => m = 0
  | n + 1, m, p => m ≠ 0 ∧ ex_s nd n (m - 1 + nd p) (p + 1)
theorem ex_u {nd : Nat → Nat} : ∀ {n n' m p : Nat}, ex_s nd n m p → ex_s nd n' m p → n = n'
  | 0, 0, _, _, _, _ => rfl
  | 0, _ + 1, _, _, h, h' => absurd h h'.1
  | _ + 1, 0, _, _, h, h' => absurd h' h.1
  | n + 1, n' + 1, _, _, h, h' => by rw [ex_u h.2 h'.2]
theorem ex_0 {nd : Nat → Nat} {n p : Nat} (h : ex_s nd n 0 p) : n = 0 := ex_u h rfl
theorem ex_split {nd : Nat → Nat} {b : Nat} : ∀ {n a p : Nat}, ex_s nd n (a + b) p → ∃ n1 n2, n = n1 + n2 ∧ ex_s nd n1 a p ∧ ex_s nd n2 b (p + n1)
  | n, 0, p, h => ⟨0, n, by omega, rfl, by rw [Nat.zero_add] at h; exact h⟩
  | 0, a + 1, p, h => by
    have : a + 1 + b = 0 := h
    omega
  | n + 1, a + 1, p, h => by
    have e : a + 1 + b - 1 + nd p = (a + nd p) + b := by omega
    have h2 := h.2
    rw [e] at h2
    obtain ⟨n1, n2, e1, s1, s2⟩ := ex_split h2
    refine ⟨n1 + 1, n2, by omega, ⟨by omega, ?_⟩, ?_⟩
    · rw [Nat.add_sub_cancel]; exact s1
    · rw [show p + (n1 + 1) = p + 1 + n1 by omega]; exact s2
theorem ex_join {nd : Nat → Nat} {b : Nat} : ∀ {n1 a p n2 : Nat}, ex_s nd n1 a p → ex_s nd n2 b (p + n1) → ex_s nd (n1 + n2) (a + b) p
  | 0, a, p, n2, h, h' => by
    have e : a = 0 := h
    subst e
    rw [Nat.zero_add, Nat.zero_add]
    exact h'
  | n1 + 1, a, p, n2, h, h' => by
    have h1 : a ≠ 0 := h.1
    rw [show n1 + 1 + n2 = (n1 + n2) + 1 by omega]
    refine ⟨by omega, ?_⟩
    have := ex_join (n2 := n2) (b := b) h.2 (by rw [show p + 1 + n1 = p + (n1 + 1) by omega]; exact h')
    rw [show a + b - 1 + nd p = a - 1 + nd p + b by omega]
    exact this
theorem ex_suf {nd : Nat → Nat} : ∀ {i n m p : Nat}, ex_s nd n m p → i < n → ∃ m', ex_s nd (n - i) (1 + m') (p + i)
  | 0, n, m, p, h, hi => by
    cases n with
    | zero => omega
    | succ n => exact ⟨m - 1, by rw [show 1 + (m - 1) = m by have := h.1; omega]; exact h⟩
  | i + 1, 0, _, _, _, hi => by omega
  | i + 1, n + 1, m, p, h, hi => by
    obtain ⟨m', h'⟩ := ex_suf h.2 (show i < n by omega)
    exact ⟨m', by rw [show n + 1 - (i + 1) = n - i by omega, show p + (i + 1) = p + 1 + i by omega]; exact h'⟩
theorem ex_in {nd : Nat → Nat} {i n m p : Nat} (h : ex_s nd n m p) (hi : i < n) : ∃ n1, n1 ≤ n - i ∧ 1 ≤ n1 ∧ ex_s nd n1 1 (p + i) := by
  obtain ⟨m', h'⟩ := ex_suf h hi
  obtain ⟨n1, n2, e, s1, s2⟩ := ex_split h'
  refine ⟨n1, by omega, ?_, s1⟩
  cases n1 with
  | zero => exact absurd (show (1 : Nat) = 0 from s1) (by decide)
  | succ n => omega
theorem ex_cong {nd nd' : Nat → Nat} : ∀ {n m p : Nat}, (∀ i, i < n → nd (p + i) = nd' (p + i)) → ex_s nd n m p → ex_s nd' n m p
  | 0, _, _, _, h => h
  | n + 1, m, p, e, h => by
    refine ⟨h.1, ?_⟩
    rw [← show nd p = nd' p from e 0 (by omega)]
    exact ex_cong (fun i hi => by rw [show p + 1 + i = p + (i + 1) by omega]; exact e (i + 1) (by omega)) h.2
theorem ex_shift {nd nd' : Nat → Nat} {q : Nat} : ∀ {n m p : Nat}, (∀ i, i < n → nd (p + i) = nd' (q + p + i)) → ex_s nd n m p → ex_s nd' n m (q + p)
  | 0, _, _, _, h => h
  | n + 1, m, p, e, h => by
    refine ⟨h.1, ?_⟩
    rw [← show nd p = nd' (q + p) from e 0 (by omega)]
    exact ex_shift (q := q) (p := p + 1) (fun i hi => by rw [show q + (p + 1) + i = q + p + (i + 1) by omega, show p + 1 + i = p + (i + 1) by omega]; exact e (i + 1) (by omega)) h.2
noncomputable def ex_e (nd : Nat → Nat) (p : Nat) : Nat := p + Classical.epsilon (fun n => ex_s nd n 1 p)
theorem ex_eq {nd : Nat → Nat} {n p : Nat} (h : ex_s nd n 1 p) : ex_e nd p = p + n := by
  have a : ex_s nd (Classical.epsilon (fun n => ex_s nd n 1 p)) 1 p := Classical.epsilon_spec (p := fun n => ex_s nd n 1 p) ⟨n, h⟩
  unfold ex_e
  rw [ex_u a h]
noncomputable def ex_pt (nd : Nat → Nat) (k : Nat) : Nat → Nat
  | 0 => k + 1
  | j + 1 => ex_e nd (ex_pt nd k j)
theorem ex_pos {nd : Nat → Nat} {n p : Nat} (h : ex_s nd n 1 p) : 1 ≤ n := by
  cases n with
  | zero => exact absurd (show (1 : Nat) = 0 from h) (by decide)
  | succ n => omega
theorem ex_hd {nd : Nat → Nat} {n p : Nat} (h : ex_s nd n 1 p) : ex_s nd (n - 1) (nd p) (p + 1) := by
  cases n with
  | zero => exact absurd (show (1 : Nat) = 0 from h) (by decide)
  | succ n => have := h.2; rw [show 1 - 1 + nd p = nd p by omega] at this; exact this
theorem ex_parts {nd : Nat → Nat} {n k : Nat} (h : ex_s nd n 1 k) : ∀ j, j ≤ nd k → ∃ i, j + 1 ≤ i ∧ i ≤ n ∧ ex_pt nd k j = k + i ∧ ex_s nd (n - i) (nd k - j) (k + i)
  | 0, _ => ⟨1, by omega, ex_pos h, rfl, ex_hd h⟩
  | j + 1, hj => by
    obtain ⟨i, h1, h2, h3, h4⟩ := ex_parts h j (by omega)
    rw [show nd k - j = 1 + (nd k - (j + 1)) by omega] at h4
    obtain ⟨n1, n2, e, s1, s2⟩ := ex_split h4
    have hp := ex_pos s1
    refine ⟨i + n1, by omega, by omega, ?_, ?_⟩
    · show ex_e nd (ex_pt nd k j) = _
      rw [h3, ex_eq s1]; omega
    · rw [show n - (i + n1) = n2 by omega, show k + (i + n1) = k + i + n1 by omega]; exact s2
theorem ex_end {nd : Nat → Nat} {n k : Nat} (h : ex_s nd n 1 k) : ex_pt nd k (nd k) = ex_e nd k := by
  obtain ⟨i, h1, h2, h3, h4⟩ := ex_parts h (nd k) (Nat.le_refl _)
  rw [Nat.sub_self] at h4
  have := ex_0 h4
  rw [h3, ex_eq h]; omega
theorem ex_part {nd : Nat → Nat} {n k j : Nat} (h : ex_s nd n 1 k) (hj : j < nd k) : k + j + 1 ≤ ex_pt nd k j ∧ ex_pt nd k j < k + n ∧ ∃ m, ex_s nd m 1 (ex_pt nd k j) ∧ ex_pt nd k j + m ≤ k + n := by
  obtain ⟨i, h1, h2, h3, h4⟩ := ex_parts h j (by omega)
  rw [show nd k - j = 1 + (nd k - (j + 1)) by omega] at h4
  obtain ⟨n1, n2, e, s1, s2⟩ := ex_split h4
  have hp := ex_pos s1
  refine ⟨by omega, by omega, n1, ?_, by omega⟩
  rw [h3]; exact s1
theorem ex_ptle {nd : Nat → Nat} {n k j : Nat} (h : ex_s nd n 1 k) (hj : j ≤ nd k) : k + j + 1 ≤ ex_pt nd k j ∧ ex_pt nd k j ≤ k + n := by
  obtain ⟨i, h1, h2, h3, h4⟩ := ex_parts h j hj
  omega
theorem ex_nest {nd : Nat → Nat} {n j p : Nat} (h : ex_s nd n 1 j) (h1 : j ≤ p) (h2 : p < ex_e nd j) : ∃ m, ex_s nd m 1 p ∧ p + m ≤ j + n := by
  rw [ex_eq h] at h2
  obtain ⟨n1, a, b, c⟩ := ex_in (i := p - j) h (by omega)
  rw [show j + (p - j) = p by omega] at c
  exact ⟨n1, c, by omega⟩
theorem ex_eloc {nd nd' : Nat → Nat} {n p : Nat} (h : ex_s nd n 1 p) (e : ∀ q, p ≤ q → q < p + n → nd q = nd' q) : ex_e nd' p = ex_e nd p := by
  have h' : ex_s nd' n 1 p := ex_cong (fun i hi => e (p + i) (by omega) (by omega)) h
  rw [ex_eq h, ex_eq h']
