section
/-! rows pasted from the starting texts (kit/rows) -/
theorem pk_us {f : Nat → Int32} {k : Nat} {x : Int32} : upd f k x k = x := if_pos rfl
theorem pk_un {f : Nat → Int32} {k j : Nat} {x : Int32} (h : j ≠ k) : upd f k x j = f j := if_neg h
theorem pk_uLs {f : Nat → Int64} {k : Nat} {x : Int64} : vp_updL f k x k = x := if_pos rfl
theorem pk_uLn {f : Nat → Int64} {k j : Nat} {x : Int64} (h : j ≠ k) : vp_updL f k x j = f j := if_neg h
theorem pk_sub {a b : Nat} (h : b ≤ a) : nI a - nI b = nI (a - b) := by
  obtain ⟨c, rfl⟩ : ∃ c, a = c + b := ⟨a - b, by omega⟩
  rw [← nI_add, Int32.add_sub_cancel, Nat.add_sub_cancel]
theorem pk_m1 (n : Nat) : nI (n + 1) + (-1) = nI n := by
  rw [← nI_1, Int32.add_assoc, show (1 : Int32) + (-1) = 0 from rfl, Int32.add_zero]
theorem pk_mul (a b : Nat) : nI a * nI b = nI (a * b) := (Int32.ofNat_mul a b).symm
theorem pk_div {a d : Nat} (ha : a < 2 ^ 31) (h0 : 0 < d) (hd : d < 2 ^ 31) : nI a / nI d = nI (a / d) := by
  apply Int32.toInt_inj.mp
  rw [lg_idiv_nonneg (by rw [nI_toInt ha]; omega) (by rw [nI_toInt hd]; omega), nI_toInt ha, nI_toInt hd, nI_toInt (Nat.lt_of_le_of_lt (Nat.div_le_self a d) ha)]
  first | rfl | exact (Int.natCast_ediv _ _).symm
theorem pk_rem {a d : Nat} (ha : a < 2 ^ 31) (h0 : 0 < d) (hd : d < 2 ^ 31) : nI a - nI a / nI d * nI d = nI (a % d) := by
  rw [pk_div ha h0 hd, pk_mul, pk_sub (Nat.div_mul_le_self a d)]
  exact congrArg nI (by have := Nat.div_add_mod' a d; omega)
theorem pk_ix (x : Int32) {n : Nat} (hn : n < 2 ^ 31) : x < 0 ∨ nI n ≤ x ∨ ∃ j : Nat, j < n ∧ x = nI j := by
  by_cases h : x < 0
  · exact Or.inl h
  · obtain ⟨j, hj, rfl⟩ := nI_of h
    by_cases h2 : j < n
    · exact Or.inr (Or.inr ⟨j, h2, rfl⟩)
    · exact Or.inr (Or.inl (nI_le (by omega) hj))
theorem pk_le {x y : Int32} {A B : Prop} (a b : Nat) (f : a ≤ b → A) (g : b < a → B) (hx : x = nI a := by rfl) (hy : y = nI b := by rfl) (ha : a < 2 ^ 31 := by omega) (hb : b < 2 ^ 31 := by omega) : (x ≤ y → A) ∧ (¬ x ≤ y → B) := by
  subst hx hy
  rw [nI_leI ha hb]
  exact ⟨f, fun z => g (by omega)⟩
theorem pk_lt {x y : Int32} {A B : Prop} (a b : Nat) (f : a < b → A) (g : b ≤ a → B) (hx : x = nI a := by rfl) (hy : y = nI b := by rfl) (ha : a < 2 ^ 31 := by omega) (hb : b < 2 ^ 31 := by omega) : (x < y → A) ∧ (¬ x < y → B) := by
  subst hx hy
  rw [nI_ltI ha hb]
  exact ⟨f, fun z => g (by omega)⟩
theorem pk_eq {x y : Int32} {A B : Prop} (a b : Nat) (f : a = b → A) (g : a ≠ b → B) (hx : x = nI a := by rfl) (hy : y = nI b := by rfl) (ha : a < 2 ^ 31 := by omega) (hb : b < 2 ^ 31 := by omega) : (x = y → A) ∧ (¬ x = y → B) := by
  subst hx hy
  rw [nI_eq ha hb]
  exact ⟨f, g⟩
theorem pk_in {x : Int32} (n N : Nat) (h : n < N) (hx : x = nI n := by rfl) (hN : N < 2 ^ 31 := by omega) : vp_in x N := by
  subst hx
  exact vp_in_nI h hN
theorem pk_cl {x : Int32} (n : Nat) (hx : x = nI n := by rfl) (h : n < 2 ^ 31 := by omega) : x.toNatClampNeg = n := by
  subst hx
  exact nI_clamp h
theorem pk_tn {n : Nat} (h : n < 2 ^ 32) : (nI n).toBitVec.toNat = n := Nat.mod_eq_of_lt h
theorem pk_and (x : Int32) {m : Int32} (k : Nat) (hm : m.toBitVec.toNat = 2 ^ k - 1) : x &&& m = nI (x.toBitVec.toNat % 2 ^ k) := by
  apply Int32.toBitVec_inj.mp
  apply BitVec.eq_of_toNat_eq
  rw [Int32.toBitVec_and, BitVec.toNat_and, hm, Nat.and_two_pow_sub_one_eq_mod]
  show _ = (BitVec.ofNat 32 _).toNat
  rw [BitVec.toNat_ofNat]
  exact (Nat.mod_eq_of_lt (Nat.lt_of_le_of_lt (Nat.mod_le _ _) x.toBitVec.isLt)).symm
theorem pk_andN {n : Nat} (h : n < 2 ^ 32) {m : Int32} (k : Nat) (hm : m.toBitVec.toNat = 2 ^ k - 1) : nI n &&& m = nI (n % 2 ^ k) := by
  rw [pk_and _ k hm, pk_tn h]
theorem pk_shr (a s : Int32) (k : Nat) (hs : (s.toBitVec.smod 32).toNat = k) : (a >>> s).toInt = a.toInt >>> k := by
  show (a.toBitVec.sshiftRight (s.toBitVec.smod 32).toNat).toInt = _
  rw [hs, BitVec.toInt_sshiftRight]
  rfl
theorem pk_shrN {n : Nat} (h : n < 2 ^ 31) (s : Int32) (k : Nat) (hs : (s.toBitVec.smod 32).toNat = k) : nI n >>> s = nI (n / 2 ^ k) := by
  apply Int32.toInt_inj.mp
  have h2 : n / 2 ^ k ≤ n := Nat.div_le_self _ _
  rw [pk_shr _ _ k hs, nI_toInt h, nI_toInt (by omega), Int.shiftRight_eq_div_pow]
  rfl
theorem pk_lT {n : Nat} (h : n < 2 ^ 63) : (lN n).toInt = (n : Int) := lg_ofNat_toInt h
theorem pk_lLT {a b : Nat} (ha : a < 2 ^ 63) (hb : b < 2 ^ 63) : lN a < lN b ↔ a < b := by
  rw [Int64.lt_iff_toInt_lt, pk_lT ha, pk_lT hb]; omega
theorem pk_lLE {a b : Nat} (ha : a < 2 ^ 63) (hb : b < 2 ^ 63) : lN a ≤ lN b ↔ a ≤ b := by
  rw [Int64.le_iff_toInt_le, pk_lT ha, pk_lT hb]; omega
theorem pk_lEQ {a b : Nat} (ha : a < 2 ^ 63) (hb : b < 2 ^ 63) : lN a = lN b ↔ a = b := by
  rw [← Int64.toInt_inj, pk_lT ha, pk_lT hb]; omega
theorem pk_lOf {x : Int64} (h : ¬ x < 0) : ∃ k : Nat, k < 2 ^ 63 ∧ x = lN k := by
  rw [Int64.lt_iff_toInt_lt] at h
  have h0 : (0 : Int64).toInt = 0 := by decide
  have hx := Int64.toInt_lt x
  refine ⟨x.toInt.toNat, by omega, Int64.toInt_inj.mp ?_⟩
  rw [pk_lT (by omega)]
  omega
theorem pk_loop {σ : Type} (W : Nat → Nat → σ → Prop) (I : Nat → σ → Prop) (e i0 : Nat) (s : σ) (hi : i0 ≤ e) (h0 : I i0 s) (hx : ∀ n s, I e s → W (n + 1) e s)
    (hs : ∀ n i s, i < e → I i s → (∀ s', I (i + 1) s' → W n (i + 1) s') → W (n + 1) i s) : ∃ n, W n i0 s :=
  ⟨e + 1, loop_i W I e hx hs (e + 1) i0 s hi (by omega) h0⟩
theorem pk_loopD {σ : Type} (W : Nat → Nat → σ → Prop) (I : Nat → σ → Prop) (hx : ∀ n s, I 0 s → W (n + 1) 0 s)
    (hs : ∀ n i s, I (i + 1) s → (∀ s', I i s' → W n i s') → W (n + 1) (i + 1) s) : ∀ (e : Nat) (s : σ), I e s → W (e + 1) e s := by
  intro e
  induction e with
  | zero => exact fun s h => hx 0 s h
  | succ e ih => exact fun s h => hs (e + 1) e s h (fun s' h' => ih s' h')
theorem pk_least (P : Nat → Prop) (h : ∃ k, P k) : ∃ k, P k ∧ ∀ j, j < k → ¬ P j := by
  obtain ⟨k, hk⟩ := h
  induction k using Nat.strongRecOn with
  | ind k ih =>
    by_cases e : ∃ j, j < k ∧ P j
    · obtain ⟨j, hj, pj⟩ := e
      exact ih j hj pj
    · exact ⟨k, hk, fun j hj pj => e ⟨j, hj, pj⟩⟩
theorem wb_tb (n : Nat) : (lN n).toBitVec = BitVec.ofNat 64 n := rfl
theorem wb_inj {a b : Int64} (h : a.toBitVec = b.toBitVec) : a = b := Int64.toBitVec_inj.mp h
theorem wb_tn {n : Nat} (h : n < 2 ^ 64) : (lN n).toBitVec.toNat = n := by rw [wb_tb, BitVec.toNat_ofNat, Nat.mod_eq_of_lt h]
theorem wb_of (x : Int64) : ∃ n, n < 2 ^ 64 ∧ x = lN n := ⟨x.toBitVec.toNat, x.toBitVec.isLt, wb_inj (by rw [wb_tb]; simp)⟩
theorem wb_of32 (x : Int32) : ∃ n, n < 2 ^ 32 ∧ x = nI n := ⟨x.toBitVec.toNat, x.toBitVec.isLt, Int32.toBitVec_inj.mp (by show _ = BitVec.ofNat 32 _; simp)⟩
theorem wb_lt2 {a b : Nat} (h : a < b) : 2 ^ a < 2 ^ b := Nat.pow_lt_pow_right (by decide) h
theorem wb_and {a b : Nat} (ha : a < 2 ^ 64) (hb : b < 2 ^ 64) : lN a &&& lN b = lN (a &&& b) := by
  apply wb_inj
  rw [Int64.toBitVec_and, wb_tb, wb_tb, wb_tb]
  apply BitVec.eq_of_toNat_eq
  rw [BitVec.toNat_and, BitVec.toNat_ofNat, BitVec.toNat_ofNat, BitVec.toNat_ofNat, Nat.mod_eq_of_lt ha, Nat.mod_eq_of_lt hb, Nat.mod_eq_of_lt (Nat.and_lt_two_pow _ hb)]
theorem wb_mask {n k : Nat} (hn : n < 2 ^ 64) (hk : k < 64) : lN n &&& lN (2 ^ k - 1) = lN (n % 2 ^ k) := by
  rw [wb_and hn (by have := wb_lt2 hk; omega), Nat.and_two_pow_sub_one_eq_mod]
theorem pf_lI {a : Nat} (h : a < 2 ^ 63) : (lN a).toInt = (a : Int) := lg_ofNat_toInt h
theorem pf_shr {a d : Nat} {D : Int64} (hD : (D.toBitVec.smod 64).toNat = d) (h : a < 2 ^ 62) : lN a >>> D = lN (a / 2 ^ d) := by
  have hd : a / 2 ^ d ≤ a := Nat.div_le_self _ _
  apply Int64.toInt_inj.mp
  have e : (lN a >>> D).toInt = (lN a).toInt >>> d := by
    rw [← hD]
    exact BitVec.toInt_sshiftRight ..
  rw [e, Int.shiftRight_eq_div_pow, pf_lI (by omega), pf_lI (by omega)]
  rfl
end
section
/-! counting below a bound -/
noncomputable def ct_b (P : Prop) : Nat := @ite Nat P (Classical.propDecidable P) 1 0
theorem ct_bt {P : Prop} (h : P) : ct_b P = 1 := by unfold ct_b; rw [if_pos h]
theorem ct_bf {P : Prop} (h : ¬ P) : ct_b P = 0 := by unfold ct_b; rw [if_neg h]
theorem ct_ble (P : Prop) : ct_b P ≤ 1 := by
  rcases Classical.em P with h | h
  · rw [ct_bt h]; omega
  · rw [ct_bf h]; omega
theorem ct_bm {P Q : Prop} (h : P → Q) : ct_b P ≤ ct_b Q := by
  rcases Classical.em P with hp | hp
  · rw [ct_bt hp, ct_bt (h hp)]; omega
  · rw [ct_bf hp]; omega
noncomputable def ct_n (P : Nat → Prop) : Nat → Nat
  | 0 => 0
  | k + 1 => ct_n P k + ct_b (P k)
theorem ct_mono {P Q : Nat → Prop} : ∀ {N : Nat}, (∀ k, k < N → P k → Q k) → ct_n P N ≤ ct_n Q N
  | 0, _ => Nat.le_refl _
  | N + 1, h => by
    have a := ct_mono (P := P) (Q := Q) (N := N) (fun k hk => h k (by omega))
    have b := ct_bm (h N (by omega))
    simp only [ct_n]; omega
theorem ct_le (P : Nat → Prop) : ∀ N, ct_n P N ≤ N
  | 0 => Nat.le_refl _
  | N + 1 => by have := ct_le P N; have := ct_ble (P N); simp only [ct_n]; omega
theorem ct_eq {P Q : Nat → Prop} {N : Nat} (h : ∀ k, k < N → (P k ↔ Q k)) : ct_n P N = ct_n Q N :=
  Nat.le_antisymm (ct_mono fun k hk => (h k hk).mp) (ct_mono fun k hk => (h k hk).mpr)
theorem ct_add {P : Nat → Prop} {a : Nat} (hp : ¬ P a) : ∀ {N : Nat}, a < N → ct_n (fun k => P k ∨ k = a) N = ct_n P N + 1
  | 0, h => by omega
  | N + 1, h => by
    simp only [ct_n]
    rcases Nat.lt_or_ge a N with z | z
    · rw [ct_add hp z]
      have : ct_b (P N ∨ N = a) = ct_b (P N) := Nat.le_antisymm (ct_bm fun q => q.elim id (fun e => by omega)) (ct_bm Or.inl)
      omega
    · have e : a = N := by omega
      subst e
      rw [ct_eq (P := fun k => P k ∨ k = a) (Q := P) (fun k hk => ⟨fun q => q.elim id (fun e => by omega), Or.inl⟩), ct_bt (Or.inr rfl), ct_bf hp]
theorem ct_out {P : Nat → Prop} {a N : Nat} (h : N ≤ a) : ct_n (fun k => P k ∨ k = a) N = ct_n P N :=
  ct_eq fun k hk => ⟨fun q => q.elim id (fun e => by omega), Or.inl⟩
theorem ct_rem {Q : Nat → Prop} {a : Nat} (hq : Q a) : ∀ {M : Nat}, a < M → ct_n Q M = ct_n (fun j => Q j ∧ j ≠ a) M + 1
  | 0, h => by omega
  | M + 1, h => by
    simp only [ct_n]
    rcases Nat.lt_or_ge a M with z | z
    · have e : ct_b (Q M ∧ M ≠ a) = ct_b (Q M) := Nat.le_antisymm (ct_bm fun q => q.1) (ct_bm fun q => ⟨q, by omega⟩)
      rw [ct_rem hq z, e]; omega
    · have e : a = M := by omega
      subst e
      have e2 : ct_b (Q a ∧ a ≠ a) = 0 := ct_bf fun q => q.2 rfl
      have e3 : ct_n (fun j => Q j ∧ j ≠ a) a = ct_n Q a := ct_eq fun k hk => ⟨fun q => q.1, fun q => ⟨q, by omega⟩⟩
      rw [e2, e3, ct_bt hq]
theorem ct_inj {P : Nat → Prop} (f : Nat → Nat) : ∀ {N : Nat} {Q : Nat → Prop} {M : Nat}, (∀ i, i < N → P i → f i < M ∧ Q (f i)) → (∀ i j, i < N → j < N → P i → P j → f i = f j → i = j) → ct_n P N ≤ ct_n Q M
  | 0, _, _, _, _ => Nat.zero_le _
  | N + 1, Q, M, h1, h2 => by
    simp only [ct_n]
    rcases Classical.em (P N) with z | z
    · have a := h1 N (by omega) z
      rw [ct_bt z, ct_rem a.2 a.1]
      have := ct_inj (P := P) f (N := N) (Q := fun j => Q j ∧ j ≠ f N) (M := M) (fun i hi p => ⟨(h1 i (by omega) p).1, (h1 i (by omega) p).2, fun e => absurd (h2 i N (by omega) (by omega) p z e) (by omega)⟩) (fun i j hi hj => h2 i j (by omega) (by omega))
      omega
    · rw [ct_bf z]
      have := ct_inj (P := P) f (N := N) (Q := Q) (M := M) (fun i hi => h1 i (by omega)) (fun i j hi hj => h2 i j (by omega) (by omega))
      omega
theorem ct_all {P : Nat → Prop} : ∀ {N : Nat}, (∀ k, k < N → P k) → ct_n P N = N
  | 0, _ => rfl
  | N + 1, h => by simp only [ct_n]; rw [ct_all (N := N) (fun k hk => h k (by omega)), ct_bt (h N (by omega))]
theorem ct_none {P : Nat → Prop} : ∀ {N : Nat}, (∀ k, k < N → ¬ P k) → ct_n P N = 0
  | 0, _ => rfl
  | N + 1, h => by simp only [ct_n]; rw [ct_none (N := N) (fun k hk => h k (by omega)), ct_bf (h N (by omega))]
theorem ct_free {P : Nat → Prop} {N : Nat} (h : ct_n P N < N) : ∃ a, a < N ∧ ¬ P a :=
  Classical.byContradiction fun z => by
    have : ct_n P N = N := ct_all fun k hk => Classical.byContradiction fun q => z ⟨k, hk, q⟩
    omega
theorem ct_list (N : Nat) : ∀ L : List Nat, ct_n (fun k => k ∈ L) N ≤ L.length
  | [] => by
    rw [ct_none (P := fun k => k ∈ ([] : List Nat)) (fun k _ h => by cases h)]
    exact Nat.zero_le _
  | x :: L => by
    have ih := ct_list N L
    rcases Classical.em (x < N ∧ ¬ x ∈ L) with z | z
    · have a := ct_add (P := fun k => k ∈ L) z.2 z.1
      have m := ct_mono (P := fun k => k ∈ x :: L) (Q := fun k => k ∈ L ∨ k = x) (N := N) (fun k _ h => (List.mem_cons.mp h).elim Or.inr Or.inl)
      simp only [List.length_cons]; omega
    · have m := ct_mono (P := fun k => k ∈ x :: L) (Q := fun k => k ∈ L) (N := N) (fun k hk h => by
        rcases List.mem_cons.mp h with e | e
        · subst e; exact Classical.byContradiction fun q => z ⟨hk, q⟩
        · exact e)
      simp only [List.length_cons]; omega
theorem ct_pg (L : List Nat) {N : Nat} (h : L.length < N) : ∃ a, a < N ∧ ¬ a ∈ L :=
  ct_free (P := fun k => k ∈ L) (Nat.lt_of_le_of_lt (ct_list N L) h)
theorem ct_lst {P : Nat → Prop} (L : List Nat) {N : Nat} (h : ∀ a, a < N → P a → a ∈ L) (hl : L.length < N) : ∃ a, a < N ∧ ¬ P a := by
  obtain ⟨a, ha, hn⟩ := ct_pg L hl
  exact ⟨a, ha, fun z => hn (h a ha z)⟩
/-! the least set that holds the roots and is closed -/
def cl_r (R : Nat → Prop) (E : Nat → Nat → Prop) (n : Nat) : Prop := ∀ S : Nat → Prop, (∀ m, R m → S m) → (∀ m k, S m → E m k → S k) → S n
theorem cl_root {R : Nat → Prop} {E : Nat → Nat → Prop} {n : Nat} (h : R n) : cl_r R E n := fun _ h1 _ => h1 n h
theorem cl_step {R : Nat → Prop} {E : Nat → Nat → Prop} {m k : Nat} (h : cl_r R E m) (e : E m k) : cl_r R E k := fun S h1 h2 => h2 m k (h S h1 h2) e
theorem cl_min {R : Nat → Prop} {E : Nat → Nat → Prop} {n : Nat} (h : cl_r R E n) (S : Nat → Prop) (h1 : ∀ m, R m → S m) (h2 : ∀ m k, S m → E m k → S k) : S n := h S h1 h2
/-! expressions in prefix order: ex_s nd n m p: from p on, m expressions that are wanting are just n tokens -/
def ex_s (nd : Nat → Nat) : Nat → Nat → Nat → Prop
  | 0, m, _ => m = 0
  | n + 1, m, p => m ≠ 0 ∧ ex_s nd n (m - 1 + nd p) (p + 1)
theorem ex_u {nd : Nat → Nat} : ∀ {n n' m p : Nat}, ex_s nd n m p → ex_s nd n' m p → n = n'
  | 0, 0, _, _, _, _ => rfl
  | 0, _ + 1, _, _, h, h' => absurd h h'.1
  | _ + 1, 0, _, _, h, h' => absurd h' h.1
  | n + 1, n' + 1, _, _, h, h' => by rw [ex_u h.2 h'.2]
theorem ex_0 {nd : Nat → Nat} {n p : Nat} (h : ex_s nd n 0 p) : n = 0 := ex_u h rfl
theorem ex_split {nd : Nat → Nat} {b : Nat} : ∀ {n a p : Nat}, ex_s nd n (a + b) p → ∃ n1 n2, n = n1 + n2 ∧ ex_s nd n1 a p ∧ ex_s nd n2 b (p + n1)
  | n, 0, p, h => ⟨0, n, by omega, rfl, by rw [Nat.zero_add] at h; exact h⟩
  | 0, a + 1, p, h => by
    have : a + 1 + b = 0 := h
    omega
  | n + 1, a + 1, p, h => by
    have e : a + 1 + b - 1 + nd p = (a + nd p) + b := by omega
    have h2 := h.2
    rw [e] at h2
    obtain ⟨n1, n2, e1, s1, s2⟩ := ex_split h2
    refine ⟨n1 + 1, n2, by omega, ⟨by omega, ?_⟩, ?_⟩
    · rw [Nat.add_sub_cancel]; exact s1
    · rw [show p + (n1 + 1) = p + 1 + n1 by omega]; exact s2
theorem ex_join {nd : Nat → Nat} {b : Nat} : ∀ {n1 a p n2 : Nat}, ex_s nd n1 a p → ex_s nd n2 b (p + n1) → ex_s nd (n1 + n2) (a + b) p
  | 0, a, p, n2, h, h' => by
    have e : a = 0 := h
    subst e
    rw [Nat.zero_add, Nat.zero_add]
    exact h'
  | n1 + 1, a, p, n2, h, h' => by
    have h1 : a ≠ 0 := h.1
    rw [show n1 + 1 + n2 = (n1 + n2) + 1 by omega]
    refine ⟨by omega, ?_⟩
    have := ex_join (n2 := n2) (b := b) h.2 (by rw [show p + 1 + n1 = p + (n1 + 1) by omega]; exact h')
    rw [show a + b - 1 + nd p = a - 1 + nd p + b by omega]
    exact this
theorem ex_suf {nd : Nat → Nat} : ∀ {i n m p : Nat}, ex_s nd n m p → i < n → ∃ m', ex_s nd (n - i) (1 + m') (p + i)
  | 0, n, m, p, h, hi => by
    cases n with
    | zero => omega
    | succ n => exact ⟨m - 1, by rw [show 1 + (m - 1) = m by have := h.1; omega]; exact h⟩
  | i + 1, 0, _, _, _, hi => by omega
  | i + 1, n + 1, m, p, h, hi => by
    obtain ⟨m', h'⟩ := ex_suf h.2 (show i < n by omega)
    exact ⟨m', by rw [show n + 1 - (i + 1) = n - i by omega, show p + (i + 1) = p + 1 + i by omega]; exact h'⟩
theorem ex_in {nd : Nat → Nat} {i n m p : Nat} (h : ex_s nd n m p) (hi : i < n) : ∃ n1, n1 ≤ n - i ∧ 1 ≤ n1 ∧ ex_s nd n1 1 (p + i) := by
  obtain ⟨m', h'⟩ := ex_suf h hi
  obtain ⟨n1, n2, e, s1, s2⟩ := ex_split h'
  refine ⟨n1, by omega, ?_, s1⟩
  cases n1 with
  | zero => exact absurd (show (1 : Nat) = 0 from s1) (by decide)
  | succ n => omega
theorem ex_cong {nd nd' : Nat → Nat} : ∀ {n m p : Nat}, (∀ i, i < n → nd (p + i) = nd' (p + i)) → ex_s nd n m p → ex_s nd' n m p
  | 0, _, _, _, h => h
  | n + 1, m, p, e, h => by
    refine ⟨h.1, ?_⟩
    rw [← show nd p = nd' p from e 0 (by omega)]
    exact ex_cong (fun i hi => by rw [show p + 1 + i = p + (i + 1) by omega]; exact e (i + 1) (by omega)) h.2
theorem ex_shift {nd nd' : Nat → Nat} {q : Nat} : ∀ {n m p : Nat}, (∀ i, i < n → nd (p + i) = nd' (q + p + i)) → ex_s nd n m p → ex_s nd' n m (q + p)
  | 0, _, _, _, h => h
  | n + 1, m, p, e, h => by
    refine ⟨h.1, ?_⟩
    rw [← show nd p = nd' (q + p) from e 0 (by omega)]
    exact ex_shift (q := q) (p := p + 1) (fun i hi => by rw [show q + (p + 1) + i = q + p + (i + 1) by omega, show p + 1 + i = p + (i + 1) by omega]; exact e (i + 1) (by omega)) h.2
noncomputable def ex_e (nd : Nat → Nat) (p : Nat) : Nat := p + Classical.epsilon (fun n => ex_s nd n 1 p)
theorem ex_eq {nd : Nat → Nat} {n p : Nat} (h : ex_s nd n 1 p) : ex_e nd p = p + n := by
  have a : ex_s nd (Classical.epsilon (fun n => ex_s nd n 1 p)) 1 p := Classical.epsilon_spec (p := fun n => ex_s nd n 1 p) ⟨n, h⟩
  unfold ex_e
  rw [ex_u a h]
noncomputable def ex_pt (nd : Nat → Nat) (k : Nat) : Nat → Nat
  | 0 => k + 1
  | j + 1 => ex_e nd (ex_pt nd k j)
theorem ex_pos {nd : Nat → Nat} {n p : Nat} (h : ex_s nd n 1 p) : 1 ≤ n := by
  cases n with
  | zero => exact absurd (show (1 : Nat) = 0 from h) (by decide)
  | succ n => omega
theorem ex_hd {nd : Nat → Nat} {n p : Nat} (h : ex_s nd n 1 p) : ex_s nd (n - 1) (nd p) (p + 1) := by
  cases n with
  | zero => exact absurd (show (1 : Nat) = 0 from h) (by decide)
  | succ n => have := h.2; rw [show 1 - 1 + nd p = nd p by omega] at this; exact this
theorem ex_parts {nd : Nat → Nat} {n k : Nat} (h : ex_s nd n 1 k) : ∀ j, j ≤ nd k → ∃ i, j + 1 ≤ i ∧ i ≤ n ∧ ex_pt nd k j = k + i ∧ ex_s nd (n - i) (nd k - j) (k + i)
  | 0, _ => ⟨1, by omega, ex_pos h, rfl, ex_hd h⟩
  | j + 1, hj => by
    obtain ⟨i, h1, h2, h3, h4⟩ := ex_parts h j (by omega)
    rw [show nd k - j = 1 + (nd k - (j + 1)) by omega] at h4
    obtain ⟨n1, n2, e, s1, s2⟩ := ex_split h4
    have hp := ex_pos s1
    refine ⟨i + n1, by omega, by omega, ?_, ?_⟩
    · show ex_e nd (ex_pt nd k j) = _
      rw [h3, ex_eq s1]; omega
    · rw [show n - (i + n1) = n2 by omega, show k + (i + n1) = k + i + n1 by omega]; exact s2
theorem ex_end {nd : Nat → Nat} {n k : Nat} (h : ex_s nd n 1 k) : ex_pt nd k (nd k) = ex_e nd k := by
  obtain ⟨i, h1, h2, h3, h4⟩ := ex_parts h (nd k) (Nat.le_refl _)
  rw [Nat.sub_self] at h4
  have := ex_0 h4
  rw [h3, ex_eq h]; omega
theorem ex_part {nd : Nat → Nat} {n k j : Nat} (h : ex_s nd n 1 k) (hj : j < nd k) : k + j + 1 ≤ ex_pt nd k j ∧ ex_pt nd k j < k + n ∧ ∃ m, ex_s nd m 1 (ex_pt nd k j) ∧ ex_pt nd k j + m ≤ k + n := by
  obtain ⟨i, h1, h2, h3, h4⟩ := ex_parts h j (by omega)
  rw [show nd k - j = 1 + (nd k - (j + 1)) by omega] at h4
  obtain ⟨n1, n2, e, s1, s2⟩ := ex_split h4
  have hp := ex_pos s1
  refine ⟨by omega, by omega, n1, ?_, by omega⟩
  rw [h3]; exact s1
theorem ex_ptle {nd : Nat → Nat} {n k j : Nat} (h : ex_s nd n 1 k) (hj : j ≤ nd k) : k + j + 1 ≤ ex_pt nd k j ∧ ex_pt nd k j ≤ k + n := by
  obtain ⟨i, h1, h2, h3, h4⟩ := ex_parts h j hj
  omega
theorem ex_nest {nd : Nat → Nat} {n j p : Nat} (h : ex_s nd n 1 j) (h1 : j ≤ p) (h2 : p < ex_e nd j) : ∃ m, ex_s nd m 1 p ∧ p + m ≤ j + n := by
  rw [ex_eq h] at h2
  obtain ⟨n1, a, b, c⟩ := ex_in (i := p - j) h (by omega)
  rw [show j + (p - j) = p by omega] at c
  exact ⟨n1, c, by omega⟩
theorem ex_eloc {nd nd' : Nat → Nat} {n p : Nat} (h : ex_s nd n 1 p) (e : ∀ q, p ≤ q → q < p + n → nd q = nd' q) : ex_e nd' p = ex_e nd p := by
  have h' : ex_s nd' n 1 p := ex_cong (fun i hi => e (p + i) (by omega) (by omega)) h
  rw [ex_eq h, ex_eq h']
end
section
/-! marking with a list of what is still to be followed: mk the marks, td the list, its entries below t -/
def gm_I (NN : Nat) (mk td : Nat → Int32) (t : Nat) : Prop :=
  (∀ n, n < NN → mk n = 0 ∨ mk n = 1) ∧ (∀ i, i < t → ∃ n, n < NN ∧ td i = nI n ∧ mk n = 1) ∧ t ≤ ct_n (fun n => mk n = 1) NN
def gm_G (NN : Nat) (N : Nat → Prop) (mk td : Nat → Int32) (t : Nat) (mk' td' : Nat → Int32) (t' : Nat) : Prop :=
  gm_I NN mk' td' t' ∧ (∀ n, n < NN → (mk' n = 1 ↔ mk n = 1 ∨ N n)) ∧ t ≤ t' ∧ (∀ i, i < t → td' i = td i) ∧
  (∀ n, n < NN → mk' n = 1 → mk n = 1 ∨ ∃ i, t ≤ i ∧ i < t' ∧ td' i = nI n) ∧ t' + ct_n (fun n => mk n = 1) NN = t + ct_n (fun n => mk' n = 1) NN
theorem gm_refl {NN : Nat} {N : Nat → Prop} {mk td : Nat → Int32} {t : Nat} (h : gm_I NN mk td t) (hN : ∀ n, n < NN → N n → mk n = 1) : gm_G NN N mk td t mk td t :=
  ⟨h, fun n hn => ⟨Or.inl, fun z => z.elim id (hN n hn)⟩, Nat.le_refl _, fun _ _ => rfl, fun _ _ z => Or.inl z, rfl⟩
theorem gm_trans {NN : Nat} {N1 N2 : Nat → Prop} {mk td mk1 td1 mk2 td2 : Nat → Int32} {t t1 t2 : Nat} (h : gm_G NN N1 mk td t mk1 td1 t1) (g : gm_G NN N2 mk1 td1 t1 mk2 td2 t2) : gm_G NN (fun n => N1 n ∨ N2 n) mk td t mk2 td2 t2 := by
  obtain ⟨_, a2, a3, a4, a5, a6⟩ := h
  obtain ⟨b1, b2, b3, b4, b5, b6⟩ := g
  refine ⟨b1, fun n hn => ?_, Nat.le_trans a3 b3, fun i hi => (b4 i (by omega)).trans (a4 i hi), fun n hn z => ?_, by omega⟩
  · rw [b2 n hn, a2 n hn]
    exact ⟨fun z => z.elim (fun y => y.elim Or.inl (fun w => Or.inr (Or.inl w))) (fun y => Or.inr (Or.inr y)), fun z => z.elim (fun y => Or.inl (Or.inl y)) (fun y => y.elim (fun w => Or.inl (Or.inr w)) Or.inr)⟩
  · rcases b5 n hn z with y | ⟨i, i1, i2, i3⟩
    · rcases a5 n hn y with w | ⟨i, i1, i2, i3⟩
      · exact Or.inl w
      · exact Or.inr ⟨i, i1, by omega, (b4 i i2).trans i3⟩
    · exact Or.inr ⟨i, by omega, i2, i3⟩
theorem gm_cong {NN : Nat} {N N' : Nat → Prop} {mk td mk' td' : Nat → Int32} {t t' : Nat} (h : gm_G NN N mk td t mk' td' t') (e : ∀ n, n < NN → (N n ↔ N' n)) : gm_G NN N' mk td t mk' td' t' :=
  ⟨h.1, fun n hn => by rw [h.2.1 n hn, e n hn], h.2.2⟩
theorem gm_push {NN : Nat} {mk td : Nat → Int32} {t n : Nat} (h : gm_I NN mk td t) (hn : n < NN) (h0 : ¬ mk n = 1) : t < NN ∧ gm_G NN (fun k => k = n) mk td t (upd mk n 1) (upd td t (nI n)) (t + 1) := by
  have e : ∀ k, (upd mk n 1 k = 1 ↔ (mk k = 1 ∨ k = n)) := fun k => by
    by_cases z : k = n
    · subst z; rw [pk_us]; exact ⟨fun _ => Or.inr rfl, fun _ => rfl⟩
    · rw [pk_un z]; exact ⟨Or.inl, fun y => y.elim id (fun w => absurd w z)⟩
  have c : ct_n (fun k => upd mk n 1 k = 1) NN = ct_n (fun k => mk k = 1) NN + 1 := by
    rw [ct_eq (Q := fun k => mk k = 1 ∨ k = n) (fun k _ => e k)]
    exact ct_add (P := fun k => mk k = 1) h0 hn
  have l := ct_le (fun k => upd mk n 1 k = 1) NN
  have l3 := h.2.2
  refine ⟨by omega, ⟨fun k hk => ?_, fun i hi => ?_, by omega⟩, fun k _ => e k, by omega, fun i hi => pk_un (by omega), fun k hk z => ?_, by omega⟩
  · by_cases z : k = n
    · subst z; rw [pk_us]; exact Or.inr rfl
    · rw [pk_un z]; exact h.1 k hk
  · by_cases z : i = t
    · subst z; exact ⟨n, hn, pk_us, pk_us⟩
    · obtain ⟨m, m1, m2, m3⟩ := h.2.1 i (by omega)
      exact ⟨m, m1, by rw [pk_un z]; exact m2, (e m).mpr (Or.inl m3)⟩
  · rcases (e k).mp z with y | y
    · exact Or.inl y
    · subst y; exact Or.inr ⟨t, by omega, by omega, pk_us⟩
/-- every mark is followed already, or stands among the entries from lo to t -/
def gm_F (NN : Nat) (E : Nat → Nat → Prop) (mk td : Nat → Int32) (lo t : Nat) : Prop :=
  ∀ m, m < NN → mk m = 1 → (∃ i, lo ≤ i ∧ i < t ∧ td i = nI m) ∨ (∀ k, k < NN → E m k → mk k = 1)
theorem gm_ext {NN : Nat} {N : Nat → Prop} {E : Nat → Nat → Prop} {mk td mk' td' : Nat → Int32} {lo t t' : Nat} (h : gm_G NN N mk td t mk' td' t') (hl : lo ≤ t) (f : gm_F NN E mk td lo t) : gm_F NN E mk' td' lo t' := by
  obtain ⟨_, a2, a3, a4, a5, _⟩ := h
  intro m hm z
  rcases a5 m hm z with y | ⟨i, i1, i2, i3⟩
  · rcases f m hm y with ⟨i, i1, i2, i3⟩ | w
    · exact Or.inl ⟨i, i1, by omega, (a4 i i2).trans i3⟩
    · exact Or.inr fun k hk e => (a2 k hk).mpr (Or.inl (w k hk e))
  · exact Or.inl ⟨i, by omega, i2, i3⟩
/-- following the last entry (a stack) -/
theorem gm_popY {NN : Nat} {E : Nat → Nat → Prop} {mk td mk' td' : Nat → Int32} {t t' n : Nat} (hNN : NN < 2 ^ 31) (hn : n < NN) (hi : td t = nI n) (f : gm_F NN E mk td 0 (t + 1)) (h : gm_G NN (E n) mk td t mk' td' t') : gm_F NN E mk' td' 0 t' := by
  obtain ⟨_, a2, a3, a4, a5, _⟩ := h
  intro m hm z
  rcases a5 m hm z with y | ⟨i, i1, i2, i3⟩
  · rcases f m hm y with ⟨i, i1, i2, i3⟩ | w
    · by_cases q : i = t
      · subst q
        have e : m = n := (nI_eq (by omega) (by omega)).mp (i3.symm.trans hi)
        subst e
        exact Or.inr fun k hk e => (a2 k hk).mpr (Or.inr e)
      · exact Or.inl ⟨i, by omega, by omega, (a4 i (by omega)).trans i3⟩
    · exact Or.inr fun k hk e => (a2 k hk).mpr (Or.inl (w k hk e))
  · exact Or.inl ⟨i, by omega, i2, i3⟩
/-- following the first entry (a queue) -/
theorem gm_popX {NN : Nat} {E : Nat → Nat → Prop} {mk td mk' td' : Nat → Int32} {lo t t' n : Nat} (hNN : NN < 2 ^ 31) (hn : n < NN) (hl : lo < t) (hi : td lo = nI n) (f : gm_F NN E mk td lo t) (h : gm_G NN (E n) mk td t mk' td' t') : gm_F NN E mk' td' (lo + 1) t' := by
  obtain ⟨_, a2, a3, a4, a5, _⟩ := h
  intro m hm z
  rcases a5 m hm z with y | ⟨i, i1, i2, i3⟩
  · rcases f m hm y with ⟨i, i1, i2, i3⟩ | w
    · by_cases q : i = lo
      · subst q
        have e : m = n := (nI_eq (by omega) (by omega)).mp (i3.symm.trans hi)
        subst e
        exact Or.inr fun k hk e => (a2 k hk).mpr (Or.inr e)
      · exact Or.inl ⟨i, by omega, by omega, (a4 i (by omega)).trans i3⟩
    · exact Or.inr fun k hk e => (a2 k hk).mpr (Or.inl (w k hk e))
  · exact Or.inl ⟨i, by omega, i2, i3⟩
/-- at the end the marks are the least closed set -/
theorem gm_done {NN : Nat} {R : Nat → Prop} {E : Nat → Nat → Prop} {mk td : Nat → Int32} {lo t : Nat} (hR : ∀ n, R n → n < NN ∧ mk n = 1) (hE : ∀ m k, m < NN → E m k → k < NN) (hs : ∀ n, n < NN → mk n = 1 → cl_r R E n) (f : gm_F NN E mk td lo t) (hl : t ≤ lo) : ∀ n, n < NN → (mk n = 1 ↔ cl_r R E n) := fun n hn =>
  ⟨hs n hn, fun c => (cl_min c (fun n => n < NN ∧ mk n = 1) hR (fun m k hm e => by
    rcases f m hm.1 hm.2 with ⟨i, i1, i2, _⟩ | w
    · omega
    · exact ⟨hE m k hm.1 e, w k (hE m k hm.1 e) e⟩)).2⟩
theorem gm_drop {NN : Nat} {mk td : Nat → Int32} {t : Nat} (h : gm_I NN mk td (t + 1)) : gm_I NN mk td t :=
  ⟨h.1, fun i hi => h.2.1 i (by omega), by have := h.2.2; omega⟩
/-- a loop that marks the sets N i0, N (i0 + 1) .. one after the other -/
theorem gm_loop {NN : Nat} (W : Nat → Nat → (Nat → Int32) → (Nat → Int32) → Nat → Prop) (N : Nat → Nat → Prop) (e i0 : Nat) {mk0 td0 : Nat → Int32} {t0 : Nat} (h0 : gm_I NN mk0 td0 t0) (hi : i0 ≤ e)
    (hs : ∀ f i mk td t, i0 ≤ i → i < e → gm_I NN mk td t → (∀ mk' td' t', gm_G NN (N i) mk td t mk' td' t' → W f (i + 1) mk' td' t') → W (f + 1) i mk td t)
    (hx : ∀ f mk td t, gm_G NN (fun n => ∃ k, i0 ≤ k ∧ k < e ∧ N k n) mk0 td0 t0 mk td t → W (f + 1) e mk td t) : ∀ f, e - i0 < f → W f i0 mk0 td0 t0 := by
  have key : ∀ d i mk td t, i + d = e → i0 ≤ i → gm_G NN (fun n => ∃ k, i0 ≤ k ∧ k < i ∧ N k n) mk0 td0 t0 mk td t → ∀ f, d < f → W f i mk td t := by
    intro d
    induction d with
    | zero =>
      intro i mk td t e1 e2 g f hf
      obtain ⟨f', rfl⟩ : ∃ f', f = f' + 1 := ⟨f - 1, by omega⟩
      have e3 : i = e := by omega
      subst e3
      exact hx f' mk td t g
    | succ d ih =>
      intro i mk td t e1 e2 g f hf
      obtain ⟨f', rfl⟩ : ∃ f', f = f' + 1 := ⟨f - 1, by omega⟩
      refine hs f' i mk td t e2 (by omega) g.1 fun mk' td' t' g' => ih (i + 1) mk' td' t' (by omega) (by omega) (gm_cong (gm_trans g g') fun n _ => ?_) f' (by omega)
      exact ⟨fun z => z.elim (fun ⟨k, a, b, c⟩ => ⟨k, a, by omega, c⟩) (fun c => ⟨i, e2, by omega, c⟩), fun ⟨k, a, b, c⟩ => by
        by_cases q : k = i
        · subst q; exact Or.inr c
        · exact Or.inl ⟨k, a, by omega, c⟩⟩
  exact fun f hf => key (e - i0) i0 mk0 td0 t0 (by omega) (Nat.le_refl _) (gm_refl h0 fun n _ ⟨k, a, b, _⟩ => by omega) f hf
theorem gm_start (NN : Nat) {mk td : Nat → Int32} (h : ∀ n, n < NN → mk n = 0) : gm_I NN mk td 0 :=
  ⟨fun n hn => Or.inl (h n hn), fun i hi => by omega, Nat.zero_le _⟩
end
section
/-! VALUES: an int, nothing, or the thing in the reference's place k -/
def vv_y : Int32 ⊕ Option Nat → Int64
  | .inl i => lN i.toBitVec.toNat
  | .inr none => 4294967296
  | .inr (some k) => lN (8589934592 + k)
def vv_x (sh : Nat → Int64) : Int32 ⊕ Option Nat → Int64
  | .inl i => i.toInt64
  | .inr none => 10000000000
  | .inr (some k) => sh k
theorem vv_w (i : Int32) : i.toInt64 &&& 4294967295 = lN i.toBitVec.toNat := by
  have hl := i.toBitVec.isLt
  apply Int64.toBitVec_inj.mp
  apply BitVec.eq_of_toNat_eq
  rw [wb_tn (by omega), Int64.toBitVec_and, BitVec.toNat_and, Int32.toBitVec_toInt64, show (4294967295 : Int64).toBitVec.toNat = 2 ^ 32 - 1 from by decide, Nat.and_two_pow_sub_one_eq_mod, BitVec.toNat_signExtend, BitVec.toNat_setWidth]
  split <;> omega
theorem vv_i (i : Int32) : (lN i.toBitVec.toNat).toInt32 = i := by
  rw [lN_i]
  apply Int32.toBitVec_inj.mp
  apply BitVec.eq_of_toNat_eq
  exact pk_tn i.toBitVec.isLt
theorem vv_t {k : Nat} (h : k < 2 ^ 31) : (lN (8589934592 + k)).toInt32 = nI k := by
  rw [lN_i]
  apply Int32.toBitVec_inj.mp
  apply BitVec.eq_of_toNat_eq
  rw [pk_tn (show k < 2 ^ 32 by omega)]
  show (8589934592 + k) % 2 ^ 32 = k
  omega
theorem vv_inj {a b : Int32 ⊕ Option Nat} (ha : ∀ k, a = .inr (some k) → k < 32) (hb : ∀ k, b = .inr (some k) → k < 32) (h : vv_y a = vv_y b) : a = b := by
  have e0 : (4294967296 : Int64) = lN 4294967296 := by decide
  rcases a with i | _ | k <;> rcases b with j | _ | l <;> simp only [vv_y] at h
  · have hi := i.toBitVec.isLt
    have hj := j.toBitVec.isLt
    rw [pk_lEQ (by omega) (by omega)] at h
    rw [Int32.toBitVec_inj.mp (BitVec.eq_of_toNat_eq h)]
  · have hi := i.toBitVec.isLt
    rw [e0, pk_lEQ (by omega) (by omega)] at h
    omega
  · have hi := i.toBitVec.isLt
    have := hb l rfl
    rw [pk_lEQ (by omega) (by omega)] at h
    omega
  · have hi := j.toBitVec.isLt
    rw [e0, pk_lEQ (by omega) (by omega)] at h
    omega
  · rfl
  · have := hb l rfl
    rw [e0, pk_lEQ (by omega) (by omega)] at h
    omega
  · have hi := j.toBitVec.isLt
    have := ha k rfl
    rw [pk_lEQ (by omega) (by omega)] at h
    omega
  · have := ha k rfl
    rw [e0, pk_lEQ (by omega) (by omega)] at h
    omega
  · have := ha k rfl
    have := hb l rfl
    rw [pk_lEQ (by omega) (by omega)] at h
    rw [show k = l by omega]
def vv_V (y : Int64) : Prop := ∃ a : Int32 ⊕ Option Nat, (∀ k, a = .inr (some k) → k < 32) ∧ y = vv_y a
def vv_T (y : Int64) (k : Nat) : Prop := k < 32 ∧ y = lN (8589934592 + k)
theorem vv_cases {y : Int64} (h : vv_V y) : (∃ i : Int32, y = lN i.toBitVec.toNat ∧ y < 8589934592 ∧ ¬ ∃ k, vv_T y k) ∨ (y = 4294967296 ∧ ¬ ∃ k, vv_T y k) ∨ (∃ k, k < 32 ∧ y = lN (8589934592 + k) ∧ ¬ y < 8589934592 ∧ ∀ j, vv_T y j ↔ j = k) := by
  have e0 : (4294967296 : Int64) = lN 4294967296 := by decide
  have e1 : (8589934592 : Int64) = lN 8589934592 := by decide
  obtain ⟨a, ha, rfl⟩ := h
  rcases a with i | _ | k
  · have hi := i.toBitVec.isLt
    refine Or.inl ⟨i, rfl, ?_, fun ⟨k, h1, h2⟩ => ?_⟩
    · show lN _ < _
      rw [e1, pk_lLT (by omega) (by omega)]; omega
    · have h2 : lN _ = lN _ := h2
      rw [pk_lEQ (by omega) (by omega)] at h2; omega
  · refine Or.inr (Or.inl ⟨rfl, fun ⟨k, h1, h2⟩ => ?_⟩)
    have h2 : (4294967296 : Int64) = lN _ := h2
    rw [e0, pk_lEQ (by omega) (by omega)] at h2; omega
  · have hk := ha k rfl
    refine Or.inr (Or.inr ⟨k, hk, rfl, ?_, fun j => ⟨fun ⟨h1, h2⟩ => ?_, fun e => by subst e; exact ⟨hk, rfl⟩⟩⟩)
    · show ¬ lN _ < _
      rw [e1, pk_lLT (by omega) (by omega)]; omega
    · have h2 : lN _ = lN _ := h2
      rw [pk_lEQ (by omega) (by omega)] at h2; omega
end
section
/-! tokens: what a kind needs, which values it may have -/
def tk_need (k w : Int32) : Nat :=
  if k = 10 then 1 + w.toNatClampNeg / 4 else if k = 11 then w.toNatClampNeg / 4
  else if k = 5 ∨ k = 7 ∨ k = 9 ∨ k = 12 ∨ k = 14 ∨ k = 17 ∨ k = 26 ∨ k = 29 then 1
  else if k = 15 ∨ k = 16 ∨ k = 18 ∨ k = 19 ∨ k = 20 ∨ k = 21 ∨ k = 22 ∨ k = 24 ∨ k = 27 then 2
  else if k = 23 then 3 else 0
def tk_lim (k : Nat) : Nat := if k = 3 ∨ k = 12 then 2 else if k = 4 ∨ k = 5 ∨ k = 13 then 3 else if k = 10 ∨ k = 11 then 12 else if k = 25 then 10 else 4
def tk_ok (k w : Int32) : Prop := ∃ kn : Nat, kn < 30 ∧ k = nI kn ∧ ((3 ≤ kn ∧ kn < 14 ∨ kn = 25) → ∃ wn, wn < tk_lim kn ∧ w = nI wn) ∧
  (kn = 28 → ∃ wn, wn / 256 < 10 ∧ wn / 16 % 16 < 12 ∧ wn % 16 < 12 ∧ w = nI wn)
theorem tk_div4 {a : Nat} (h : a < 2 ^ 31) : nI a / 4 = nI (a / 4) := pk_div (d := 4) h (by decide) (by decide)
theorem tk_need_le {k w : Int32} (h : tk_ok k w) : tk_need k w ≤ 3 := by
  obtain ⟨kn, h1, rfl, h3, h4⟩ := h
  unfold tk_need
  split
  · rename_i z
    have e : kn = 10 := (nI_eq (b := 10) (by omega) (by decide)).mp z
    subst e
    obtain ⟨wn, w1, rfl⟩ := h3 (by omega)
    rw [nI_clamp (by have : tk_lim 10 = 12 := rfl; omega)]
    have : tk_lim 10 = 12 := rfl
    omega
  · split
    · rename_i z
      have e : kn = 11 := (nI_eq (b := 11) (by omega) (by decide)).mp z
      subst e
      obtain ⟨wn, w1, rfl⟩ := h3 (by omega)
      rw [nI_clamp (by have : tk_lim 11 = 12 := rfl; omega)]
      have : tk_lim 11 = 12 := rfl
      omega
    · split
      · omega
      · split
        · omega
        · split <;> omega
/-- a kind is one of thirty -/
theorem tk_cases {P : Nat → Prop} (h0 : P 0) (h1 : P 1) (h2 : P 2) (h3 : P 3) (h4 : P 4) (h5 : P 5) (h6 : P 6) (h7 : P 7) (h8 : P 8) (h9 : P 9) (h10 : P 10) (h11 : P 11) (h12 : P 12) (h13 : P 13) (h14 : P 14) (h15 : P 15) (h16 : P 16) (h17 : P 17) (h18 : P 18) (h19 : P 19) (h20 : P 20) (h21 : P 21) (h22 : P 22) (h23 : P 23) (h24 : P 24) (h25 : P 25) (h26 : P 26) (h27 : P 27) (h28 : P 28) (h29 : P 29) : ∀ k, k < 30 → P k
  | 0, _ => h0 | 1, _ => h1 | 2, _ => h2 | 3, _ => h3 | 4, _ => h4 | 5, _ => h5 | 6, _ => h6 | 7, _ => h7 | 8, _ => h8 | 9, _ => h9
  | 10, _ => h10 | 11, _ => h11 | 12, _ => h12 | 13, _ => h13 | 14, _ => h14 | 15, _ => h15 | 16, _ => h16 | 17, _ => h17 | 18, _ => h18 | 19, _ => h19
  | 20, _ => h20 | 21, _ => h21 | 22, _ => h22 | 23, _ => h23 | 24, _ => h24 | 25, _ => h25 | 26, _ => h26 | 27, _ => h27 | 28, _ => h28 | 29, _ => h29
  | n + 30, h => absurd h (by omega)
theorem tk_mm {m d : Nat} (h : m ≠ 0) : nI m + (nI d - 1) = nI (m - 1 + d) := by
  obtain ⟨k, rfl⟩ : ∃ k, m = k + 1 := ⟨m - 1, by omega⟩
  rw [Nat.add_sub_cancel, ← nI_1, ← nI_add]
  grind
theorem ex_mle {nd : Nat → Nat} : ∀ {n m p : Nat}, ex_s nd n m p → m ≤ n
  | 0, _, _, h => by have : _ = 0 := h; omega
  | n + 1, m, p, h => by have := ex_mle h.2; omega
section
variable {y_classes y_bodies y_fault y_made y_working y_peak y_steps y_depth y_waiting y_code y_running y_has y_todos y_marks y_spoken : Int32} {y_got y_shown : Int64} {y_parent y_fields y_bound y_kind y_word y_size y_sort y_number y_stands y_keeps y_within y_foundIn y_live y_work y_under y_at y_in y_phase y_base y_goal y_marked y_todo : Nat → Int32} {y_cells y_globals y_self y_args y_temps y_param y_operands y_heard : Nat → Int64}
variable {post : Int32 → Prop}
theorem yw_needs {p : Nat} (hp : p < 416) (ok : tk_ok (y_kind p) (y_word p)) (h : post (nI (tk_need (y_kind p) (y_word p)))) : wpY_needs post (y_classes, y_bodies, y_fault, y_made, y_working, y_peak, y_steps, y_depth, y_waiting, y_code, y_running, y_has, y_got, y_todos, y_marks, y_shown, y_spoken, y_parent, y_fields, y_bound, y_kind, y_word, y_size, y_sort, y_number, y_stands, y_keeps, y_cells, y_globals, y_within, y_foundIn, y_self, y_args, y_temps, y_param, y_live, y_work, y_under, y_at, y_in, y_phase, y_base, y_goal, y_operands, y_marked, y_todo, y_heard) (nI p) := by
  have hc : (nI p).toNatClampNeg = p := nI_clamp (by omega)
  obtain ⟨kn, h1, h2, h3, -⟩ := ok
  unfold wpY_needs
  dsimp only
  rw [hc]
  refine ⟨vp_in_nI hp (by decide), nm_e ?_⟩
  have h4 : kn = 10 ∨ kn = 11 → ∃ wn, wn < 12 ∧ y_word p = nI wn := fun z => by
    obtain ⟨wn, w1, w2⟩ := h3 (by omega)
    rcases z with rfl | rfl
    · exact ⟨wn, w1, w2⟩
    · exact ⟨wn, w1, w2⟩
  clear h3
  revert h2 h4
  refine tk_cases (P := fun kn => y_kind p = nI kn → (kn = 10 ∨ kn = 11 → ∃ wn, wn < 12 ∧ y_word p = nI wn) → _) ?_ ?_ ?_ ?_ ?_ ?_ ?_ ?_ ?_ ?_ ?_ ?_ ?_ ?_ ?_ ?_ ?_ ?_ ?_ ?_ ?_ ?_ ?_ ?_ ?_ ?_ ?_ ?_ ?_ ?_ kn h1
  all_goals intro e h4
  all_goals rw [e] at h ⊢
  case refine_11 =>
    obtain ⟨wn, w1, w2⟩ := h4 (Or.inl rfl)
    have e2 : tk_need (nI 10) (y_word p) = 1 + wn / 4 := by
      show 1 + (y_word p).toNatClampNeg / 4 = _
      rw [w2, nI_clamp (by omega)]
    rw [e2] at h
    have e3 : (1 : Int32) + y_word p / 4 = nI (1 + wn / 4) := by rw [w2, tk_div4 (by omega), ← nI_add]; rfl
    refine br_f (by decide) (br_f (by decide) (br_f (by decide) (br_f (by decide) (br_f (by decide) (br_f (by decide) (br_f (by decide) (br_t rfl ⟨vp_in_nI hp (by decide), by decide, ?_⟩)))))))
    rw [e3]; exact h
  case refine_12 =>
    obtain ⟨wn, w1, w2⟩ := h4 (Or.inr rfl)
    have e2 : tk_need (nI 11) (y_word p) = wn / 4 := by
      show (y_word p).toNatClampNeg / 4 = _
      rw [w2, nI_clamp (by omega)]
    rw [e2] at h
    have e3 : y_word p / 4 = nI (wn / 4) := by rw [w2, tk_div4 (by omega)]
    refine br_f (by decide) (br_f (by decide) (br_f (by decide) (br_f (by decide) (br_f (by decide) (br_f (by decide) (br_f (by decide) (br_f (by decide) (br_t rfl ⟨vp_in_nI hp (by decide), by decide, ?_⟩))))))))
    rw [e3]; exact h
  all_goals first
    | exact br_t (by decide) h
    | (refine br_f (by decide) (br_f (by decide) ?_)
       repeat first | exact br_t rfl h | refine br_f (by decide) ?_)
/-- what a token needs, in the reference's arrays -/
def tk_nd (k w : Nat → Int32) (p : Nat) : Nat := tk_need (k p) (w p)
theorem yw_after4 : ∀ (n m t f : Nat), ex_s (tk_nd y_kind y_word) n m t → n < f → t + n ≤ 416 → (∀ q, t ≤ q → q < t + n → tk_ok (y_kind q) (y_word q)) → post (nI (t + n)) → wY_after_4 post y_classes y_bodies y_fault y_made y_working y_peak y_steps y_depth y_waiting y_code y_running y_has y_got y_todos y_marks y_shown y_spoken y_parent y_fields y_bound y_kind y_word y_size y_sort y_number y_stands y_keeps y_cells y_globals y_within y_foundIn y_self y_args y_temps y_param y_live y_work y_under y_at y_in y_phase y_base y_goal y_operands y_marked y_todo y_heard f (nI m) (nI t)
  | 0, m, t, 0, _, hf, _, _, _ => by omega
  | 0, m, t, f + 1, hs, hf, h4, hok, h => by
    have e : m = 0 := hs
    subst e
    exact br_t (by decide) h
  | n + 1, m, t, 0, _, hf, _, _, _ => by omega
  | n + 1, m, t, f + 1, hs, hf, h4, hok, h => by
    have hm := ex_mle hs
    refine br_f (nI_nle (by have := hs.1; omega) (by omega)) (yw_needs (by omega) (hok t (by omega) (by omega)) (nm_r (tk_mm hs.1) (nm_r (nI_1 t) ?_)))
    exact yw_after4 n _ _ f hs.2 (by omega) (by omega) (fun q h1 h2 => hok q (by omega) (by omega)) (by rw [show t + 1 + n = t + (n + 1) by omega]; exact h)
theorem yw_after {n t : Nat} (hs : ex_s (tk_nd y_kind y_word) n 1 t) (h4 : t + n ≤ 416) (hok : ∀ q, t ≤ q → q < t + n → tk_ok (y_kind q) (y_word q)) (h : post (nI (t + n))) : wpY_after post (y_classes, y_bodies, y_fault, y_made, y_working, y_peak, y_steps, y_depth, y_waiting, y_code, y_running, y_has, y_got, y_todos, y_marks, y_shown, y_spoken, y_parent, y_fields, y_bound, y_kind, y_word, y_size, y_sort, y_number, y_stands, y_keeps, y_cells, y_globals, y_within, y_foundIn, y_self, y_args, y_temps, y_param, y_live, y_work, y_under, y_at, y_in, y_phase, y_base, y_goal, y_operands, y_marked, y_todo, y_heard) (nI t) :=
  ⟨n + 1, yw_after4 n 1 t (n + 1) hs (by omega) h4 hok h⟩
theorem yw_part7 {n k J : Nat} (hs : ex_s (tk_nd y_kind y_word) n 1 k) (h4 : k + n ≤ 416) (hok : ∀ q, k ≤ q → q < k + n → tk_ok (y_kind q) (y_word q)) (hJ : J ≤ tk_nd y_kind y_word k) (hJ3 : J < 2 ^ 31) (h : post (nI (ex_pt (tk_nd y_kind y_word) k J))) : ∀ (d j f : Nat), j + d = J → d < f → wY_part_7 post (nI J) y_classes y_bodies y_fault y_made y_working y_peak y_steps y_depth y_waiting y_code y_running y_has y_got y_todos y_marks y_shown y_spoken y_parent y_fields y_bound y_kind y_word y_size y_sort y_number y_stands y_keeps y_cells y_globals y_within y_foundIn y_self y_args y_temps y_param y_live y_work y_under y_at y_in y_phase y_base y_goal y_operands y_marked y_todo y_heard f (nI (ex_pt (tk_nd y_kind y_word) k j)) (nI j)
  | 0, j, 0, _, hf => by omega
  | 0, j, f + 1, e, hf => by
    have e : j = J := by omega
    subst e
    exact br_t (nI_le (Nat.le_refl _) hJ3) h
  | d + 1, j, 0, _, hf => by omega
  | d + 1, j, f + 1, e, hf => by
    obtain ⟨a, b, m, hm, hm2⟩ := ex_part hs (show j < tk_nd y_kind y_word k by omega)
    refine br_f (nI_ge (by omega) hJ3) (yw_after hm (by omega) (fun q h1 h2 => hok q (by omega) (by omega)) (nm_r (nI_1 j) ?_))
    have := yw_part7 hs h4 hok hJ hJ3 h d (j + 1) f (by omega) (by omega)
    rw [show ex_pt (tk_nd y_kind y_word) k (j + 1) = ex_pt (tk_nd y_kind y_word) k j + m from ex_eq hm] at this
    exact this
theorem yw_part {n k J : Nat} (hs : ex_s (tk_nd y_kind y_word) n 1 k) (h4 : k + n ≤ 416) (hok : ∀ q, k ≤ q → q < k + n → tk_ok (y_kind q) (y_word q)) (hJ : J ≤ tk_nd y_kind y_word k) (hJ3 : J < 2 ^ 31) (h : post (nI (ex_pt (tk_nd y_kind y_word) k J))) : wpY_part post (y_classes, y_bodies, y_fault, y_made, y_working, y_peak, y_steps, y_depth, y_waiting, y_code, y_running, y_has, y_got, y_todos, y_marks, y_shown, y_spoken, y_parent, y_fields, y_bound, y_kind, y_word, y_size, y_sort, y_number, y_stands, y_keeps, y_cells, y_globals, y_within, y_foundIn, y_self, y_args, y_temps, y_param, y_live, y_work, y_under, y_at, y_in, y_phase, y_base, y_goal, y_operands, y_marked, y_todo, y_heard) (nI k) (nI J) :=
  nm_r (nI_1 k) ⟨J + 1, yw_part7 hs h4 hok hJ hJ3 h J 0 (J + 1) (by omega) (by omega)⟩
end
end
section
/-! the reference's marking -/
def gy_R (gl op : Nat → Int64) (wt : Nat) (wo : Nat → Int32) (wk : Nat) (n : Nat) : Prop :=
  (∃ k, k < 4 ∧ vv_T (gl k) n) ∨ (∃ k, k < wt ∧ vv_T (op k) n) ∨ (∃ k a, k < wk ∧ a < 160 ∧ wo k = nI a ∧ n = 32 + a)
def gy_E (so kp : Nat → Int32) (ce : Nat → Int64) (wi : Nat → Int32) (se ar te pa : Nat → Int64) (m n : Nat) : Prop :=
  (m < 32 ∧ so m = 3 ∧ ∃ a, a < 160 ∧ kp m = nI a ∧ n = 32 + a) ∨ (m < 32 ∧ ¬ so m = 3 ∧ ∃ j, j < 4 ∧ vv_T (ce (4 * m + j)) n) ∨
  (∃ a, m = 32 + a ∧ wi a < 0 ∧ (vv_T (se a) n ∨ (∃ j, j < 2 ∧ vv_T (ar (2 * a + j)) n) ∨ (∃ j, j < 3 ∧ vv_T (te (3 * a + j)) n))) ∨
  (∃ a, m = 32 + a ∧ ¬ wi a < 0 ∧ (vv_T (pa a) n ∨ ∃ b, b < 160 ∧ wi a = nI b ∧ n = 32 + b))
/-- what node m holds can be followed -/
def gy_V (so kp : Nat → Int32) (ce : Nat → Int64) (wi : Nat → Int32) (se ar te pa : Nat → Int64) (m : Nat) : Prop :=
  (m < 32 → (so m = 3 → ∃ a, a < 160 ∧ kp m = nI a) ∧ (¬ so m = 3 → ∀ j, j < 4 → vv_V (ce (4 * m + j)))) ∧
  (∀ a, m = 32 + a → a < 160 → (wi a < 0 → vv_V (se a) ∧ (∀ j, j < 2 → vv_V (ar (2 * a + j))) ∧ (∀ j, j < 3 → vv_V (te (3 * a + j)))) ∧ (¬ wi a < 0 → vv_V (pa a) ∧ ∃ b, b < 160 ∧ wi a = nI b))
theorem gy_32 (a : Nat) : (32 : Int32) + nI a = nI (32 + a) := nI_add 32 a
theorem gy_m32 {n : Nat} (h : 32 ≤ n) : nI n - 32 = nI (n - 32) := pk_sub (b := 32) h
section
variable {y_classes y_bodies y_fault y_made y_working y_peak y_steps y_depth y_waiting y_code y_running y_has y_todos y_marks y_spoken : Int32} {y_got y_shown : Int64} {y_parent y_fields y_bound y_kind y_word y_size y_sort y_number y_stands y_keeps y_within y_foundIn y_live y_work y_under y_at y_in y_phase y_base y_goal y_marked y_todo : Nat → Int32} {y_cells y_globals y_self y_args y_temps y_param y_operands y_heard : Nat → Int64}
variable {post : SY → Prop} {mk td : Nat → Int32} {t : Nat}
theorem ym_reach {n : Nat} (hn : n < 192) (I : gm_I 192 mk td t) (h : ∀ mk' td' t', gm_G 192 (fun k => k = n) mk td t mk' td' t' → post (y_classes, y_bodies, y_fault, y_made, y_working, y_peak, y_steps, y_depth, y_waiting, y_code, y_running, y_has, y_got, nI t', nI (ct_n (fun k => mk' k = 1) 32), y_shown, y_spoken, y_parent, y_fields, y_bound, y_kind, y_word, y_size, y_sort, y_number, y_stands, y_keeps, y_cells, y_globals, y_within, y_foundIn, y_self, y_args, y_temps, y_param, y_live, y_work, y_under, y_at, y_in, y_phase, y_base, y_goal, y_operands, mk', td', y_heard)) : wpY_reach post (y_classes, y_bodies, y_fault, y_made, y_working, y_peak, y_steps, y_depth, y_waiting, y_code, y_running, y_has, y_got, nI t, nI (ct_n (fun k => mk k = 1) 32), y_shown, y_spoken, y_parent, y_fields, y_bound, y_kind, y_word, y_size, y_sort, y_number, y_stands, y_keeps, y_cells, y_globals, y_within, y_foundIn, y_self, y_args, y_temps, y_param, y_live, y_work, y_under, y_at, y_in, y_phase, y_base, y_goal, y_operands, mk, td, y_heard) (nI n) := by
  have hc : (nI n).toNatClampNeg = n := nI_clamp (by omega)
  have hv : vp_in (nI n) 192 := vp_in_nI hn (by decide)
  unfold wpY_reach
  dsimp only
  rw [hc]
  refine ⟨hv, ?_⟩
  rcases I.1 n hn with z | z
  · have z1 : ¬ mk n = 1 := by rw [z]; decide
    obtain ⟨g1, g2⟩ := gm_push I hn z1
    have et : (nI t).toNatClampNeg = t := nI_clamp (by omega)
    have hnar : vp_nar .boolean 1 = 1 := by rfl
    refine br_t z ⟨hv, ?_⟩
    refine nm_r (show upd mk n (vp_nar .boolean 1) = upd mk n 1 by rw [hnar]) (nm_r (nI_1 t) ⟨vp_in_nI g1 (by decide), ?_⟩)
    rw [et]
    refine nm_e ?_
    have h2 := h _ _ _ g2
    have e : ∀ k, (upd mk n 1 k = 1 ↔ (mk k = 1 ∨ k = n)) := fun k => by
      by_cases z : k = n
      · subst z; rw [pk_us]; exact ⟨fun _ => Or.inr rfl, fun _ => rfl⟩
      · rw [pk_un z]; exact ⟨Or.inl, fun y => y.elim id (fun w => absurd w z)⟩
    refine pk_le 32 n (fun q => ?_) (fun q => ?_)
    · have c : ct_n (fun k => upd mk n 1 k = 1) 32 = ct_n (fun k => mk k = 1) 32 := by
        rw [ct_eq (Q := fun k => mk k = 1 ∨ k = n) (fun k _ => e k)]
        exact ct_out q
      rw [c] at h2
      exact h2
    · have c : ct_n (fun k => upd mk n 1 k = 1) 32 = ct_n (fun k => mk k = 1) 32 + 1 := by
        rw [ct_eq (Q := fun k => mk k = 1 ∨ k = n) (fun k _ => e k)]
        exact ct_add (P := fun k => mk k = 1) z1 q
      rw [c] at h2
      exact nm_r (nI_1 _) h2
  · have z1 : ¬ mk n = 0 := by rw [z]; decide
    exact br_f z1 (h _ _ _ (gm_refl I fun k _ e => by subst e; exact z))
theorem ym_value {y : Int64} (hv : vv_V y) (I : gm_I 192 mk td t) (h : ∀ mk' td' t', gm_G 192 (vv_T y) mk td t mk' td' t' → post (y_classes, y_bodies, y_fault, y_made, y_working, y_peak, y_steps, y_depth, y_waiting, y_code, y_running, y_has, y_got, nI t', nI (ct_n (fun k => mk' k = 1) 32), y_shown, y_spoken, y_parent, y_fields, y_bound, y_kind, y_word, y_size, y_sort, y_number, y_stands, y_keeps, y_cells, y_globals, y_within, y_foundIn, y_self, y_args, y_temps, y_param, y_live, y_work, y_under, y_at, y_in, y_phase, y_base, y_goal, y_operands, mk', td', y_heard)) : wpY_reachValue post (y_classes, y_bodies, y_fault, y_made, y_working, y_peak, y_steps, y_depth, y_waiting, y_code, y_running, y_has, y_got, nI t, nI (ct_n (fun k => mk k = 1) 32), y_shown, y_spoken, y_parent, y_fields, y_bound, y_kind, y_word, y_size, y_sort, y_number, y_stands, y_keeps, y_cells, y_globals, y_within, y_foundIn, y_self, y_args, y_temps, y_param, y_live, y_work, y_under, y_at, y_in, y_phase, y_base, y_goal, y_operands, mk, td, y_heard) y := by
  rcases vv_cases hv with ⟨i, e, l, q⟩ | ⟨e, q⟩ | ⟨k, hk, e, l, q⟩
  · exact br_t l (h _ _ _ (gm_refl I fun k _ z => absurd ⟨k, z⟩ q))
  · subst e
    exact br_t (by decide) (h _ _ _ (gm_refl I fun k _ z => absurd ⟨k, z⟩ q))
  · refine br_f l ?_
    rw [e, vv_t (by omega)]
    exact ym_reach (by omega) I fun mk' td' t' g => h _ _ _ (gm_cong g fun n _ => (q n).symm)
theorem ix_l (c a i : Nat) : nI c * nI a + nI i = nI (c * a + i) := by rw [pk_mul, nI_add]
theorem ym_from {a : Nat} (ha : a < 160) (V : gy_V y_sort y_keeps y_cells y_within y_self y_args y_temps y_param (32 + a)) (I : gm_I 192 mk td t) (h : ∀ mk' td' t', gm_G 192 (gy_E y_sort y_keeps y_cells y_within y_self y_args y_temps y_param (32 + a)) mk td t mk' td' t' → post (y_classes, y_bodies, y_fault, y_made, y_working, y_peak, y_steps, y_depth, y_waiting, y_code, y_running, y_has, y_got, nI t', nI (ct_n (fun k => mk' k = 1) 32), y_shown, y_spoken, y_parent, y_fields, y_bound, y_kind, y_word, y_size, y_sort, y_number, y_stands, y_keeps, y_cells, y_globals, y_within, y_foundIn, y_self, y_args, y_temps, y_param, y_live, y_work, y_under, y_at, y_in, y_phase, y_base, y_goal, y_operands, mk', td', y_heard)) : wpY_reachFrom post (y_classes, y_bodies, y_fault, y_made, y_working, y_peak, y_steps, y_depth, y_waiting, y_code, y_running, y_has, y_got, nI t, nI (ct_n (fun k => mk k = 1) 32), y_shown, y_spoken, y_parent, y_fields, y_bound, y_kind, y_word, y_size, y_sort, y_number, y_stands, y_keeps, y_cells, y_globals, y_within, y_foundIn, y_self, y_args, y_temps, y_param, y_live, y_work, y_under, y_at, y_in, y_phase, y_base, y_goal, y_operands, mk, td, y_heard) (nI a) := by
  have hc : (nI a).toNatClampNeg = a := nI_clamp (by omega)
  have hv : vp_in (nI a) 160 := vp_in_nI ha (by decide)
  have V2 := V.2 a rfl ha
  unfold wpY_reachFrom
  dsimp only
  rw [hc]
  refine ⟨hv, ?_⟩
  by_cases w : y_within a < 0
  · obtain ⟨v1, v2, v3⟩ := V2.1 w
    refine br_t w ⟨hv, ym_value v1 I fun mk1 td1 t1 g1 => ⟨3, ?_⟩⟩
    refine gm_loop (NN := 192) (fun f i mk td t => wY_reachFrom_45 post (nI a) f (nI i) y_classes y_bodies y_fault y_made y_working y_peak y_steps y_depth y_waiting y_code y_running y_has y_got (nI t) (nI (ct_n (fun k => mk k = 1) 32)) y_shown y_spoken y_parent y_fields y_bound y_kind y_word y_size y_sort y_number y_stands y_keeps y_cells y_globals y_within y_foundIn y_self y_args y_temps y_param y_live y_work y_under y_at y_in y_phase y_base y_goal y_operands mk td y_heard) (fun j => vv_T (y_args (2 * a + j))) 2 0 g1.1 (by omega) ?_ ?_ 3 (by omega)
    · intro f i mk td t _ hi I k
      have e : (2 : Int32) * nI a + nI i = nI (2 * a + i) := ix_l 2 a i
      refine br_f (nI_ge (b := 2) hi (by decide)) ⟨by rw [e]; exact vp_in_nI (by omega) (by decide), ?_⟩
      rw [e, nI_clamp (show 2 * a + i < 2 ^ 31 by omega)]
      exact ym_value (v2 i hi) I fun mk' td' t' g => nm_r (nI_1 i) (k mk' td' t' g)
    · intro f mk2 td2 t2 g2
      refine br_t (by decide) ⟨4, ?_⟩
      refine gm_loop (NN := 192) (fun f i mk td t => wY_reachFrom_72 post (nI a) f (nI i) y_classes y_bodies y_fault y_made y_working y_peak y_steps y_depth y_waiting y_code y_running y_has y_got (nI t) (nI (ct_n (fun k => mk k = 1) 32)) y_shown y_spoken y_parent y_fields y_bound y_kind y_word y_size y_sort y_number y_stands y_keeps y_cells y_globals y_within y_foundIn y_self y_args y_temps y_param y_live y_work y_under y_at y_in y_phase y_base y_goal y_operands mk td y_heard) (fun j => vv_T (y_temps (3 * a + j))) 3 0 g2.1 (by omega) ?_ ?_ 4 (by omega)
      · intro f i mk td t _ hi I k
        have e : (3 : Int32) * nI a + nI i = nI (3 * a + i) := ix_l 3 a i
        refine br_f (nI_ge (b := 3) hi (by decide)) ⟨by rw [e]; exact vp_in_nI (by omega) (by decide), ?_⟩
        rw [e, nI_clamp (show 3 * a + i < 2 ^ 31 by omega)]
        exact ym_value (v3 i hi) I fun mk' td' t' g => nm_r (nI_1 i) (k mk' td' t' g)
      · intro f mk3 td3 t3 g3
        refine br_t (by decide) (h _ _ _ (gm_cong (gm_trans (gm_trans g1 g2) g3) fun n _ => ?_))
        constructor
        · rintro ((z | ⟨j, _, j2, z⟩) | ⟨j, _, j2, z⟩)
          · exact Or.inr (Or.inr (Or.inl ⟨a, rfl, w, Or.inl z⟩))
          · exact Or.inr (Or.inr (Or.inl ⟨a, rfl, w, Or.inr (Or.inl ⟨j, j2, z⟩)⟩))
          · exact Or.inr (Or.inr (Or.inl ⟨a, rfl, w, Or.inr (Or.inr ⟨j, j2, z⟩)⟩))
        · rintro (⟨z, _⟩ | ⟨z, _⟩ | ⟨b, e, _, z | ⟨j, j2, z⟩ | ⟨j, j2, z⟩⟩ | ⟨b, e, z, _⟩)
          · omega
          · omega
          · obtain rfl : b = a := by omega
            exact Or.inl (Or.inl z)
          · obtain rfl : b = a := by omega
            exact Or.inl (Or.inr ⟨j, by omega, j2, z⟩)
          · obtain rfl : b = a := by omega
            exact Or.inr ⟨j, by omega, j2, z⟩
          · obtain rfl : b = a := by omega
            exact absurd w z
  · obtain ⟨v1, b, hb, eb⟩ := V2.2 w
    refine br_f w ⟨hv, ym_value v1 I fun mk1 td1 t1 g1 => ⟨hv, ?_⟩⟩
    dsimp only
    rw [eb, gy_32]
    refine ym_reach (by omega) g1.1 fun mk2 td2 t2 g2 => h _ _ _ (gm_cong (gm_trans g1 g2) fun n _ => ?_)
    constructor
    · rintro (z | z)
      · exact Or.inr (Or.inr (Or.inr ⟨a, rfl, w, Or.inl z⟩))
      · exact Or.inr (Or.inr (Or.inr ⟨a, rfl, w, Or.inr ⟨b, hb, eb, z⟩⟩))
    · rintro (⟨z, _⟩ | ⟨z, _⟩ | ⟨b, e, z, _⟩ | ⟨c, e, _, z | ⟨d, hd, ed, z⟩⟩)
      · omega
      · omega
      · obtain rfl : b = a := by omega
        exact absurd z w
      · obtain rfl : c = a := by omega
        exact Or.inl z
      · obtain rfl : c = a := by omega
        have : b = d := (nI_eq (by omega) (by omega)).mp (eb.symm.trans ed)
        exact Or.inr (by omega)
theorem ym_110 {R : Nat → Prop} (S : Nat → Prop) (hS : ∀ n, S n → n < 192 ∧ gy_V y_sort y_keeps y_cells y_within y_self y_args y_temps y_param n) (hR : ∀ n, R n → S n) (hE : ∀ m n, S m → gy_E y_sort y_keeps y_cells y_within y_self y_args y_temps y_param m n → S n)
    (h : ∀ mk td, (∀ n, n < 192 → mk n = 0 ∨ mk n = 1) → (∀ n, n < 192 → (mk n = 1 ↔ cl_r R (gy_E y_sort y_keeps y_cells y_within y_self y_args y_temps y_param) n)) → post (y_classes, y_bodies, y_fault, y_made, y_working, y_peak, y_steps, y_depth, y_waiting, y_code, y_running, y_has, y_got, nI 0, nI (ct_n (fun k => mk k = 1) 32), y_shown, y_spoken, y_parent, y_fields, y_bound, y_kind, y_word, y_size, y_sort, y_number, y_stands, y_keeps, y_cells, y_globals, y_within, y_foundIn, y_self, y_args, y_temps, y_param, y_live, y_work, y_under, y_at, y_in, y_phase, y_base, y_goal, y_operands, mk, td, y_heard)) :
    ∀ (f : Nat) (mk td : Nat → Int32) (t : Nat), 2 * (192 - ct_n (fun k => mk k = 1) 192) + t < f → gm_I 192 mk td t → gm_F 192 (gy_E y_sort y_keeps y_cells y_within y_self y_args y_temps y_param) mk td 0 t → (∀ n, R n → n < 192 ∧ mk n = 1) → (∀ n, n < 192 → mk n = 1 → cl_r R (gy_E y_sort y_keeps y_cells y_within y_self y_args y_temps y_param) n) → wY_markAll_110 post f y_classes y_bodies y_fault y_made y_working y_peak y_steps y_depth y_waiting y_code y_running y_has y_got (nI t) (nI (ct_n (fun k => mk k = 1) 32)) y_shown y_spoken y_parent y_fields y_bound y_kind y_word y_size y_sort y_number y_stands y_keeps y_cells y_globals y_within y_foundIn y_self y_args y_temps y_param y_live y_work y_under y_at y_in y_phase y_base y_goal y_operands mk td y_heard := by
  intro f
  induction f with
  | zero => intro mk td t hf; omega
  | succ f ih =>
    intro mk td t hf I F r1 r2
    have tl : t ≤ 192 := Nat.le_trans I.2.2 (ct_le _ _)
    cases t with
    | zero =>
      refine br_t (by decide) (h mk td I.1 ?_)
      refine gm_done (lo := 0) (t := 0) r1 (fun m k hm e => ?_) r2 F (Nat.le_refl _)
      rcases e with ⟨_, _, a, a1, _, a3⟩ | ⟨_, _, j, _, a3⟩ | ⟨a, _, _, z | ⟨j, _, z⟩ | ⟨j, _, z⟩⟩ | ⟨a, _, _, z | ⟨b, b1, _, b3⟩⟩
      · omega
      · have := a3.1; omega
      · have := z.1; omega
      · have := z.1; omega
      · have := z.1; omega
      · have := z.1; omega
      · omega
    | succ t =>
      obtain ⟨n, hn, en, mn⟩ := I.2.1 t (by omega)
      have Sn : S n := cl_min (r2 n hn mn) S hR hE
      have Vn := (hS n Sn).2
      have It := gm_drop I
      have tc : (nI t).toNatClampNeg = t := nI_clamp (by omega)
      have nc : (nI n).toNatClampNeg = n := nI_clamp (by omega)
      have go : ∀ mk' td' t', gm_G 192 (gy_E y_sort y_keeps y_cells y_within y_self y_args y_temps y_param n) mk td t mk' td' t' → wY_markAll_110 post f y_classes y_bodies y_fault y_made y_working y_peak y_steps y_depth y_waiting y_code y_running y_has y_got (nI t') (nI (ct_n (fun k => mk' k = 1) 32)) y_shown y_spoken y_parent y_fields y_bound y_kind y_word y_size y_sort y_number y_stands y_keeps y_cells y_globals y_within y_foundIn y_self y_args y_temps y_param y_live y_work y_under y_at y_in y_phase y_base y_goal y_operands mk' td' y_heard := fun mk' td' t' g => by
        refine ih mk' td' t' ?_ g.1 (gm_popY (by decide) hn en F g) (fun k hk => ⟨(r1 k hk).1, (g.2.1 k (r1 k hk).1).mpr (Or.inl (r1 k hk).2)⟩) (fun k hk z => ?_)
        · have a := g.2.2.1
          have b := g.2.2.2.2.2
          have c := ct_le (fun k => mk' k = 1) 192
          omega
        · rcases (g.2.1 k hk).mp z with y | y
          · exact r2 k hk y
          · exact cl_step (r2 n hn mn) y
      refine br_f (nI_nle (by omega) (by omega)) ?_
      rw [nI_pred t, tc]
      refine nm_e ⟨vp_in_nI (by omega) (by decide), nm_r en ?_⟩
      rw [nc]
      refine pk_lt n 32 (fun q => ?_) (fun q => ?_)
      · obtain ⟨V1, V2⟩ := Vn.1 q
        refine ⟨vp_in_nI q (by decide), ?_⟩
        by_cases s3 : y_sort n = 3
        · obtain ⟨a, ha, ea⟩ := V1 s3
          refine br_t s3 ⟨vp_in_nI q (by decide), ?_⟩
          rw [ea, gy_32]
          refine ym_reach (by omega) It fun mk' td' t' g => go mk' td' t' (gm_cong g fun k _ => ?_)
          constructor
          · intro e; exact Or.inl ⟨q, s3, a, ha, ea, e⟩
          · rintro (⟨_, _, b, b1, b2, b3⟩ | ⟨_, z, _⟩ | ⟨b, e, _⟩ | ⟨b, e, _⟩)
            · have : a = b := (nI_eq (by omega) (by omega)).mp (ea.symm.trans b2)
              omega
            · exact absurd s3 z
            · omega
            · omega
        · refine br_f s3 ⟨5, ?_⟩
          refine gm_loop (NN := 192) (fun f' i mk td t => wY_markAll_179 post (wY_markAll_110 post f) (nI n) f' (nI i) y_classes y_bodies y_fault y_made y_working y_peak y_steps y_depth y_waiting y_code y_running y_has y_got (nI t) (nI (ct_n (fun k => mk k = 1) 32)) y_shown y_spoken y_parent y_fields y_bound y_kind y_word y_size y_sort y_number y_stands y_keeps y_cells y_globals y_within y_foundIn y_self y_args y_temps y_param y_live y_work y_under y_at y_in y_phase y_base y_goal y_operands mk td y_heard) (fun j => vv_T (y_cells (4 * n + j))) 4 0 It (by omega) ?_ ?_ 5 (by omega)
          · intro f' i mk td t _ hi I k
            have e : (4 : Int32) * nI n + nI i = nI (4 * n + i) := ix_l 4 n i
            refine br_f (nI_ge (b := 4) hi (by decide)) ⟨by rw [e]; exact vp_in_nI (by omega) (by decide), ?_⟩
            rw [e, nI_clamp (show 4 * n + i < 2 ^ 31 by omega)]
            exact ym_value (V2 s3 i hi) I fun mk' td' t' g => nm_r (nI_1 i) (k mk' td' t' g)
          · intro f' mk' td' t' g
            refine br_t (by decide) (go mk' td' t' (gm_cong g fun k _ => ?_))
            constructor
            · rintro ⟨j, _, j2, z⟩; exact Or.inr (Or.inl ⟨q, s3, j, j2, z⟩)
            · rintro (⟨_, z, _⟩ | ⟨_, _, j, j2, z⟩ | ⟨b, e, _⟩ | ⟨b, e, _⟩)
              · exact absurd z s3
              · exact ⟨j, by omega, j2, z⟩
              · omega
              · omega
      · rw [gy_m32 q]
        have e32 : 32 + (n - 32) = n := by omega
        exact ym_from (a := n - 32) (by omega) (by rw [e32]; exact Vn) It (by rw [e32]; exact go)
theorem ym_markAll {wt wk : Nat} (hw : y_waiting = nI wt) (hwt : wt ≤ 500) (hk : y_working = nI wk) (hwk : wk ≤ 12) (hgl : ∀ k, k < 4 → vv_V (y_globals k)) (hop : ∀ k, k < wt → vv_V (y_operands k)) (hwo : ∀ k, k < wk → ∃ a, a < 160 ∧ y_work k = nI a)
    (S : Nat → Prop) (hS : ∀ n, S n → n < 192 ∧ gy_V y_sort y_keeps y_cells y_within y_self y_args y_temps y_param n) (hR : ∀ n, gy_R y_globals y_operands wt y_work wk n → S n) (hE : ∀ m n, S m → gy_E y_sort y_keeps y_cells y_within y_self y_args y_temps y_param m n → S n)
    (h : ∀ mk td, (∀ n, n < 192 → mk n = 0 ∨ mk n = 1) → (∀ n, n < 192 → (mk n = 1 ↔ cl_r (gy_R y_globals y_operands wt y_work wk) (gy_E y_sort y_keeps y_cells y_within y_self y_args y_temps y_param) n)) → post (y_classes, y_bodies, y_fault, y_made, y_working, y_peak, y_steps, y_depth, y_waiting, y_code, y_running, y_has, y_got, nI 0, nI (ct_n (fun k => mk k = 1) 32), y_shown, y_spoken, y_parent, y_fields, y_bound, y_kind, y_word, y_size, y_sort, y_number, y_stands, y_keeps, y_cells, y_globals, y_within, y_foundIn, y_self, y_args, y_temps, y_param, y_live, y_work, y_under, y_at, y_in, y_phase, y_base, y_goal, y_operands, mk, td, y_heard)) : wpY_markAll post (y_classes, y_bodies, y_fault, y_made, y_working, y_peak, y_steps, y_depth, y_waiting, y_code, y_running, y_has, y_got, y_todos, y_marks, y_shown, y_spoken, y_parent, y_fields, y_bound, y_kind, y_word, y_size, y_sort, y_number, y_stands, y_keeps, y_cells, y_globals, y_within, y_foundIn, y_self, y_args, y_temps, y_param, y_live, y_work, y_under, y_at, y_in, y_phase, y_base, y_goal, y_operands, y_marked, y_todo, y_heard) := by
  subst hw hk
  have l83 : ∀ mk td t, gm_G 192 (fun n => (∃ k, 0 ≤ k ∧ k < 4 ∧ vv_T (y_globals k) n) ∨ ∃ k, 0 ≤ k ∧ k < wt ∧ vv_T (y_operands k) n) (fun _ => 0) y_todo 0 mk td t → wY_markAll_83 post (wk + 1) (nI 0) y_classes y_bodies y_fault y_made (nI wk) y_peak y_steps y_depth (nI wt) y_code y_running y_has y_got (nI t) (nI (ct_n (fun k => mk k = 1) 32)) y_shown y_spoken y_parent y_fields y_bound y_kind y_word y_size y_sort y_number y_stands y_keeps y_cells y_globals y_within y_foundIn y_self y_args y_temps y_param y_live y_work y_under y_at y_in y_phase y_base y_goal y_operands mk td y_heard := by
    intro mk td t g
    refine gm_loop (NN := 192) (fun f i mk td t => wY_markAll_83 post f (nI i) y_classes y_bodies y_fault y_made (nI wk) y_peak y_steps y_depth (nI wt) y_code y_running y_has y_got (nI t) (nI (ct_n (fun k => mk k = 1) 32)) y_shown y_spoken y_parent y_fields y_bound y_kind y_word y_size y_sort y_number y_stands y_keeps y_cells y_globals y_within y_foundIn y_self y_args y_temps y_param y_live y_work y_under y_at y_in y_phase y_base y_goal y_operands mk td y_heard) (fun k n => ∃ a, a < 160 ∧ y_work k = nI a ∧ n = 32 + a) wk 0 g.1 (by omega) ?_ ?_ (wk + 1) (by omega)
    · intro f i mk td t _ hi I k
      obtain ⟨a, ha, ea⟩ := hwo i hi
      have ic : (nI i).toNatClampNeg = i := nI_clamp (by omega)
      refine br_f (nI_ge hi (by omega)) ⟨vp_in_nI (by omega) (by decide), ?_⟩
      rw [ic, ea, gy_32]
      refine ym_reach (by omega) I fun mk' td' t' g => nm_r (nI_1 i) (k mk' td' t' (gm_cong g fun n _ => ⟨fun e => ⟨a, ha, ea, e⟩, fun ⟨b, b1, b2, b3⟩ => ?_⟩))
      have : a = b := (nI_eq (by omega) (by omega)).mp (ea.symm.trans b2)
      omega
    · intro f mk2 td2 t2 g2
      have G := gm_trans g g2
      have eR : ∀ n, n < 192 → ((((∃ k, 0 ≤ k ∧ k < 4 ∧ vv_T (y_globals k) n) ∨ ∃ k, 0 ≤ k ∧ k < wt ∧ vv_T (y_operands k) n) ∨ ∃ k, 0 ≤ k ∧ k < wk ∧ ∃ a, a < 160 ∧ y_work k = nI a ∧ n = 32 + a) ↔ gy_R y_globals y_operands wt y_work wk n) := fun n _ =>
        ⟨fun z => by
          rcases z with (⟨k, _, a, b⟩ | ⟨k, _, a, b⟩) | ⟨k, _, a, c, b1, b2, b3⟩
          · exact Or.inl ⟨k, a, b⟩
          · exact Or.inr (Or.inl ⟨k, a, b⟩)
          · exact Or.inr (Or.inr ⟨k, c, a, b1, b2, b3⟩), fun z => by
          rcases z with ⟨k, a, b⟩ | ⟨k, a, b⟩ | ⟨k, c, a, b1, b2, b3⟩
          · exact Or.inl (Or.inl ⟨k, by omega, a, b⟩)
          · exact Or.inl (Or.inr ⟨k, by omega, a, b⟩)
          · exact Or.inr ⟨k, by omega, a, c, b1, b2, b3⟩⟩
      have G2 := gm_cong G eR
      have hm : ∀ n, n < 192 → (mk2 n = 1 ↔ gy_R y_globals y_operands wt y_work wk n) := fun n hn => by
        rw [G2.2.1 n hn]
        exact ⟨fun z => z.elim (fun q => absurd (show (0 : Int32) = 1 from q) (by decide)) id, Or.inr⟩
      refine br_t (nI_le (Nat.le_refl _) (by omega)) ⟨2 * 192 + t2 + 1, ?_⟩
      refine ym_110 S hS hR hE h _ mk2 td2 t2 (by omega) G2.1 ?_ (fun n hn => ?_) (fun n hn z => cl_root ((hm n hn).mp z))
      · intro m hm1 hm2
        rcases G2.2.2.2.2.1 m hm1 hm2 with z | ⟨i, i1, i2, i3⟩
        · exact absurd (show (0 : Int32) = 1 from z) (by decide)
        · exact Or.inl ⟨i, i1, i2, i3⟩
      · have hl : n < 192 := (hS n (hR n hn)).1
        exact ⟨hl, (hm n hl).mpr hn⟩
  have l57 : ∀ mk td t, gm_G 192 (fun n => ∃ k, 0 ≤ k ∧ k < 4 ∧ vv_T (y_globals k) n) (fun _ => 0) y_todo 0 mk td t → wY_markAll_57 post (wt + 1) (nI 0) y_classes y_bodies y_fault y_made (nI wk) y_peak y_steps y_depth (nI wt) y_code y_running y_has y_got (nI t) (nI (ct_n (fun k => mk k = 1) 32)) y_shown y_spoken y_parent y_fields y_bound y_kind y_word y_size y_sort y_number y_stands y_keeps y_cells y_globals y_within y_foundIn y_self y_args y_temps y_param y_live y_work y_under y_at y_in y_phase y_base y_goal y_operands mk td y_heard := by
    intro mk td t g
    refine gm_loop (NN := 192) (fun f i mk td t => wY_markAll_57 post f (nI i) y_classes y_bodies y_fault y_made (nI wk) y_peak y_steps y_depth (nI wt) y_code y_running y_has y_got (nI t) (nI (ct_n (fun k => mk k = 1) 32)) y_shown y_spoken y_parent y_fields y_bound y_kind y_word y_size y_sort y_number y_stands y_keeps y_cells y_globals y_within y_foundIn y_self y_args y_temps y_param y_live y_work y_under y_at y_in y_phase y_base y_goal y_operands mk td y_heard) (fun k n => vv_T (y_operands k) n) wt 0 g.1 (by omega) ?_ ?_ (wt + 1) (by omega)
    · intro f i mk td t _ hi I k
      have ic : (nI i).toNatClampNeg = i := nI_clamp (by omega)
      refine br_f (nI_ge hi (by omega)) ⟨vp_in_nI (by omega) (by decide), ?_⟩
      rw [ic]
      exact ym_value (hop i hi) I fun mk' td' t' g => nm_r (nI_1 i) (k mk' td' t' g)
    · intro f mk2 td2 t2 g2
      exact br_t (nI_le (Nat.le_refl _) (by omega)) ⟨wk + 1, l83 mk2 td2 t2 (gm_trans g g2)⟩
  have l34 : ∀ mk, (∀ n, n < 192 → mk n = 0) → wY_markAll_34 post 5 (nI 0) y_classes y_bodies y_fault y_made (nI wk) y_peak y_steps y_depth (nI wt) y_code y_running y_has y_got (nI 0) (nI (ct_n (fun k => mk k = 1) 32)) y_shown y_spoken y_parent y_fields y_bound y_kind y_word y_size y_sort y_number y_stands y_keeps y_cells y_globals y_within y_foundIn y_self y_args y_temps y_param y_live y_work y_under y_at y_in y_phase y_base y_goal y_operands mk y_todo y_heard := by
    intro mk hmk
    refine gm_loop (NN := 192) (fun f i mk td t => wY_markAll_34 post f (nI i) y_classes y_bodies y_fault y_made (nI wk) y_peak y_steps y_depth (nI wt) y_code y_running y_has y_got (nI t) (nI (ct_n (fun k => mk k = 1) 32)) y_shown y_spoken y_parent y_fields y_bound y_kind y_word y_size y_sort y_number y_stands y_keeps y_cells y_globals y_within y_foundIn y_self y_args y_temps y_param y_live y_work y_under y_at y_in y_phase y_base y_goal y_operands mk td y_heard) (fun k n => vv_T (y_globals k) n) 4 0 (gm_start 192 hmk) (by omega) ?_ ?_ 5 (by omega)
    · intro f i mk td t _ hi I k
      have ic : (nI i).toNatClampNeg = i := nI_clamp (by omega)
      refine br_f (nI_ge (b := 4) hi (by decide)) ⟨vp_in_nI (by omega) (by decide), ?_⟩
      rw [ic]
      exact ym_value (hgl i hi) I fun mk' td' t' g => nm_r (nI_1 i) (k mk' td' t' g)
    · intro f mk2 td2 t2 g2
      refine br_t (by decide) ⟨wt + 1, l57 mk2 td2 t2 ⟨g2.1, fun n hn => ?_, g2.2.2.1, g2.2.2.2.1, fun n hn z => ?_, ?_⟩⟩
      · rw [g2.2.1 n hn, hmk n hn]
      · rcases g2.2.2.2.2.1 n hn z with q | q
        · rw [hmk n hn] at q; exact absurd q (by decide)
        · exact Or.inr q
      · have e : ct_n (fun n => mk n = 1) 192 = ct_n (fun _ => (0 : Int32) = 1) 192 := ct_eq fun k hk => by rw [hmk k hk]
        rw [← e]; exact g2.2.2.2.2.2
  refine loop_0 (fun n i mk => wY_markAll_2 post y_classes y_bodies y_fault y_made (nI wk) y_peak y_steps y_depth (nI wt) y_code y_running y_has y_got y_todos y_marks y_shown y_spoken n (nI i) y_parent y_fields y_bound y_kind y_word y_size y_sort y_number y_stands y_keeps y_cells y_globals y_within y_foundIn y_self y_args y_temps y_param y_live y_work y_under y_at y_in y_phase y_base y_goal y_operands mk y_todo y_heard) (fun i mk => ∀ j, j < i → mk j = 0) 192 y_marked (fun j hj => by omega) ?_ ?_
  · intro n mk I
    have c0 : ct_n (fun k => mk k = 1) 32 = 0 := ct_none fun k hk z => by rw [I k (by omega)] at z; exact absurd z (by decide)
    have q := l34 mk I
    rw [c0] at q
    exact br_t (by decide) ⟨5, q⟩
  · intro n i mk hi I k
    have ic : (nI i).toNatClampNeg = i := nI_clamp (by omega)
    refine br_f (nI_ge (b := 192) hi (by decide)) ⟨vp_in_nI hi (by decide), ?_⟩
    rw [ic, show vp_nar .boolean 0 = 0 by rfl]
    refine nm_e (nm_r (nI_1 i) (k _ fun j hj => ?_))
    by_cases q : j = i
    · subst q; exact pk_us
    · rw [pk_un q]; exact I j (by omega)
end
end
section
/-! the class's marking -/
def gx_T (sh : Nat → Int64) (v : Int64) (t : Nat) : Prop := t < 24 ∧ 20000000000 ≤ v ∧ sh t = v
def gx_A (p : Int32) (n : Nat) : Prop := ∃ b, b < 128 ∧ p = nI b ∧ n = 24 + b
def gx_R (sh gl op : Nat → Int64) (fc : Nat) (bf : Nat → Int32) (n : Nat) : Prop :=
  (∃ k, k < 4 ∧ gx_T sh (gl k) n) ∨ (∃ k, k < fc * 3 ∧ gx_T sh (op k) n) ∨ (∃ a, a < 128 ∧ ¬ bf a = -1 ∧ n = 24 + a)
def gx_E (sh fl : Nat → Int64) (mr : Nat → Int32) (va : Nat → Int64) (wi : Nat → Int32) (m n : Nat) : Prop :=
  (m < 24 ∧ ((∃ j, j < 4 ∧ gx_T sh (fl (m * 4 + j)) n) ∨ gx_A (mr m) n)) ∨ (∃ a, m = 24 + a ∧ ((∃ j, j < 7 ∧ gx_T sh (va (a * 7 + j)) n) ∨ gx_A (wi a) n))
def gx_P (p : Int32) : Prop := p = -1 ∨ ∃ b, b < 128 ∧ p = nI b
theorem gx_m1 {b : Nat} (h : b < 2 ^ 31) : ¬ nI b = -1 := fun z => by
  have : (nI b).toInt = (-1 : Int32).toInt := by rw [z]
  rw [nI_toInt h, show (-1 : Int32).toInt = -1 from by decide] at this
  omega
theorem gx_24 (a : Nat) : (24 : Int32) + nI a = nI (24 + a) := nI_add 24 a
theorem ix_r (c a i : Nat) : nI a * nI c + nI i = nI (a * c + i) := by rw [pk_mul, nI_add]
section
variable {x_classCount x_bodyCount x_draftCount x_wrongPlace x_madeCount x_frameCount x_current x_next x_mode x_outcome x_stepCount x_atWork x_mostAtWork x_saidCount x_pendingCount : Int32} {x_inHand : Int64} {x_classParent x_classFields x_bound x_tokenKind x_tokenValue x_thingClass x_thingToken x_thingMaker x_homeOf x_within x_foundIn x_baseFrame x_frameToken x_frameStage x_frameLink x_marked x_pending : Nat → Int32} {x_globals x_thingShown x_thingFields x_variables x_operands x_saidValues : Nat → Int64}
variable {mk td : Nat → Int32} {t : Nat}
theorem xm_thing {post : SX → Prop} {v : Int64} (I : gm_I 152 mk td t) (h : ∀ mk' td' t', gm_G 152 (gx_T x_thingShown v) mk td t mk' td' t' → post (x_classCount, x_bodyCount, x_draftCount, x_wrongPlace, x_madeCount, x_frameCount, x_current, x_next, x_inHand, x_mode, x_outcome, x_stepCount, x_atWork, x_mostAtWork, x_saidCount, nI t', x_classParent, x_classFields, x_bound, x_tokenKind, x_tokenValue, x_globals, x_thingShown, x_thingClass, x_thingFields, x_thingToken, x_thingMaker, x_variables, x_homeOf, x_within, x_foundIn, x_baseFrame, x_frameToken, x_frameStage, x_frameLink, x_operands, x_saidValues, mk', td')) : wpX_markThing post (x_classCount, x_bodyCount, x_draftCount, x_wrongPlace, x_madeCount, x_frameCount, x_current, x_next, x_inHand, x_mode, x_outcome, x_stepCount, x_atWork, x_mostAtWork, x_saidCount, nI t, x_classParent, x_classFields, x_bound, x_tokenKind, x_tokenValue, x_globals, x_thingShown, x_thingClass, x_thingFields, x_thingToken, x_thingMaker, x_variables, x_homeOf, x_within, x_foundIn, x_baseFrame, x_frameToken, x_frameStage, x_frameLink, x_operands, x_saidValues, mk, td) v := by
  unfold wpX_markThing
  dsimp only
  by_cases hv : 20000000000 ≤ v
  · refine br_t hv ⟨25, ?_⟩
    refine gm_loop (NN := 152) (fun f i mk td t => wX_markThing_11 post v x_classCount x_bodyCount x_draftCount x_wrongPlace x_madeCount x_frameCount x_current x_next x_inHand x_mode x_outcome x_stepCount x_atWork x_mostAtWork x_saidCount f (nI i) (nI t) x_classParent x_classFields x_bound x_tokenKind x_tokenValue x_globals x_thingShown x_thingClass x_thingFields x_thingToken x_thingMaker x_variables x_homeOf x_within x_foundIn x_baseFrame x_frameToken x_frameStage x_frameLink x_operands x_saidValues mk td) (fun i n => n = i ∧ x_thingShown i = v) 24 0 I (by omega) ?_ ?_ 25 (by omega)
    · intro f i mk td t _ hi I k
      have ic : (nI i).toNatClampNeg = i := nI_clamp (by omega)
      have hi2 : vp_in (nI i) 152 := vp_in_nI (by omega) (by decide)
      refine br_f (nI_ge (b := 24) hi (by decide)) ⟨vp_in_nI hi (by decide), ?_⟩
      rw [ic]
      by_cases s : x_thingShown i = v
      · refine br_t s ⟨hi2, ?_⟩
        rcases I.1 i (by omega) with z | z
        · have z1 : ¬ mk i = 1 := by rw [z]; decide
          obtain ⟨g1, g2⟩ := gm_push I (by omega) z1
          have et : (nI t).toNatClampNeg = t := nI_clamp (by omega)
          refine br_t z ⟨hi2, ?_⟩
          rw [show vp_nar .boolean 1 = 1 by rfl, et]
          refine nm_e ⟨vp_in_nI g1 (by decide), nm_e (nm_r (nI_1 t) (nm_r (nI_1 i) (k _ _ _ (gm_cong g2 fun n _ => ⟨fun e => ⟨e, s⟩, fun e => e.1⟩))))⟩
        · have z1 : ¬ mk i = 0 := by rw [z]; decide
          exact br_f z1 (nm_r (nI_1 i) (k _ _ _ (gm_refl I fun n _ e => by rw [e.1]; exact z)))
      · exact br_f s (nm_r (nI_1 i) (k _ _ _ (gm_refl I fun n _ e => absurd e.2 s)))
    · intro f mk' td' t' g
      refine br_t (by decide) (h _ _ _ (gm_cong g fun n _ => ⟨fun ⟨k, _, k2, e, k3⟩ => ?_, fun ⟨a, _, c⟩ => ⟨n, by omega, a, rfl, c⟩⟩))
      subst e; exact ⟨k2, hv, k3⟩
  · exact br_f hv (h _ _ _ (gm_refl I fun n _ z => absurd z.2.1 hv))
theorem xm_act {post : SX → Prop} {p : Int32} (hp : gx_P p) (I : gm_I 152 mk td t) (h : ∀ mk' td' t', gm_G 152 (gx_A p) mk td t mk' td' t' → post (x_classCount, x_bodyCount, x_draftCount, x_wrongPlace, x_madeCount, x_frameCount, x_current, x_next, x_inHand, x_mode, x_outcome, x_stepCount, x_atWork, x_mostAtWork, x_saidCount, nI t', x_classParent, x_classFields, x_bound, x_tokenKind, x_tokenValue, x_globals, x_thingShown, x_thingClass, x_thingFields, x_thingToken, x_thingMaker, x_variables, x_homeOf, x_within, x_foundIn, x_baseFrame, x_frameToken, x_frameStage, x_frameLink, x_operands, x_saidValues, mk', td')) : wpX_markActivation post (x_classCount, x_bodyCount, x_draftCount, x_wrongPlace, x_madeCount, x_frameCount, x_current, x_next, x_inHand, x_mode, x_outcome, x_stepCount, x_atWork, x_mostAtWork, x_saidCount, nI t, x_classParent, x_classFields, x_bound, x_tokenKind, x_tokenValue, x_globals, x_thingShown, x_thingClass, x_thingFields, x_thingToken, x_thingMaker, x_variables, x_homeOf, x_within, x_foundIn, x_baseFrame, x_frameToken, x_frameStage, x_frameLink, x_operands, x_saidValues, mk, td) p := by
  unfold wpX_markActivation
  dsimp only
  rcases hp with e | ⟨b, hb, e⟩
  · refine br_t e (h _ _ _ (gm_refl I fun n _ ⟨b, b1, b2, _⟩ => ?_))
    exact absurd (b2.symm.trans e) (gx_m1 (by omega))
  · subst e
    have hc : (nI (24 + b)).toNatClampNeg = 24 + b := nI_clamp (by omega)
    have hi2 : vp_in (nI (24 + b)) 152 := vp_in_nI (by omega) (by decide)
    have eN : ∀ n, n < 152 → (n = 24 + b ↔ gx_A (nI b) n) := fun n _ => ⟨fun e => ⟨b, hb, rfl, e⟩, fun ⟨c, c1, c2, c3⟩ => by
      have : b = c := (nI_eq (by omega) (by omega)).mp c2
      omega⟩
    refine br_f (gx_m1 (by omega)) ?_
    rw [gx_24, hc]
    refine ⟨hi2, ?_⟩
    rcases I.1 (24 + b) (by omega) with z | z
    · have z1 : ¬ mk (24 + b) = 1 := by rw [z]; decide
      obtain ⟨g1, g2⟩ := gm_push I (by omega) z1
      have et : (nI t).toNatClampNeg = t := nI_clamp (by omega)
      refine br_t z ⟨hi2, ?_⟩
      rw [show vp_nar .boolean 1 = 1 by rfl, et]
      exact nm_e ⟨vp_in_nI g1 (by decide), nm_e (nm_r (nI_1 t) (h _ _ _ (gm_cong g2 eN)))⟩
    · have z1 : ¬ mk (24 + b) = 0 := by rw [z]; decide
      exact br_f z1 (h _ _ _ (gm_refl I fun n hn e => by rw [(eN n hn).mpr e]; exact z))
theorem xm_235 {post : Int32 → SX → Prop} (hb : ∀ n, n < 152 → x_marked n = 0 ∨ x_marked n = 1) (h : post (nI (ct_n (fun k => x_marked k = 1) 24)) (x_classCount, x_bodyCount, x_draftCount, x_wrongPlace, x_madeCount, x_frameCount, x_current, x_next, x_inHand, x_mode, x_outcome, x_stepCount, x_atWork, x_mostAtWork, x_saidCount, x_pendingCount, x_classParent, x_classFields, x_bound, x_tokenKind, x_tokenValue, x_globals, x_thingShown, x_thingClass, x_thingFields, x_thingToken, x_thingMaker, x_variables, x_homeOf, x_within, x_foundIn, x_baseFrame, x_frameToken, x_frameStage, x_frameLink, x_operands, x_saidValues, x_marked, x_pending)) : ∀ d i f, i + d = 24 → d < f → wX_markReachable_235 post x_classCount x_bodyCount x_draftCount x_wrongPlace x_madeCount x_frameCount x_current x_next x_inHand x_mode x_outcome x_stepCount x_atWork x_mostAtWork x_saidCount x_pendingCount x_classParent x_classFields x_bound x_tokenKind x_tokenValue x_globals x_thingShown x_thingClass x_thingFields x_thingToken x_thingMaker x_variables x_homeOf x_within x_foundIn x_baseFrame x_frameToken x_frameStage x_frameLink x_operands x_saidValues x_marked x_pending f (nI (ct_n (fun k => x_marked k = 1) i)) (nI i)
  | 0, i, 0, _, hf => by omega
  | 0, i, f + 1, e, hf => by
    have e : i = 24 := by omega
    subst e
    exact br_t (by decide) h
  | d + 1, i, 0, _, hf => by omega
  | d + 1, i, f + 1, e, hf => by
    have ic : (nI i).toNatClampNeg = i := nI_clamp (by omega)
    refine br_f (nI_ge (b := 24) (by omega) (by decide)) ⟨vp_in_nI (by omega) (by decide), ?_⟩
    rw [ic]
    have := xm_235 hb h d (i + 1) f (by omega) (by omega)
    rcases hb i (by omega) with z | z
    · have c : ct_n (fun k => x_marked k = 1) (i + 1) = ct_n (fun k => x_marked k = 1) i := by
        show _ + ct_b _ = _
        rw [ct_bf (show ¬ x_marked i = 1 by rw [z]; decide)]; rfl
      rw [c] at this
      exact br_t z (nm_r (nI_1 i) this)
    · have c : ct_n (fun k => x_marked k = 1) (i + 1) = ct_n (fun k => x_marked k = 1) i + 1 := by
        show _ + ct_b _ = _
        rw [ct_bt z]
      rw [c] at this
      exact br_f (by rw [z]; decide) (nm_r (nI_1 _) (nm_r (nI_1 i) this))
theorem xm_110 {post : Int32 → SX → Prop} {R : Nat → Prop} (hm : ∀ m, m < 24 → gx_P (x_thingMaker m)) (hw : ∀ a, a < 128 → gx_P (x_within a))
    (h : ∀ mk td t, (∀ n, n < 152 → mk n = 0 ∨ mk n = 1) → (∀ n, n < 152 → (mk n = 1 ↔ cl_r R (gx_E x_thingShown x_thingFields x_thingMaker x_variables x_within) n)) → post (nI (ct_n (fun k => mk k = 1) 24)) (x_classCount, x_bodyCount, x_draftCount, x_wrongPlace, x_madeCount, x_frameCount, x_current, x_next, x_inHand, x_mode, x_outcome, x_stepCount, x_atWork, x_mostAtWork, x_saidCount, nI t, x_classParent, x_classFields, x_bound, x_tokenKind, x_tokenValue, x_globals, x_thingShown, x_thingClass, x_thingFields, x_thingToken, x_thingMaker, x_variables, x_homeOf, x_within, x_foundIn, x_baseFrame, x_frameToken, x_frameStage, x_frameLink, x_operands, x_saidValues, mk, td)) :
    ∀ (f i : Nat) (mk td : Nat → Int32) (t : Nat), 152 - i < f → i ≤ t → t = ct_n (fun k => mk k = 1) 152 → gm_I 152 mk td t → gm_F 152 (gx_E x_thingShown x_thingFields x_thingMaker x_variables x_within) mk td i t → (∀ n, R n → n < 152 ∧ mk n = 1) → (∀ n, n < 152 → mk n = 1 → cl_r R (gx_E x_thingShown x_thingFields x_thingMaker x_variables x_within) n) → wX_markReachable_110 post f (nI i) x_classCount x_bodyCount x_draftCount x_wrongPlace x_madeCount x_frameCount x_current x_next x_inHand x_mode x_outcome x_stepCount x_atWork x_mostAtWork x_saidCount (nI t) x_classParent x_classFields x_bound x_tokenKind x_tokenValue x_globals x_thingShown x_thingClass x_thingFields x_thingToken x_thingMaker x_variables x_homeOf x_within x_foundIn x_baseFrame x_frameToken x_frameStage x_frameLink x_operands x_saidValues mk td := by
  intro f
  induction f with
  | zero => intro i mk td t hf; omega
  | succ f ih =>
    intro i mk td t hf hit ht I F r1 r2
    have tl : t ≤ 152 := Nat.le_trans I.2.2 (ct_le _ _)
    have fin : t ≤ i → ∃ n235 : Nat, wX_markReachable_235 post x_classCount x_bodyCount x_draftCount x_wrongPlace x_madeCount x_frameCount x_current x_next x_inHand x_mode x_outcome x_stepCount x_atWork x_mostAtWork x_saidCount (nI t) x_classParent x_classFields x_bound x_tokenKind x_tokenValue x_globals x_thingShown x_thingClass x_thingFields x_thingToken x_thingMaker x_variables x_homeOf x_within x_foundIn x_baseFrame x_frameToken x_frameStage x_frameLink x_operands x_saidValues mk td n235 0 0 := fun hti => by
      refine ⟨25, ?_⟩
      refine xm_235 I.1 (h mk td t I.1 ?_) 24 0 25 (by omega) (by omega)
      refine gm_done r1 (fun m k hm e => ?_) r2 F hti
      rcases e with ⟨_, ⟨j, _, z⟩ | ⟨b, b1, _, b3⟩⟩ | ⟨a, _, ⟨j, _, z⟩ | ⟨b, b1, _, b3⟩⟩
      · have := z.1; omega
      · omega
      · have := z.1; omega
      · omega
    refine pk_le 152 i (fun q => fin (by omega)) (fun q => pk_le t i (fun q2 => fin q2) (fun q2 => ?_))
    obtain ⟨n, hn, en, mn⟩ := I.2.1 i q2
    have ic : (nI i).toNatClampNeg = i := nI_clamp (by omega)
    have nc : (nI n).toNatClampNeg = n := nI_clamp (by omega)
    have go : ∀ mk' td' t', gm_G 152 (gx_E x_thingShown x_thingFields x_thingMaker x_variables x_within n) mk td t mk' td' t' → wX_markReachable_110 post f (nI (i + 1)) x_classCount x_bodyCount x_draftCount x_wrongPlace x_madeCount x_frameCount x_current x_next x_inHand x_mode x_outcome x_stepCount x_atWork x_mostAtWork x_saidCount (nI t') x_classParent x_classFields x_bound x_tokenKind x_tokenValue x_globals x_thingShown x_thingClass x_thingFields x_thingToken x_thingMaker x_variables x_homeOf x_within x_foundIn x_baseFrame x_frameToken x_frameStage x_frameLink x_operands x_saidValues mk' td' := fun mk' td' t' g => by
      have a := g.2.2.1
      have b := g.2.2.2.2.2
      refine ih (i + 1) mk' td' t' (by omega) (by omega) (by omega) g.1 (gm_popX (by decide) hn q2 en F g) (fun k hk => ⟨(r1 k hk).1, (g.2.1 k (r1 k hk).1).mpr (Or.inl (r1 k hk).2)⟩) (fun k hk z => ?_)
      rcases (g.2.1 k hk).mp z with y | y
      · exact r2 k hk y
      · exact cl_step (r2 n hn mn) y
    refine ⟨vp_in_nI (by omega) (by decide), nm_r (show td (nI i).toNatClampNeg = nI n by rw [ic]; exact en) ?_⟩
    refine pk_le 24 n (fun q3 => ?_) (fun q3 => ?_)
    · have e24 : nI n - 24 = nI (n - 24) := pk_sub (b := 24) q3
      have ac : (nI (n - 24)).toNatClampNeg = n - 24 := nI_clamp (by omega)
      refine nm_r e24 ⟨8, ?_⟩
      refine gm_loop (NN := 152) (fun f' j mk td t => wX_markReachable_186 post (wX_markReachable_110 post f) (nI i) (nI (n - 24)) f' (nI j) x_classCount x_bodyCount x_draftCount x_wrongPlace x_madeCount x_frameCount x_current x_next x_inHand x_mode x_outcome x_stepCount x_atWork x_mostAtWork x_saidCount (nI t) x_classParent x_classFields x_bound x_tokenKind x_tokenValue x_globals x_thingShown x_thingClass x_thingFields x_thingToken x_thingMaker x_variables x_homeOf x_within x_foundIn x_baseFrame x_frameToken x_frameStage x_frameLink x_operands x_saidValues mk td) (fun j => gx_T x_thingShown (x_variables ((n - 24) * 7 + j))) 7 0 I (by omega) ?_ ?_ 8 (by omega)
      · intro f' j mk td t _ hj I k
        have e : nI (n - 24) * (7 : Int32) + nI j = nI ((n - 24) * 7 + j) := ix_r 7 (n - 24) j
        refine br_f (nI_ge (b := 7) hj (by decide)) ⟨by rw [e]; exact vp_in_nI (by omega) (by decide), ?_⟩
        rw [e, nI_clamp (show (n - 24) * 7 + j < 2 ^ 31 by omega)]
        exact xm_thing I fun mk' td' t' g => nm_r (nI_1 j) (k mk' td' t' g)
      · intro f' mk' td' t' g
        refine br_t (by decide) ⟨vp_in_nI (by omega) (by decide), ?_⟩
        rw [ac]
        refine xm_act (hw _ (by omega)) g.1 fun mk2 td2 t2 g2 => nm_r (nI_1 i) (go mk2 td2 t2 (gm_cong (gm_trans g g2) fun k _ => ?_))
        constructor
        · rintro (⟨j, _, j2, z⟩ | z)
          · exact Or.inr ⟨n - 24, by omega, Or.inl ⟨j, j2, z⟩⟩
          · exact Or.inr ⟨n - 24, by omega, Or.inr z⟩
        · rintro (⟨z, _⟩ | ⟨a, e, ⟨j, j2, z⟩ | z⟩)
          · omega
          · obtain rfl : a = n - 24 := by omega
            exact Or.inl ⟨j, by omega, j2, z⟩
          · obtain rfl : a = n - 24 := by omega
            exact Or.inr z
    · refine ⟨5, ?_⟩
      refine gm_loop (NN := 152) (fun f' j mk td t => wX_markReachable_140 post (wX_markReachable_110 post f) (nI i) (nI n) f' (nI j) x_classCount x_bodyCount x_draftCount x_wrongPlace x_madeCount x_frameCount x_current x_next x_inHand x_mode x_outcome x_stepCount x_atWork x_mostAtWork x_saidCount (nI t) x_classParent x_classFields x_bound x_tokenKind x_tokenValue x_globals x_thingShown x_thingClass x_thingFields x_thingToken x_thingMaker x_variables x_homeOf x_within x_foundIn x_baseFrame x_frameToken x_frameStage x_frameLink x_operands x_saidValues mk td) (fun j => gx_T x_thingShown (x_thingFields (n * 4 + j))) 4 0 I (by omega) ?_ ?_ 5 (by omega)
      · intro f' j mk td t _ hj I k
        have e : nI n * (4 : Int32) + nI j = nI (n * 4 + j) := ix_r 4 n j
        refine br_f (nI_ge (b := 4) hj (by decide)) ⟨by rw [e]; exact vp_in_nI (by omega) (by decide), ?_⟩
        rw [e, nI_clamp (show n * 4 + j < 2 ^ 31 by omega)]
        exact xm_thing I fun mk' td' t' g => nm_r (nI_1 j) (k mk' td' t' g)
      · intro f' mk' td' t' g
        refine br_t (by decide) ⟨vp_in_nI q3 (by decide), ?_⟩
        rw [nc]
        refine xm_act (hm _ q3) g.1 fun mk2 td2 t2 g2 => nm_r (nI_1 i) (go mk2 td2 t2 (gm_cong (gm_trans g g2) fun k _ => ?_))
        constructor
        · rintro (⟨j, _, j2, z⟩ | z)
          · exact Or.inl ⟨q3, Or.inl ⟨j, j2, z⟩⟩
          · exact Or.inl ⟨q3, Or.inr z⟩
        · rintro (⟨_, ⟨j, j2, z⟩ | z⟩ | ⟨a, e, _⟩)
          · exact Or.inl ⟨j, by omega, j2, z⟩
          · exact Or.inr z
          · omega
theorem xm_markReachable {post : Int32 → SX → Prop} {fc : Nat} (hfc : x_frameCount = nI fc) (hfl : fc * 3 ≤ 1152) (hm : ∀ m, m < 24 → gx_P (x_thingMaker m)) (hw : ∀ a, a < 128 → gx_P (x_within a))
    (h : ∀ mk td t, (∀ n, n < 152 → mk n = 0 ∨ mk n = 1) → (∀ n, n < 152 → (mk n = 1 ↔ cl_r (gx_R x_thingShown x_globals x_operands fc x_baseFrame) (gx_E x_thingShown x_thingFields x_thingMaker x_variables x_within) n)) → post (nI (ct_n (fun k => mk k = 1) 24)) (x_classCount, x_bodyCount, x_draftCount, x_wrongPlace, x_madeCount, x_frameCount, x_current, x_next, x_inHand, x_mode, x_outcome, x_stepCount, x_atWork, x_mostAtWork, x_saidCount, nI t, x_classParent, x_classFields, x_bound, x_tokenKind, x_tokenValue, x_globals, x_thingShown, x_thingClass, x_thingFields, x_thingToken, x_thingMaker, x_variables, x_homeOf, x_within, x_foundIn, x_baseFrame, x_frameToken, x_frameStage, x_frameLink, x_operands, x_saidValues, mk, td)) : wpX_markReachable post (x_classCount, x_bodyCount, x_draftCount, x_wrongPlace, x_madeCount, x_frameCount, x_current, x_next, x_inHand, x_mode, x_outcome, x_stepCount, x_atWork, x_mostAtWork, x_saidCount, x_pendingCount, x_classParent, x_classFields, x_bound, x_tokenKind, x_tokenValue, x_globals, x_thingShown, x_thingClass, x_thingFields, x_thingToken, x_thingMaker, x_variables, x_homeOf, x_within, x_foundIn, x_baseFrame, x_frameToken, x_frameStage, x_frameLink, x_operands, x_saidValues, x_marked, x_pending) := by
  subst hfc
  have e3 : nI fc * (3 : Int32) = nI (fc * 3) := pk_mul fc 3
  have l80 : ∀ mk td t, gm_G 152 (fun n => (∃ k, 0 ≤ k ∧ k < 4 ∧ gx_T x_thingShown (x_globals k) n) ∨ ∃ k, 0 ≤ k ∧ k < fc * 3 ∧ gx_T x_thingShown (x_operands k) n) (fun _ => 0) x_pending 0 mk td t → wX_markReachable_80 post 129 (nI 0) x_classCount x_bodyCount x_draftCount x_wrongPlace x_madeCount (nI fc) x_current x_next x_inHand x_mode x_outcome x_stepCount x_atWork x_mostAtWork x_saidCount (nI t) x_classParent x_classFields x_bound x_tokenKind x_tokenValue x_globals x_thingShown x_thingClass x_thingFields x_thingToken x_thingMaker x_variables x_homeOf x_within x_foundIn x_baseFrame x_frameToken x_frameStage x_frameLink x_operands x_saidValues mk td := by
    intro mk td t g
    refine gm_loop (NN := 152) (fun f i mk td t => wX_markReachable_80 post f (nI i) x_classCount x_bodyCount x_draftCount x_wrongPlace x_madeCount (nI fc) x_current x_next x_inHand x_mode x_outcome x_stepCount x_atWork x_mostAtWork x_saidCount (nI t) x_classParent x_classFields x_bound x_tokenKind x_tokenValue x_globals x_thingShown x_thingClass x_thingFields x_thingToken x_thingMaker x_variables x_homeOf x_within x_foundIn x_baseFrame x_frameToken x_frameStage x_frameLink x_operands x_saidValues mk td) (fun k n => ¬ x_baseFrame k = -1 ∧ n = 24 + k) 128 0 g.1 (by omega) ?_ ?_ 129 (by omega)
    · intro f i mk td t _ hi I k
      have ic : (nI i).toNatClampNeg = i := nI_clamp (by omega)
      refine br_f (nI_ge (b := 128) hi (by decide)) ⟨vp_in_nI hi (by decide), ?_⟩
      rw [ic]
      by_cases z : x_baseFrame i = -1
      · exact br_t z (nm_r (nI_1 i) (k _ _ _ (gm_refl I fun n _ e => absurd z e.1)))
      · refine br_f z (xm_act (Or.inr ⟨i, hi, rfl⟩) I fun mk' td' t' g => nm_r (nI_1 i) (k mk' td' t' (gm_cong g fun n _ => ⟨fun ⟨b, b1, b2, b3⟩ => ⟨z, ?_⟩, fun e => ⟨i, hi, rfl, e.2⟩⟩)))
        have : i = b := (nI_eq (by omega) (by omega)).mp b2
        omega
    · intro f mk2 td2 t2 g2
      have eR : ∀ n, n < 152 → ((((∃ k, 0 ≤ k ∧ k < 4 ∧ gx_T x_thingShown (x_globals k) n) ∨ ∃ k, 0 ≤ k ∧ k < fc * 3 ∧ gx_T x_thingShown (x_operands k) n) ∨ ∃ k, 0 ≤ k ∧ k < 128 ∧ ¬ x_baseFrame k = -1 ∧ n = 24 + k) ↔ gx_R x_thingShown x_globals x_operands fc x_baseFrame n) := fun n _ =>
        ⟨fun z => by
          rcases z with (⟨k, _, a, b⟩ | ⟨k, _, a, b⟩) | ⟨k, _, a, b1, b2⟩
          · exact Or.inl ⟨k, a, b⟩
          · exact Or.inr (Or.inl ⟨k, a, b⟩)
          · exact Or.inr (Or.inr ⟨k, a, b1, b2⟩), fun z => by
          rcases z with ⟨k, a, b⟩ | ⟨k, a, b⟩ | ⟨k, a, b1, b2⟩
          · exact Or.inl (Or.inl ⟨k, by omega, a, b⟩)
          · exact Or.inl (Or.inr ⟨k, by omega, a, b⟩)
          · exact Or.inr ⟨k, by omega, a, b1, b2⟩⟩
      have G2 := gm_cong (gm_trans g g2) eR
      have hmr : ∀ n, n < 152 → (mk2 n = 1 ↔ gx_R x_thingShown x_globals x_operands fc x_baseFrame n) := fun n hn => by
        rw [G2.2.1 n hn]
        exact ⟨fun z => z.elim (fun q => absurd (show (0 : Int32) = 1 from q) (by decide)) id, Or.inr⟩
      have c0 : ct_n (fun _ => (0 : Int32) = 1) 152 = 0 := ct_none fun _ _ z => absurd z (by decide)
      have ec := G2.2.2.2.2.2
      rw [c0] at ec
      refine br_t (by decide) ⟨153, ?_⟩
      refine xm_110 hm hw h 153 0 mk2 td2 t2 (by omega) (by omega) (by omega) G2.1 ?_ (fun n hn => ?_) (fun n hn z => cl_root ((hmr n hn).mp z))
      · intro m hm1 hm2
        rcases G2.2.2.2.2.1 m hm1 hm2 with z | ⟨i, i1, i2, i3⟩
        · exact absurd (show (0 : Int32) = 1 from z) (by decide)
        · exact Or.inl ⟨i, i1, i2, i3⟩
      · have hl : n < 152 := by
          rcases hn with ⟨k, _, z⟩ | ⟨k, _, z⟩ | ⟨a, a1, _, a3⟩
          · have := z.1; omega
          · have := z.1; omega
          · omega
        exact ⟨hl, (hmr n hl).mpr hn⟩
  have l52 : ∀ mk td t, gm_G 152 (fun n => ∃ k, 0 ≤ k ∧ k < 4 ∧ gx_T x_thingShown (x_globals k) n) (fun _ => 0) x_pending 0 mk td t → wX_markReachable_52 post (fc * 3 + 1) (nI 0) x_classCount x_bodyCount x_draftCount x_wrongPlace x_madeCount (nI fc) x_current x_next x_inHand x_mode x_outcome x_stepCount x_atWork x_mostAtWork x_saidCount (nI t) x_classParent x_classFields x_bound x_tokenKind x_tokenValue x_globals x_thingShown x_thingClass x_thingFields x_thingToken x_thingMaker x_variables x_homeOf x_within x_foundIn x_baseFrame x_frameToken x_frameStage x_frameLink x_operands x_saidValues mk td := by
    intro mk td t g
    refine gm_loop (NN := 152) (fun f i mk td t => wX_markReachable_52 post f (nI i) x_classCount x_bodyCount x_draftCount x_wrongPlace x_madeCount (nI fc) x_current x_next x_inHand x_mode x_outcome x_stepCount x_atWork x_mostAtWork x_saidCount (nI t) x_classParent x_classFields x_bound x_tokenKind x_tokenValue x_globals x_thingShown x_thingClass x_thingFields x_thingToken x_thingMaker x_variables x_homeOf x_within x_foundIn x_baseFrame x_frameToken x_frameStage x_frameLink x_operands x_saidValues mk td) (fun k n => gx_T x_thingShown (x_operands k) n) (fc * 3) 0 g.1 (by omega) ?_ ?_ (fc * 3 + 1) (by omega)
    · intro f i mk td t _ hi I k
      have ic : (nI i).toNatClampNeg = i := nI_clamp (by omega)
      refine br_f (by rw [e3]; exact nI_ge hi (by omega)) ⟨vp_in_nI (by omega) (by decide), ?_⟩
      rw [ic]
      exact xm_thing I fun mk' td' t' g => nm_r (nI_1 i) (k mk' td' t' g)
    · intro f mk2 td2 t2 g2
      exact br_t (by rw [e3]; exact nI_le (Nat.le_refl _) (by omega)) ⟨129, l80 mk2 td2 t2 (gm_trans g g2)⟩
  have l29 : ∀ mk, (∀ n, n < 152 → mk n = 0) → wX_markReachable_29 post 5 (nI 0) x_classCount x_bodyCount x_draftCount x_wrongPlace x_madeCount (nI fc) x_current x_next x_inHand x_mode x_outcome x_stepCount x_atWork x_mostAtWork x_saidCount (nI 0) x_classParent x_classFields x_bound x_tokenKind x_tokenValue x_globals x_thingShown x_thingClass x_thingFields x_thingToken x_thingMaker x_variables x_homeOf x_within x_foundIn x_baseFrame x_frameToken x_frameStage x_frameLink x_operands x_saidValues mk x_pending := by
    intro mk hmk
    refine gm_loop (NN := 152) (fun f i mk td t => wX_markReachable_29 post f (nI i) x_classCount x_bodyCount x_draftCount x_wrongPlace x_madeCount (nI fc) x_current x_next x_inHand x_mode x_outcome x_stepCount x_atWork x_mostAtWork x_saidCount (nI t) x_classParent x_classFields x_bound x_tokenKind x_tokenValue x_globals x_thingShown x_thingClass x_thingFields x_thingToken x_thingMaker x_variables x_homeOf x_within x_foundIn x_baseFrame x_frameToken x_frameStage x_frameLink x_operands x_saidValues mk td) (fun k n => gx_T x_thingShown (x_globals k) n) 4 0 (gm_start 152 hmk) (by omega) ?_ ?_ 5 (by omega)
    · intro f i mk td t _ hi I k
      have ic : (nI i).toNatClampNeg = i := nI_clamp (by omega)
      refine br_f (nI_ge (b := 4) hi (by decide)) ⟨vp_in_nI (by omega) (by decide), ?_⟩
      rw [ic]
      exact xm_thing I fun mk' td' t' g => nm_r (nI_1 i) (k mk' td' t' g)
    · intro f mk2 td2 t2 g2
      refine br_t (by decide) ⟨fc * 3 + 1, l52 mk2 td2 t2 ⟨g2.1, fun n hn => ?_, g2.2.2.1, g2.2.2.2.1, fun n hn z => ?_, ?_⟩⟩
      · rw [g2.2.1 n hn, hmk n hn]
      · rcases g2.2.2.2.2.1 n hn z with q | q
        · rw [hmk n hn] at q; exact absurd q (by decide)
        · exact Or.inr q
      · have e : ct_n (fun n => mk n = 1) 152 = ct_n (fun _ => (0 : Int32) = 1) 152 := ct_eq fun k hk => by rw [hmk k hk]
        rw [← e]; exact g2.2.2.2.2.2
  refine loop_0 (fun n i mk => wX_markReachable_7 post x_classCount x_bodyCount x_draftCount x_wrongPlace x_madeCount (nI fc) x_current x_next x_inHand x_mode x_outcome x_stepCount x_atWork x_mostAtWork x_saidCount 0 n (nI i) x_classParent x_classFields x_bound x_tokenKind x_tokenValue x_globals x_thingShown x_thingClass x_thingFields x_thingToken x_thingMaker x_variables x_homeOf x_within x_foundIn x_baseFrame x_frameToken x_frameStage x_frameLink x_operands x_saidValues mk x_pending) (fun i mk => ∀ j, j < i → mk j = 0) 152 x_marked (fun j hj => by omega) ?_ ?_
  · intro n mk I
    exact br_t (by decide) ⟨5, l29 mk I⟩
  · intro n i mk hi I k
    have ic : (nI i).toNatClampNeg = i := nI_clamp (by omega)
    refine br_f (nI_ge (b := 152) hi (by decide)) ⟨vp_in_nI hi (by decide), ?_⟩
    rw [ic, show vp_nar .boolean 0 = 0 by rfl]
    refine nm_e (nm_r (nI_1 i) (k _ fun j hj => ?_))
    by_cases q : j = i
    · subst q; exact pk_us
    · rw [pk_un q]; exact I j (by omega)
end
end
section
/-! the relation of the two heaps -/
def hp_s (so nu : Nat → Int32) (k : Nat) : Int64 := lN ((if so k = 3 then 30000000000 else 20000000000) + (nu k).toNatClampNeg)
def hp_v (ST : Nat → Prop) (sh : Nat → Int64) (x y : Int64) : Prop := ∃ a : Int32 ⊕ Option Nat, (∀ k, a = .inr (some k) → k < 32 ∧ ST k) ∧ x = vv_x sh a ∧ y = vv_y a
def hp_n (v : Int64) (n : Nat) : Prop := v = lN (20000000000 + n) ∨ v = lN (30000000000 + n)
def hp_U (mc : Nat) (xsh : Nat → Int64) : Prop := mc < 2 ^ 30 ∧ (∀ t, t < 24 → ∀ n, hp_n (xsh t) n → n < 2 ^ 31 → n < mc) ∧ (∀ t t', t < 24 → t' < 24 → ∀ n, n < 2 ^ 31 → hp_n (xsh t) n → hp_n (xsh t') n → t = t')
def hp_T (cc mc : Nat) (T : Nat → Prop) (K : Nat → Int32) (lv : Nat → Nat) (ST SA : Nat → Prop) (τ σ lev : Nat → Nat) (xsh : Nat → Int64) (xcl : Nat → Int32) (xfl : Nat → Int64) (xtk xmr : Nat → Int32) (so nu st kp : Nat → Int32) (ce : Nat → Int64) (k : Nat) : Prop :=
  k < 32 ∧ τ k < 24 ∧ (∃ c, c < cc ∧ so k = nI c) ∧ (∃ n, n < mc ∧ nu k = nI n) ∧ xsh (τ k) = hp_s so nu k ∧ xcl (τ k) = so k ∧
  (so k = 3 → ∃ p a, T p ∧ K p = 12 ∧ st k = nI p ∧ xtk (τ k) = nI p ∧ kp k = nI a ∧ SA a ∧ xmr (τ k) = nI (σ a) ∧ lev a = lv p ∧ ∀ j, j < 4 → xfl (τ k * 4 + j) = 10000000000) ∧
  (¬ so k = 3 → xmr (τ k) = -1 ∧ ∀ j, j < 4 → hp_v ST (hp_s so nu) (xfl (τ k * 4 + j)) (ce (4 * k + j)))
def hp_A (cc : Nat) (ST SA : Nat → Prop) (σ lev ho : Nat → Nat) (so nu : Nat → Int32) (xva : Nat → Int64) (xho xwi xfi : Nat → Int32) (wi fi : Nat → Int32) (se ar te pa : Nat → Int64) (a : Nat) : Prop :=
  a < 160 ∧ σ a < 128 ∧ lev a ≤ 3 ∧ SA (ho a) ∧ xho (σ a) = nI (σ (ho a)) ∧ wi (ho a) = -1 ∧
  ((wi a = -1 ∧ lev a = 0 ∧ ho a = a ∧ xwi (σ a) = -1 ∧ (∃ c, c < cc ∧ fi a = nI c ∧ xfi (σ a) = nI c) ∧ hp_v ST (hp_s so nu) (xva (σ a * 7)) (se a) ∧ (∀ j, j < 2 → hp_v ST (hp_s so nu) (xva (σ a * 7 + 1 + j)) (ar (2 * a + j))) ∧ (∀ j, j < 3 → hp_v ST (hp_s so nu) (xva (σ a * 7 + 3 + j)) (te (3 * a + j))) ∧ xva (σ a * 7 + 6) = 10000000000) ∨
   (∃ b, wi a = nI b ∧ SA b ∧ lev a = lev b + 1 ∧ ho a = ho b ∧ xwi (σ a) = nI (σ b) ∧ hp_v ST (hp_s so nu) (xva (σ a * 7 + 6)) (pa a) ∧ ∀ j, j < 6 → xva (σ a * 7 + j) = 10000000000))
def hp_R (cc mc : Nat) (T : Nat → Prop) (K : Nat → Int32) (lv : Nat → Nat) (ST SA : Nat → Prop) (τ σ lev ho : Nat → Nat) (xsh : Nat → Int64) (xcl : Nat → Int32) (xfl : Nat → Int64) (xtk xmr : Nat → Int32) (xva : Nat → Int64) (xho xwi xfi : Nat → Int32) (so nu st kp : Nat → Int32) (ce : Nat → Int64) (wi fi : Nat → Int32) (se ar te pa : Nat → Int64) : Prop :=
  (∀ k, ST k → hp_T cc mc T K lv ST SA τ σ lev xsh xcl xfl xtk xmr so nu st kp ce k) ∧ (∀ a, SA a → hp_A cc ST SA σ lev ho so nu xva xho xwi xfi wi fi se ar te pa a) ∧
  (∀ a b, SA a → SA b → σ a = σ b → a = b) ∧ (∀ k l, ST k → ST l → τ k = τ l → k = l)
theorem hp_NIL : ¬ (20000000000 : Int64) ≤ 10000000000 := by decide
theorem hp_v_mono {ST ST' : Nat → Prop} {sh : Nat → Int64} {x y : Int64} (h : hp_v ST sh x y) (hm : ∀ k, ST k → ST' k) : hp_v ST' sh x y := by
  obtain ⟨a, h1, h2, h3⟩ := h
  exact ⟨a, fun k e => ⟨(h1 k e).1, hm k (h1 k e).2⟩, h2, h3⟩
theorem hp_v_V {ST : Nat → Prop} {sh : Nat → Int64} {x y : Int64} (h : hp_v ST sh x y) : vv_V y := by
  obtain ⟨a, h1, h2, h3⟩ := h
  exact ⟨a, fun k e => (h1 k e).1, h3⟩
theorem hp_vT {ST : Nat → Prop} {sh : Nat → Int64} {x y : Int64} {k : Nat} (h : hp_v ST sh x y) (ht : vv_T y k) : ST k ∧ x = sh k := by
  obtain ⟨a, h1, h2, h3⟩ := h
  have e : a = .inr (some k) := vv_inj (fun l e => (h1 l e).1) (fun l e => by cases e; exact ht.1) (h3.symm.trans ht.2)
  subst e
  exact ⟨(h1 k rfl).2, h2⟩
theorem hp_int (i : Int32) : ¬ (20000000000 : Int64) ≤ i.toInt64 := by
  rw [Int64.le_iff_toInt_le, Int32.toInt_toInt64, show (20000000000 : Int64).toInt = 20000000000 from by decide]
  have := Int32.toInt_lt i
  omega
theorem hp_vX {ST : Nat → Prop} {sh : Nat → Int64} {x y : Int64} (h : hp_v ST sh x y) (hx : 20000000000 ≤ x) : ∃ k, vv_T y k ∧ ST k ∧ x = sh k := by
  obtain ⟨a, h1, h2, h3⟩ := h
  rcases a with i | _ | k
  · have h2 : x = i.toInt64 := h2
    rw [h2] at hx; exact absurd hx (hp_int i)
  · have h2 : x = 10000000000 := h2
    rw [h2] at hx; exact absurd hx hp_NIL
  · exact ⟨k, ⟨(h1 k rfl).1, h3⟩, (h1 k rfl).2, h2⟩
theorem hp_s_n {so nu : Nat → Int32} {k n : Nat} (hn : nu k = nI n) (hl : n < 2 ^ 31) : hp_n (hp_s so nu k) n ∧ 20000000000 ≤ hp_s so nu k := by
  have e0 : (20000000000 : Int64) = lN 20000000000 := by decide
  unfold hp_s hp_n
  rw [hn, nI_clamp hl, e0]
  split
  · exact ⟨Or.inr rfl, (pk_lLE (by omega) (by omega)).mpr (by omega)⟩
  · exact ⟨Or.inl rfl, (pk_lLE (by omega) (by omega)).mpr (by omega)⟩
theorem hp_nn {v : Int64} {n m : Nat} (h : hp_n v n) (h' : hp_n v m) (hn : n < 2 ^ 31) (hm : m < 2 ^ 31) : n = m := by
  rcases h with rfl | rfl <;> rcases h' with e | e <;> rw [pk_lEQ (by omega) (by omega)] at e <;> omega
/-- the node of the class that stands for a node of the reference -/
def hp_f (τ σ : Nat → Nat) (n : Nat) : Nat := if n < 32 then τ n else 24 + σ (n - 32)
def hp_S (ST SA : Nat → Prop) (n : Nat) : Prop := (n < 32 ∧ ST n) ∨ (∃ a, n = 32 + a ∧ SA a)
theorem hp_f1 {τ σ : Nat → Nat} {n : Nat} (h : n < 32) : hp_f τ σ n = τ n := if_pos h
theorem hp_f2 {τ σ : Nat → Nat} {a : Nat} : hp_f τ σ (32 + a) = 24 + σ a := by
  unfold hp_f
  rw [if_neg (by omega), Nat.add_sub_cancel_left]
section
variable {x_classCount x_bodyCount x_draftCount x_wrongPlace x_madeCount x_frameCount x_current x_next x_mode x_outcome x_stepCount x_atWork x_mostAtWork x_saidCount x_pendingCount : Int32} {x_inHand : Int64} {x_classParent x_classFields x_bound x_tokenKind x_tokenValue x_thingClass x_thingToken x_thingMaker x_homeOf x_within x_foundIn x_baseFrame x_frameToken x_frameStage x_frameLink x_marked x_pending : Nat → Int32} {x_globals x_thingShown x_thingFields x_variables x_operands x_saidValues : Nat → Int64}
variable {y_classes y_bodies y_fault y_made y_working y_peak y_steps y_depth y_waiting y_code y_running y_has y_todos y_marks y_spoken : Int32} {y_got y_shown : Int64} {y_parent y_fields y_bound y_kind y_word y_size y_sort y_number y_stands y_keeps y_within y_foundIn y_live y_work y_under y_at y_in y_phase y_base y_goal y_marked y_todo : Nat → Int32} {y_cells y_globals y_self y_args y_temps y_param y_operands y_heard : Nat → Int64}
variable {cc mc : Nat} {T ST SA : Nat → Prop} {lv τ σ lev ho : Nat → Nat}
theorem hp_shT (U : hp_U mc x_thingShown) (H : hp_R cc mc T y_kind lv ST SA τ σ lev ho x_thingShown x_thingClass x_thingFields x_thingToken x_thingMaker x_variables x_homeOf x_within x_foundIn y_sort y_number y_stands y_keeps y_cells y_within y_foundIn y_self y_args y_temps y_param) {k t : Nat} (hk : ST k) : gx_T x_thingShown (hp_s y_sort y_number k) t ↔ t = τ k := by
  obtain ⟨k1, k2, _, ⟨n, n1, n2⟩, k5, _⟩ := H.1 k hk
  have u1 := U.1
  obtain ⟨s1, s2⟩ := hp_s_n (so := y_sort) n2 (by omega)
  exact ⟨fun ⟨a, b, c⟩ => U.2.2 t (τ k) a k2 n (by omega) (by rw [c]; exact s1) (by rw [k5]; exact s1), fun e => by subst e; exact ⟨k2, s2, k5⟩⟩
theorem hp_yx (U : hp_U mc x_thingShown) (H : hp_R cc mc T y_kind lv ST SA τ σ lev ho x_thingShown x_thingClass x_thingFields x_thingToken x_thingMaker x_variables x_homeOf x_within x_foundIn y_sort y_number y_stands y_keeps y_cells y_within y_foundIn y_self y_args y_temps y_param) {m n : Nat} (hm : hp_S ST SA m) (e : gy_E y_sort y_keeps y_cells y_within y_self y_args y_temps y_param m n) : hp_S ST SA n ∧ gx_E x_thingShown x_thingFields x_thingMaker x_variables x_within (hp_f τ σ m) (hp_f τ σ n) := by
  have val : ∀ {x y : Int64}, hp_v ST (hp_s y_sort y_number) x y → vv_T y n → hp_S ST SA n ∧ gx_T x_thingShown x (hp_f τ σ n) := fun hv ht => by
    obtain ⟨a, b⟩ := hp_vT hv ht
    refine ⟨Or.inl ⟨ht.1, a⟩, ?_⟩
    rw [hp_f1 ht.1, b]
    exact (hp_shT U H a).mpr rfl
  have acts : ∀ {a : Nat}, SA a → n = 32 + a → ∀ {p : Int32}, p = nI (σ a) → hp_S ST SA n ∧ gx_A p (hp_f τ σ n) := fun {a} h1 h2 p h3 => by
    subst h2
    exact ⟨Or.inr ⟨a, rfl, h1⟩, σ a, (H.2.1 a h1).2.1, h3, hp_f2⟩
  rcases hm with ⟨m1, m2⟩ | ⟨a, rfl, m2⟩
  · obtain ⟨k1, k2, k3, k4, k5, k6, k7, k8⟩ := H.1 m m2
    rw [hp_f1 m1]
    rcases e with ⟨_, s, a, a1, a2, a3⟩ | ⟨_, s, j, j1, j2⟩ | ⟨a, e, _⟩ | ⟨a, e, _⟩
    · obtain ⟨p, b, _, _, _, _, b1, b2, b3, _⟩ := k7 s
      have hb := (H.2.1 b b2).1
      have : a = b := (nI_eq (by omega) (by omega)).mp (a2.symm.trans b1)
      subst this
      obtain ⟨q1, q2⟩ := acts b2 a3 b3
      exact ⟨q1, Or.inl ⟨k2, Or.inr q2⟩⟩
    · obtain ⟨q1, q2⟩ := val ((k8 s).2 j j1) j2
      exact ⟨q1, Or.inl ⟨k2, Or.inl ⟨j, j1, q2⟩⟩⟩
    · omega
    · omega
  · obtain ⟨k1, k2, k3, k4, k5, k6, k7⟩ := H.2.1 a m2
    rw [hp_f2]
    rcases e with ⟨z, _⟩ | ⟨z, _⟩ | ⟨b, e, w, z⟩ | ⟨b, e, w, z⟩
    · omega
    · omega
    · obtain rfl : b = a := by omega
      rcases k7 with ⟨w1, _, _, _, _, v0, v1, v2, _⟩ | ⟨c, w1, c1, _⟩
      · rcases z with z | ⟨j, j1, z⟩ | ⟨j, j1, z⟩
        · obtain ⟨q1, q2⟩ := val v0 z
          exact ⟨q1, Or.inr ⟨σ b, rfl, Or.inl ⟨0, by omega, q2⟩⟩⟩
        · obtain ⟨q1, q2⟩ := val (v1 j j1) z
          exact ⟨q1, Or.inr ⟨σ b, rfl, Or.inl ⟨1 + j, by omega, by rw [← Nat.add_assoc]; exact q2⟩⟩⟩
        · obtain ⟨q1, q2⟩ := val (v2 j j1) z
          exact ⟨q1, Or.inr ⟨σ b, rfl, Or.inl ⟨3 + j, by omega, by rw [← Nat.add_assoc]; exact q2⟩⟩⟩
      · rw [w1] at w
        exact absurd w (nI_pos (by have := (H.2.1 c c1).1; omega))
    · obtain rfl : b = a := by omega
      rcases k7 with ⟨w1, _⟩ | ⟨c, w1, c1, _, _, c4, c5, _⟩
      · rw [w1] at w
        exact absurd (by decide) w
      · rcases z with z | ⟨d, d1, d2, d3⟩
        · obtain ⟨q1, q2⟩ := val c5 z
          exact ⟨q1, Or.inr ⟨σ b, rfl, Or.inl ⟨6, by omega, q2⟩⟩⟩
        · have hc := (H.2.1 c c1).1
          have : d = c := (nI_eq (by omega) (by omega)).mp (d2.symm.trans w1)
          subst this
          obtain ⟨q1, q2⟩ := acts c1 d3 c4
          exact ⟨q1, Or.inr ⟨σ b, rfl, Or.inr q2⟩⟩
theorem hp_xy (U : hp_U mc x_thingShown) (H : hp_R cc mc T y_kind lv ST SA τ σ lev ho x_thingShown x_thingClass x_thingFields x_thingToken x_thingMaker x_variables x_homeOf x_within x_foundIn y_sort y_number y_stands y_keeps y_cells y_within y_foundIn y_self y_args y_temps y_param) {m n : Nat} (hm : hp_S ST SA m) (e : gx_E x_thingShown x_thingFields x_thingMaker x_variables x_within (hp_f τ σ m) n) : ∃ n', gy_E y_sort y_keeps y_cells y_within y_self y_args y_temps y_param m n' ∧ hp_f τ σ n' = n := by
  have val : ∀ {x y : Int64}, hp_v ST (hp_s y_sort y_number) x y → gx_T x_thingShown x n → ∃ n', vv_T y n' ∧ hp_f τ σ n' = n := fun hv ht => by
    obtain ⟨k, a, b, c⟩ := hp_vX hv ht.2.1
    rw [c] at ht
    exact ⟨k, a, by rw [hp_f1 a.1]; exact ((hp_shT U H b).mp ht).symm⟩
  have nil : ∀ {x : Int64}, x = 10000000000 → ¬ gx_T x_thingShown x n := fun h z => by
    rw [h] at z; exact absurd z.2.1 hp_NIL
  rcases hm with ⟨m1, m2⟩ | ⟨a, rfl, m2⟩
  · obtain ⟨k1, k2, k3, k4, k5, k6, k7, k8⟩ := H.1 m m2
    rw [hp_f1 m1] at e
    rcases e with ⟨_, z⟩ | ⟨a, e, _⟩
    · by_cases s : y_sort m = 3
      · obtain ⟨p, b, _, _, _, _, b1, b2, b3, _, b5⟩ := k7 s
        have hb := (H.2.1 b b2)
        rcases z with ⟨j, j1, z⟩ | ⟨c, c1, c2, c3⟩
        · exact absurd z (nil (b5 j j1))
        · have : σ b = c := (nI_eq (by have := hb.2.1; omega) (by omega)).mp (b3.symm.trans c2)
          exact ⟨32 + b, Or.inl ⟨m1, s, b, hb.1, b1, rfl⟩, by rw [hp_f2]; omega⟩
      · obtain ⟨f1, f2⟩ := k8 s
        rcases z with ⟨j, j1, z⟩ | ⟨c, c1, c2, c3⟩
        · obtain ⟨n', n1, n2⟩ := val (f2 j j1) z
          exact ⟨n', Or.inr (Or.inl ⟨m1, s, j, j1, n1⟩), n2⟩
        · exact absurd (c2.symm.trans f1) (gx_m1 (by omega))
    · omega
  · obtain ⟨k1, k2, k3, k4, k5, k6, k7⟩ := H.2.1 a m2
    rw [hp_f2] at e
    rcases e with ⟨z, _⟩ | ⟨b, e, z⟩
    · omega
    · obtain rfl : b = σ a := by omega
      rcases k7 with ⟨w1, _, _, w2, _, v0, v1, v2, v3⟩ | ⟨c, w1, c1, _, _, c4, c5, c6⟩
      · have wl : y_within a < 0 := by rw [w1]; decide
        rcases z with ⟨j, j1, z⟩ | ⟨c, c1, c2, c3⟩
        · have cs : j = 0 ∨ (1 ≤ j ∧ j < 3) ∨ (3 ≤ j ∧ j < 6) ∨ j = 6 := by omega
          rcases cs with rfl | ⟨q1, q2⟩ | ⟨q1, q2⟩ | rfl
          · obtain ⟨n', n1, n2⟩ := val v0 z
            exact ⟨n', Or.inr (Or.inr (Or.inl ⟨a, rfl, wl, Or.inl n1⟩)), n2⟩
          · obtain ⟨i, rfl⟩ : ∃ i, j = 1 + i := ⟨j - 1, by omega⟩
            obtain ⟨n', n1, n2⟩ := val (v1 i (by omega)) (by rw [Nat.add_assoc]; exact z)
            exact ⟨n', Or.inr (Or.inr (Or.inl ⟨a, rfl, wl, Or.inr (Or.inl ⟨i, by omega, n1⟩)⟩)), n2⟩
          · obtain ⟨i, rfl⟩ : ∃ i, j = 3 + i := ⟨j - 3, by omega⟩
            obtain ⟨n', n1, n2⟩ := val (v2 i (by omega)) (by rw [Nat.add_assoc]; exact z)
            exact ⟨n', Or.inr (Or.inr (Or.inl ⟨a, rfl, wl, Or.inr (Or.inr ⟨i, by omega, n1⟩)⟩)), n2⟩
          · exact absurd z (nil v3)
        · exact absurd (c2.symm.trans w2) (gx_m1 (by omega))
      · have hc := (H.2.1 c c1)
        have wl : ¬ y_within a < 0 := by rw [w1]; exact nI_pos (by have := hc.1; omega)
        rcases z with ⟨j, j1, z⟩ | ⟨d, d1, d2, d3⟩
        · rcases Nat.lt_or_ge j 6 with q | q
          · exact absurd z (nil (c6 j q))
          · obtain rfl : j = 6 := by omega
            obtain ⟨n', n1, n2⟩ := val c5 z
            exact ⟨n', Or.inr (Or.inr (Or.inr ⟨a, rfl, wl, Or.inl n1⟩)), n2⟩
        · have : σ c = d := (nI_eq (by have := hc.2.1; omega) (by omega)).mp (c4.symm.trans d2)
          exact ⟨32 + c, Or.inr (Or.inr (Or.inr ⟨a, rfl, wl, Or.inr ⟨c, hc.1, w1, rfl⟩⟩)), by rw [hp_f2]; omega⟩
/-- what the two sides reach is the same, node for node -/
theorem hp_reach {RY RX : Nat → Prop} (U : hp_U mc x_thingShown) (H : hp_R cc mc T y_kind lv ST SA τ σ lev ho x_thingShown x_thingClass x_thingFields x_thingToken x_thingMaker x_variables x_homeOf x_within x_foundIn y_sort y_number y_stands y_keeps y_cells y_within y_foundIn y_self y_args y_temps y_param) (r1 : ∀ n, RY n → hp_S ST SA n ∧ cl_r RX (gx_E x_thingShown x_thingFields x_thingMaker x_variables x_within) (hp_f τ σ n)) (r2 : ∀ n, RX n → ∃ n', cl_r RY (gy_E y_sort y_keeps y_cells y_within y_self y_args y_temps y_param) n' ∧ hp_f τ σ n' = n) :
    (∀ n, cl_r RY (gy_E y_sort y_keeps y_cells y_within y_self y_args y_temps y_param) n → hp_S ST SA n ∧ cl_r RX (gx_E x_thingShown x_thingFields x_thingMaker x_variables x_within) (hp_f τ σ n)) ∧ (∀ n, cl_r RX (gx_E x_thingShown x_thingFields x_thingMaker x_variables x_within) n → ∃ n', cl_r RY (gy_E y_sort y_keeps y_cells y_within y_self y_args y_temps y_param) n' ∧ hp_f τ σ n' = n) := by
  have A : ∀ n, cl_r RY (gy_E y_sort y_keeps y_cells y_within y_self y_args y_temps y_param) n → hp_S ST SA n ∧ cl_r RX (gx_E x_thingShown x_thingFields x_thingMaker x_variables x_within) (hp_f τ σ n) := fun n c =>
    cl_min c (fun n => hp_S ST SA n ∧ cl_r RX (gx_E x_thingShown x_thingFields x_thingMaker x_variables x_within) (hp_f τ σ n)) r1 (fun m k hm e => ⟨(hp_yx U H hm.1 e).1, cl_step hm.2 (hp_yx U H hm.1 e).2⟩)
  refine ⟨A, fun n c => cl_min c (fun n => ∃ n', cl_r RY (gy_E y_sort y_keeps y_cells y_within y_self y_args y_temps y_param) n' ∧ hp_f τ σ n' = n) r2 (fun m k hm e => ?_)⟩
  obtain ⟨m', c', rfl⟩ := hm
  obtain ⟨k', e', rfl⟩ := hp_xy U H (A m' c').1 e
  exact ⟨k', cl_step c' e', rfl⟩
theorem hp_count {RY RX : Nat → Prop} (H : hp_R cc mc T y_kind lv ST SA τ σ lev ho x_thingShown x_thingClass x_thingFields x_thingToken x_thingMaker x_variables x_homeOf x_within x_foundIn y_sort y_number y_stands y_keeps y_cells y_within y_foundIn y_self y_args y_temps y_param) (A : ∀ n, cl_r RY (gy_E y_sort y_keeps y_cells y_within y_self y_args y_temps y_param) n → hp_S ST SA n ∧ cl_r RX (gx_E x_thingShown x_thingFields x_thingMaker x_variables x_within) (hp_f τ σ n)) (B : ∀ n, cl_r RX (gx_E x_thingShown x_thingFields x_thingMaker x_variables x_within) n → ∃ n', cl_r RY (gy_E y_sort y_keeps y_cells y_within y_self y_args y_temps y_param) n' ∧ hp_f τ σ n' = n) :
    ct_n (cl_r RX (gx_E x_thingShown x_thingFields x_thingMaker x_variables x_within)) 24 = ct_n (cl_r RY (gy_E y_sort y_keeps y_cells y_within y_self y_args y_temps y_param)) 32 := by
  have st : ∀ {n}, n < 32 → cl_r RY (gy_E y_sort y_keeps y_cells y_within y_self y_args y_temps y_param) n → ST n := fun {n} hn c => by
    rcases (A n c).1 with ⟨_, z⟩ | ⟨a, e, _⟩
    · exact z
    · omega
  refine Nat.le_antisymm ?_ ?_
  · have pick : ∀ t, t < 24 → cl_r RX (gx_E x_thingShown x_thingFields x_thingMaker x_variables x_within) t → ∃ k, k < 32 ∧ cl_r RY (gy_E y_sort y_keeps y_cells y_within y_self y_args y_temps y_param) k ∧ τ k = t := fun t ht c => by
      obtain ⟨n, c', e⟩ := B t c
      rcases (A n c').1 with ⟨n1, _⟩ | ⟨a, e', _⟩
      · rw [hp_f1 n1] at e; exact ⟨n, n1, c', e⟩
      · subst e'; rw [hp_f2] at e; omega
    refine ct_inj (fun t => Classical.epsilon (fun k => k < 32 ∧ cl_r RY (gy_E y_sort y_keeps y_cells y_within y_self y_args y_temps y_param) k ∧ τ k = t)) (fun t ht c => ?_) (fun i j hi hj ci cj e => ?_)
    · have q := Classical.epsilon_spec (pick t ht c)
      exact ⟨q.1, q.2.1⟩
    · have qi := Classical.epsilon_spec (pick i hi ci)
      have qj := Classical.epsilon_spec (pick j hj cj)
      rw [← qi.2.2, ← qj.2.2, e]
  · refine ct_inj τ (fun k hk c => ?_) (fun i j hi hj ci cj e => H.2.2.2 i j (st hi ci) (st hj cj) e)
    have q := (A k c).2
    rw [hp_f1 hk] at q
    exact ⟨(H.1 k (st hk c)).2.1, q⟩
end
end
section
/-! what the methods say of related values -/
def rl_C (cc : Nat) (pa fl : Nat → Int32) : Prop := 4 ≤ cc ∧ cc ≤ 10 ∧ pa 0 = -1 ∧ (∀ c, 0 < c → c < cc → ∃ p, p < c ∧ pa c = nI p) ∧ (∀ c, c < 10 → ∃ f, f ≤ 4 ∧ fl c = nI f) ∧ fl 3 = 0
def rl_B (bc : Nat) (bd : Nat → Int32) : Prop := bc ≤ 12 ∧ ∀ i, i < 120 → bd i = -1 ∨ ∃ b, b < bc ∧ bd i = nI b
theorem yv_sh {n : Nat} (h : n < 2 ^ 62) : lN n >>> ((32 : Int32).toInt64 &&& 63) = lN (n / 4294967296) := pf_shr (d := 32) (by decide) h
theorem yv_isInt_i {post : Int32 → Prop} (i : Int32) (h : post 1) : wpY_isInt post (lN i.toBitVec.toNat) := by
  have hl := i.toBitVec.isLt
  refine br_t ?_ h
  rw [yv_sh (by omega), show i.toBitVec.toNat / 4294967296 = 0 by omega]
  rfl
theorem yv_isInt_o {post : Int32 → Prop} {n : Nat} (h1 : 4294967296 ≤ n) (h2 : n < 2 ^ 62) (h : post 0) : wpY_isInt post (lN n) := by
  refine br_f ?_ h
  rw [yv_sh h2]
  intro z
  have z : lN (n / 4294967296) = lN 0 := z
  rw [pk_lEQ (by omega) (by omega)] at z
  omega
theorem hp_int1 (i : Int32) : ¬ (10000000000 : Int64) ≤ i.toInt64 := by
  rw [Int64.le_iff_toInt_le, Int32.toInt_toInt64, show (10000000000 : Int64).toInt = 10000000000 from by decide]
  have := Int32.toInt_lt i
  omega
theorem hp_s1 {so nu : Nat → Int32} {k n : Nat} (hn : nu k = nI n) (hl : n < 2 ^ 31) : (10000000000 : Int64) ≤ hp_s so nu k := by
  have e0 : (10000000000 : Int64) = lN 10000000000 := by decide
  unfold hp_s
  rw [hn, nI_clamp hl, e0]
  split <;> exact (pk_lLE (by omega) (by omega)).mpr (by omega)
section
variable {x_classCount x_bodyCount x_draftCount x_wrongPlace x_madeCount x_frameCount x_current x_next x_mode x_outcome x_stepCount x_atWork x_mostAtWork x_saidCount x_pendingCount : Int32} {x_inHand : Int64} {x_classParent x_classFields x_bound x_tokenKind x_tokenValue x_thingClass x_thingToken x_thingMaker x_homeOf x_within x_foundIn x_baseFrame x_frameToken x_frameStage x_frameLink x_marked x_pending : Nat → Int32} {x_globals x_thingShown x_thingFields x_variables x_operands x_saidValues : Nat → Int64}
variable {y_classes y_bodies y_fault y_made y_working y_peak y_steps y_depth y_waiting y_code y_running y_has y_todos y_marks y_spoken : Int32} {y_got y_shown : Int64} {y_parent y_fields y_bound y_kind y_word y_size y_sort y_number y_stands y_keeps y_within y_foundIn y_live y_work y_under y_at y_in y_phase y_base y_goal y_marked y_todo : Nat → Int32} {y_cells y_globals y_self y_args y_temps y_param y_operands y_heard : Nat → Int64}
variable {cc mc bc : Nat} {T ST SA : Nat → Prop} {lv τ σ lev ho : Nat → Nat}
theorem xv_thing_n {post : Int32 → Prop} {v : Int64} (h : ¬ 20000000000 ≤ v) (hp : post (-1)) : wpX_thingOf post (x_classCount, x_bodyCount, x_draftCount, x_wrongPlace, x_madeCount, x_frameCount, x_current, x_next, x_inHand, x_mode, x_outcome, x_stepCount, x_atWork, x_mostAtWork, x_saidCount, x_pendingCount, x_classParent, x_classFields, x_bound, x_tokenKind, x_tokenValue, x_globals, x_thingShown, x_thingClass, x_thingFields, x_thingToken, x_thingMaker, x_variables, x_homeOf, x_within, x_foundIn, x_baseFrame, x_frameToken, x_frameStage, x_frameLink, x_operands, x_saidValues, x_marked, x_pending) v := br_f h hp
theorem xv_thing_t {post : Int32 → Prop} {v : Int64} {t0 : Nat} (ht : t0 < 24) (h2 : 20000000000 ≤ v) (e : x_thingShown t0 = v) (u : ∀ t, t < 24 → x_thingShown t = v → t = t0) (hp : post (nI t0)) : wpX_thingOf post (x_classCount, x_bodyCount, x_draftCount, x_wrongPlace, x_madeCount, x_frameCount, x_current, x_next, x_inHand, x_mode, x_outcome, x_stepCount, x_atWork, x_mostAtWork, x_saidCount, x_pendingCount, x_classParent, x_classFields, x_bound, x_tokenKind, x_tokenValue, x_globals, x_thingShown, x_thingClass, x_thingFields, x_thingToken, x_thingMaker, x_variables, x_homeOf, x_within, x_foundIn, x_baseFrame, x_frameToken, x_frameStage, x_frameLink, x_operands, x_saidValues, x_marked, x_pending) v := by
  refine br_t h2 ⟨25, ?_⟩
  have key : ∀ d i f, i + d = t0 → d < f → wX_thingOf_12 post v x_classCount x_bodyCount x_draftCount x_wrongPlace x_madeCount x_frameCount x_current x_next x_inHand x_mode x_outcome x_stepCount x_atWork x_mostAtWork x_saidCount x_pendingCount x_classParent x_classFields x_bound x_tokenKind x_tokenValue x_globals x_thingShown x_thingClass x_thingFields x_thingToken x_thingMaker x_variables x_homeOf x_within x_foundIn x_baseFrame x_frameToken x_frameStage x_frameLink x_operands x_saidValues x_marked x_pending f (nI i) := by
    intro d
    induction d with
    | zero =>
      intro i f hi hf
      obtain ⟨f', rfl⟩ : ∃ f', f = f' + 1 := ⟨f - 1, by omega⟩
      have hi : i = t0 := by omega
      subst hi
      refine br_f (nI_ge (b := 24) ht (by decide)) ⟨vp_in_nI ht (by decide), br_t ?_ hp⟩
      rw [nI_clamp (by omega)]; exact e
    | succ d ih =>
      intro i f hi hf
      obtain ⟨f', rfl⟩ : ∃ f', f = f' + 1 := ⟨f - 1, by omega⟩
      refine br_f (nI_ge (b := 24) (by omega) (by decide)) ⟨vp_in_nI (by omega) (by decide), br_f ?_ (nm_r (nI_1 i) (ih (i + 1) f' (by omega) (by omega)))⟩
      rw [nI_clamp (by omega)]
      intro z
      have := u i (by omega) z
      omega
  exact key t0 0 25 (by omega) (by omega)
theorem xv_thing {post : Int32 → Prop} (U : hp_U mc x_thingShown) (H : hp_R cc mc T y_kind lv ST SA τ σ lev ho x_thingShown x_thingClass x_thingFields x_thingToken x_thingMaker x_variables x_homeOf x_within x_foundIn y_sort y_number y_stands y_keeps y_cells y_within y_foundIn y_self y_args y_temps y_param) {k : Nat} (hk : ST k) (hp : post (nI (τ k))) : wpX_thingOf post (x_classCount, x_bodyCount, x_draftCount, x_wrongPlace, x_madeCount, x_frameCount, x_current, x_next, x_inHand, x_mode, x_outcome, x_stepCount, x_atWork, x_mostAtWork, x_saidCount, x_pendingCount, x_classParent, x_classFields, x_bound, x_tokenKind, x_tokenValue, x_globals, x_thingShown, x_thingClass, x_thingFields, x_thingToken, x_thingMaker, x_variables, x_homeOf, x_within, x_foundIn, x_baseFrame, x_frameToken, x_frameStage, x_frameLink, x_operands, x_saidValues, x_marked, x_pending) (hp_s y_sort y_number k) :=
  xv_thing_t ((hp_shT U H hk).mpr rfl).1 ((hp_shT U H hk).mpr rfl).2.1 ((hp_shT U H hk).mpr rfl).2.2 (fun t ht e => (hp_shT U H hk).mp ⟨ht, ((hp_shT U H hk).mpr rfl).2.1, e⟩) hp
theorem vv_ne {k : Nat} (h : k < 32) : ¬ lN (8589934592 + k) = 4294967296 := fun z => by
  have z : lN (8589934592 + k) = lN 4294967296 := z
  rw [pk_lEQ (by omega) (by omega)] at z
  omega
theorem xv_class (U : hp_U mc x_thingShown) (H : hp_R cc mc T y_kind lv ST SA τ σ lev ho x_thingShown x_thingClass x_thingFields x_thingToken x_thingMaker x_variables x_homeOf x_within x_foundIn y_sort y_number y_stands y_keeps y_cells y_within y_foundIn y_self y_args y_temps y_param) (hcc : 4 ≤ cc) {x y : Int64} (hv : hp_v ST (hp_s y_sort y_number) x y) :
    ∃ c, c < cc ∧ (∀ post : Int32 → Prop, post (nI c) → wpX_classOf post (x_classCount, x_bodyCount, x_draftCount, x_wrongPlace, x_madeCount, x_frameCount, x_current, x_next, x_inHand, x_mode, x_outcome, x_stepCount, x_atWork, x_mostAtWork, x_saidCount, x_pendingCount, x_classParent, x_classFields, x_bound, x_tokenKind, x_tokenValue, x_globals, x_thingShown, x_thingClass, x_thingFields, x_thingToken, x_thingMaker, x_variables, x_homeOf, x_within, x_foundIn, x_baseFrame, x_frameToken, x_frameStage, x_frameLink, x_operands, x_saidValues, x_marked, x_pending) x) ∧ (∀ post : Int32 → Prop, post (nI c) → wpY_classOf post (y_classes, y_bodies, y_fault, y_made, y_working, y_peak, y_steps, y_depth, y_waiting, y_code, y_running, y_has, y_got, y_todos, y_marks, y_shown, y_spoken, y_parent, y_fields, y_bound, y_kind, y_word, y_size, y_sort, y_number, y_stands, y_keeps, y_cells, y_globals, y_within, y_foundIn, y_self, y_args, y_temps, y_param, y_live, y_work, y_under, y_at, y_in, y_phase, y_base, y_goal, y_operands, y_marked, y_todo, y_heard) y) := by
  obtain ⟨a, h1, rfl, rfl⟩ := hv
  rcases a with i | _ | k
  · refine ⟨1, by omega, fun post hp => ?_, fun post hp => ?_⟩
    · exact br_f (hp_int1 i) (br_f (by decide) hp)
    · unfold wpY_classOf
      refine yv_isInt_i i ?_
      exact br_f (by decide) hp
  · refine ⟨2, by omega, fun post hp => ?_, fun post hp => ?_⟩
    · show wpX_classOf post _ (10000000000 : Int64)
      exact br_t (by decide) (br_t rfl (xv_thing_n (by decide) (br_t rfl hp)))
    · unfold wpY_classOf
      refine yv_isInt_o (n := 4294967296) (by omega) (by omega) ?_
      exact br_t rfl (br_t rfl hp)
  · obtain ⟨hk, sk⟩ := h1 k rfl
    obtain ⟨k1, k2, ⟨c, c1, c2⟩, ⟨n, n1, n2⟩, k5, k6, _⟩ := H.1 k sk
    refine ⟨c, c1, fun post hp => ?_, fun post hp => ?_⟩
    · refine br_t (hp_s1 n2 (by have := U.1; omega)) (br_t rfl (xv_thing U H sk (br_f (gx_m1 (by omega)) ⟨vp_in_nI k2 (by decide), ?_⟩)))
      rw [nI_clamp (by omega), k6, c2]; exact hp
    · show wpY_classOf post _ (lN (8589934592 + k))
      unfold wpY_classOf
      refine yv_isInt_o (n := 8589934592 + k) (by omega) (by omega) ?_
      refine br_t rfl (br_f (vv_ne hk) ?_)
      rw [vv_t (by omega), nI_clamp (by omega), c2]
      exact ⟨vp_in_nI hk (by decide), hp⟩
theorem yv_show (H : hp_R cc mc T y_kind lv ST SA τ σ lev ho x_thingShown x_thingClass x_thingFields x_thingToken x_thingMaker x_variables x_homeOf x_within x_foundIn y_sort y_number y_stands y_keeps y_cells y_within y_foundIn y_self y_args y_temps y_param) (hmc : mc < 2 ^ 31) {post : Int64 → Prop} {x y : Int64} (hv : hp_v ST (hp_s y_sort y_number) x y) (hp : post x) : wpY_show post (y_classes, y_bodies, y_fault, y_made, y_working, y_peak, y_steps, y_depth, y_waiting, y_code, y_running, y_has, y_got, y_todos, y_marks, y_shown, y_spoken, y_parent, y_fields, y_bound, y_kind, y_word, y_size, y_sort, y_number, y_stands, y_keeps, y_cells, y_globals, y_within, y_foundIn, y_self, y_args, y_temps, y_param, y_live, y_work, y_under, y_at, y_in, y_phase, y_base, y_goal, y_operands, y_marked, y_todo, y_heard) y := by
  obtain ⟨a, h1, rfl, rfl⟩ := hv
  rcases a with i | _ | k
  · show wpY_show post _ (lN i.toBitVec.toNat)
    unfold wpY_show
    refine yv_isInt_i i ?_
    refine br_f (by decide) ?_
    rw [vv_i]; exact hp
  · show wpY_show post _ (4294967296 : Int64)
    unfold wpY_show
    refine yv_isInt_o (n := 4294967296) (by omega) (by omega) ?_
    exact br_t rfl (br_t rfl hp)
  · obtain ⟨hk, sk⟩ := h1 k rfl
    obtain ⟨k1, k2, ⟨c, c1, c2⟩, ⟨n, n1, n2⟩, k5, k6, _⟩ := H.1 k sk
    have hp : post (hp_s y_sort y_number k) := hp
    unfold hp_s at hp
    rw [n2, nI_clamp (by omega)] at hp
    show wpY_show post _ (lN (8589934592 + k))
    unfold wpY_show
    refine yv_isInt_o (n := 8589934592 + k) (by omega) (by omega) ?_
    refine br_t rfl (br_f (vv_ne hk) ?_)
    rw [vv_t (by omega), nI_clamp (by omega)]
    refine ⟨vp_in_nI hk (by decide), ?_⟩
    by_cases s : y_sort k = 3
    · rw [if_pos s] at hp
      refine br_t s ?_
      unfold wY_show_39
      rw [vv_t (by omega), nI_clamp (by omega), n2, nI_l (by omega), show (3 : Int32).toInt64 * 10000000000 = lN 30000000000 by decide, lN_add]
      exact ⟨vp_in_nI hk (by decide), hp⟩
    · rw [if_neg s] at hp
      refine br_f s ?_
      unfold wY_show_39
      rw [vv_t (by omega), nI_clamp (by omega), n2, nI_l (by omega), show (2 : Int32).toInt64 * 10000000000 = lN 20000000000 by decide, lN_add]
      exact ⟨vp_in_nI hk (by decide), hp⟩
theorem xv_field (U : hp_U mc x_thingShown) (H : hp_R cc mc T y_kind lv ST SA τ σ lev ho x_thingShown x_thingClass x_thingFields x_thingToken x_thingMaker x_variables x_homeOf x_within x_foundIn y_sort y_number y_stands y_keeps y_cells y_within y_foundIn y_self y_args y_temps y_param) (C : rl_C cc y_parent y_fields) {x y : Int64} (hv : hp_v ST (hp_s y_sort y_number) x y) {jn : Nat} (hj : jn < 2 ^ 31) :
    ((∀ post : Int32 → Prop, post (-1) → wpX_fieldPlace post (x_classCount, x_bodyCount, x_draftCount, x_wrongPlace, x_madeCount, x_frameCount, x_current, x_next, x_inHand, x_mode, x_outcome, x_stepCount, x_atWork, x_mostAtWork, x_saidCount, x_pendingCount, x_classParent, y_fields, x_bound, x_tokenKind, x_tokenValue, x_globals, x_thingShown, x_thingClass, x_thingFields, x_thingToken, x_thingMaker, x_variables, x_homeOf, x_within, x_foundIn, x_baseFrame, x_frameToken, x_frameStage, x_frameLink, x_operands, x_saidValues, x_marked, x_pending) x (nI jn)) ∧ (∀ post : Int32 → Prop, post 0 → wpY_hasField post (y_classes, y_bodies, y_fault, y_made, y_working, y_peak, y_steps, y_depth, y_waiting, y_code, y_running, y_has, y_got, y_todos, y_marks, y_shown, y_spoken, y_parent, y_fields, y_bound, y_kind, y_word, y_size, y_sort, y_number, y_stands, y_keeps, y_cells, y_globals, y_within, y_foundIn, y_self, y_args, y_temps, y_param, y_live, y_work, y_under, y_at, y_in, y_phase, y_base, y_goal, y_operands, y_marked, y_todo, y_heard) y (nI jn))) ∨
    (∃ k, k < 32 ∧ ST k ∧ ¬ y_sort k = 3 ∧ jn < 4 ∧ y = lN (8589934592 + k) ∧ (∀ post : Int32 → Prop, post (nI (τ k * 4 + jn)) → wpX_fieldPlace post (x_classCount, x_bodyCount, x_draftCount, x_wrongPlace, x_madeCount, x_frameCount, x_current, x_next, x_inHand, x_mode, x_outcome, x_stepCount, x_atWork, x_mostAtWork, x_saidCount, x_pendingCount, x_classParent, y_fields, x_bound, x_tokenKind, x_tokenValue, x_globals, x_thingShown, x_thingClass, x_thingFields, x_thingToken, x_thingMaker, x_variables, x_homeOf, x_within, x_foundIn, x_baseFrame, x_frameToken, x_frameStage, x_frameLink, x_operands, x_saidValues, x_marked, x_pending) x (nI jn)) ∧ (∀ post : Int32 → Prop, post 1 → wpY_hasField post (y_classes, y_bodies, y_fault, y_made, y_working, y_peak, y_steps, y_depth, y_waiting, y_code, y_running, y_has, y_got, y_todos, y_marks, y_shown, y_spoken, y_parent, y_fields, y_bound, y_kind, y_word, y_size, y_sort, y_number, y_stands, y_keeps, y_cells, y_globals, y_within, y_foundIn, y_self, y_args, y_temps, y_param, y_live, y_work, y_under, y_at, y_in, y_phase, y_base, y_goal, y_operands, y_marked, y_todo, y_heard) y (nI jn))) := by
  have e1 : (8589934592 : Int64) = lN 8589934592 := by decide
  obtain ⟨c4, c10, _, _, c5, c6⟩ := C
  obtain ⟨a, h1, rfl, rfl⟩ := hv
  rcases a with i | _ | k
  · refine Or.inl ⟨fun post hp => xv_thing_n (hp_int i) (br_t rfl hp), fun post hp => br_t ?_ hp⟩
    have hl := i.toBitVec.isLt
    show lN _ < _
    rw [e1, pk_lLT (by omega) (by omega)]; omega
  · refine Or.inl ⟨fun post hp => ?_, fun post hp => ?_⟩
    · show wpX_fieldPlace post _ (10000000000 : Int64) _
      unfold wpX_fieldPlace
      exact xv_thing_n (by decide) (br_t rfl hp)
    · show wpY_hasField post _ (4294967296 : Int64) _
      exact br_t (by decide) hp
  · obtain ⟨hk, sk⟩ := h1 k rfl
    obtain ⟨k1, k2, ⟨c, q1, q2⟩, ⟨n, n1, n2⟩, k5, k6, _⟩ := H.1 k sk
    obtain ⟨f, f1, f2⟩ := c5 c (by omega)
    have hge : ¬ lN (8589934592 + k) < (8589934592 : Int64) := by
      rw [e1, pk_lLT (by omega) (by omega)]; omega
    have hX : ∀ post : Int32 → Prop, ((nI jn < nI f → post (nI (τ k) * 4 + nI jn)) ∧ (¬ nI jn < nI f → post (-1))) → wpX_fieldPlace post (x_classCount, x_bodyCount, x_draftCount, x_wrongPlace, x_madeCount, x_frameCount, x_current, x_next, x_inHand, x_mode, x_outcome, x_stepCount, x_atWork, x_mostAtWork, x_saidCount, x_pendingCount, x_classParent, y_fields, x_bound, x_tokenKind, x_tokenValue, x_globals, x_thingShown, x_thingClass, x_thingFields, x_thingToken, x_thingMaker, x_variables, x_homeOf, x_within, x_foundIn, x_baseFrame, x_frameToken, x_frameStage, x_frameLink, x_operands, x_saidValues, x_marked, x_pending) (hp_s y_sort y_number k) (nI jn) := fun post hp => by
      refine xv_thing U H sk (br_f (gx_m1 (by omega)) (br_f (nI_pos hj) ⟨vp_in_nI k2 (by decide), ?_⟩))
      rw [nI_clamp (show τ k < 2 ^ 31 by omega), k6, q2, nI_clamp (show c < 2 ^ 31 by omega), f2]
      exact ⟨vp_in_nI (by omega) (by decide), hp⟩
    have hY : ∀ post : Int32 → Prop, ¬ y_sort k = 3 → ((nI f ≤ nI jn → post 0) ∧ (¬ nI f ≤ nI jn → post 1)) → wpY_hasField post (y_classes, y_bodies, y_fault, y_made, y_working, y_peak, y_steps, y_depth, y_waiting, y_code, y_running, y_has, y_got, y_todos, y_marks, y_shown, y_spoken, y_parent, y_fields, y_bound, y_kind, y_word, y_size, y_sort, y_number, y_stands, y_keeps, y_cells, y_globals, y_within, y_foundIn, y_self, y_args, y_temps, y_param, y_live, y_work, y_under, y_at, y_in, y_phase, y_base, y_goal, y_operands, y_marked, y_todo, y_heard) (lN (8589934592 + k)) (nI jn) := fun post s hp => by
      refine br_f hge ?_
      rw [vv_t (by omega), nI_clamp (show k < 2 ^ 31 by omega)]
      refine ⟨vp_in_nI hk (by decide), br_f s ⟨vp_in_nI hk (by decide), ?_⟩⟩
      rw [q2, nI_clamp (show c < 2 ^ 31 by omega), f2]
      exact ⟨vp_in_nI (by omega) (by decide), hp⟩
    by_cases s : y_sort k = 3
    · refine Or.inl ⟨fun post hp => hX post (br_f ?_ hp), fun post hp => ?_⟩
      · have : c = 3 := (nI_eq (b := 3) (by omega) (by decide)).mp (q2.symm.trans s)
        subst this
        have : f = 0 := (nI_eq (b := 0) (by omega) (by decide)).mp (f2.symm.trans c6)
        subst this
        exact nI_nlt (by omega) hj
      · show wpY_hasField post _ (lN (8589934592 + k)) _
        refine br_f hge ?_
        rw [vv_t (by omega), nI_clamp (show k < 2 ^ 31 by omega)]
        exact ⟨vp_in_nI hk (by decide), br_t s hp⟩
    · rcases Nat.lt_or_ge jn f with z | z
      · refine Or.inr ⟨k, hk, sk, s, by omega, rfl, fun post hp => hX post (br_t (nI_lt z (by omega)) ?_), fun post hp => hY post s (br_f (nI_ge z (by omega)) hp)⟩
        rw [show nI (τ k) * (4 : Int32) + nI jn = nI (τ k * 4 + jn) from ix_r 4 (τ k) jn]; exact hp
      · exact Or.inl ⟨fun post hp => hX post (br_f (nI_nlt z hj) hp), fun post hp => hY post s (br_t (nI_le z hj) hp)⟩
theorem xv_found0 (C : rl_C cc y_parent y_fields) (B : rl_B bc y_bound) {s : Nat} (hs : s < 12) : ∀ c i, c < cc → i + c ≤ 9 →
    ∃ r : Int32, (r = -1 ∨ ∃ c' b, c' < cc ∧ r = nI c' ∧ b < bc ∧ y_bound (c' * 12 + s) = nI b) ∧
    (∀ f (post : Int32 → Prop), c + 1 < f → post r → wX_classThatHas_5 post (nI s) x_classCount x_bodyCount x_draftCount x_wrongPlace x_madeCount x_frameCount x_current x_next x_inHand x_mode x_outcome x_stepCount x_atWork x_mostAtWork x_saidCount x_pendingCount y_parent x_classFields y_bound x_tokenKind x_tokenValue x_globals x_thingShown x_thingClass x_thingFields x_thingToken x_thingMaker x_variables x_homeOf x_within x_foundIn x_baseFrame x_frameToken x_frameStage x_frameLink x_operands x_saidValues x_marked x_pending f (nI c) (nI i)) ∧
    (∀ f (post : Int32 → Prop), c + 1 < f → post r → wY_found_2 post (nI s) y_classes y_bodies y_fault y_made y_working y_peak y_steps y_depth y_waiting y_code y_running y_has y_got y_todos y_marks y_shown y_spoken y_parent y_fields y_bound y_kind y_word y_size y_sort y_number y_stands y_keeps y_cells y_globals y_within y_foundIn y_self y_args y_temps y_param y_live y_work y_under y_at y_in y_phase y_base y_goal y_operands y_marked y_todo y_heard f (nI c)) := by
  intro c
  induction c using Nat.strongRecOn with
  | ind c ih =>
    intro i hc hi
    obtain ⟨c4, c10, p0, pp, _, _⟩ := C
    have ex : nI c * (12 : Int32) + nI s = nI (c * 12 + s) := ix_r 12 c s
    have ey : (12 : Int32) * nI c + nI s = nI (c * 12 + s) := by rw [Nat.mul_comm c 12]; exact ix_l 12 c s
    have hin : vp_in (nI (c * 12 + s)) 120 := vp_in_nI (by omega) (by decide)
    have hc2 : (nI (c * 12 + s)).toNatClampNeg = c * 12 + s := nI_clamp (by omega)
    have hcc : (nI c).toNatClampNeg = c := nI_clamp (by omega)
    have stepX : ∀ f (post : Int32 → Prop), ((y_bound (c * 12 + s) = -1 → wX_classThatHas_5 post (nI s) x_classCount x_bodyCount x_draftCount x_wrongPlace x_madeCount x_frameCount x_current x_next x_inHand x_mode x_outcome x_stepCount x_atWork x_mostAtWork x_saidCount x_pendingCount y_parent x_classFields y_bound x_tokenKind x_tokenValue x_globals x_thingShown x_thingClass x_thingFields x_thingToken x_thingMaker x_variables x_homeOf x_within x_foundIn x_baseFrame x_frameToken x_frameStage x_frameLink x_operands x_saidValues x_marked x_pending f (y_parent c) (nI (i + 1))) ∧ (¬ y_bound (c * 12 + s) = -1 → post (nI c))) → wX_classThatHas_5 post (nI s) x_classCount x_bodyCount x_draftCount x_wrongPlace x_madeCount x_frameCount x_current x_next x_inHand x_mode x_outcome x_stepCount x_atWork x_mostAtWork x_saidCount x_pendingCount y_parent x_classFields y_bound x_tokenKind x_tokenValue x_globals x_thingShown x_thingClass x_thingFields x_thingToken x_thingMaker x_variables x_homeOf x_within x_foundIn x_baseFrame x_frameToken x_frameStage x_frameLink x_operands x_saidValues x_marked x_pending (f + 1) (nI c) (nI i) := fun f post h => by
      refine br_f (nI_ge (b := 10) (by omega) (by decide)) (br_f (gx_m1 (by omega)) ?_)
      rw [ex, hc2]
      refine ⟨hin, fun z => ⟨vp_in_nI (by omega) (by decide), ?_⟩, h.2⟩
      rw [hcc]
      exact nm_e (nm_r (nI_1 i) (h.1 z))
    have stepY : ∀ f (post : Int32 → Prop), ((0 ≤ y_bound (c * 12 + s) → post (nI c)) ∧ (¬ 0 ≤ y_bound (c * 12 + s) → wY_found_2 post (nI s) y_classes y_bodies y_fault y_made y_working y_peak y_steps y_depth y_waiting y_code y_running y_has y_got y_todos y_marks y_shown y_spoken y_parent y_fields y_bound y_kind y_word y_size y_sort y_number y_stands y_keeps y_cells y_globals y_within y_foundIn y_self y_args y_temps y_param y_live y_work y_under y_at y_in y_phase y_base y_goal y_operands y_marked y_todo y_heard f (y_parent c))) → wY_found_2 post (nI s) y_classes y_bodies y_fault y_made y_working y_peak y_steps y_depth y_waiting y_code y_running y_has y_got y_todos y_marks y_shown y_spoken y_parent y_fields y_bound y_kind y_word y_size y_sort y_number y_stands y_keeps y_cells y_globals y_within y_foundIn y_self y_args y_temps y_param y_live y_work y_under y_at y_in y_phase y_base y_goal y_operands y_marked y_todo y_heard (f + 1) (nI c) := fun f post h => by
      refine br_f (nI_pos (by omega)) ?_
      rw [ey, hc2]
      refine ⟨hin, h.1, fun z => ⟨vp_in_nI (by omega) (by decide), ?_⟩⟩
      rw [hcc]
      exact nm_e (h.2 z)
    have b12 := B.1
    rcases B.2 (c * 12 + s) (by omega) with z | ⟨b, b1, b2⟩
    · have z0 : ¬ 0 ≤ y_bound (c * 12 + s) := by rw [z]; decide
      by_cases c0 : c = 0
      · subst c0
        refine ⟨-1, Or.inl rfl, fun f post hf hp => ?_, fun f post hf hp => ?_⟩
        · obtain ⟨f', rfl⟩ : ∃ f', f = f' + 2 := ⟨f - 2, by omega⟩
          refine stepX (f' + 1) post (br_t z ?_)
          rw [p0]
          exact br_c (fun _ => hp) (fun _ => br_t rfl hp)
        · obtain ⟨f', rfl⟩ : ∃ f', f = f' + 2 := ⟨f - 2, by omega⟩
          refine stepY (f' + 1) post (br_f z0 ?_)
          rw [p0]
          exact br_t (by decide) hp
      · obtain ⟨p, p1, p2⟩ := pp c (by omega) hc
        obtain ⟨r, r1, r2, r3⟩ := ih p p1 (i + 1) (by omega) (by omega)
        refine ⟨r, r1, fun f post hf hp => ?_, fun f post hf hp => ?_⟩
        · obtain ⟨f', rfl⟩ : ∃ f', f = f' + 1 := ⟨f - 1, by omega⟩
          refine stepX f' post (br_t z ?_)
          rw [p2]
          exact r2 f' post (by omega) hp
        · obtain ⟨f', rfl⟩ : ∃ f', f = f' + 1 := ⟨f - 1, by omega⟩
          refine stepY f' post (br_f z0 ?_)
          rw [p2]
          exact r3 f' post (by omega) hp
    · refine ⟨nI c, Or.inr ⟨c, b, hc, rfl, b1, b2⟩, fun f post hf hp => ?_, fun f post hf hp => ?_⟩
      · obtain ⟨f', rfl⟩ : ∃ f', f = f' + 1 := ⟨f - 1, by omega⟩
        exact stepX f' post (br_f (by rw [b2]; exact gx_m1 (by omega)) hp)
      · obtain ⟨f', rfl⟩ : ∃ f', f = f' + 1 := ⟨f - 1, by omega⟩
        exact stepY f' post (br_t (by rw [b2]; exact nI_pos' (by omega)) hp)
theorem xv_found (C : rl_C cc y_parent y_fields) (B : rl_B bc y_bound) {s c : Nat} (hs : s < 12) (hc : c < cc) :
    ∃ r : Int32, (r = -1 ∨ ∃ c' b, c' < cc ∧ r = nI c' ∧ b < bc ∧ y_bound (c' * 12 + s) = nI b) ∧
    (∀ (post : Int32 → Prop), post r → wpX_classThatHas post (x_classCount, x_bodyCount, x_draftCount, x_wrongPlace, x_madeCount, x_frameCount, x_current, x_next, x_inHand, x_mode, x_outcome, x_stepCount, x_atWork, x_mostAtWork, x_saidCount, x_pendingCount, y_parent, x_classFields, y_bound, x_tokenKind, x_tokenValue, x_globals, x_thingShown, x_thingClass, x_thingFields, x_thingToken, x_thingMaker, x_variables, x_homeOf, x_within, x_foundIn, x_baseFrame, x_frameToken, x_frameStage, x_frameLink, x_operands, x_saidValues, x_marked, x_pending) (nI c) (nI s)) ∧
    (∀ (post : Int32 → Prop), post r → wpY_found post (y_classes, y_bodies, y_fault, y_made, y_working, y_peak, y_steps, y_depth, y_waiting, y_code, y_running, y_has, y_got, y_todos, y_marks, y_shown, y_spoken, y_parent, y_fields, y_bound, y_kind, y_word, y_size, y_sort, y_number, y_stands, y_keeps, y_cells, y_globals, y_within, y_foundIn, y_self, y_args, y_temps, y_param, y_live, y_work, y_under, y_at, y_in, y_phase, y_base, y_goal, y_operands, y_marked, y_todo, y_heard) (nI c) (nI s)) := by
  obtain ⟨r, r1, r2, r3⟩ := xv_found0 C B hs c 0 hc (by have := C.2.1; omega)
  exact ⟨r, r1, fun post hp => ⟨c + 2, r2 _ post (by omega) hp⟩, fun post hp => ⟨c + 2, r3 _ post (by omega) hp⟩⟩
end
end
section
/-! the relation between calls -/
def tk_fit (cc bc : Nat) (k w : Int32) (l : Nat) : Prop := (k = 12 → l ≤ 2) ∧ (k = 13 → w.toNatClampNeg < l) ∧ (k = 25 → ∃ c, c < cc ∧ w = nI c ∧ (c = 0 ∨ 4 ≤ c)) ∧ (k = 28 → w.toNatClampNeg / 256 < cc ∧ w.toNatClampNeg % 16 < bc)
def rl_T (cc bc : Nat) (KX WX K W sz : Nat → Int32) (T : Nat → Prop) (lv : Nat → Nat) : Prop :=
  bc ≤ 12 ∧
  (∀ p, T p → p < 32 * bc ∧ KX p = K p ∧ WX p = W p ∧ tk_ok (K p) (W p) ∧ tk_fit cc bc (K p) (W p) (lv p)) ∧
  (∀ p, T p → ∃ m, ex_s (tk_nd K W) m 1 p ∧ p + m ≤ 32 * (p / 32) + 32 ∧ ∀ q, p ≤ q → q < p + m → T q) ∧
  (∀ b, b < bc → T (32 * b) ∧ lv (32 * b) = 0 ∧ ∃ n, n ≤ 32 ∧ sz b = nI n ∧ ex_s (tk_nd K W) n 1 (32 * b)) ∧
  (∀ p, T p → K p = 12 → lv (p + 1) = lv p + 1) ∧ (∀ p j, T p → ¬ K p = 12 → j < tk_nd K W p → lv (ex_pt (tk_nd K W) p j) = lv p)
def rl_D (bc dc : Nat) (KX WX K W sz : Nat → Int32) : Prop :=
  dc ≤ 32 ∧ sz 12 = nI dc ∧ ∀ i, i < dc → KX (32 * bc + i) = K (384 + i) ∧ WX (32 * bc + i) = W (384 + i) ∧ tk_ok (K (384 + i)) (W (384 + i))
def hp_Y (ce se ar te pa : Nat → Int64) (kp wi : Nat → Int32) : Prop :=
  (∀ i, i < 128 → vv_V (ce i)) ∧ (∀ i, i < 160 → vv_V (se i)) ∧ (∀ i, i < 320 → vv_V (ar i)) ∧ (∀ i, i < 480 → vv_V (te i)) ∧ (∀ i, i < 160 → vv_V (pa i)) ∧ (∀ k, k < 32 → ∃ a, a < 160 ∧ kp k = nI a) ∧ (∀ a, a < 160 → wi a = -1 ∨ ∃ b, b < 160 ∧ wi a = nI b)
def hp_X (mr wi : Nat → Int32) : Prop := (∀ t, t < 24 → gx_P (mr t)) ∧ (∀ a, a < 128 → gx_P (wi a))
def rl_Q (k cc bc dc mc : Nat) (T ST SA : Nat → Prop) (lv τ σ lev ho : Nat → Nat) (u : SX) (v : SY) : Prop := match u, v with
  | (x_classCount, x_bodyCount, x_draftCount, x_wrongPlace, x_madeCount, x_frameCount, x_current, x_next, x_inHand, x_mode, x_outcome, x_stepCount, x_atWork, x_mostAtWork, x_saidCount, x_pendingCount, x_classParent, x_classFields, x_bound, x_tokenKind, x_tokenValue, x_globals, x_thingShown, x_thingClass, x_thingFields, x_thingToken, x_thingMaker, x_variables, x_homeOf, x_within, x_foundIn, x_baseFrame, x_frameToken, x_frameStage, x_frameLink, x_operands, x_saidValues, x_marked, x_pending), (y_classes, y_bodies, y_fault, y_made, y_working, y_peak, y_steps, y_depth, y_waiting, y_code, y_running, y_has, y_got, y_todos, y_marks, y_shown, y_spoken, y_parent, y_fields, y_bound, y_kind, y_word, y_size, y_sort, y_number, y_stands, y_keeps, y_cells, y_globals, y_within, y_foundIn, y_self, y_args, y_temps, y_param, y_live, y_work, y_under, y_at, y_in, y_phase, y_base, y_goal, y_operands, y_marked, y_todo, y_heard) =>
    (x_classCount = nI cc ∧ y_classes = nI cc ∧ x_bodyCount = nI bc ∧ y_bodies = nI bc ∧ x_draftCount = nI dc ∧ y_fault = x_wrongPlace ∧ x_madeCount = nI mc ∧ y_made = nI mc ∧
      y_steps = x_stepCount ∧ y_peak = x_mostAtWork ∧ y_spoken = x_saidCount ∧ y_parent = x_classParent ∧ y_fields = x_classFields ∧ y_bound = x_bound ∧ y_heard = x_saidValues) ∧
    (x_frameCount = 0 ∧ x_atWork = 0 ∧ y_working = 0 ∧ y_waiting = 0) ∧
    ((x_outcome = 0 ∧ y_shown = x_inHand) ∨ (¬ x_outcome = 0 ∧ y_shown = -10000000000)) ∧
    (rl_C cc x_classParent x_classFields ∧ rl_B bc x_bound ∧ rl_T cc bc x_tokenKind x_tokenValue y_kind y_word y_size T lv ∧ rl_D bc dc x_tokenKind x_tokenValue y_kind y_word y_size) ∧ mc ≤ 20000 * k ∧
    (∀ i, i < 4 → hp_v ST (hp_s y_sort y_number) (x_globals i) (y_globals i)) ∧
    (hp_R cc mc T y_kind lv ST SA τ σ lev ho x_thingShown x_thingClass x_thingFields x_thingToken x_thingMaker x_variables x_homeOf x_within x_foundIn y_sort y_number y_stands y_keeps y_cells y_within y_foundIn y_self y_args y_temps y_param ∧ hp_U mc x_thingShown ∧ hp_Y y_cells y_self y_args y_temps y_param y_keeps y_within ∧ hp_X x_thingMaker x_within) ∧
    (∀ a, a < 128 → x_baseFrame a = -1) ∧ (∀ a, a < 160 → y_live a = 0)
/-- the relation at the head of a turn -/
def i_Rel (k : Nat) (u : SX) (v : SY) : Prop := ∃ (cc bc dc mc : Nat) (T ST SA : Nat → Prop) (lv τ σ lev ho : Nat → Nat), rl_Q k cc bc dc mc T ST SA lv τ σ lev ho u v
theorem i_up {k : Nat} {u : SX} {v : SY} (h : i_Rel k u v) : i_Rel (k + 5) u v := by
  obtain ⟨x_classCount, x_bodyCount, x_draftCount, x_wrongPlace, x_madeCount, x_frameCount, x_current, x_next, x_inHand, x_mode, x_outcome, x_stepCount, x_atWork, x_mostAtWork, x_saidCount, x_pendingCount, x_classParent, x_classFields, x_bound, x_tokenKind, x_tokenValue, x_globals, x_thingShown, x_thingClass, x_thingFields, x_thingToken, x_thingMaker, x_variables, x_homeOf, x_within, x_foundIn, x_baseFrame, x_frameToken, x_frameStage, x_frameLink, x_operands, x_saidValues, x_marked, x_pending⟩ := u
  obtain ⟨y_classes, y_bodies, y_fault, y_made, y_working, y_peak, y_steps, y_depth, y_waiting, y_code, y_running, y_has, y_got, y_todos, y_marks, y_shown, y_spoken, y_parent, y_fields, y_bound, y_kind, y_word, y_size, y_sort, y_number, y_stands, y_keeps, y_cells, y_globals, y_within, y_foundIn, y_self, y_args, y_temps, y_param, y_live, y_work, y_under, y_at, y_in, y_phase, y_base, y_goal, y_operands, y_marked, y_todo, y_heard⟩ := v
  obtain ⟨cc, bc, dc, mc, T, ST, SA, lv, τ, σ, lev, ho, h1, h2, h3, h4, h5, h6⟩ := h
  exact ⟨cc, bc, dc, mc, T, ST, SA, lv, τ, σ, lev, ho, h1, h2, h3, h4, by omega, h6⟩
theorem i_vc_place {k : Nat} {u : SX} {v : SY} (I : i_Rel k u v) (hk : k + 5 ≤ 2560) : wpX_place (fun r => wpY_place (fun r' => r' = r ∧ i_Rel (k + 5) u v) v) u := by
  have J := i_up I
  obtain ⟨x_classCount, x_bodyCount, x_draftCount, x_wrongPlace, x_madeCount, x_frameCount, x_current, x_next, x_inHand, x_mode, x_outcome, x_stepCount, x_atWork, x_mostAtWork, x_saidCount, x_pendingCount, x_classParent, x_classFields, x_bound, x_tokenKind, x_tokenValue, x_globals, x_thingShown, x_thingClass, x_thingFields, x_thingToken, x_thingMaker, x_variables, x_homeOf, x_within, x_foundIn, x_baseFrame, x_frameToken, x_frameStage, x_frameLink, x_operands, x_saidValues, x_marked, x_pending⟩ := u
  obtain ⟨y_classes, y_bodies, y_fault, y_made, y_working, y_peak, y_steps, y_depth, y_waiting, y_code, y_running, y_has, y_got, y_todos, y_marks, y_shown, y_spoken, y_parent, y_fields, y_bound, y_kind, y_word, y_size, y_sort, y_number, y_stands, y_keeps, y_cells, y_globals, y_within, y_foundIn, y_self, y_args, y_temps, y_param, y_live, y_work, y_under, y_at, y_in, y_phase, y_base, y_goal, y_operands, y_marked, y_todo, y_heard⟩ := v
  obtain ⟨cc, bc, dc, mc, T, ST, SA, lv, τ, σ, lev, ho, h1, _⟩ := I
  exact ⟨h1.2.2.2.2.2.1, J⟩
theorem i_vc_says {k : Nat} {u : SX} {v : SY} (I : i_Rel k u v) (hk : k + 5 ≤ 2560) : wpX_says (fun r => wpY_says (fun r' => r' = r ∧ i_Rel (k + 5) u v) v) u := by
  have J := i_up I
  obtain ⟨x_classCount, x_bodyCount, x_draftCount, x_wrongPlace, x_madeCount, x_frameCount, x_current, x_next, x_inHand, x_mode, x_outcome, x_stepCount, x_atWork, x_mostAtWork, x_saidCount, x_pendingCount, x_classParent, x_classFields, x_bound, x_tokenKind, x_tokenValue, x_globals, x_thingShown, x_thingClass, x_thingFields, x_thingToken, x_thingMaker, x_variables, x_homeOf, x_within, x_foundIn, x_baseFrame, x_frameToken, x_frameStage, x_frameLink, x_operands, x_saidValues, x_marked, x_pending⟩ := u
  obtain ⟨y_classes, y_bodies, y_fault, y_made, y_working, y_peak, y_steps, y_depth, y_waiting, y_code, y_running, y_has, y_got, y_todos, y_marks, y_shown, y_spoken, y_parent, y_fields, y_bound, y_kind, y_word, y_size, y_sort, y_number, y_stands, y_keeps, y_cells, y_globals, y_within, y_foundIn, y_self, y_args, y_temps, y_param, y_live, y_work, y_under, y_at, y_in, y_phase, y_base, y_goal, y_operands, y_marked, y_todo, y_heard⟩ := v
  obtain ⟨cc, bc, dc, mc, T, ST, SA, lv, τ, σ, lev, ho, ⟨_, _, _, _, _, _, _, _, _, _, e, _⟩, _⟩ := I
  exact ⟨e, J⟩
theorem i_vc_said {k : Nat} {u : SX} {v : SY} (I : i_Rel k u v) (hk : k + 5 ≤ 2560) (v1 : Int32) : wpX_said (fun r => wpY_said (fun r' => r' = r ∧ i_Rel (k + 5) u v) v v1) u v1 := by
  have J := i_up I
  obtain ⟨x_classCount, x_bodyCount, x_draftCount, x_wrongPlace, x_madeCount, x_frameCount, x_current, x_next, x_inHand, x_mode, x_outcome, x_stepCount, x_atWork, x_mostAtWork, x_saidCount, x_pendingCount, x_classParent, x_classFields, x_bound, x_tokenKind, x_tokenValue, x_globals, x_thingShown, x_thingClass, x_thingFields, x_thingToken, x_thingMaker, x_variables, x_homeOf, x_within, x_foundIn, x_baseFrame, x_frameToken, x_frameStage, x_frameLink, x_operands, x_saidValues, x_marked, x_pending⟩ := u
  obtain ⟨y_classes, y_bodies, y_fault, y_made, y_working, y_peak, y_steps, y_depth, y_waiting, y_code, y_running, y_has, y_got, y_todos, y_marks, y_shown, y_spoken, y_parent, y_fields, y_bound, y_kind, y_word, y_size, y_sort, y_number, y_stands, y_keeps, y_cells, y_globals, y_within, y_foundIn, y_self, y_args, y_temps, y_param, y_live, y_work, y_under, y_at, y_in, y_phase, y_base, y_goal, y_operands, y_marked, y_todo, y_heard⟩ := v
  obtain ⟨cc, bc, dc, mc, T, ST, SA, lv, τ, σ, lev, ho, ⟨_, _, _, _, _, _, _, _, _, _, rfl, _, _, _, rfl⟩, _⟩ := I
  rcases pk_ix v1 (n := 20) (by decide) with h | h | ⟨j, hj, rfl⟩
  · exact br_t h (br_t h ⟨rfl, J⟩)
  · have h0 : ¬ v1 < 0 := Int32.not_lt.mpr (Int32.le_trans (by decide) h)
    refine br_f h0 (br_t h (br_f h0 ?_))
    exact br_c (fun _ => ⟨rfl, J⟩) (fun _ => br_t h ⟨rfl, J⟩)
  · have h0 : ¬ nI j < 0 := nI_pos (by omega)
    have h1 : ¬ (20 : Int32) ≤ nI j := nI_ge (b := 20) hj (by decide)
    refine br_f h0 (br_f h1 ?_)
    by_cases z : y_spoken ≤ nI j
    · exact br_t z (br_f h0 (br_t z ⟨rfl, J⟩))
    · exact br_f z ⟨vp_in_nI hj (by decide), br_f h0 (br_f z (br_f h1 ⟨vp_in_nI hj (by decide), rfl, J⟩))⟩
theorem i_vc_taken {k : Nat} {u : SX} {v : SY} (I : i_Rel k u v) (hk : k + 5 ≤ 2560) (v1 : Int32) : wpX_taken (fun r => wpY_taken (fun r' => r' = r ∧ i_Rel (k + 5) u v) v v1) u v1 := by
  have J := i_up I
  obtain ⟨x_classCount, x_bodyCount, x_draftCount, x_wrongPlace, x_madeCount, x_frameCount, x_current, x_next, x_inHand, x_mode, x_outcome, x_stepCount, x_atWork, x_mostAtWork, x_saidCount, x_pendingCount, x_classParent, x_classFields, x_bound, x_tokenKind, x_tokenValue, x_globals, x_thingShown, x_thingClass, x_thingFields, x_thingToken, x_thingMaker, x_variables, x_homeOf, x_within, x_foundIn, x_baseFrame, x_frameToken, x_frameStage, x_frameLink, x_operands, x_saidValues, x_marked, x_pending⟩ := u
  obtain ⟨y_classes, y_bodies, y_fault, y_made, y_working, y_peak, y_steps, y_depth, y_waiting, y_code, y_running, y_has, y_got, y_todos, y_marks, y_shown, y_spoken, y_parent, y_fields, y_bound, y_kind, y_word, y_size, y_sort, y_number, y_stands, y_keeps, y_cells, y_globals, y_within, y_foundIn, y_self, y_args, y_temps, y_param, y_live, y_work, y_under, y_at, y_in, y_phase, y_base, y_goal, y_operands, y_marked, y_todo, y_heard⟩ := v
  obtain ⟨cc, bc, dc, mc, T, ST, SA, lv, τ, σ, lev, ho, ⟨a1, a2, a3, a4, _, _, a5, a6, a7, a8, _⟩, _⟩ := I
  rcases pk_ix v1 (n := 5) (by decide) with h | h | ⟨j, hj, rfl⟩
  · exact br_t h (br_t h ⟨rfl, J⟩)
  · have h0 : ¬ v1 < 0 := Int32.not_lt.mpr (Int32.le_trans (by decide) h)
    have h4 : 4 < v1 := Int32.lt_of_lt_of_le (by decide) h
    exact br_f h0 (br_t h4 (br_f h0 (br_t h4 ⟨rfl, J⟩)))
  · rcases (show j = 0 ∨ j = 1 ∨ j = 2 ∨ j = 3 ∨ j = 4 by omega) with rfl | rfl | rfl | rfl | rfl
    · exact br_f (by decide) (br_f (by decide) (br_t rfl (br_f (by decide) (br_f (by decide) (br_t rfl ⟨a7, J⟩)))))
    · exact br_f (by decide) (br_f (by decide) (br_f (by decide) (br_t rfl (br_f (by decide) (br_f (by decide) (br_f (by decide) (br_t rfl ⟨a8, J⟩)))))))
    · exact br_f (by decide) (br_f (by decide) (br_f (by decide) (br_f (by decide) (br_t rfl (br_f (by decide) (br_f (by decide) (br_f (by decide) (br_f (by decide) (br_t rfl ⟨a6.trans a5.symm, J⟩)))))))))
    · exact br_f (by decide) (br_f (by decide) (br_f (by decide) (br_f (by decide) (br_f (by decide) (br_t rfl (br_f (by decide) (br_f (by decide) (br_f (by decide) (br_f (by decide) (br_f (by decide) (br_t rfl ⟨a2.trans a1.symm, J⟩)))))))))))
    · exact br_f (by decide) (br_f (by decide) (br_f (by decide) (br_f (by decide) (br_f (by decide) (br_f (by decide) (br_t rfl (br_f (by decide) (br_f (by decide) (br_f (by decide) (br_f (by decide) (br_f (by decide) (br_f (by decide) (br_t rfl ⟨a4.trans a3.symm, J⟩)))))))))))))
theorem i_vc_result {k : Nat} {u : SX} {v : SY} (I : i_Rel k u v) (hk : k + 5 ≤ 2560) : wpX_result (fun r => wpY_result (fun r' => r' = r ∧ i_Rel (k + 5) u v) v) u := by
  have J := i_up I
  obtain ⟨x_classCount, x_bodyCount, x_draftCount, x_wrongPlace, x_madeCount, x_frameCount, x_current, x_next, x_inHand, x_mode, x_outcome, x_stepCount, x_atWork, x_mostAtWork, x_saidCount, x_pendingCount, x_classParent, x_classFields, x_bound, x_tokenKind, x_tokenValue, x_globals, x_thingShown, x_thingClass, x_thingFields, x_thingToken, x_thingMaker, x_variables, x_homeOf, x_within, x_foundIn, x_baseFrame, x_frameToken, x_frameStage, x_frameLink, x_operands, x_saidValues, x_marked, x_pending⟩ := u
  obtain ⟨y_classes, y_bodies, y_fault, y_made, y_working, y_peak, y_steps, y_depth, y_waiting, y_code, y_running, y_has, y_got, y_todos, y_marks, y_shown, y_spoken, y_parent, y_fields, y_bound, y_kind, y_word, y_size, y_sort, y_number, y_stands, y_keeps, y_cells, y_globals, y_within, y_foundIn, y_self, y_args, y_temps, y_param, y_live, y_work, y_under, y_at, y_in, y_phase, y_base, y_goal, y_operands, y_marked, y_todo, y_heard⟩ := v
  obtain ⟨cc, bc, dc, mc, T, ST, SA, lv, τ, σ, lev, ho, _, _, h3, _⟩ := I
  rcases h3 with ⟨a, b⟩ | ⟨a, b⟩
  · exact br_t a ⟨b, J⟩
  · exact br_f a ⟨b, J⟩
theorem i_vc_read {k : Nat} {u : SX} {v : SY} (I : i_Rel k u v) (hk : k + 5 ≤ 2560) (v1 : Int32) : wpX_read (fun r => wpY_read (fun r' => r' = r ∧ i_Rel (k + 5) u v) v v1) u v1 := by
  have J := i_up I
  obtain ⟨x_classCount, x_bodyCount, x_draftCount, x_wrongPlace, x_madeCount, x_frameCount, x_current, x_next, x_inHand, x_mode, x_outcome, x_stepCount, x_atWork, x_mostAtWork, x_saidCount, x_pendingCount, x_classParent, x_classFields, x_bound, x_tokenKind, x_tokenValue, x_globals, x_thingShown, x_thingClass, x_thingFields, x_thingToken, x_thingMaker, x_variables, x_homeOf, x_within, x_foundIn, x_baseFrame, x_frameToken, x_frameStage, x_frameLink, x_operands, x_saidValues, x_marked, x_pending⟩ := u
  obtain ⟨y_classes, y_bodies, y_fault, y_made, y_working, y_peak, y_steps, y_depth, y_waiting, y_code, y_running, y_has, y_got, y_todos, y_marks, y_shown, y_spoken, y_parent, y_fields, y_bound, y_kind, y_word, y_size, y_sort, y_number, y_stands, y_keeps, y_cells, y_globals, y_within, y_foundIn, y_self, y_args, y_temps, y_param, y_live, y_work, y_under, y_at, y_in, y_phase, y_base, y_goal, y_operands, y_marked, y_todo, y_heard⟩ := v
  obtain ⟨cc, bc, dc, mc, T, ST, SA, lv, τ, σ, lev, ho, _, _, _, _, _, g, ⟨H, U, _⟩, _⟩ := I
  rcases pk_ix v1 (n := 4) (by decide) with h | h | ⟨j, hj, rfl⟩
  · exact br_t h (br_t rfl (br_t h (br_t rfl ⟨rfl, J⟩)))
  · have h0 : ¬ v1 < 0 := Int32.not_lt.mpr (Int32.le_trans (by decide) h)
    exact br_f h0 (br_t h (br_t rfl (br_f h0 (br_t h (br_t rfl ⟨rfl, J⟩)))))
  · have h0 : ¬ nI j < 0 := nI_pos (by omega)
    have h1 : ¬ (4 : Int32) ≤ nI j := nI_ge (b := 4) hj (by decide)
    refine br_f h0 (br_f h1 (br_f (by decide) ⟨vp_in_nI hj (by decide), br_f h0 (br_f h1 (br_f (by decide) ⟨vp_in_nI hj (by decide), ?_⟩))⟩))
    rw [nI_clamp (by omega)]
    exact yv_show H (by have := U.1; omega) (g j hj) ⟨rfl, J⟩
theorem i_vc_field {k : Nat} {u : SX} {v : SY} (I : i_Rel k u v) (hk : k + 5 ≤ 2560) (v1 : Int32) (v2 : Int32) : wpX_field (fun r => wpY_field (fun r' => r' = r ∧ i_Rel (k + 5) u v) v v1 v2) u v1 v2 := by
  have J := i_up I
  obtain ⟨x_classCount, x_bodyCount, x_draftCount, x_wrongPlace, x_madeCount, x_frameCount, x_current, x_next, x_inHand, x_mode, x_outcome, x_stepCount, x_atWork, x_mostAtWork, x_saidCount, x_pendingCount, x_classParent, x_classFields, x_bound, x_tokenKind, x_tokenValue, x_globals, x_thingShown, x_thingClass, x_thingFields, x_thingToken, x_thingMaker, x_variables, x_homeOf, x_within, x_foundIn, x_baseFrame, x_frameToken, x_frameStage, x_frameLink, x_operands, x_saidValues, x_marked, x_pending⟩ := u
  obtain ⟨y_classes, y_bodies, y_fault, y_made, y_working, y_peak, y_steps, y_depth, y_waiting, y_code, y_running, y_has, y_got, y_todos, y_marks, y_shown, y_spoken, y_parent, y_fields, y_bound, y_kind, y_word, y_size, y_sort, y_number, y_stands, y_keeps, y_cells, y_globals, y_within, y_foundIn, y_self, y_args, y_temps, y_param, y_live, y_work, y_under, y_at, y_in, y_phase, y_base, y_goal, y_operands, y_marked, y_todo, y_heard⟩ := v
  obtain ⟨cc, bc, dc, mc, T, ST, SA, lv, τ, σ, lev, ho, ⟨_, _, _, _, _, _, _, _, _, _, _, rfl, rfl, _⟩, _, _, ⟨C, _⟩, _, g, ⟨H, U, _⟩, _⟩ := I
  rcases pk_ix v1 (n := 4) (by decide) with h | h | ⟨j, hj, rfl⟩
  · exact br_t h (br_t rfl (br_t h (br_t rfl ⟨rfl, J⟩)))
  · have h0 : ¬ v1 < 0 := Int32.not_lt.mpr (Int32.le_trans (by decide) h)
    exact br_f h0 (br_t h (br_t rfl (br_f h0 (br_t h (br_t rfl ⟨rfl, J⟩)))))
  · have h0 : ¬ nI j < 0 := nI_pos (by omega)
    have h1 : ¬ (4 : Int32) ≤ nI j := nI_ge (b := 4) hj (by decide)
    have hc : (nI j).toNatClampNeg = j := nI_clamp (by omega)
    refine br_f h0 (br_f h1 (br_f (by decide) ⟨vp_in_nI hj (by decide), ?_⟩))
    rw [hc]
    have Y0 : ∀ (P : Int64 → Prop), ((v2 < 0 → P (-10000000000)) ∧ (¬ v2 < 0 → vp_in (nI j) 4 ∧ wpY_hasField (fun r_5 => (((r_5 = 0 → (P (-10000000000))) ∧ (¬ r_5 = 0 → (vp_in (nI j) 4 ∧ (vp_in ((4 * ((y_globals j).toInt32)) + v2) 128 ∧ (wpY_show (fun r_56 => (P r_56)) (y_classes, y_bodies, y_fault, y_made, y_working, y_peak, y_steps, y_depth, y_waiting, y_code, y_running, y_has, y_got, y_todos, y_marks, y_shown, y_spoken, y_parent, y_fields, y_bound, y_kind, y_word, y_size, y_sort, y_number, y_stands, y_keeps, y_cells, y_globals, y_within, y_foundIn, y_self, y_args, y_temps, y_param, y_live, y_work, y_under, y_at, y_in, y_phase, y_base, y_goal, y_operands, y_marked, y_todo, y_heard) (y_cells ((4 * ((y_globals j).toInt32)) + v2).toNatClampNeg)))))))) (y_classes, y_bodies, y_fault, y_made, y_working, y_peak, y_steps, y_depth, y_waiting, y_code, y_running, y_has, y_got, y_todos, y_marks, y_shown, y_spoken, y_parent, y_fields, y_bound, y_kind, y_word, y_size, y_sort, y_number, y_stands, y_keeps, y_cells, y_globals, y_within, y_foundIn, y_self, y_args, y_temps, y_param, y_live, y_work, y_under, y_at, y_in, y_phase, y_base, y_goal, y_operands, y_marked, y_todo, y_heard) (y_globals j) v2)) → wpY_field P (y_classes, y_bodies, y_fault, y_made, y_working, y_peak, y_steps, y_depth, y_waiting, y_code, y_running, y_has, y_got, y_todos, y_marks, y_shown, y_spoken, y_parent, y_fields, y_bound, y_kind, y_word, y_size, y_sort, y_number, y_stands, y_keeps, y_cells, y_globals, y_within, y_foundIn, y_self, y_args, y_temps, y_param, y_live, y_work, y_under, y_at, y_in, y_phase, y_base, y_goal, y_operands, y_marked, y_todo, y_heard) (nI j) v2 := fun P hP => by
      refine br_f h0 (br_f h1 (br_f (by decide) ?_))
      rw [hc]; exact hP
    by_cases n2 : v2 < 0
    · unfold wpX_fieldPlace
      obtain ⟨a, q1, q2, q3⟩ := g j hj
      have fin : wpY_field (fun r' => r' = -10000000000 ∧ i_Rel (k + 5) (x_classCount, x_bodyCount, x_draftCount, x_wrongPlace, x_madeCount, x_frameCount, x_current, x_next, x_inHand, x_mode, x_outcome, x_stepCount, x_atWork, x_mostAtWork, x_saidCount, x_pendingCount, y_parent, y_fields, x_bound, x_tokenKind, x_tokenValue, x_globals, x_thingShown, x_thingClass, x_thingFields, x_thingToken, x_thingMaker, x_variables, x_homeOf, x_within, x_foundIn, x_baseFrame, x_frameToken, x_frameStage, x_frameLink, x_operands, x_saidValues, x_marked, x_pending) (y_classes, y_bodies, y_fault, y_made, y_working, y_peak, y_steps, y_depth, y_waiting, y_code, y_running, y_has, y_got, y_todos, y_marks, y_shown, y_spoken, y_parent, y_fields, y_bound, y_kind, y_word, y_size, y_sort, y_number, y_stands, y_keeps, y_cells, y_globals, y_within, y_foundIn, y_self, y_args, y_temps, y_param, y_live, y_work, y_under, y_at, y_in, y_phase, y_base, y_goal, y_operands, y_marked, y_todo, y_heard)) (y_classes, y_bodies, y_fault, y_made, y_working, y_peak, y_steps, y_depth, y_waiting, y_code, y_running, y_has, y_got, y_todos, y_marks, y_shown, y_spoken, y_parent, y_fields, y_bound, y_kind, y_word, y_size, y_sort, y_number, y_stands, y_keeps, y_cells, y_globals, y_within, y_foundIn, y_self, y_args, y_temps, y_param, y_live, y_work, y_under, y_at, y_in, y_phase, y_base, y_goal, y_operands, y_marked, y_todo, y_heard) (nI j) v2 := Y0 _ (br_t n2 ⟨rfl, J⟩)
      by_cases z : 20000000000 ≤ x_globals j
      · obtain ⟨kk, _, sk, e⟩ := hp_vX (g j hj) z
        rw [e]
        exact xv_thing U H sk (br_f (gx_m1 (by have := (H.1 kk sk).2.1; omega)) (br_t n2 (br_t rfl fin)))
      · exact xv_thing_n z (br_t rfl (br_t rfl fin))
    · obtain ⟨jn, hjn, rfl⟩ := nI_of n2
      rcases xv_field U H C (g j hj) hjn with ⟨fX, fY⟩ | ⟨kk, kl, sk, s3, j4, ey, fX, fY⟩
      · exact fX _ (br_t rfl (Y0 _ (br_f n2 ⟨vp_in_nI hj (by decide), fY _ (br_t rfl ⟨rfl, J⟩)⟩)))
      · obtain ⟨k1, k2, _, _, _, _, _, k8⟩ := H.1 kk sk
        have e4 : (4 : Int32) * nI kk + nI jn = nI (4 * kk + jn) := ix_l 4 kk jn
        refine fX _ (br_f (gx_m1 (by omega)) ⟨vp_in_nI (by omega) (by decide), Y0 _ (br_f n2 ⟨vp_in_nI hj (by decide), fY _ (br_f (by decide) ⟨vp_in_nI hj (by decide), ?_⟩)⟩)⟩)
        rw [ey, vv_t (by omega), e4, nI_clamp (show τ kk * 4 + jn < 2 ^ 31 by omega), nI_clamp (show 4 * kk + jn < 2 ^ 31 by omega)]
        exact ⟨vp_in_nI (by omega) (by decide), yv_show H (by have := U.1; omega) ((k8 s3).2 jn j4) ⟨rfl, J⟩⟩
theorem i_vc_finds {k : Nat} {u : SX} {v : SY} (I : i_Rel k u v) (hk : k + 5 ≤ 2560) (v1 : Int32) (v2 : Int32) : wpX_finds (fun r => wpY_finds (fun r' => r' = r ∧ i_Rel (k + 5) u v) v v1 v2) u v1 v2 := by
  have J := i_up I
  obtain ⟨x_classCount, x_bodyCount, x_draftCount, x_wrongPlace, x_madeCount, x_frameCount, x_current, x_next, x_inHand, x_mode, x_outcome, x_stepCount, x_atWork, x_mostAtWork, x_saidCount, x_pendingCount, x_classParent, x_classFields, x_bound, x_tokenKind, x_tokenValue, x_globals, x_thingShown, x_thingClass, x_thingFields, x_thingToken, x_thingMaker, x_variables, x_homeOf, x_within, x_foundIn, x_baseFrame, x_frameToken, x_frameStage, x_frameLink, x_operands, x_saidValues, x_marked, x_pending⟩ := u
  obtain ⟨y_classes, y_bodies, y_fault, y_made, y_working, y_peak, y_steps, y_depth, y_waiting, y_code, y_running, y_has, y_got, y_todos, y_marks, y_shown, y_spoken, y_parent, y_fields, y_bound, y_kind, y_word, y_size, y_sort, y_number, y_stands, y_keeps, y_cells, y_globals, y_within, y_foundIn, y_self, y_args, y_temps, y_param, y_live, y_work, y_under, y_at, y_in, y_phase, y_base, y_goal, y_operands, y_marked, y_todo, y_heard⟩ := v
  obtain ⟨cc, bc, dc, mc, T, ST, SA, lv, τ, σ, lev, ho, ⟨rfl, rfl, _, _, _, _, _, _, _, _, _, rfl, rfl, rfl, _⟩, _, _, ⟨C, B, _⟩, _⟩ := I
  rcases pk_ix v1 (n := cc) (by have := C.2.1; omega) with h | h | ⟨c, hc, rfl⟩
  · exact br_t h (br_t rfl (br_t h (br_t rfl ⟨rfl, J⟩)))
  · have h0 : ¬ v1 < 0 := Int32.not_lt.mpr (Int32.le_trans (nI_pos' (by have := C.2.1; omega)) h)
    exact br_f h0 (br_t h (br_t rfl (br_f h0 (br_t h (br_t rfl ⟨rfl, J⟩)))))
  · have h0 : ¬ nI c < 0 := nI_pos (by have := C.2.1; omega)
    have h1 : ¬ nI cc ≤ nI c := nI_ge hc (by have := C.2.1; omega)
    refine br_f h0 (br_f h1 (br_f (by decide) ?_))
    rcases pk_ix v2 (n := 12) (by decide) with q | q | ⟨s, hs, rfl⟩
    · exact br_t q (br_t rfl (br_f h0 (br_f h1 (br_f (by decide) (br_t q (br_t rfl ⟨rfl, J⟩))))))
    · have q0 : ¬ v2 < 0 := Int32.not_lt.mpr (Int32.le_trans (by decide) q)
      exact br_f q0 (br_t q (br_t rfl (br_f h0 (br_f h1 (br_f (by decide) (br_f q0 (br_t q (br_t rfl ⟨rfl, J⟩))))))))
    · have q0 : ¬ nI s < 0 := nI_pos (by omega)
      have q1 : ¬ (12 : Int32) ≤ nI s := nI_ge (b := 12) hs (by decide)
      obtain ⟨r, _, r2, r3⟩ := xv_found C B hs hc
      exact br_f q0 (br_f q1 (br_f (by decide) (r2 _ (br_f h0 (br_f h1 (br_f (by decide) (br_f q0 (br_f q1 (br_f (by decide) (r3 _ ⟨rfl, J⟩))))))))))
end
section
/-! tokens on the class's side; wipe, global, cls, token, bind -/
section
variable {x_classCount x_bodyCount x_draftCount x_wrongPlace x_madeCount x_frameCount x_current x_next x_mode x_outcome x_stepCount x_atWork x_mostAtWork x_saidCount x_pendingCount : Int32} {x_inHand : Int64} {x_classParent x_classFields x_bound x_tokenKind x_tokenValue x_thingClass x_thingToken x_thingMaker x_homeOf x_within x_foundIn x_baseFrame x_frameToken x_frameStage x_frameLink x_marked x_pending : Nat → Int32} {x_globals x_thingShown x_thingFields x_variables x_operands x_saidValues : Nat → Int64}
variable {post : Int32 → Prop}
theorem xw_needs {k w : Int32} (ok : tk_ok k w) (h : post (nI (tk_need k w))) : wpX_operandsOf post (x_classCount, x_bodyCount, x_draftCount, x_wrongPlace, x_madeCount, x_frameCount, x_current, x_next, x_inHand, x_mode, x_outcome, x_stepCount, x_atWork, x_mostAtWork, x_saidCount, x_pendingCount, x_classParent, x_classFields, x_bound, x_tokenKind, x_tokenValue, x_globals, x_thingShown, x_thingClass, x_thingFields, x_thingToken, x_thingMaker, x_variables, x_homeOf, x_within, x_foundIn, x_baseFrame, x_frameToken, x_frameStage, x_frameLink, x_operands, x_saidValues, x_marked, x_pending) k w := by
  obtain ⟨kn, h1, h2, h3, -⟩ := ok
  unfold wpX_operandsOf
  dsimp only
  have h4 : kn = 10 ∨ kn = 11 → ∃ wn, wn < 12 ∧ w = nI wn := fun z => by
    obtain ⟨wn, w1, w2⟩ := h3 (by omega)
    rcases z with rfl | rfl
    · exact ⟨wn, w1, w2⟩
    · exact ⟨wn, w1, w2⟩
  clear h3
  revert h2 h4
  refine tk_cases (P := fun kn => k = nI kn → (kn = 10 ∨ kn = 11 → ∃ wn, wn < 12 ∧ w = nI wn) → _) ?_ ?_ ?_ ?_ ?_ ?_ ?_ ?_ ?_ ?_ ?_ ?_ ?_ ?_ ?_ ?_ ?_ ?_ ?_ ?_ ?_ ?_ ?_ ?_ ?_ ?_ ?_ ?_ ?_ ?_ kn h1
  all_goals intro e h4
  all_goals subst e
  case refine_11 =>
    obtain ⟨wn, w1, w2⟩ := h4 (Or.inl rfl)
    have e2 : tk_need (nI 10) w = 1 + wn / 4 := by
      show 1 + w.toNatClampNeg / 4 = _
      rw [w2, nI_clamp (by omega)]
    rw [e2] at h
    have e3 : (1 : Int32) + w / 4 = nI (1 + wn / 4) := by rw [w2, tk_div4 (by omega), ← nI_add]; rfl
    refine br_f (by decide) (br_f (by decide) (br_f (by decide) (br_f (by decide) (br_f (by decide) (br_f (by decide) (br_f (by decide) (br_t rfl ⟨by decide, ?_⟩)))))))
    rw [e3]; exact h
  case refine_12 =>
    obtain ⟨wn, w1, w2⟩ := h4 (Or.inr rfl)
    have e2 : tk_need (nI 11) w = wn / 4 := by
      show w.toNatClampNeg / 4 = _
      rw [w2, nI_clamp (by omega)]
    rw [e2] at h
    have e3 : w / 4 = nI (wn / 4) := by rw [w2, tk_div4 (by omega)]
    refine br_f (by decide) (br_f (by decide) (br_f (by decide) (br_f (by decide) (br_f (by decide) (br_f (by decide) (br_f (by decide) (br_f (by decide) (br_t rfl ⟨by decide, ?_⟩))))))))
    rw [e3]; exact h
  all_goals first
    | exact br_t (by decide) h
    | (refine br_f (by decide) (br_f (by decide) ?_)
       repeat first | exact br_t rfl h | refine br_f (by decide) ?_)
theorem xw_end4 {K W : Nat → Int32} : ∀ (n m t f : Nat), ex_s (tk_nd K W) n m t → n < f → t + n ≤ 416 → (∀ q, t ≤ q → q < t + n → x_tokenKind q = K q ∧ x_tokenValue q = W q ∧ tk_ok (K q) (W q)) → post (nI (t + n)) → wX_endOfExpression_4 post x_classCount x_bodyCount x_draftCount x_wrongPlace x_madeCount x_frameCount x_current x_next x_inHand x_mode x_outcome x_stepCount x_atWork x_mostAtWork x_saidCount x_pendingCount x_classParent x_classFields x_bound x_tokenKind x_tokenValue x_globals x_thingShown x_thingClass x_thingFields x_thingToken x_thingMaker x_variables x_homeOf x_within x_foundIn x_baseFrame x_frameToken x_frameStage x_frameLink x_operands x_saidValues x_marked x_pending f (nI m) (nI t)
  | 0, m, t, 0, _, hf, _, _, _ => by omega
  | 0, m, t, f + 1, hs, hf, h4, hok, h => by
    have e : m = 0 := hs
    subst e
    exact br_t (by decide) h
  | n + 1, m, t, 0, _, hf, _, _, _ => by omega
  | n + 1, m, t, f + 1, hs, hf, h4, hok, h => by
    have hm := ex_mle hs
    obtain ⟨q1, q2, q3⟩ := hok t (by omega) (by omega)
    refine br_f (nI_nle (by have := hs.1; omega) (by omega)) (br_f (nI_ge (b := 416) (by omega) (by decide)) ⟨vp_in_nI (by omega) (by decide), vp_in_nI (by omega) (by decide), ?_⟩)
    rw [nI_clamp (by omega), q1, q2]
    refine xw_needs q3 (nm_r (tk_mm hs.1) (nm_r (nI_1 t) ?_))
    exact xw_end4 n _ _ f hs.2 (by omega) (by omega) (fun q h1 h2 => hok q (by omega) (by omega)) (by rw [show t + 1 + n = t + (n + 1) by omega]; exact h)
theorem xw_end {K W : Nat → Int32} {n t : Nat} (hs : ex_s (tk_nd K W) n 1 t) (h4 : t + n ≤ 416) (hok : ∀ q, t ≤ q → q < t + n → x_tokenKind q = K q ∧ x_tokenValue q = W q ∧ tk_ok (K q) (W q)) (h : post (nI (t + n))) : wpX_endOfExpression post (x_classCount, x_bodyCount, x_draftCount, x_wrongPlace, x_madeCount, x_frameCount, x_current, x_next, x_inHand, x_mode, x_outcome, x_stepCount, x_atWork, x_mostAtWork, x_saidCount, x_pendingCount, x_classParent, x_classFields, x_bound, x_tokenKind, x_tokenValue, x_globals, x_thingShown, x_thingClass, x_thingFields, x_thingToken, x_thingMaker, x_variables, x_homeOf, x_within, x_foundIn, x_baseFrame, x_frameToken, x_frameStage, x_frameLink, x_operands, x_saidValues, x_marked, x_pending) (nI t) :=
  ⟨n + 1, xw_end4 n 1 t (n + 1) hs (by omega) h4 hok h⟩
end
section
variable {x_classCount x_bodyCount x_draftCount x_wrongPlace x_madeCount x_frameCount x_current x_next x_mode x_outcome x_stepCount x_atWork x_mostAtWork x_saidCount x_pendingCount : Int32} {x_inHand : Int64} {x_classParent x_classFields x_bound x_tokenKind x_tokenValue x_thingClass x_thingToken x_thingMaker x_homeOf x_within x_foundIn x_baseFrame x_frameToken x_frameStage x_frameLink x_marked x_pending : Nat → Int32} {x_globals x_thingShown x_thingFields x_variables x_operands x_saidValues : Nat → Int64}
variable {y_classes y_bodies y_fault y_made y_working y_peak y_steps y_depth y_waiting y_code y_running y_has y_todos y_marks y_spoken : Int32} {y_got y_shown : Int64} {y_parent y_fields y_bound y_kind y_word y_size y_sort y_number y_stands y_keeps y_within y_foundIn y_live y_work y_under y_at y_in y_phase y_base y_goal y_marked y_todo : Nat → Int32} {y_cells y_globals y_self y_args y_temps y_param y_operands y_heard : Nat → Int64}
variable {cc bc dc mc k : Nat} {T ST SA : Nat → Prop} {lv τ σ lev ho : Nat → Nat}
/-- does body b use an ARG from s / 4 on: both sides say the same -/
theorem xw_uses (TT : rl_T cc bc x_tokenKind x_tokenValue y_kind y_word y_size T lv) {b s : Nat} (hb : b < bc) (hs : s < 2 ^ 31) :
    ((∀ post : Int32 → Prop, post 0 → wpX_usesArgFrom post (x_classCount, x_bodyCount, x_draftCount, x_wrongPlace, x_madeCount, x_frameCount, x_current, x_next, x_inHand, x_mode, x_outcome, x_stepCount, x_atWork, x_mostAtWork, x_saidCount, x_pendingCount, x_classParent, x_classFields, x_bound, x_tokenKind, x_tokenValue, x_globals, x_thingShown, x_thingClass, x_thingFields, x_thingToken, x_thingMaker, x_variables, x_homeOf, x_within, x_foundIn, x_baseFrame, x_frameToken, x_frameStage, x_frameLink, x_operands, x_saidValues, x_marked, x_pending) (nI b) (nI (s / 4))) ∧ (∀ post : Int32 → Prop, post 1 → wpY_suits post (y_classes, y_bodies, y_fault, y_made, y_working, y_peak, y_steps, y_depth, y_waiting, y_code, y_running, y_has, y_got, y_todos, y_marks, y_shown, y_spoken, y_parent, y_fields, y_bound, y_kind, y_word, y_size, y_sort, y_number, y_stands, y_keeps, y_cells, y_globals, y_within, y_foundIn, y_self, y_args, y_temps, y_param, y_live, y_work, y_under, y_at, y_in, y_phase, y_base, y_goal, y_operands, y_marked, y_todo, y_heard) (nI b) (nI s))) ∨
    ((∀ post : Int32 → Prop, post 1 → wpX_usesArgFrom post (x_classCount, x_bodyCount, x_draftCount, x_wrongPlace, x_madeCount, x_frameCount, x_current, x_next, x_inHand, x_mode, x_outcome, x_stepCount, x_atWork, x_mostAtWork, x_saidCount, x_pendingCount, x_classParent, x_classFields, x_bound, x_tokenKind, x_tokenValue, x_globals, x_thingShown, x_thingClass, x_thingFields, x_thingToken, x_thingMaker, x_variables, x_homeOf, x_within, x_foundIn, x_baseFrame, x_frameToken, x_frameStage, x_frameLink, x_operands, x_saidValues, x_marked, x_pending) (nI b) (nI (s / 4))) ∧ (∀ post : Int32 → Prop, post 0 → wpY_suits post (y_classes, y_bodies, y_fault, y_made, y_working, y_peak, y_steps, y_depth, y_waiting, y_code, y_running, y_has, y_got, y_todos, y_marks, y_shown, y_spoken, y_parent, y_fields, y_bound, y_kind, y_word, y_size, y_sort, y_number, y_stands, y_keeps, y_cells, y_globals, y_within, y_foundIn, y_self, y_args, y_temps, y_param, y_live, y_work, y_under, y_at, y_in, y_phase, y_base, y_goal, y_operands, y_marked, y_todo, y_heard) (nI b) (nI s))) := by
  obtain ⟨b12, t1, t2, t3, _⟩ := TT
  obtain ⟨tb, _, n, n1, n2, n3⟩ := t3 b hb
  obtain ⟨m, m1, m2, m3⟩ := t2 _ tb
  obtain rfl : m = n := ex_u m1 n3
  have hb2 : 32 * b / 32 = b := by omega
  rw [hb2] at m2
  have hT : ∀ q, 32 * b ≤ q → q < 32 * b + m → x_tokenKind q = y_kind q ∧ x_tokenValue q = y_word q ∧ tk_ok (y_kind q) (y_word q) := fun q h1 h2 => ⟨(t1 q (m3 q h1 h2)).2.1, (t1 q (m3 q h1 h2)).2.2.1, (t1 q (m3 q h1 h2)).2.2.2.1⟩
  have key : ∀ d t, t + d = 32 * b + m → 32 * b ≤ t →
      ((∀ f (post : Int32 → Prop), d < f → post 0 → wX_usesArgFrom_15 post (nI (s / 4)) (nI (32 * b + m)) x_classCount x_bodyCount x_draftCount x_wrongPlace x_madeCount x_frameCount x_current x_next x_inHand x_mode x_outcome x_stepCount x_atWork x_mostAtWork x_saidCount x_pendingCount x_classParent x_classFields x_bound x_tokenKind x_tokenValue x_globals x_thingShown x_thingClass x_thingFields x_thingToken x_thingMaker x_variables x_homeOf x_within x_foundIn x_baseFrame x_frameToken x_frameStage x_frameLink x_operands x_saidValues x_marked x_pending f (nI t)) ∧ (∀ f (post : Int32 → Prop), d < f → post 1 → wY_suits_5 post (nI b) (nI s) y_classes y_bodies y_fault y_made y_working y_peak y_steps y_depth y_waiting y_code y_running y_has y_got y_todos y_marks y_shown y_spoken y_parent y_fields y_bound y_kind y_word y_size y_sort y_number y_stands y_keeps y_cells y_globals y_within y_foundIn y_self y_args y_temps y_param y_live y_work y_under y_at y_in y_phase y_base y_goal y_operands y_marked y_todo y_heard f (nI t))) ∨
      ((∀ f (post : Int32 → Prop), d < f → post 1 → wX_usesArgFrom_15 post (nI (s / 4)) (nI (32 * b + m)) x_classCount x_bodyCount x_draftCount x_wrongPlace x_madeCount x_frameCount x_current x_next x_inHand x_mode x_outcome x_stepCount x_atWork x_mostAtWork x_saidCount x_pendingCount x_classParent x_classFields x_bound x_tokenKind x_tokenValue x_globals x_thingShown x_thingClass x_thingFields x_thingToken x_thingMaker x_variables x_homeOf x_within x_foundIn x_baseFrame x_frameToken x_frameStage x_frameLink x_operands x_saidValues x_marked x_pending f (nI t)) ∧ (∀ f (post : Int32 → Prop), d < f → post 0 → wY_suits_5 post (nI b) (nI s) y_classes y_bodies y_fault y_made y_working y_peak y_steps y_depth y_waiting y_code y_running y_has y_got y_todos y_marks y_shown y_spoken y_parent y_fields y_bound y_kind y_word y_size y_sort y_number y_stands y_keeps y_cells y_globals y_within y_foundIn y_self y_args y_temps y_param y_live y_work y_under y_at y_in y_phase y_base y_goal y_operands y_marked y_todo y_heard f (nI t))) := by
    have ey : (32 : Int32) * nI b + y_size (nI b).toNatClampNeg = nI (32 * b + m) := by
      rw [nI_clamp (by omega), n2]; exact ix_l 32 b m
    have vb : vp_in (nI b) 13 := vp_in_nI (by omega) (by decide)
    intro d
    induction d with
    | zero =>
      intro t e1 e2
      refine Or.inl ⟨fun f post hf hp => ?_, fun f post hf hp => ?_⟩
      · obtain ⟨f', rfl⟩ : ∃ f', f = f' + 1 := ⟨f - 1, by omega⟩
        exact br_t (nI_le (by omega) (by omega)) hp
      · obtain ⟨f', rfl⟩ : ∃ f', f = f' + 1 := ⟨f - 1, by omega⟩
        refine ⟨vb, ?_⟩
        rw [ey]
        exact br_t (nI_le (by omega) (by omega)) hp
    | succ d ih =>
      intro t e1 e2
      obtain ⟨q1, q2, q3⟩ := hT t e2 (by omega)
      have tc : (nI t).toNatClampNeg = t := nI_clamp (by omega)
      have vt : vp_in (nI t) 416 := vp_in_nI (by omega) (by decide)
      have sX : ∀ f (post : Int32 → Prop), ((y_kind t = 3 → ((y_word t < nI (s / 4) → wX_usesArgFrom_15 post (nI (s / 4)) (nI (32 * b + m)) x_classCount x_bodyCount x_draftCount x_wrongPlace x_madeCount x_frameCount x_current x_next x_inHand x_mode x_outcome x_stepCount x_atWork x_mostAtWork x_saidCount x_pendingCount x_classParent x_classFields x_bound x_tokenKind x_tokenValue x_globals x_thingShown x_thingClass x_thingFields x_thingToken x_thingMaker x_variables x_homeOf x_within x_foundIn x_baseFrame x_frameToken x_frameStage x_frameLink x_operands x_saidValues x_marked x_pending f (nI (t + 1))) ∧ (¬ y_word t < nI (s / 4) → post 1))) ∧ (¬ y_kind t = 3 → wX_usesArgFrom_15 post (nI (s / 4)) (nI (32 * b + m)) x_classCount x_bodyCount x_draftCount x_wrongPlace x_madeCount x_frameCount x_current x_next x_inHand x_mode x_outcome x_stepCount x_atWork x_mostAtWork x_saidCount x_pendingCount x_classParent x_classFields x_bound x_tokenKind x_tokenValue x_globals x_thingShown x_thingClass x_thingFields x_thingToken x_thingMaker x_variables x_homeOf x_within x_foundIn x_baseFrame x_frameToken x_frameStage x_frameLink x_operands x_saidValues x_marked x_pending f (nI (t + 1)))) → wX_usesArgFrom_15 post (nI (s / 4)) (nI (32 * b + m)) x_classCount x_bodyCount x_draftCount x_wrongPlace x_madeCount x_frameCount x_current x_next x_inHand x_mode x_outcome x_stepCount x_atWork x_mostAtWork x_saidCount x_pendingCount x_classParent x_classFields x_bound x_tokenKind x_tokenValue x_globals x_thingShown x_thingClass x_thingFields x_thingToken x_thingMaker x_variables x_homeOf x_within x_foundIn x_baseFrame x_frameToken x_frameStage x_frameLink x_operands x_saidValues x_marked x_pending (f + 1) (nI t) := fun f post h => by
        refine br_f (nI_ge (by omega) (by omega)) ⟨vt, ?_⟩
        rw [tc, q1, q2]
        exact ⟨fun z => ⟨vt, fun y => nm_r (nI_1 t) ((h.1 z).1 y), (h.1 z).2⟩, fun z => nm_r (nI_1 t) (h.2 z)⟩
      have sY : ∀ f (post : Int32 → Prop), ((y_kind t = 3 → ((y_word t < nI (s / 4) → wY_suits_5 post (nI b) (nI s) y_classes y_bodies y_fault y_made y_working y_peak y_steps y_depth y_waiting y_code y_running y_has y_got y_todos y_marks y_shown y_spoken y_parent y_fields y_bound y_kind y_word y_size y_sort y_number y_stands y_keeps y_cells y_globals y_within y_foundIn y_self y_args y_temps y_param y_live y_work y_under y_at y_in y_phase y_base y_goal y_operands y_marked y_todo y_heard f (nI (t + 1))) ∧ (¬ y_word t < nI (s / 4) → post 0))) ∧ (¬ y_kind t = 3 → wY_suits_5 post (nI b) (nI s) y_classes y_bodies y_fault y_made y_working y_peak y_steps y_depth y_waiting y_code y_running y_has y_got y_todos y_marks y_shown y_spoken y_parent y_fields y_bound y_kind y_word y_size y_sort y_number y_stands y_keeps y_cells y_globals y_within y_foundIn y_self y_args y_temps y_param y_live y_work y_under y_at y_in y_phase y_base y_goal y_operands y_marked y_todo y_heard f (nI (t + 1)))) → wY_suits_5 post (nI b) (nI s) y_classes y_bodies y_fault y_made y_working y_peak y_steps y_depth y_waiting y_code y_running y_has y_got y_todos y_marks y_shown y_spoken y_parent y_fields y_bound y_kind y_word y_size y_sort y_number y_stands y_keeps y_cells y_globals y_within y_foundIn y_self y_args y_temps y_param y_live y_work y_under y_at y_in y_phase y_base y_goal y_operands y_marked y_todo y_heard (f + 1) (nI t) := fun f post h => by
        refine ⟨vb, ?_⟩
        rw [ey]
        refine br_f (nI_ge (by omega) (by omega)) ⟨vt, ?_⟩
        rw [tc, tk_div4 hs]
        exact ⟨fun z => ⟨vt, by decide, fun y => nm_r (nI_1 t) ((h.1 z).1 y), (h.1 z).2⟩, fun z => nm_r (nI_1 t) (h.2 z)⟩
      by_cases z : y_kind t = 3 ∧ ¬ y_word t < nI (s / 4)
      · refine Or.inr ⟨fun f post hf hp => ?_, fun f post hf hp => ?_⟩
        · obtain ⟨f', rfl⟩ : ∃ f', f = f' + 1 := ⟨f - 1, by omega⟩
          exact sX f' post (br_t z.1 (br_f z.2 hp))
        · obtain ⟨f', rfl⟩ : ∃ f', f = f' + 1 := ⟨f - 1, by omega⟩
          exact sY f' post (br_t z.1 (br_f z.2 hp))
      · have goX : ∀ f (post : Int32 → Prop), wX_usesArgFrom_15 post (nI (s / 4)) (nI (32 * b + m)) x_classCount x_bodyCount x_draftCount x_wrongPlace x_madeCount x_frameCount x_current x_next x_inHand x_mode x_outcome x_stepCount x_atWork x_mostAtWork x_saidCount x_pendingCount x_classParent x_classFields x_bound x_tokenKind x_tokenValue x_globals x_thingShown x_thingClass x_thingFields x_thingToken x_thingMaker x_variables x_homeOf x_within x_foundIn x_baseFrame x_frameToken x_frameStage x_frameLink x_operands x_saidValues x_marked x_pending f (nI (t + 1)) → wX_usesArgFrom_15 post (nI (s / 4)) (nI (32 * b + m)) x_classCount x_bodyCount x_draftCount x_wrongPlace x_madeCount x_frameCount x_current x_next x_inHand x_mode x_outcome x_stepCount x_atWork x_mostAtWork x_saidCount x_pendingCount x_classParent x_classFields x_bound x_tokenKind x_tokenValue x_globals x_thingShown x_thingClass x_thingFields x_thingToken x_thingMaker x_variables x_homeOf x_within x_foundIn x_baseFrame x_frameToken x_frameStage x_frameLink x_operands x_saidValues x_marked x_pending (f + 1) (nI t) := fun f post h => sX f post ⟨fun z3 => ⟨fun _ => h, fun z4 => absurd ⟨z3, z4⟩ z⟩, fun _ => h⟩
        have goY : ∀ f (post : Int32 → Prop), wY_suits_5 post (nI b) (nI s) y_classes y_bodies y_fault y_made y_working y_peak y_steps y_depth y_waiting y_code y_running y_has y_got y_todos y_marks y_shown y_spoken y_parent y_fields y_bound y_kind y_word y_size y_sort y_number y_stands y_keeps y_cells y_globals y_within y_foundIn y_self y_args y_temps y_param y_live y_work y_under y_at y_in y_phase y_base y_goal y_operands y_marked y_todo y_heard f (nI (t + 1)) → wY_suits_5 post (nI b) (nI s) y_classes y_bodies y_fault y_made y_working y_peak y_steps y_depth y_waiting y_code y_running y_has y_got y_todos y_marks y_shown y_spoken y_parent y_fields y_bound y_kind y_word y_size y_sort y_number y_stands y_keeps y_cells y_globals y_within y_foundIn y_self y_args y_temps y_param y_live y_work y_under y_at y_in y_phase y_base y_goal y_operands y_marked y_todo y_heard (f + 1) (nI t) := fun f post h => sY f post ⟨fun z3 => ⟨fun _ => h, fun z4 => absurd ⟨z3, z4⟩ z⟩, fun _ => h⟩
        rcases ih (t + 1) (by omega) (by omega) with ⟨a, c⟩ | ⟨a, c⟩
        · refine Or.inl ⟨fun f post hf hp => ?_, fun f post hf hp => ?_⟩
          · obtain ⟨f', rfl⟩ : ∃ f', f = f' + 1 := ⟨f - 1, by omega⟩
            exact goX f' post (a f' post (by omega) hp)
          · obtain ⟨f', rfl⟩ : ∃ f', f = f' + 1 := ⟨f - 1, by omega⟩
            exact goY f' post (c f' post (by omega) hp)
        · refine Or.inr ⟨fun f post hf hp => ?_, fun f post hf hp => ?_⟩
          · obtain ⟨f', rfl⟩ : ∃ f', f = f' + 1 := ⟨f - 1, by omega⟩
            exact goX f' post (a f' post (by omega) hp)
          · obtain ⟨f', rfl⟩ : ∃ f', f = f' + 1 := ⟨f - 1, by omega⟩
            exact goY f' post (c f' post (by omega) hp)
  have eX : nI b * (32 : Int32) = nI (32 * b) := by rw [Nat.mul_comm]; exact pk_mul b 32
  have eY : (32 : Int32) * nI b = nI (32 * b) := pk_mul 32 b
  have endX : ∀ post : Int32 → Prop, (∃ f, wX_usesArgFrom_15 post (nI (s / 4)) (nI (32 * b + m)) x_classCount x_bodyCount x_draftCount x_wrongPlace x_madeCount x_frameCount x_current x_next x_inHand x_mode x_outcome x_stepCount x_atWork x_mostAtWork x_saidCount x_pendingCount x_classParent x_classFields x_bound x_tokenKind x_tokenValue x_globals x_thingShown x_thingClass x_thingFields x_thingToken x_thingMaker x_variables x_homeOf x_within x_foundIn x_baseFrame x_frameToken x_frameStage x_frameLink x_operands x_saidValues x_marked x_pending f (nI (32 * b))) → wpX_usesArgFrom post (x_classCount, x_bodyCount, x_draftCount, x_wrongPlace, x_madeCount, x_frameCount, x_current, x_next, x_inHand, x_mode, x_outcome, x_stepCount, x_atWork, x_mostAtWork, x_saidCount, x_pendingCount, x_classParent, x_classFields, x_bound, x_tokenKind, x_tokenValue, x_globals, x_thingShown, x_thingClass, x_thingFields, x_thingToken, x_thingMaker, x_variables, x_homeOf, x_within, x_foundIn, x_baseFrame, x_frameToken, x_frameStage, x_frameLink, x_operands, x_saidValues, x_marked, x_pending) (nI b) (nI (s / 4)) := fun post h => by
    unfold wpX_usesArgFrom
    dsimp only
    rw [eX]
    exact xw_end m1 (by omega) hT (nm_e h)
  have endY : ∀ post : Int32 → Prop, (∃ f, wY_suits_5 post (nI b) (nI s) y_classes y_bodies y_fault y_made y_working y_peak y_steps y_depth y_waiting y_code y_running y_has y_got y_todos y_marks y_shown y_spoken y_parent y_fields y_bound y_kind y_word y_size y_sort y_number y_stands y_keeps y_cells y_globals y_within y_foundIn y_self y_args y_temps y_param y_live y_work y_under y_at y_in y_phase y_base y_goal y_operands y_marked y_todo y_heard f (nI (32 * b))) → wpY_suits post (y_classes, y_bodies, y_fault, y_made, y_working, y_peak, y_steps, y_depth, y_waiting, y_code, y_running, y_has, y_got, y_todos, y_marks, y_shown, y_spoken, y_parent, y_fields, y_bound, y_kind, y_word, y_size, y_sort, y_number, y_stands, y_keeps, y_cells, y_globals, y_within, y_foundIn, y_self, y_args, y_temps, y_param, y_live, y_work, y_under, y_at, y_in, y_phase, y_base, y_goal, y_operands, y_marked, y_todo, y_heard) (nI b) (nI s) := fun post h => nm_r eY h
  rcases key m (32 * b) rfl (Nat.le_refl _) with ⟨a, c⟩ | ⟨a, c⟩
  · exact Or.inl ⟨fun post hp => endX post ⟨m + 1, a _ post (by omega) hp⟩, fun post hp => endY post ⟨m + 1, c _ post (by omega) hp⟩⟩
  · exact Or.inr ⟨fun post hp => endX post ⟨m + 1, a _ post (by omega) hp⟩, fun post hp => endY post ⟨m + 1, c _ post (by omega) hp⟩⟩
/-- a class that can have objects -/
theorem xw_made (h4 : 4 ≤ cc) (h10 : cc ≤ 10) (p : Int32) :
    ((∀ post : Int32 → Prop, post 0 → wpX_canHaveObjects post (nI cc, x_bodyCount, x_draftCount, x_wrongPlace, x_madeCount, x_frameCount, x_current, x_next, x_inHand, x_mode, x_outcome, x_stepCount, x_atWork, x_mostAtWork, x_saidCount, x_pendingCount, x_classParent, x_classFields, x_bound, x_tokenKind, x_tokenValue, x_globals, x_thingShown, x_thingClass, x_thingFields, x_thingToken, x_thingMaker, x_variables, x_homeOf, x_within, x_foundIn, x_baseFrame, x_frameToken, x_frameStage, x_frameLink, x_operands, x_saidValues, x_marked, x_pending) p) ∧ (∀ post : Int32 → Prop, post 0 → wpY_isMade post (nI cc, y_bodies, y_fault, y_made, y_working, y_peak, y_steps, y_depth, y_waiting, y_code, y_running, y_has, y_got, y_todos, y_marks, y_shown, y_spoken, y_parent, y_fields, y_bound, y_kind, y_word, y_size, y_sort, y_number, y_stands, y_keeps, y_cells, y_globals, y_within, y_foundIn, y_self, y_args, y_temps, y_param, y_live, y_work, y_under, y_at, y_in, y_phase, y_base, y_goal, y_operands, y_marked, y_todo, y_heard) p)) ∨
    (∃ c, c < cc ∧ p = nI c ∧ (c = 0 ∨ 4 ≤ c) ∧ (∀ post : Int32 → Prop, post 1 → wpX_canHaveObjects post (nI cc, x_bodyCount, x_draftCount, x_wrongPlace, x_madeCount, x_frameCount, x_current, x_next, x_inHand, x_mode, x_outcome, x_stepCount, x_atWork, x_mostAtWork, x_saidCount, x_pendingCount, x_classParent, x_classFields, x_bound, x_tokenKind, x_tokenValue, x_globals, x_thingShown, x_thingClass, x_thingFields, x_thingToken, x_thingMaker, x_variables, x_homeOf, x_within, x_foundIn, x_baseFrame, x_frameToken, x_frameStage, x_frameLink, x_operands, x_saidValues, x_marked, x_pending) p) ∧ (∀ post : Int32 → Prop, post 1 → wpY_isMade post (nI cc, y_bodies, y_fault, y_made, y_working, y_peak, y_steps, y_depth, y_waiting, y_code, y_running, y_has, y_got, y_todos, y_marks, y_shown, y_spoken, y_parent, y_fields, y_bound, y_kind, y_word, y_size, y_sort, y_number, y_stands, y_keeps, y_cells, y_globals, y_within, y_foundIn, y_self, y_args, y_temps, y_param, y_live, y_work, y_under, y_at, y_in, y_phase, y_base, y_goal, y_operands, y_marked, y_todo, y_heard) p)) := by
  rcases pk_ix p (n := cc) (by omega) with h | h | ⟨c, hc, rfl⟩
  · refine Or.inl ⟨fun post hp => br_f (fun z => by rw [z] at h; exact absurd h (by decide)) (br_t (Int32.lt_trans h (by decide)) hp), fun post hp => br_t h (br_t rfl hp)⟩
  · have h5 : nI 4 ≤ p := Int32.le_trans (nI_le h4 (by omega)) h
    have h0 : ¬ p < 0 := Int32.not_lt.mpr (Int32.le_trans (by decide) h5)
    refine Or.inl ⟨fun post hp => br_f (fun z => by rw [z] at h5; exact absurd h5 (by decide)) (br_f (Int32.not_lt.mpr h5) (br_t h hp)), fun post hp => br_f h0 (br_t h (br_t rfl hp))⟩
  · have h0 : ¬ nI c < 0 := nI_pos (by omega)
    have h1 : ¬ nI cc ≤ nI c := nI_ge hc (by omega)
    by_cases z : c = 0
    · subst z
      exact Or.inr ⟨0, hc, rfl, Or.inl rfl, fun post hp => br_t rfl hp, fun post hp => br_f h0 (br_f h1 (br_f (by decide) (br_t rfl hp)))⟩
    · have z0 : ¬ nI c = 0 := nI_ne0 (by omega) (by omega)
      by_cases z4 : 4 ≤ c
      · exact Or.inr ⟨c, hc, rfl, Or.inr z4, fun post hp => br_f z0 (br_f (nI_nlt (b := 4) z4 (by omega)) (br_f h1 hp)), fun post hp => br_f h0 (br_f h1 (br_f (by decide) (br_f z0 (br_f (nI_ge (a := 3) (by omega) (by omega)) hp))))⟩
      · exact Or.inl ⟨fun post hp => br_f z0 (br_t (nI_lt (b := 4) (by omega) (by decide)) hp), fun post hp => br_f h0 (br_f h1 (br_f (by decide) (br_f z0 (br_t (nI_le (b := 3) (by omega) (by decide)) hp))))⟩
theorem rl_Tsz {cc' : Nat} {KX' WX' K' W' sz' : Nat → Int32} (TT : rl_T cc bc x_tokenKind x_tokenValue y_kind y_word y_size T lv) (hc : cc ≤ cc') (h : ∀ p, p < 384 → p < 32 * bc → KX' p = x_tokenKind p ∧ WX' p = x_tokenValue p ∧ K' p = y_kind p ∧ W' p = y_word p) (hz : ∀ b, b < bc → sz' b = y_size b) : rl_T cc' bc KX' WX' K' W' sz' T lv := by
  obtain ⟨b12, t1, t2, t3, t4, t5⟩ := TT
  have hp : ∀ p, T p → KX' p = x_tokenKind p ∧ WX' p = x_tokenValue p ∧ K' p = y_kind p ∧ W' p = y_word p := fun p tp => h p (by have := (t1 p tp).1; omega) (t1 p tp).1
  have nd : ∀ p, T p → tk_nd K' W' p = tk_nd y_kind y_word p := fun p tp => by
    unfold tk_nd
    rw [(hp p tp).2.2.1, (hp p tp).2.2.2]
  have ee : ∀ p, T p → ex_e (tk_nd K' W') p = ex_e (tk_nd y_kind y_word) p := fun p tp => by
    obtain ⟨m, m1, m2, m3⟩ := t2 p tp
    exact ex_eloc m1 fun q h1 h2 => (nd q (m3 q h1 h2)).symm
  have es : ∀ p m, T p → ex_s (tk_nd y_kind y_word) m 1 p → ex_s (tk_nd K' W') m 1 p := fun p m tp hm => by
    obtain ⟨m', m1, m2, m3⟩ := t2 p tp
    obtain rfl : m' = m := ex_u m1 hm
    exact ex_cong (fun i hi => (nd (p + i) (m3 _ (by omega) (by omega))).symm) hm
  refine ⟨b12, fun p tp => ?_, fun p tp => ?_, fun b hb => ?_, fun p tp e => ?_, fun p j tp e hj => ?_⟩
  · obtain ⟨a1, a2, a3, a4⟩ := hp p tp
    obtain ⟨c1, c2, c3, c4, c5, c6, c7, c8⟩ := t1 p tp
    rw [a1, a2, a3, a4]
    exact ⟨c1, c2, c3, c4, c5, c6, fun z => by obtain ⟨c, d1, d2, d3⟩ := c7 z; exact ⟨c, by omega, d2, d3⟩, fun z => ⟨by have := (c8 z).1; omega, (c8 z).2⟩⟩
  · obtain ⟨m, m1, m2, m3⟩ := t2 p tp
    exact ⟨m, es p m tp m1, m2, m3⟩
  · obtain ⟨a1, a2, n, n1, n2, n3⟩ := t3 b hb
    exact ⟨a1, a2, n, n1, by rw [hz b hb]; exact n2, es _ _ a1 n3⟩
  · rw [(hp p tp).2.2.1] at e
    exact t4 p tp e
  · rw [(hp p tp).2.2.1] at e
    rw [nd p tp] at hj
    have key : ∀ i, i ≤ j → ex_pt (tk_nd K' W') p i = ex_pt (tk_nd y_kind y_word) p i := by
      intro i
      induction i with
      | zero => intro _; rfl
      | succ i ih =>
        intro hi
        show ex_e _ _ = ex_e _ _
        rw [ih (by omega)]
        obtain ⟨m, m1, m2, m3⟩ := t2 p tp
        obtain ⟨q1, q2, _⟩ := ex_part m1 (show i < tk_nd y_kind y_word p by omega)
        exact ee _ (m3 _ (by omega) q2)
    rw [key j (Nat.le_refl _)]
    exact t5 p j tp e hj
theorem hp_TK {T' : Nat → Prop} {lv' : Nat → Nat} {K' : Nat → Int32} (H : hp_R cc mc T y_kind lv ST SA τ σ lev ho x_thingShown x_thingClass x_thingFields x_thingToken x_thingMaker x_variables x_homeOf x_within x_foundIn y_sort y_number y_stands y_keeps y_cells y_within y_foundIn y_self y_args y_temps y_param) (h : ∀ p, T p → T' p ∧ lv' p = lv p ∧ K' p = y_kind p) : hp_R cc mc T' K' lv' ST SA τ σ lev ho x_thingShown x_thingClass x_thingFields x_thingToken x_thingMaker x_variables x_homeOf x_within x_foundIn y_sort y_number y_stands y_keeps y_cells y_within y_foundIn y_self y_args y_temps y_param := by
  refine ⟨fun k hk => ?_, H.2⟩
  obtain ⟨k1, k2, k3, k4, k5, k6, k7, k8⟩ := H.1 k hk
  refine ⟨k1, k2, k3, k4, k5, k6, fun s => ?_, k8⟩
  obtain ⟨p, a, p1, p2, p3, p4, p5, p6, p7, p8, p9⟩ := k7 s
  obtain ⟨q1, q2, q3⟩ := h p p1
  exact ⟨p, a, q1, by rw [q3]; exact p2, p3, p4, p5, p6, p7, by rw [q2]; exact p8, p9⟩
theorem hp_cc {cc' mc' : Nat} (H : hp_R cc mc T y_kind lv ST SA τ σ lev ho x_thingShown x_thingClass x_thingFields x_thingToken x_thingMaker x_variables x_homeOf x_within x_foundIn y_sort y_number y_stands y_keeps y_cells y_within y_foundIn y_self y_args y_temps y_param) (hc : cc ≤ cc') (hm : mc ≤ mc') : hp_R cc' mc' T y_kind lv ST SA τ σ lev ho x_thingShown x_thingClass x_thingFields x_thingToken x_thingMaker x_variables x_homeOf x_within x_foundIn y_sort y_number y_stands y_keeps y_cells y_within y_foundIn y_self y_args y_temps y_param := by
  refine ⟨fun k hk => ?_, fun a ha => ?_, H.2.2⟩
  · obtain ⟨k1, k2, ⟨c, c1, c2⟩, ⟨n, n1, n2⟩, k5⟩ := H.1 k hk
    exact ⟨k1, k2, ⟨c, by omega, c2⟩, ⟨n, by omega, n2⟩, k5⟩
  · obtain ⟨k1, k2, k3, k4, k5, k6, k7⟩ := H.2.1 a ha
    refine ⟨k1, k2, k3, k4, k5, k6, ?_⟩
    rcases k7 with ⟨a1, a2, a3, a4, ⟨c, c1, c2⟩, a5⟩ | z
    · exact Or.inl ⟨a1, a2, a3, a4, ⟨c, by omega, c2⟩, a5⟩
    · exact Or.inr z
end
theorem i_vc_wipe {k : Nat} {u : SX} {v : SY} (I : i_Rel k u v) (hk : k + 5 ≤ 2560) : wpX_wipe (fun r u' => wpY_wipe (fun r' v' => r' = r ∧ i_Rel (k + 5) u' v') v) u := by
  obtain ⟨x_classCount, x_bodyCount, x_draftCount, x_wrongPlace, x_madeCount, x_frameCount, x_current, x_next, x_inHand, x_mode, x_outcome, x_stepCount, x_atWork, x_mostAtWork, x_saidCount, x_pendingCount, x_classParent, x_classFields, x_bound, x_tokenKind, x_tokenValue, x_globals, x_thingShown, x_thingClass, x_thingFields, x_thingToken, x_thingMaker, x_variables, x_homeOf, x_within, x_foundIn, x_baseFrame, x_frameToken, x_frameStage, x_frameLink, x_operands, x_saidValues, x_marked, x_pending⟩ := u
  obtain ⟨y_classes, y_bodies, y_fault, y_made, y_working, y_peak, y_steps, y_depth, y_waiting, y_code, y_running, y_has, y_got, y_todos, y_marks, y_shown, y_spoken, y_parent, y_fields, y_bound, y_kind, y_word, y_size, y_sort, y_number, y_stands, y_keeps, y_cells, y_globals, y_within, y_foundIn, y_self, y_args, y_temps, y_param, y_live, y_work, y_under, y_at, y_in, y_phase, y_base, y_goal, y_operands, y_marked, y_todo, y_heard⟩ := v
  obtain ⟨cc, bc, dc, mc, T, ST, SA, lv, τ, σ, lev, ho, ⟨a1, a2, a3, a4, rfl, a6⟩, h2, h3, ⟨C, B, TT, D⟩, h5, g⟩ := I
  refine nm_r D.2.1 (nm_e ⟨rfl, cc, bc, 0, mc, T, ST, SA, lv, τ, σ, lev, ho, ⟨a1, a2, a3, a4, rfl, a6⟩, h2, h3, ⟨C, B, ?_, ?_⟩, by omega, g⟩)
  · exact rl_Tsz TT (Nat.le_refl _) (fun p _ _ => ⟨rfl, rfl, rfl, rfl⟩) (fun b hb => pk_un (by have := TT.1; omega))
  · exact ⟨by omega, pk_us, fun i hi => by omega⟩
theorem i_vc_global {k : Nat} {u : SX} {v : SY} (I : i_Rel k u v) (hk : k + 5 ≤ 2560) (v1 : Int32) (v2 : Int32) : wpX_global (fun r u' => wpY_global (fun r' v' => r' = r ∧ i_Rel (k + 5) u' v') v v1 v2) u v1 v2 := by
  have J := i_up I
  obtain ⟨x_classCount, x_bodyCount, x_draftCount, x_wrongPlace, x_madeCount, x_frameCount, x_current, x_next, x_inHand, x_mode, x_outcome, x_stepCount, x_atWork, x_mostAtWork, x_saidCount, x_pendingCount, x_classParent, x_classFields, x_bound, x_tokenKind, x_tokenValue, x_globals, x_thingShown, x_thingClass, x_thingFields, x_thingToken, x_thingMaker, x_variables, x_homeOf, x_within, x_foundIn, x_baseFrame, x_frameToken, x_frameStage, x_frameLink, x_operands, x_saidValues, x_marked, x_pending⟩ := u
  obtain ⟨y_classes, y_bodies, y_fault, y_made, y_working, y_peak, y_steps, y_depth, y_waiting, y_code, y_running, y_has, y_got, y_todos, y_marks, y_shown, y_spoken, y_parent, y_fields, y_bound, y_kind, y_word, y_size, y_sort, y_number, y_stands, y_keeps, y_cells, y_globals, y_within, y_foundIn, y_self, y_args, y_temps, y_param, y_live, y_work, y_under, y_at, y_in, y_phase, y_base, y_goal, y_operands, y_marked, y_todo, y_heard⟩ := v
  obtain ⟨cc, bc, dc, mc, T, ST, SA, lv, τ, σ, lev, ho, h1, h2, h3, h4, h5, g, h6⟩ := I
  rcases pk_ix v1 (n := 4) (by decide) with h | h | ⟨j, hj, rfl⟩
  · exact br_t h (br_t rfl (br_t h (br_t rfl ⟨rfl, J⟩)))
  · have h0 : ¬ v1 < 0 := Int32.not_lt.mpr (Int32.le_trans (by decide) h)
    exact br_f h0 (br_t h (br_t rfl (br_f h0 (br_t h (br_t rfl ⟨rfl, J⟩)))))
  · have h0 : ¬ nI j < 0 := nI_pos (by omega)
    have h7 : ¬ (4 : Int32) ≤ nI j := nI_ge (b := 4) hj (by decide)
    have jc : (nI j).toNatClampNeg = j := nI_clamp (by omega)
    refine br_f h0 (br_f h7 (br_f (by decide) ⟨vp_in_nI hj (by decide), nm_e ?_⟩))
    refine br_f h0 (br_f h7 (br_f (by decide) ⟨vp_in_nI hj (by decide), nm_e ⟨rfl, cc, bc, dc, mc, T, ST, SA, lv, τ, σ, lev, ho, h1, h2, h3, h4, by omega, fun i hi => ?_, h6⟩⟩))
    rw [jc]
    by_cases z : i = j
    · subst z
      rw [pk_uLs, pk_uLs, vv_w]
      exact ⟨.inl v2, fun k e => (by cases e), rfl, rfl⟩
    · rw [pk_uLn z, pk_uLn z]
      exact g i hi
end
section
/-! cls, token, bind, reachable -/
theorem tk_shr8 {w : Nat} (h : w < 2 ^ 31) : nI w >>> ((8 : Int32) &&& 31) = nI (w / 256) := pk_shrN h _ 8 (by decide)
theorem tk_shr4 {w : Nat} (h : w < 2 ^ 31) : nI w >>> ((4 : Int32) &&& 31) = nI (w / 16) := pk_shrN h _ 4 (by decide)
theorem tk_and15 {w : Nat} (h : w < 2 ^ 31) : nI w &&& 15 = nI (w % 16) := pk_andN (by omega) 4 (by decide)
theorem tk_d256 {w : Nat} (h : w < 2 ^ 31) : nI w / 256 = nI (w / 256) := pk_div (d := 256) h (by decide) (by decide)
theorem tk_d16 {w : Nat} (h : w < 2 ^ 31) : nI w / 16 = nI (w / 16) := pk_div (d := 16) h (by decide) (by decide)
theorem tk_r16 {w : Nat} (h : w < 2 ^ 31) : nI w - nI w / 16 * 16 = nI (w % 16) := pk_rem (d := 16) h (by decide) (by decide)
/-- a bound L: below 0, from L on, or between -/
theorem tk_bd {A0 A1 : Prop} {w : Int32} (L : Nat) (hL : L < 2 ^ 31) (hn : ∀ w : Int32, (w < 0 ∨ nI L ≤ w) → A0) (hy : ∀ wn, wn < L → w = nI wn → A1) : A0 ∨ A1 := by
  rcases pk_ix w (n := L) hL with h | h | ⟨j, hj, e⟩
  · exact Or.inl (hn w (Or.inl h))
  · exact Or.inl (hn w (Or.inr h))
  · exact Or.inr (hy j hj e)
section
variable {x_classCount x_bodyCount x_draftCount x_wrongPlace x_madeCount x_frameCount x_current x_next x_mode x_outcome x_stepCount x_atWork x_mostAtWork x_saidCount x_pendingCount : Int32} {x_inHand : Int64} {x_classParent x_classFields x_bound x_tokenKind x_tokenValue x_thingClass x_thingToken x_thingMaker x_homeOf x_within x_foundIn x_baseFrame x_frameToken x_frameStage x_frameLink x_marked x_pending : Nat → Int32} {x_globals x_thingShown x_thingFields x_variables x_operands x_saidValues : Nat → Int64}
variable {y_classes y_bodies y_fault y_made y_working y_peak y_steps y_depth y_waiting y_code y_running y_has y_todos y_marks y_spoken : Int32} {y_got y_shown : Int64} {y_parent y_fields y_bound y_kind y_word y_size y_sort y_number y_stands y_keeps y_within y_foundIn y_live y_work y_under y_at y_in y_phase y_base y_goal y_marked y_todo : Nat → Int32} {y_cells y_globals y_self y_args y_temps y_param y_operands y_heard : Nat → Int64}
variable {cc bc dc mc k : Nat} {T ST SA : Nat → Prop} {lv τ σ lev ho : Nat → Nat}
theorem tk_wlim {kn : Nat} (h : (3 ≤ kn ∧ kn < 14) ∨ kn = 25) (w : Int32)
    (hX : ∀ post : Int32 → Prop, ((w < 0 → post 0) ∧ (¬ w < 0 → ((nI (tk_lim kn) ≤ w → post 0) ∧ (¬ nI (tk_lim kn) ≤ w → post 1)))) → wpX_valueFits post (x_classCount, x_bodyCount, x_draftCount, x_wrongPlace, x_madeCount, x_frameCount, x_current, x_next, x_inHand, x_mode, x_outcome, x_stepCount, x_atWork, x_mostAtWork, x_saidCount, x_pendingCount, x_classParent, x_classFields, x_bound, x_tokenKind, x_tokenValue, x_globals, x_thingShown, x_thingClass, x_thingFields, x_thingToken, x_thingMaker, x_variables, x_homeOf, x_within, x_foundIn, x_baseFrame, x_frameToken, x_frameStage, x_frameLink, x_operands, x_saidValues, x_marked, x_pending) (nI kn) w)
    (hY : ∀ post : Int32 → Prop, ((w < 0 → post 0) ∧ (¬ w < 0 → ((nI (tk_lim kn) ≤ w → post 0) ∧ (¬ nI (tk_lim kn) ≤ w → post 1)))) → wpY_isWord post (nI kn) w) :
    ((∀ post : Int32 → Prop, post 0 → wpX_valueFits post (x_classCount, x_bodyCount, x_draftCount, x_wrongPlace, x_madeCount, x_frameCount, x_current, x_next, x_inHand, x_mode, x_outcome, x_stepCount, x_atWork, x_mostAtWork, x_saidCount, x_pendingCount, x_classParent, x_classFields, x_bound, x_tokenKind, x_tokenValue, x_globals, x_thingShown, x_thingClass, x_thingFields, x_thingToken, x_thingMaker, x_variables, x_homeOf, x_within, x_foundIn, x_baseFrame, x_frameToken, x_frameStage, x_frameLink, x_operands, x_saidValues, x_marked, x_pending) (nI kn) w) ∧ (∀ post : Int32 → Prop, post 0 → wpY_isWord post (nI kn) w)) ∨
    (tk_ok (nI kn) w ∧ (∀ post : Int32 → Prop, post 1 → wpX_valueFits post (x_classCount, x_bodyCount, x_draftCount, x_wrongPlace, x_madeCount, x_frameCount, x_current, x_next, x_inHand, x_mode, x_outcome, x_stepCount, x_atWork, x_mostAtWork, x_saidCount, x_pendingCount, x_classParent, x_classFields, x_bound, x_tokenKind, x_tokenValue, x_globals, x_thingShown, x_thingClass, x_thingFields, x_thingToken, x_thingMaker, x_variables, x_homeOf, x_within, x_foundIn, x_baseFrame, x_frameToken, x_frameStage, x_frameLink, x_operands, x_saidValues, x_marked, x_pending) (nI kn) w) ∧ (∀ post : Int32 → Prop, post 1 → wpY_isWord post (nI kn) w)) := by
  have hl : tk_lim kn < 2 ^ 31 := by unfold tk_lim; split <;> (try split) <;> (try split) <;> (try split) <;> decide
  rcases pk_ix w (n := tk_lim kn) hl with h0 | h0 | ⟨j, hj, rfl⟩
  · exact Or.inl ⟨fun post hp => hX post (br_t h0 hp), fun post hp => hY post (br_t h0 hp)⟩
  · have h1 : ¬ w < 0 := Int32.not_lt.mpr (Int32.le_trans (nI_pos' hl) h0)
    exact Or.inl ⟨fun post hp => hX post (br_f h1 (br_t h0 hp)), fun post hp => hY post (br_f h1 (br_t h0 hp))⟩
  · have h1 : ¬ nI j < 0 := nI_pos (by omega)
    have h2 : ¬ nI (tk_lim kn) ≤ nI j := nI_ge hj hl
    exact Or.inr ⟨⟨kn, by omega, rfl, fun _ => ⟨j, hj, rfl⟩, fun z => by omega⟩, fun post hp => hX post (br_f h1 (br_f h2 hp)), fun post hp => hY post (br_f h1 (br_f h2 hp))⟩
theorem tk_wfree {kn : Nat} (h : kn < 30) (h2 : ¬ ((3 ≤ kn ∧ kn < 14) ∨ kn = 25)) (h3 : kn ≠ 28) (w : Int32)
    (hX : ∀ post : Int32 → Prop, post 1 → wpX_valueFits post (x_classCount, x_bodyCount, x_draftCount, x_wrongPlace, x_madeCount, x_frameCount, x_current, x_next, x_inHand, x_mode, x_outcome, x_stepCount, x_atWork, x_mostAtWork, x_saidCount, x_pendingCount, x_classParent, x_classFields, x_bound, x_tokenKind, x_tokenValue, x_globals, x_thingShown, x_thingClass, x_thingFields, x_thingToken, x_thingMaker, x_variables, x_homeOf, x_within, x_foundIn, x_baseFrame, x_frameToken, x_frameStage, x_frameLink, x_operands, x_saidValues, x_marked, x_pending) (nI kn) w)
    (hY : ∀ post : Int32 → Prop, post 1 → wpY_isWord post (nI kn) w) :
    ((∀ post : Int32 → Prop, post 0 → wpX_valueFits post (x_classCount, x_bodyCount, x_draftCount, x_wrongPlace, x_madeCount, x_frameCount, x_current, x_next, x_inHand, x_mode, x_outcome, x_stepCount, x_atWork, x_mostAtWork, x_saidCount, x_pendingCount, x_classParent, x_classFields, x_bound, x_tokenKind, x_tokenValue, x_globals, x_thingShown, x_thingClass, x_thingFields, x_thingToken, x_thingMaker, x_variables, x_homeOf, x_within, x_foundIn, x_baseFrame, x_frameToken, x_frameStage, x_frameLink, x_operands, x_saidValues, x_marked, x_pending) (nI kn) w) ∧ (∀ post : Int32 → Prop, post 0 → wpY_isWord post (nI kn) w)) ∨
    (tk_ok (nI kn) w ∧ (∀ post : Int32 → Prop, post 1 → wpX_valueFits post (x_classCount, x_bodyCount, x_draftCount, x_wrongPlace, x_madeCount, x_frameCount, x_current, x_next, x_inHand, x_mode, x_outcome, x_stepCount, x_atWork, x_mostAtWork, x_saidCount, x_pendingCount, x_classParent, x_classFields, x_bound, x_tokenKind, x_tokenValue, x_globals, x_thingShown, x_thingClass, x_thingFields, x_thingToken, x_thingMaker, x_variables, x_homeOf, x_within, x_foundIn, x_baseFrame, x_frameToken, x_frameStage, x_frameLink, x_operands, x_saidValues, x_marked, x_pending) (nI kn) w) ∧ (∀ post : Int32 → Prop, post 1 → wpY_isWord post (nI kn) w)) :=
  Or.inr ⟨⟨kn, h, rfl, fun z => absurd z h2, fun z => absurd z h3⟩, hX, hY⟩
/-- the reference's walk through isWord for a kind that looks at its value -/
theorem yw_lim {post : Int32 → Prop} {w : Int32} {kn : Nat} (hk : (3 ≤ kn ∧ kn < 14) ∨ kn = 25) (h : (w < 0 → post 0) ∧ (¬ w < 0 → ((nI (tk_lim kn) ≤ w → post 0) ∧ (¬ nI (tk_lim kn) ≤ w → post 1)))) : wpY_isWord post (nI kn) w := by
  have l78 : wY_isWord_78 post (nI kn) w 1 := by
    have b1 : ∀ L : Int32, L = nI (tk_lim kn) → ((1 : Int32) = 0 → post 1) ∧ (¬ (1 : Int32) = 0 → wpY_isBelow (fun r_8 => (r_8 = 0 → post 0) ∧ (¬ r_8 = 0 → post 1)) w L) := fun L eL => by
      subst eL
      exact br_f (by decide) ⟨fun z => br_t rfl (h.1 z), fun z => ⟨fun y => br_t rfl ((h.2 z).1 y), fun y => br_f (by decide) ((h.2 z).2 y)⟩⟩
    unfold wY_isWord_78 wpY_limit
    rcases hk with ⟨a, b⟩ | rfl
    · rcases (show kn = 3 ∨ kn = 4 ∨ kn = 5 ∨ kn = 6 ∨ kn = 7 ∨ kn = 8 ∨ kn = 9 ∨ kn = 10 ∨ kn = 11 ∨ kn = 12 ∨ kn = 13 by omega) with rfl | rfl | rfl | rfl | rfl | rfl | rfl | rfl | rfl | rfl | rfl
      all_goals (repeat first | exact br_t rfl (b1 _ rfl) | exact b1 _ rfl | refine br_f (by decide) ?_)
    · repeat first | exact br_t rfl (b1 _ rfl) | refine br_f (by decide) ?_
  have h0 : ¬ nI kn < 0 := nI_pos (by omega)
  have h1 : ¬ (30 : Int32) ≤ nI kn := nI_ge (b := 30) (by omega) (by decide)
  have h2 : ¬ nI kn = 28 := fun z => by have := (nI_eq (b := 28) (by omega) (by decide)).mp z; omega
  have h3 : ¬ nI kn ≤ 2 := nI_ge (a := 2) (by omega) (by omega)
  unfold wpY_isWord
  refine br_f h0 (br_f h1 (br_f (by decide) (br_f h2 (br_f h3 ?_))))
  rcases hk with ⟨a, b⟩ | rfl
  · exact br_t (nI_lt (b := 14) b (by decide)) l78
  · exact br_f (by decide) (br_t rfl l78)
theorem yw_free {post : Int32 → Prop} {w : Int32} {kn : Nat} (hk : kn < 30) (hk2 : ¬ ((3 ≤ kn ∧ kn < 14) ∨ kn = 25)) (hk3 : kn ≠ 28) (h : post 1) : wpY_isWord post (nI kn) w := by
  have l78 : wY_isWord_78 post (nI kn) w 0 := by
    have b1 : ∀ L : Int32, ((0 : Int32) = 0 → post 1) ∧ (¬ (0 : Int32) = 0 → wpY_isBelow (fun r_8 => (r_8 = 0 → post 0) ∧ (¬ r_8 = 0 → post 1)) w L) := fun L => br_t rfl h
    unfold wY_isWord_78 wpY_limit
    exact br_c (fun _ => b1 _) (fun _ => br_c (fun _ => b1 _) (fun _ => br_c (fun _ => b1 _) (fun _ => br_c (fun _ => b1 _) (fun _ => br_c (fun _ => b1 _) (fun _ => br_c (fun _ => b1 _) (fun _ => br_c (fun _ => b1 _) (fun _ => br_c (fun _ => b1 _) (fun _ => b1 _))))))))
  have h0 : ¬ nI kn < 0 := nI_pos (by omega)
  have h1 : ¬ (30 : Int32) ≤ nI kn := nI_ge (b := 30) hk (by decide)
  have h2 : ¬ nI kn = 28 := fun z => by have := (nI_eq (b := 28) (by omega) (by decide)).mp z; omega
  have h25 : ¬ nI kn = 25 := fun z => by have := (nI_eq (b := 25) (by omega) (by decide)).mp z; omega
  unfold wpY_isWord
  refine br_f h0 (br_f h1 (br_f (by decide) (br_f h2 ?_)))
  rcases Nat.lt_or_ge kn 3 with q | q
  · exact br_t (nI_le (b := 2) (by omega) (by decide)) (br_f h25 l78)
  · exact br_f (nI_ge (a := 2) (by omega) (by omega)) (br_f (nI_nlt (b := 14) (by omega) (by omega)) (br_f h25 l78))
theorem tk_28 (w : Int32) :
    ((∀ post : Int32 → Prop, post 0 → wpX_valueFits post (x_classCount, x_bodyCount, x_draftCount, x_wrongPlace, x_madeCount, x_frameCount, x_current, x_next, x_inHand, x_mode, x_outcome, x_stepCount, x_atWork, x_mostAtWork, x_saidCount, x_pendingCount, x_classParent, x_classFields, x_bound, x_tokenKind, x_tokenValue, x_globals, x_thingShown, x_thingClass, x_thingFields, x_thingToken, x_thingMaker, x_variables, x_homeOf, x_within, x_foundIn, x_baseFrame, x_frameToken, x_frameStage, x_frameLink, x_operands, x_saidValues, x_marked, x_pending) (nI 28) w) ∧ (∀ post : Int32 → Prop, post 0 → wpY_isWord post (nI 28) w)) ∨
    (tk_ok (nI 28) w ∧ (∀ post : Int32 → Prop, post 1 → wpX_valueFits post (x_classCount, x_bodyCount, x_draftCount, x_wrongPlace, x_madeCount, x_frameCount, x_current, x_next, x_inHand, x_mode, x_outcome, x_stepCount, x_atWork, x_mostAtWork, x_saidCount, x_pendingCount, x_classParent, x_classFields, x_bound, x_tokenKind, x_tokenValue, x_globals, x_thingShown, x_thingClass, x_thingFields, x_thingToken, x_thingMaker, x_variables, x_homeOf, x_within, x_foundIn, x_baseFrame, x_frameToken, x_frameStage, x_frameLink, x_operands, x_saidValues, x_marked, x_pending) (nI 28) w) ∧ (∀ post : Int32 → Prop, post 1 → wpY_isWord post (nI 28) w)) := by
  have hX : ∀ post : Int32 → Prop, ((w < 0 → post 0) ∧ (¬ w < 0 → ((10 ≤ w / 256 → post 0) ∧ (¬ 10 ≤ w / 256 → ((12 ≤ ((w / 16) - (w / 16) / 16 * 16) → post 0) ∧ (¬ 12 ≤ ((w / 16) - (w / 16) / 16 * 16) → ((12 ≤ (w - w / 16 * 16) → post 0) ∧ (¬ 12 ≤ (w - w / 16 * 16) → post 1)))))))) → wpX_valueFits post (x_classCount, x_bodyCount, x_draftCount, x_wrongPlace, x_madeCount, x_frameCount, x_current, x_next, x_inHand, x_mode, x_outcome, x_stepCount, x_atWork, x_mostAtWork, x_saidCount, x_pendingCount, x_classParent, x_classFields, x_bound, x_tokenKind, x_tokenValue, x_globals, x_thingShown, x_thingClass, x_thingFields, x_thingToken, x_thingMaker, x_variables, x_homeOf, x_within, x_foundIn, x_baseFrame, x_frameToken, x_frameStage, x_frameLink, x_operands, x_saidValues, x_marked, x_pending) (nI 28) w := fun post h => by
    unfold wpX_valueFits
    refine br_f (by decide) (br_f (by decide) ?_)
    iterate 25 refine br_f (by decide) ?_
    refine br_t rfl ⟨h.1, fun z => ⟨by decide, (h.2 z).1, fun y => ⟨by decide, by decide, ((h.2 z).2 y).1, fun q => ⟨by decide, (((h.2 z).2 y).2 q)⟩⟩⟩⟩
  have hY : ∀ post : Int32 → Prop, ((w < 0 → post 0) ∧ (¬ w < 0 → ((10 ≤ (w >>> ((8 : Int32) &&& 31)) → post 0) ∧ (¬ 10 ≤ (w >>> ((8 : Int32) &&& 31)) → ((12 ≤ ((w >>> ((4 : Int32) &&& 31)) &&& 15) → post 0) ∧ (¬ 12 ≤ ((w >>> ((4 : Int32) &&& 31)) &&& 15) → ((12 ≤ (w &&& 15) → post 0) ∧ (¬ 12 ≤ (w &&& 15) → post 1)))))))) → wpY_isWord post (nI 28) w := fun post h => br_f (by decide) (br_f (by decide) (br_f (by decide) (br_t rfl h)))
  by_cases n : w < 0
  · exact Or.inl ⟨fun post hp => hX post (br_t n hp), fun post hp => hY post (br_t n hp)⟩
  · obtain ⟨j, hj, rfl⟩ := nI_of n
    have e1 := tk_shr8 hj
    have e2 : (nI j >>> ((4 : Int32) &&& 31)) &&& 15 = nI (j / 16 % 16) := by rw [tk_shr4 hj, tk_and15 (by omega)]
    have e3 := tk_and15 hj
    have f1 := tk_d256 hj
    have f2 : (nI j / 16) - (nI j / 16) / 16 * 16 = nI (j / 16 % 16) := by rw [tk_d16 hj, tk_r16 (by omega)]
    have f3 := tk_r16 hj
    rw [f1, f2, f3] at hX
    rw [e1, e2, e3] at hY
    rcases Nat.lt_or_ge (j / 256) 10 with a | a
    · have a' : ¬ (10 : Int32) ≤ nI (j / 256) := nI_ge (b := 10) a (by decide)
      rcases Nat.lt_or_ge (j / 16 % 16) 12 with b | b
      · have b' : ¬ (12 : Int32) ≤ nI (j / 16 % 16) := nI_ge (b := 12) b (by decide)
        rcases Nat.lt_or_ge (j % 16) 12 with c | c
        · have c' : ¬ (12 : Int32) ≤ nI (j % 16) := nI_ge (b := 12) c (by decide)
          exact Or.inr ⟨⟨28, by omega, rfl, fun z => by omega, fun _ => ⟨j, a, b, c, rfl⟩⟩, fun post hp => hX post (br_f n (br_f a' (br_f b' (br_f c' hp)))), fun post hp => hY post (br_f n (br_f a' (br_f b' (br_f c' hp))))⟩
        · have c' : (12 : Int32) ≤ nI (j % 16) := nI_le (a := 12) c (by omega)
          exact Or.inl ⟨fun post hp => hX post (br_f n (br_f a' (br_f b' (br_t c' hp)))), fun post hp => hY post (br_f n (br_f a' (br_f b' (br_t c' hp))))⟩
      · have b' : (12 : Int32) ≤ nI (j / 16 % 16) := nI_le (a := 12) b (by omega)
        exact Or.inl ⟨fun post hp => hX post (br_f n (br_f a' (br_t b' hp))), fun post hp => hY post (br_f n (br_f a' (br_t b' hp)))⟩
    · have a' : (10 : Int32) ≤ nI (j / 256) := nI_le (a := 10) a (by omega)
      exact Or.inl ⟨fun post hp => hX post (br_f n (br_t a' hp)), fun post hp => hY post (br_f n (br_t a' hp))⟩
theorem tk_word : ∀ (kn : Nat), kn < 30 → ∀ w : Int32,
    ((∀ post : Int32 → Prop, post 0 → wpX_valueFits post (x_classCount, x_bodyCount, x_draftCount, x_wrongPlace, x_madeCount, x_frameCount, x_current, x_next, x_inHand, x_mode, x_outcome, x_stepCount, x_atWork, x_mostAtWork, x_saidCount, x_pendingCount, x_classParent, x_classFields, x_bound, x_tokenKind, x_tokenValue, x_globals, x_thingShown, x_thingClass, x_thingFields, x_thingToken, x_thingMaker, x_variables, x_homeOf, x_within, x_foundIn, x_baseFrame, x_frameToken, x_frameStage, x_frameLink, x_operands, x_saidValues, x_marked, x_pending) (nI kn) w) ∧ (∀ post : Int32 → Prop, post 0 → wpY_isWord post (nI kn) w)) ∨
    (tk_ok (nI kn) w ∧ (∀ post : Int32 → Prop, post 1 → wpX_valueFits post (x_classCount, x_bodyCount, x_draftCount, x_wrongPlace, x_madeCount, x_frameCount, x_current, x_next, x_inHand, x_mode, x_outcome, x_stepCount, x_atWork, x_mostAtWork, x_saidCount, x_pendingCount, x_classParent, x_classFields, x_bound, x_tokenKind, x_tokenValue, x_globals, x_thingShown, x_thingClass, x_thingFields, x_thingToken, x_thingMaker, x_variables, x_homeOf, x_within, x_foundIn, x_baseFrame, x_frameToken, x_frameStage, x_frameLink, x_operands, x_saidValues, x_marked, x_pending) (nI kn) w) ∧ (∀ post : Int32 → Prop, post 1 → wpY_isWord post (nI kn) w)) := by
  have fr : ∀ kn, kn < 30 → ¬ ((3 ≤ kn ∧ kn < 14) ∨ kn = 25) → kn ≠ 28 → ∀ w : Int32, (∀ post : Int32 → Prop, post 1 → wpX_valueFits post (x_classCount, x_bodyCount, x_draftCount, x_wrongPlace, x_madeCount, x_frameCount, x_current, x_next, x_inHand, x_mode, x_outcome, x_stepCount, x_atWork, x_mostAtWork, x_saidCount, x_pendingCount, x_classParent, x_classFields, x_bound, x_tokenKind, x_tokenValue, x_globals, x_thingShown, x_thingClass, x_thingFields, x_thingToken, x_thingMaker, x_variables, x_homeOf, x_within, x_foundIn, x_baseFrame, x_frameToken, x_frameStage, x_frameLink, x_operands, x_saidValues, x_marked, x_pending) (nI kn) w) → ((∀ post : Int32 → Prop, post 0 → wpX_valueFits post (x_classCount, x_bodyCount, x_draftCount, x_wrongPlace, x_madeCount, x_frameCount, x_current, x_next, x_inHand, x_mode, x_outcome, x_stepCount, x_atWork, x_mostAtWork, x_saidCount, x_pendingCount, x_classParent, x_classFields, x_bound, x_tokenKind, x_tokenValue, x_globals, x_thingShown, x_thingClass, x_thingFields, x_thingToken, x_thingMaker, x_variables, x_homeOf, x_within, x_foundIn, x_baseFrame, x_frameToken, x_frameStage, x_frameLink, x_operands, x_saidValues, x_marked, x_pending) (nI kn) w) ∧ (∀ post : Int32 → Prop, post 0 → wpY_isWord post (nI kn) w)) ∨
    (tk_ok (nI kn) w ∧ (∀ post : Int32 → Prop, post 1 → wpX_valueFits post (x_classCount, x_bodyCount, x_draftCount, x_wrongPlace, x_madeCount, x_frameCount, x_current, x_next, x_inHand, x_mode, x_outcome, x_stepCount, x_atWork, x_mostAtWork, x_saidCount, x_pendingCount, x_classParent, x_classFields, x_bound, x_tokenKind, x_tokenValue, x_globals, x_thingShown, x_thingClass, x_thingFields, x_thingToken, x_thingMaker, x_variables, x_homeOf, x_within, x_foundIn, x_baseFrame, x_frameToken, x_frameStage, x_frameLink, x_operands, x_saidValues, x_marked, x_pending) (nI kn) w) ∧ (∀ post : Int32 → Prop, post 1 → wpY_isWord post (nI kn) w)) := fun kn a b c w hX => tk_wfree a b c w hX (fun post hp => yw_free a b c hp)
  have li : ∀ kn, ((3 ≤ kn ∧ kn < 14) ∨ kn = 25) → ∀ w : Int32, (∀ post : Int32 → Prop, ((w < 0 → post 0) ∧ (¬ w < 0 → ((nI (tk_lim kn) ≤ w → post 0) ∧ (¬ nI (tk_lim kn) ≤ w → post 1)))) → wpX_valueFits post (x_classCount, x_bodyCount, x_draftCount, x_wrongPlace, x_madeCount, x_frameCount, x_current, x_next, x_inHand, x_mode, x_outcome, x_stepCount, x_atWork, x_mostAtWork, x_saidCount, x_pendingCount, x_classParent, x_classFields, x_bound, x_tokenKind, x_tokenValue, x_globals, x_thingShown, x_thingClass, x_thingFields, x_thingToken, x_thingMaker, x_variables, x_homeOf, x_within, x_foundIn, x_baseFrame, x_frameToken, x_frameStage, x_frameLink, x_operands, x_saidValues, x_marked, x_pending) (nI kn) w) → ((∀ post : Int32 → Prop, post 0 → wpX_valueFits post (x_classCount, x_bodyCount, x_draftCount, x_wrongPlace, x_madeCount, x_frameCount, x_current, x_next, x_inHand, x_mode, x_outcome, x_stepCount, x_atWork, x_mostAtWork, x_saidCount, x_pendingCount, x_classParent, x_classFields, x_bound, x_tokenKind, x_tokenValue, x_globals, x_thingShown, x_thingClass, x_thingFields, x_thingToken, x_thingMaker, x_variables, x_homeOf, x_within, x_foundIn, x_baseFrame, x_frameToken, x_frameStage, x_frameLink, x_operands, x_saidValues, x_marked, x_pending) (nI kn) w) ∧ (∀ post : Int32 → Prop, post 0 → wpY_isWord post (nI kn) w)) ∨
    (tk_ok (nI kn) w ∧ (∀ post : Int32 → Prop, post 1 → wpX_valueFits post (x_classCount, x_bodyCount, x_draftCount, x_wrongPlace, x_madeCount, x_frameCount, x_current, x_next, x_inHand, x_mode, x_outcome, x_stepCount, x_atWork, x_mostAtWork, x_saidCount, x_pendingCount, x_classParent, x_classFields, x_bound, x_tokenKind, x_tokenValue, x_globals, x_thingShown, x_thingClass, x_thingFields, x_thingToken, x_thingMaker, x_variables, x_homeOf, x_within, x_foundIn, x_baseFrame, x_frameToken, x_frameStage, x_frameLink, x_operands, x_saidValues, x_marked, x_pending) (nI kn) w) ∧ (∀ post : Int32 → Prop, post 1 → wpY_isWord post (nI kn) w)) := fun kn a w hX => tk_wlim a w hX (fun post hp => yw_lim a hp)
  refine tk_cases ?_ ?_ ?_ ?_ ?_ ?_ ?_ ?_ ?_ ?_ ?_ ?_ ?_ ?_ ?_ ?_ ?_ ?_ ?_ ?_ ?_ ?_ ?_ ?_ ?_ ?_ ?_ ?_ ?_ ?_
  case refine_29 => exact tk_28
  all_goals intro w
  all_goals first
    | (refine fr _ (by decide) (by decide) (by decide) w (fun post hp => ?_)
       unfold wpX_valueFits
       first
         | exact br_t (by decide) hp
         | (refine br_f (by decide) ?_
            first
              | exact br_t (by decide) hp
              | (refine br_f (by decide) ?_
                 repeat first | exact br_t rfl hp | refine br_f (by decide) ?_)))
    | (refine li _ (by decide) w (fun post hp => ?_)
       unfold wpX_valueFits
       refine br_f (by decide) (br_f (by decide) ?_)
       repeat first | exact br_t rfl hp | refine br_f (by decide) ?_)
end
theorem i_vc_token {k : Nat} {u : SX} {v : SY} (I : i_Rel k u v) (hk : k + 5 ≤ 2560) (v1 : Int32) (v2 : Int32) : wpX_token (fun r u' => wpY_token (fun r' v' => r' = r ∧ i_Rel (k + 5) u' v') v v1 v2) u v1 v2 := by
  have J := i_up I
  obtain ⟨x_classCount, x_bodyCount, x_draftCount, x_wrongPlace, x_madeCount, x_frameCount, x_current, x_next, x_inHand, x_mode, x_outcome, x_stepCount, x_atWork, x_mostAtWork, x_saidCount, x_pendingCount, x_classParent, x_classFields, x_bound, x_tokenKind, x_tokenValue, x_globals, x_thingShown, x_thingClass, x_thingFields, x_thingToken, x_thingMaker, x_variables, x_homeOf, x_within, x_foundIn, x_baseFrame, x_frameToken, x_frameStage, x_frameLink, x_operands, x_saidValues, x_marked, x_pending⟩ := u
  obtain ⟨y_classes, y_bodies, y_fault, y_made, y_working, y_peak, y_steps, y_depth, y_waiting, y_code, y_running, y_has, y_got, y_todos, y_marks, y_shown, y_spoken, y_parent, y_fields, y_bound, y_kind, y_word, y_size, y_sort, y_number, y_stands, y_keeps, y_cells, y_globals, y_within, y_foundIn, y_self, y_args, y_temps, y_param, y_live, y_work, y_under, y_at, y_in, y_phase, y_base, y_goal, y_operands, y_marked, y_todo, y_heard⟩ := v
  obtain ⟨cc, bc, dc, mc, T, ST, SA, lv, τ, σ, lev, ho, ⟨a1, a2, rfl, rfl, rfl, a6⟩, h2, h3, ⟨C, B, TT, D⟩, h5, g, ⟨H, hU⟩, bf⟩ := I
  rcases pk_ix v1 (n := 30) (by decide) with h | h | ⟨kn, hkn, rfl⟩
  · exact br_t h (br_t h (br_t rfl (br_t rfl ⟨rfl, J⟩)))
  · have h0 : ¬ v1 < 0 := Int32.not_lt.mpr (Int32.le_trans (by decide) h)
    exact br_f h0 (br_t h (br_f h0 (br_t h (br_t rfl (br_t rfl ⟨rfl, J⟩)))))
  · have h0 : ¬ nI kn < 0 := nI_pos (by omega)
    have h1 : ¬ (30 : Int32) ≤ nI kn := nI_ge (b := 30) hkn (by decide)
    refine br_f h0 (br_f h1 ?_)
    rcases tk_word kn hkn v2 with ⟨wX, wY⟩ | ⟨ok, wX, wY⟩
    · refine wX _ (br_t rfl ?_)
      unfold wpY_token
      exact wY _ (br_t rfl ⟨rfl, J⟩)
    · obtain ⟨d1, d2, d3⟩ := D
      have b12 := TT.1
      have goY : ∀ post : Int32 → SY → Prop, _ → wpY_token post (y_classes, nI bc, y_fault, y_made, y_working, y_peak, y_steps, y_depth, y_waiting, y_code, y_running, y_has, y_got, y_todos, y_marks, y_shown, y_spoken, y_parent, y_fields, y_bound, y_kind, y_word, y_size, y_sort, y_number, y_stands, y_keeps, y_cells, y_globals, y_within, y_foundIn, y_self, y_args, y_temps, y_param, y_live, y_work, y_under, y_at, y_in, y_phase, y_base, y_goal, y_operands, y_marked, y_todo, y_heard) (nI kn) v2 := fun post h => by
        unfold wpY_token
        exact wY _ (br_f (by decide) h)
      refine wX _ (br_f (by decide) ?_)
      by_cases z : dc = 32
      · subst z
        exact br_t rfl (goY _ (br_t d2 ⟨rfl, J⟩))
      · have z1 : ¬ nI dc = 32 := fun q => z ((nI_eq (b := 32) (by omega) (by decide)).mp q)
        have eX : nI bc * (32 : Int32) + nI dc = nI (32 * bc + dc) := by rw [Nat.mul_comm]; exact ix_r 32 bc dc
        have eY : (384 : Int32) + y_size 12 = nI (384 + dc) := by rw [d2]; exact nI_add 384 dc
        have cX : (nI (32 * bc + dc)).toNatClampNeg = 32 * bc + dc := nI_clamp (by omega)
        have cY : (nI (384 + dc)).toNatClampNeg = 384 + dc := nI_clamp (by omega)
        have vX : vp_in (nI (32 * bc + dc)) 416 := vp_in_nI (by omega) (by decide)
        have vY : vp_in (nI (384 + dc)) 416 := vp_in_nI (by omega) (by decide)
        refine br_f z1 (nm_r eX ⟨vX, ?_⟩)
        rw [cX]
        refine nm_e ⟨vX, nm_e (nm_r (nI_1 dc) (goY _ (br_f (by rw [d2]; exact z1) ?_)))⟩
        rw [eY, cY, d2, nI_1]
        refine ⟨vY, nm_e ⟨vY, nm_e (nm_e ⟨rfl, cc, bc, dc + 1, mc, T, ST, SA, lv, τ, σ, lev, ho, ⟨a1, a2, rfl, rfl, rfl, a6⟩, h2, h3, ⟨C, B, ?_, ?_⟩, by omega, g, ⟨?_, hU⟩, bf⟩)⟩⟩
        · exact rl_Tsz TT (Nat.le_refl _) (fun p p1 p2 => ⟨pk_un (by omega), pk_un (by omega), pk_un (by omega), pk_un (by omega)⟩) (fun b hb => pk_un (by omega))
        · refine ⟨by omega, pk_us, fun i hi => ?_⟩
          by_cases q : i = dc
          · subst q
            rw [pk_us, pk_us, pk_us, pk_us]
            exact ⟨rfl, rfl, ok⟩
          · rw [pk_un (show 32 * bc + i ≠ 32 * bc + dc by omega), pk_un (show 32 * bc + i ≠ 32 * bc + dc by omega), pk_un (show 384 + i ≠ 384 + dc by omega), pk_un (show 384 + i ≠ 384 + dc by omega)]
            exact d3 i (by omega)
        · exact hp_TK H fun p tp => ⟨tp, rfl, pk_un (by have := (TT.2.1 p tp).1; omega)⟩
theorem i_vc_cls {k : Nat} {u : SX} {v : SY} (I : i_Rel k u v) (hk : k + 5 ≤ 2560) (v1 : Int32) (v2 : Int32) : wpX_cls (fun r u' => wpY_cls (fun r' v' => r' = r ∧ i_Rel (k + 5) u' v') v v1 v2) u v1 v2 := by
  have J := i_up I
  obtain ⟨x_classCount, x_bodyCount, x_draftCount, x_wrongPlace, x_madeCount, x_frameCount, x_current, x_next, x_inHand, x_mode, x_outcome, x_stepCount, x_atWork, x_mostAtWork, x_saidCount, x_pendingCount, x_classParent, x_classFields, x_bound, x_tokenKind, x_tokenValue, x_globals, x_thingShown, x_thingClass, x_thingFields, x_thingToken, x_thingMaker, x_variables, x_homeOf, x_within, x_foundIn, x_baseFrame, x_frameToken, x_frameStage, x_frameLink, x_operands, x_saidValues, x_marked, x_pending⟩ := u
  obtain ⟨y_classes, y_bodies, y_fault, y_made, y_working, y_peak, y_steps, y_depth, y_waiting, y_code, y_running, y_has, y_got, y_todos, y_marks, y_shown, y_spoken, y_parent, y_fields, y_bound, y_kind, y_word, y_size, y_sort, y_number, y_stands, y_keeps, y_cells, y_globals, y_within, y_foundIn, y_self, y_args, y_temps, y_param, y_live, y_work, y_under, y_at, y_in, y_phase, y_base, y_goal, y_operands, y_marked, y_todo, y_heard⟩ := v
  obtain ⟨cc, bc, dc, mc, T, ST, SA, lv, τ, σ, lev, ho, ⟨rfl, rfl, a3, a4, a5, a6, a7, a8, a9, a10, a11, rfl, rfl, a14⟩, h2, h3, ⟨C, B, TT, D⟩, h5, g, ⟨H, hU⟩, bf⟩ := I
  obtain ⟨c4, c10, c0, cp, cf, cf3⟩ := C
  unfold wpX_cls
  dsimp only
  rcases xw_made c4 c10 v1 with ⟨mX, mY⟩ | ⟨c, hc, rfl, hc2, mX, mY⟩
  · exact mX _ (br_t rfl (by unfold wpY_cls; exact mY _ (br_t rfl ⟨rfl, J⟩)))
  · refine mX _ (br_f (by decide) ?_)
    have goY : ∀ post : Int32 → SY → Prop, _ → wpY_cls post (nI cc, y_bodies, y_fault, y_made, y_working, y_peak, y_steps, y_depth, y_waiting, y_code, y_running, y_has, y_got, y_todos, y_marks, y_shown, y_spoken, y_parent, y_fields, y_bound, y_kind, y_word, y_size, y_sort, y_number, y_stands, y_keeps, y_cells, y_globals, y_within, y_foundIn, y_self, y_args, y_temps, y_param, y_live, y_work, y_under, y_at, y_in, y_phase, y_base, y_goal, y_operands, y_marked, y_todo, y_heard) (nI c) v2 := fun post h => by
      unfold wpY_cls
      exact mY _ (br_f (by decide) h)
    by_cases n2 : v2 < 0
    · exact br_t n2 (goY _ (br_t n2 ⟨rfl, J⟩))
    · obtain ⟨f, hf, rfl⟩ := nI_of n2
      obtain ⟨f0, f1, f2⟩ := cf c (by omega)
      have vc : vp_in (nI c) 10 := vp_in_nI (by omega) (by decide)
      have ec : (nI c).toNatClampNeg = c := nI_clamp (by omega)
      refine br_f n2 ?_
      rw [ec, f2]
      have e4 : (4 : Int32) - nI f0 = nI (4 - f0) := pk_sub (a := 4) f1
      rw [e4]
      refine ⟨vc, ?_⟩
      rcases Nat.lt_or_ge (4 - f0) f with q | q
      · refine br_f (nI_ge q hf) (goY _ (br_f n2 ?_))
        rcases Nat.lt_or_ge 4 f with q4 | q4
        · exact br_t (nI_lt (a := 4) q4 hf) ⟨rfl, J⟩
        · refine br_f (nI_nlt (a := f) (b := f) (Nat.le_refl _) hf |> fun _ => nI_nlt (b := f) (a := 4) q4 (by decide)) ?_
          rw [ec, f2, nI_add]
          exact ⟨vc, br_f (nI_ge (a := 4) (by omega) (by omega)) ⟨rfl, J⟩⟩
      · refine br_t (nI_le q (by omega)) ?_
        have y4 : ¬ (4 : Int32) < nI f := nI_nlt (b := f) (a := 4) (by omega) (by decide)
        have le4 : nI f0 + nI f ≤ 4 := by rw [nI_add]; exact nI_le (b := 4) (by omega) (by decide)
        by_cases z : cc = 10
        · subst z
          refine br_t rfl (goY _ (br_f n2 (br_f y4 ⟨vc, br_t ?_ (br_t rfl ⟨rfl, J⟩)⟩)))
          rw [ec, f2]; exact le4
        · have z1 : ¬ nI cc = 10 := fun q => z ((nI_eq (b := 10) (by omega) (by decide)).mp q)
          have vcc : vp_in (nI cc) 10 := vp_in_nI (by omega) (by decide)
          have ecc : (nI cc).toNatClampNeg = cc := nI_clamp (by omega)
          have em : nI (cc + 1) - 1 = nI cc := nI_pred cc
          refine br_f z1 ⟨vcc, ?_⟩
          rw [ecc]
          refine nm_e ⟨vc, vcc, nm_e (nm_r (nI_1 cc) ?_)⟩
          rw [em]
          refine goY _ (br_f n2 (br_f y4 ⟨vc, ?_⟩))
          rw [ec, f2, ecc]
          refine br_t le4 (br_f z1 ⟨vcc, nm_e ⟨vc, vcc, nm_e (nm_r (nI_1 cc) ⟨rfl, cc + 1, bc, dc, mc, T, ST, SA, lv, τ, σ, lev, ho, ⟨rfl, rfl, a3, a4, a5, a6, a7, a8, a9, a10, a11, rfl, rfl, a14⟩, h2, h3, ⟨⟨by omega, by omega, ?_, fun d d1 d2 => ?_, fun d d1 => ?_, ?_⟩, B, ?_, D⟩, by omega, g, ⟨?_, hU⟩, bf⟩)⟩⟩)
          · rw [pk_un (by omega)]; exact c0
          · by_cases e : d = cc
            · subst e; exact ⟨c, hc, pk_us⟩
            · rw [pk_un e]; exact cp d d1 (by omega)
          · by_cases e : d = cc
            · subst e; rw [pk_us, nI_add]; exact ⟨f0 + f, by omega, rfl⟩
            · rw [pk_un e]; exact cf d d1
          · rw [pk_un (by omega)]; exact cf3
          · exact rl_Tsz TT (by omega) (fun p _ _ => ⟨rfl, rfl, rfl, rfl⟩) (fun b _ => rfl)
          · exact hp_cc H (by omega) (Nat.le_refl _)
theorem i_vc_bind {k : Nat} {u : SX} {v : SY} (I : i_Rel k u v) (hk : k + 5 ≤ 2560) (v1 : Int32) (v2 : Int32) (v3 : Int32) : wpX_bind (fun r u' => wpY_bind (fun r' v' => r' = r ∧ i_Rel (k + 5) u' v') v v1 v2 v3) u v1 v2 v3 := by
  have J := i_up I
  obtain ⟨x_classCount, x_bodyCount, x_draftCount, x_wrongPlace, x_madeCount, x_frameCount, x_current, x_next, x_inHand, x_mode, x_outcome, x_stepCount, x_atWork, x_mostAtWork, x_saidCount, x_pendingCount, x_classParent, x_classFields, x_bound, x_tokenKind, x_tokenValue, x_globals, x_thingShown, x_thingClass, x_thingFields, x_thingToken, x_thingMaker, x_variables, x_homeOf, x_within, x_foundIn, x_baseFrame, x_frameToken, x_frameStage, x_frameLink, x_operands, x_saidValues, x_marked, x_pending⟩ := u
  obtain ⟨y_classes, y_bodies, y_fault, y_made, y_working, y_peak, y_steps, y_depth, y_waiting, y_code, y_running, y_has, y_got, y_todos, y_marks, y_shown, y_spoken, y_parent, y_fields, y_bound, y_kind, y_word, y_size, y_sort, y_number, y_stands, y_keeps, y_cells, y_globals, y_within, y_foundIn, y_self, y_args, y_temps, y_param, y_live, y_work, y_under, y_at, y_in, y_phase, y_base, y_goal, y_operands, y_marked, y_todo, y_heard⟩ := v
  obtain ⟨cc, bc, dc, mc, T, ST, SA, lv, τ, σ, lev, ho, ⟨rfl, rfl, rfl, rfl, a5, a6, a7, a8, a9, a10, a11, a12, a13, rfl, a15⟩, h2, h3, ⟨C, B, TT, D⟩, h5, g⟩ := I
  have cc10 := C.2.1
  have b12 := B.1
  rcases pk_ix v1 (n := cc) (by omega) with h | h | ⟨c, hc, rfl⟩
  · exact br_t h (br_t rfl (br_t h (br_t rfl ⟨rfl, J⟩)))
  · have h0 : ¬ v1 < 0 := Int32.not_lt.mpr (Int32.le_trans (nI_pos' (by omega)) h)
    exact br_f h0 (br_t h (br_t rfl (br_f h0 (br_t h (br_t rfl ⟨rfl, J⟩)))))
  · have h0 : ¬ nI c < 0 := nI_pos (by omega)
    have h1 : ¬ nI cc ≤ nI c := nI_ge hc (by omega)
    refine br_f h0 (br_f h1 (br_f (by decide) ?_))
    rcases pk_ix v2 (n := 12) (by decide) with q | q | ⟨s, hs, rfl⟩
    · exact br_t q (br_t rfl (br_f h0 (br_f h1 (br_f (by decide) (br_t q (br_t rfl ⟨rfl, J⟩))))))
    · have q0 : ¬ v2 < 0 := Int32.not_lt.mpr (Int32.le_trans (by decide) q)
      exact br_f q0 (br_t q (br_t rfl (br_f h0 (br_f h1 (br_f (by decide) (br_f q0 (br_t q (br_t rfl ⟨rfl, J⟩))))))))
    · have q0 : ¬ nI s < 0 := nI_pos (by omega)
      have q1 : ¬ (12 : Int32) ≤ nI s := nI_ge (b := 12) hs (by decide)
      have goY : ∀ post : Int32 → SY → Prop, _ → wpY_bind post (nI cc, nI bc, y_fault, y_made, y_working, y_peak, y_steps, y_depth, y_waiting, y_code, y_running, y_has, y_got, y_todos, y_marks, y_shown, y_spoken, y_parent, y_fields, y_bound, y_kind, y_word, y_size, y_sort, y_number, y_stands, y_keeps, y_cells, y_globals, y_within, y_foundIn, y_self, y_args, y_temps, y_param, y_live, y_work, y_under, y_at, y_in, y_phase, y_base, y_goal, y_operands, y_marked, y_todo, y_heard) (nI c) (nI s) v3 := fun post h => br_f h0 (br_f h1 (br_f (by decide) (br_f q0 (br_f q1 (br_f (by decide) h)))))
      refine br_f q0 (br_f q1 (br_f (by decide) ?_))
      have done : ∀ v3 : Int32, (v3 = -1 ∨ ∃ b, b < bc ∧ v3 = nI b) → i_Rel (k + 5) (nI cc, nI bc, x_draftCount, x_wrongPlace, x_madeCount, x_frameCount, x_current, x_next, x_inHand, x_mode, x_outcome, x_stepCount, x_atWork, x_mostAtWork, x_saidCount, x_pendingCount, x_classParent, x_classFields, upd y_bound (c * 12 + s) v3, x_tokenKind, x_tokenValue, x_globals, x_thingShown, x_thingClass, x_thingFields, x_thingToken, x_thingMaker, x_variables, x_homeOf, x_within, x_foundIn, x_baseFrame, x_frameToken, x_frameStage, x_frameLink, x_operands, x_saidValues, x_marked, x_pending) (nI cc, nI bc, y_fault, y_made, y_working, y_peak, y_steps, y_depth, y_waiting, y_code, y_running, y_has, y_got, y_todos, y_marks, y_shown, y_spoken, y_parent, y_fields, upd y_bound (c * 12 + s) v3, y_kind, y_word, y_size, y_sort, y_number, y_stands, y_keeps, y_cells, y_globals, y_within, y_foundIn, y_self, y_args, y_temps, y_param, y_live, y_work, y_under, y_at, y_in, y_phase, y_base, y_goal, y_operands, y_marked, y_todo, y_heard) := fun v3 hv => by
        refine ⟨cc, bc, dc, mc, T, ST, SA, lv, τ, σ, lev, ho, ⟨rfl, rfl, rfl, rfl, a5, a6, a7, a8, a9, a10, a11, a12, a13, rfl, a15⟩, h2, h3, ⟨C, ⟨b12, fun i hi => ?_⟩, TT, D⟩, by omega, g⟩
        by_cases e : i = c * 12 + s
        · subst e; rw [pk_us]; exact hv
        · rw [pk_un e]; exact B.2 i hi
      have eX : nI c * (12 : Int32) + nI s = nI (c * 12 + s) := ix_r 12 c s
      have eY : (12 : Int32) * nI c + nI s = nI (c * 12 + s) := by rw [Nat.mul_comm c 12]; exact ix_l 12 c s
      have ci : (nI (c * 12 + s)).toNatClampNeg = c * 12 + s := nI_clamp (by omega)
      have vi : vp_in (nI (c * 12 + s)) 120 := vp_in_nI (by omega) (by decide)
      have fin : ∀ v3 : Int32, (v3 = -1 ∨ ∃ b, b < bc ∧ v3 = nI b) → ∀ P : Prop, (wY_bind_48 (fun r' v' => r' = 1 ∧ i_Rel (k + 5) (nI cc, nI bc, x_draftCount, x_wrongPlace, x_madeCount, x_frameCount, x_current, x_next, x_inHand, x_mode, x_outcome, x_stepCount, x_atWork, x_mostAtWork, x_saidCount, x_pendingCount, x_classParent, x_classFields, upd y_bound (c * 12 + s) v3, x_tokenKind, x_tokenValue, x_globals, x_thingShown, x_thingClass, x_thingFields, x_thingToken, x_thingMaker, x_variables, x_homeOf, x_within, x_foundIn, x_baseFrame, x_frameToken, x_frameStage, x_frameLink, x_operands, x_saidValues, x_marked, x_pending) v') (nI c) (nI s) v3 (nI cc) (nI bc) y_fault y_made y_working y_peak y_steps y_depth y_waiting y_code y_running y_has y_got y_todos y_marks y_shown y_spoken y_parent y_fields y_bound y_kind y_word y_size y_sort y_number y_stands y_keeps y_cells y_globals y_within y_foundIn y_self y_args y_temps y_param y_live y_work y_under y_at y_in y_phase y_base y_goal y_operands y_marked y_todo y_heard → P) → P := fun v3 hv P hP => by
        refine hP ?_
        unfold wY_bind_48
        rw [eY, ci]
        exact ⟨vi, nm_e ⟨rfl, done v3 hv⟩⟩
      by_cases m1 : v3 < -1
      · exact br_t m1 (goY _ (br_t m1 ⟨rfl, J⟩))
      · refine br_f m1 ?_
        rcases pk_ix v3 (n := bc) (by omega) with r | r | ⟨b, hb, rfl⟩
        · have e : v3 = -1 := Int32.le_antisymm (by
            rw [Int32.le_iff_toInt_le]
            rw [Int32.lt_iff_toInt_lt] at r
            have : (0 : Int32).toInt = 0 := by decide
            have : (-1 : Int32).toInt = -1 := by decide
            omega) (Int32.not_lt.mp m1)
          subst e
          have lb : (-1 : Int32) < nI bc := by
            rw [Int32.lt_iff_toInt_lt, nI_toInt (by omega), show (-1 : Int32).toInt = -1 from by decide]; omega
          refine br_t lb (br_t rfl ?_)
          unfold wX_bind_49
          rw [eX, ci]
          refine ⟨vi, nm_e (goY _ (br_f m1 (br_f (Int32.not_le.mpr lb) (br_t (by decide) ?_))))⟩
          exact fin (-1) (Or.inl rfl) _ id
        · have lb : ¬ v3 < nI bc := Int32.not_lt.mpr r
          exact br_f lb (goY _ (br_f m1 (br_t r ⟨rfl, J⟩)))
        · have lb : nI b < nI bc := nI_lt hb (by omega)
          have r1 : ¬ nI bc ≤ nI b := nI_ge hb (by omega)
          have r0 : ¬ nI b < 0 := nI_pos (by omega)
          refine br_t lb (br_f (gx_m1 (by omega)) ⟨by decide, ?_⟩)
          rw [tk_div4 (by omega)]
          rcases xw_uses TT hb (show s < 2 ^ 31 by omega) with ⟨uX, uY⟩ | ⟨uX, uY⟩
          · refine uX _ (br_t rfl ?_)
            unfold wX_bind_49
            rw [eX, ci]
            refine ⟨vi, nm_e (goY _ (br_f m1 (br_f r1 (br_f r0 (uY _ (br_f (by decide) ?_))))))⟩
            exact fin (nI b) (Or.inr ⟨b, hb, rfl⟩) _ id
          · exact uX _ (br_f (by decide) (goY _ (br_f m1 (br_f r1 (br_f r0 (uY _ (br_t rfl ⟨rfl, J⟩)))))))
end
section
/-! what is reached, on both sides -/
theorem hp_v_to {ST ST' : Nat → Prop} {sh sh' : Nat → Int64} {x y : Int64} (h : hp_v ST sh x y) (hm : ∀ k, ST k → vv_T y k → ST' k ∧ sh' k = sh k) : hp_v ST' sh' x y := by
  obtain ⟨a, h1, h2, h3⟩ := h
  rcases a with i | _ | k
  · exact ⟨.inl i, fun k e => (by cases e), h2, h3⟩
  · exact ⟨.inr none, fun k e => (by cases e), h2, h3⟩
  · obtain ⟨k1, k2⟩ := h1 k rfl
    obtain ⟨m1, m2⟩ := hm k k2 ⟨k1, h3⟩
    exact ⟨.inr (some k), fun l e => by cases e; exact ⟨k1, m1⟩, by rw [h2]; exact m2.symm, h3⟩
section
variable {x_classCount x_bodyCount x_draftCount x_wrongPlace x_madeCount x_frameCount x_current x_next x_mode x_outcome x_stepCount x_atWork x_mostAtWork x_saidCount x_pendingCount : Int32} {x_inHand : Int64} {x_classParent x_classFields x_bound x_tokenKind x_tokenValue x_thingClass x_thingToken x_thingMaker x_homeOf x_within x_foundIn x_baseFrame x_frameToken x_frameStage x_frameLink x_marked x_pending : Nat → Int32} {x_globals x_thingShown x_thingFields x_variables x_operands x_saidValues : Nat → Int64}
variable {y_classes y_bodies y_fault y_made y_working y_peak y_steps y_depth y_waiting y_code y_running y_has y_todos y_marks y_spoken : Int32} {y_got y_shown : Int64} {y_parent y_fields y_bound y_kind y_word y_size y_sort y_number y_stands y_keeps y_within y_foundIn y_live y_work y_under y_at y_in y_phase y_base y_goal y_marked y_todo : Nat → Int32} {y_cells y_globals y_self y_args y_temps y_param y_operands y_heard : Nat → Int64}
variable {cc bc dc mc k : Nat} {T ST SA : Nat → Prop} {lv τ σ lev ho : Nat → Nat}
theorem hp_gyV (Y : hp_Y y_cells y_self y_args y_temps y_param y_keeps y_within) {m : Nat} (hm : m < 192) : gy_V y_sort y_keeps y_cells y_within y_self y_args y_temps y_param m := by
  obtain ⟨y1, y2, y3, y4, y5, y6, y7⟩ := Y
  refine ⟨fun h => ⟨fun _ => y6 m h, fun _ j hj => y1 _ (by omega)⟩, fun a e ha => ⟨fun _ => ⟨y2 a ha, fun j hj => y3 _ (by omega), fun j hj => y4 _ (by omega)⟩, fun w => ⟨y5 a ha, ?_⟩⟩⟩
  rcases y7 a ha with z | z
  · rw [z] at w; exact absurd (by decide) w
  · exact z
theorem hp_EY {m n : Nat} (e : gy_E y_sort y_keeps y_cells y_within y_self y_args y_temps y_param m n) : n < 192 := by
  rcases e with ⟨_, _, a, a1, _, a3⟩ | ⟨_, _, j, _, a3⟩ | ⟨a, _, _, z | ⟨j, _, z⟩ | ⟨j, _, z⟩⟩ | ⟨a, _, _, z | ⟨b, b1, _, b3⟩⟩
  · omega
  · have := a3.1; omega
  · have := z.1; omega
  · have := z.1; omega
  · have := z.1; omega
  · have := z.1; omega
  · omega
theorem ym_all {post : SY → Prop} {wt wk : Nat} (hw : y_waiting = nI wt) (hwt : wt ≤ 500) (hk : y_working = nI wk) (hwk : wk ≤ 12) (hgl : ∀ k, k < 4 → vv_V (y_globals k)) (hop : ∀ k, k < wt → vv_V (y_operands k)) (hwo : ∀ k, k < wk → ∃ a, a < 160 ∧ y_work k = nI a) (Y : hp_Y y_cells y_self y_args y_temps y_param y_keeps y_within)
    (h : ∀ mk td, (∀ n, n < 192 → mk n = 0 ∨ mk n = 1) → (∀ n, n < 192 → (mk n = 1 ↔ cl_r (gy_R y_globals y_operands wt y_work wk) (gy_E y_sort y_keeps y_cells y_within y_self y_args y_temps y_param) n)) → post (y_classes, y_bodies, y_fault, y_made, y_working, y_peak, y_steps, y_depth, y_waiting, y_code, y_running, y_has, y_got, nI 0, nI (ct_n (fun k => mk k = 1) 32), y_shown, y_spoken, y_parent, y_fields, y_bound, y_kind, y_word, y_size, y_sort, y_number, y_stands, y_keeps, y_cells, y_globals, y_within, y_foundIn, y_self, y_args, y_temps, y_param, y_live, y_work, y_under, y_at, y_in, y_phase, y_base, y_goal, y_operands, mk, td, y_heard)) : wpY_markAll post (y_classes, y_bodies, y_fault, y_made, y_working, y_peak, y_steps, y_depth, y_waiting, y_code, y_running, y_has, y_got, y_todos, y_marks, y_shown, y_spoken, y_parent, y_fields, y_bound, y_kind, y_word, y_size, y_sort, y_number, y_stands, y_keeps, y_cells, y_globals, y_within, y_foundIn, y_self, y_args, y_temps, y_param, y_live, y_work, y_under, y_at, y_in, y_phase, y_base, y_goal, y_operands, y_marked, y_todo, y_heard) := by
  refine ym_markAll hw hwt hk hwk hgl hop hwo (fun n => n < 192) (fun n hn => ⟨hn, hp_gyV Y hn⟩) (fun n hn => ?_) (fun m n hm e => hp_EY e) h
  rcases hn with ⟨k, _, z⟩ | ⟨k, _, z⟩ | ⟨k, a, _, a1, _, a3⟩
  · have := z.1; omega
  · have := z.1; omega
  · omega
/-- from an activation one comes to its home -/
theorem hp_home (H : hp_R cc mc T y_kind lv ST SA τ σ lev ho x_thingShown x_thingClass x_thingFields x_thingToken x_thingMaker x_variables x_homeOf x_within x_foundIn y_sort y_number y_stands y_keeps y_cells y_within y_foundIn y_self y_args y_temps y_param) {R : Nat → Prop} : ∀ (n a : Nat), lev a ≤ n → SA a → cl_r R (gy_E y_sort y_keeps y_cells y_within y_self y_args y_temps y_param) (32 + a) → cl_r R (gy_E y_sort y_keeps y_cells y_within y_self y_args y_temps y_param) (32 + ho a) := by
  intro n
  induction n with
  | zero =>
    intro a hl sa c
    obtain ⟨_, _, _, _, _, _, z⟩ := H.2.1 a sa
    rcases z with ⟨_, _, e, _⟩ | ⟨b, _, _, z, _⟩
    · rw [e]; exact c
    · omega
  | succ n ih =>
    intro a hl sa c
    obtain ⟨_, _, _, _, _, _, z⟩ := H.2.1 a sa
    rcases z with ⟨_, _, e, _⟩ | ⟨b, w, sb, z, e, _⟩
    · rw [e]; exact c
    · rw [e]
      have hb := (H.2.1 b sb).1
      exact ih b (by omega) sb (cl_step c (Or.inr (Or.inr (Or.inr ⟨a, rfl, by rw [w]; exact nI_pos (by omega), Or.inr ⟨b, hb, w, rfl⟩⟩))))
theorem hp_roots {fc wt wk : Nat} (U : hp_U mc x_thingShown) (H : hp_R cc mc T y_kind lv ST SA τ σ lev ho x_thingShown x_thingClass x_thingFields x_thingToken x_thingMaker x_variables x_homeOf x_within x_foundIn y_sort y_number y_stands y_keeps y_cells y_within y_foundIn y_self y_args y_temps y_param) (g : ∀ i, i < 4 → hp_v ST (hp_s y_sort y_number) (x_globals i) (y_globals i))
    (o1 : ∀ j, j < wt → ∃ i, i < fc * 3 ∧ hp_v ST (hp_s y_sort y_number) (x_operands i) (y_operands j))
    (o2 : ∀ i, i < fc * 3 → x_operands i = 10000000000 ∨ (∃ j, j < wt ∧ hp_v ST (hp_s y_sort y_number) (x_operands i) (y_operands j)) ∨ (∃ j a, j < wk ∧ y_work j = nI a ∧ SA a ∧ hp_v ST (hp_s y_sort y_number) (x_operands i) (y_self (ho a))))
    (w1 : ∀ j, j < wk → ∃ a, y_work j = nI a ∧ SA a ∧ ¬ x_baseFrame (σ a) = -1)
    (w2 : ∀ b, b < 128 → ¬ x_baseFrame b = -1 → ∃ j a, j < wk ∧ y_work j = nI a ∧ SA a ∧ b = σ a) :
    (∀ n, cl_r (gy_R y_globals y_operands wt y_work wk) (gy_E y_sort y_keeps y_cells y_within y_self y_args y_temps y_param) n → hp_S ST SA n ∧ cl_r (gx_R x_thingShown x_globals x_operands fc x_baseFrame) (gx_E x_thingShown x_thingFields x_thingMaker x_variables x_within) (hp_f τ σ n)) ∧
    (∀ n, cl_r (gx_R x_thingShown x_globals x_operands fc x_baseFrame) (gx_E x_thingShown x_thingFields x_thingMaker x_variables x_within) n → ∃ n', cl_r (gy_R y_globals y_operands wt y_work wk) (gy_E y_sort y_keeps y_cells y_within y_self y_args y_temps y_param) n' ∧ hp_f τ σ n' = n) := by
  have vy : ∀ {x y : Int64} {n : Nat}, hp_v ST (hp_s y_sort y_number) x y → vv_T y n → hp_S ST SA n ∧ gx_T x_thingShown x (hp_f τ σ n) := fun hv ht => by
    obtain ⟨a, b⟩ := hp_vT hv ht
    refine ⟨Or.inl ⟨ht.1, a⟩, ?_⟩
    rw [hp_f1 ht.1, b]
    exact (hp_shT U H a).mpr rfl
  have vx : ∀ {x y : Int64} {n : Nat}, hp_v ST (hp_s y_sort y_number) x y → gx_T x_thingShown x n → ∃ n', vv_T y n' ∧ hp_f τ σ n' = n := fun hv ht => by
    obtain ⟨k, a, b, c⟩ := hp_vX hv ht.2.1
    rw [c] at ht
    exact ⟨k, a, by rw [hp_f1 a.1]; exact ((hp_shT U H b).mp ht).symm⟩
  refine hp_reach U H (fun n hn => ?_) (fun n hn => ?_)
  · rcases hn with ⟨i, i1, z⟩ | ⟨j, j1, z⟩ | ⟨j, a, j1, a1, a2, a3⟩
    · obtain ⟨q1, q2⟩ := vy (g i i1) z
      exact ⟨q1, cl_root (Or.inl ⟨i, i1, q2⟩)⟩
    · obtain ⟨i, i1, hv⟩ := o1 j j1
      obtain ⟨q1, q2⟩ := vy hv z
      exact ⟨q1, cl_root (Or.inr (Or.inl ⟨i, i1, q2⟩))⟩
    · obtain ⟨b, b1, b2, b3⟩ := w1 j j1
      have hb := H.2.1 b b2
      have : a = b := (nI_eq (by omega) (by have := hb.1; omega)).mp (a2.symm.trans b1)
      subst this
      subst a3
      exact ⟨Or.inr ⟨a, rfl, b2⟩, cl_root (Or.inr (Or.inr ⟨σ a, hb.2.1, b3, hp_f2⟩))⟩
  · rcases hn with ⟨i, i1, z⟩ | ⟨i, i1, z⟩ | ⟨b, b1, b2, b3⟩
    · obtain ⟨n', q1, q2⟩ := vx (g i i1) z
      exact ⟨n', cl_root (Or.inl ⟨i, i1, q1⟩), q2⟩
    · rcases o2 i i1 with e | ⟨j, j1, hv⟩ | ⟨j, a, j1, a1, sa, hv⟩
      · rw [e] at z; exact absurd z.2.1 hp_NIL
      · obtain ⟨n', q1, q2⟩ := vx hv z
        exact ⟨n', cl_root (Or.inr (Or.inl ⟨j, j1, q1⟩)), q2⟩
      · obtain ⟨n', q1, q2⟩ := vx hv z
        have ha := H.2.1 a sa
        have c := hp_home H (R := gy_R y_globals y_operands wt y_work wk) (lev a) a (Nat.le_refl _) sa (cl_root (Or.inr (Or.inr ⟨j, a, j1, ha.1, a1, rfl⟩)))
        exact ⟨n', cl_step c (Or.inr (Or.inr (Or.inl ⟨ho a, rfl, by rw [ha.2.2.2.2.2.1]; decide, Or.inl q1⟩))), q2⟩
    · obtain ⟨j, a, j1, a1, sa, e⟩ := w2 b b1 b2
      exact ⟨32 + a, cl_root (Or.inr (Or.inr ⟨j, a, j1, (H.2.1 a sa).1, a1, rfl⟩)), by rw [hp_f2]; omega⟩
end
theorem i_vc_reachable {k : Nat} {u : SX} {v : SY} (I : i_Rel k u v) (hk : k + 5 ≤ 2560) : wpX_reachable (fun r u' => wpY_reachable (fun r' v' => r' = r ∧ i_Rel (k + 5) u' v') v) u := by
  obtain ⟨x_classCount, x_bodyCount, x_draftCount, x_wrongPlace, x_madeCount, x_frameCount, x_current, x_next, x_inHand, x_mode, x_outcome, x_stepCount, x_atWork, x_mostAtWork, x_saidCount, x_pendingCount, x_classParent, x_classFields, x_bound, x_tokenKind, x_tokenValue, x_globals, x_thingShown, x_thingClass, x_thingFields, x_thingToken, x_thingMaker, x_variables, x_homeOf, x_within, x_foundIn, x_baseFrame, x_frameToken, x_frameStage, x_frameLink, x_operands, x_saidValues, x_marked, x_pending⟩ := u
  obtain ⟨y_classes, y_bodies, y_fault, y_made, y_working, y_peak, y_steps, y_depth, y_waiting, y_code, y_running, y_has, y_got, y_todos, y_marks, y_shown, y_spoken, y_parent, y_fields, y_bound, y_kind, y_word, y_size, y_sort, y_number, y_stands, y_keeps, y_cells, y_globals, y_within, y_foundIn, y_self, y_args, y_temps, y_param, y_live, y_work, y_under, y_at, y_in, y_phase, y_base, y_goal, y_operands, y_marked, y_todo, y_heard⟩ := v
  obtain ⟨cc, bc, dc, mc, T, ST, SA, lv, τ, σ, lev, ho, h1, ⟨rfl, h22, rfl, rfl⟩, h3, h4, h5, g, ⟨H, U, Y, X⟩, bf, lv0⟩ := I
  unfold wpX_reachable
  dsimp only
  refine xm_markReachable (fc := 0) rfl (by decide) X.1 X.2 fun mk td t mb mi => ?_
  unfold wpY_reachable
  dsimp only
  refine ym_all (wt := 0) (wk := 0) rfl (by decide) rfl (by decide) (fun i hi => hp_v_V (g i hi)) (fun i hi => by omega) (fun i hi => by omega) Y fun mk' td' mb' mi' => ⟨?_, ?_⟩
  · obtain ⟨A, B⟩ := hp_roots (fc := 0) (wt := 0) (wk := 0) (x_operands := x_operands) (y_operands := y_operands) (x_baseFrame := x_baseFrame) (y_work := y_work) U H g (fun j hj => by omega) (fun i hi => by omega) (fun j hj => by omega) (fun b hb z => absurd (bf b hb) z)
    have e1 := ct_eq (N := 24) (fun n (hn : n < 24) => mi n (by omega))
    have e2 := ct_eq (N := 32) (fun n (hn : n < 32) => mi' n (by omega))
    rw [e1, e2, hp_count H A B]
  · exact ⟨cc, bc, dc, mc, T, ST, SA, lv, τ, σ, lev, ho, h1, ⟨rfl, h22, rfl, rfl⟩, h3, h4, by omega, g, ⟨H, U, Y, X⟩, bf, lv0⟩
end
section
/-! making an OBJECT or a BLOCK -/
def mk_c (f : Nat → Int64) (b n : Nat) (v : Int64) : Nat → Int64 := fun j => if b ≤ j ∧ j < b + n then v else f j
theorem mk_c0 (f : Nat → Int64) (b : Nat) (v : Int64) : mk_c f b 0 v = f := by
  funext j
  unfold mk_c
  rw [if_neg (by omega)]
theorem mk_cs (f : Nat → Int64) (b n : Nat) (v : Int64) : vp_updL (mk_c f b n v) (b + n) v = mk_c f b (n + 1) v := by
  funext j
  unfold vp_updL mk_c
  by_cases h : j = b + n
  · rw [if_pos h, if_pos (by omega)]
  · rw [if_neg h]
    by_cases q : b ≤ j ∧ j < b + n
    · rw [if_pos q, if_pos (by omega)]
    · rw [if_neg q, if_neg (by omega)]
theorem mk_ci {f : Nat → Int64} {b n j : Nat} {v : Int64} (h : b ≤ j) (h2 : j < b + n) : mk_c f b n v j = v := if_pos ⟨h, h2⟩
theorem mk_co {f : Nat → Int64} {b n j : Nat} {v : Int64} (h : j < b ∨ b + n ≤ j) : mk_c f b n v j = f j := if_neg (by omega)
theorem ct_first {P : Nat → Prop} {N : Nat} (h : ct_n P N < N) : ∃ a, a < N ∧ ¬ P a ∧ ∀ j, j < a → P j := by
  obtain ⟨b, b1, b2⟩ := ct_free h
  obtain ⟨a, a1, a2⟩ := pk_least (fun j => ¬ P j) ⟨b, b2⟩
  refine ⟨a, ?_, a1, fun j hj => Classical.byContradiction fun z => a2 j hj z⟩
  rcases Nat.lt_or_ge b a with q | q
  · exact absurd b2 (a2 b q)
  · omega
section
variable {x_classCount x_bodyCount x_draftCount x_wrongPlace x_madeCount x_frameCount x_current x_next x_mode x_outcome x_stepCount x_atWork x_mostAtWork x_saidCount x_pendingCount : Int32} {x_inHand : Int64} {x_classParent x_classFields x_bound x_tokenKind x_tokenValue x_thingClass x_thingToken x_thingMaker x_homeOf x_within x_foundIn x_baseFrame x_frameToken x_frameStage x_frameLink x_marked x_pending : Nat → Int32} {x_globals x_thingShown x_thingFields x_variables x_operands x_saidValues : Nat → Int64}
variable {y_classes y_bodies y_fault y_made y_working y_peak y_steps y_depth y_waiting y_code y_running y_has y_todos y_marks y_spoken : Int32} {y_got y_shown : Int64} {y_parent y_fields y_bound y_kind y_word y_size y_sort y_number y_stands y_keeps y_within y_foundIn y_live y_work y_under y_at y_in y_phase y_base y_goal y_marked y_todo : Nat → Int32} {y_cells y_globals y_self y_args y_temps y_param y_operands y_heard : Nat → Int64}
variable {cc bc dc mc k : Nat} {T ST SA : Nat → Prop} {lv τ σ lev ho : Nat → Nat}
theorem xm_make {post : Int32 → SX → Prop} {p0 : Int64} {c : Int32} {fc : Nat} (hfc : x_frameCount = nI fc) (hfl : fc * 3 ≤ 1152) (hm : ∀ m, m < 24 → gx_P (x_thingMaker m)) (hw : ∀ a, a < 128 → gx_P (x_within a))
    (h1 : ∀ mk td t, (∀ n, n < 152 → (mk n = 1 ↔ cl_r (gx_R x_thingShown x_globals x_operands fc x_baseFrame) (gx_E x_thingShown x_thingFields x_thingMaker x_variables x_within) n)) → ¬ ct_n (fun k => mk k = 1) 24 < 24 → post (-1) (x_classCount, x_bodyCount, x_draftCount, x_wrongPlace, x_madeCount, x_frameCount, x_current, x_next, x_inHand, x_mode, x_outcome, x_stepCount, x_atWork, x_mostAtWork, x_saidCount, nI t, x_classParent, x_classFields, x_bound, x_tokenKind, x_tokenValue, x_globals, x_thingShown, x_thingClass, x_thingFields, x_thingToken, x_thingMaker, x_variables, x_homeOf, x_within, x_foundIn, x_baseFrame, x_frameToken, x_frameStage, x_frameLink, x_operands, x_saidValues, mk, td))
    (h2 : ∀ mk td t tt, (∀ n, n < 152 → (mk n = 1 ↔ cl_r (gx_R x_thingShown x_globals x_operands fc x_baseFrame) (gx_E x_thingShown x_thingFields x_thingMaker x_variables x_within) n)) → ct_n (fun k => mk k = 1) 24 < 24 → tt < 24 → ¬ mk tt = 1 → post (nI tt) (x_classCount, x_bodyCount, x_draftCount, x_wrongPlace, x_madeCount + 1, x_frameCount, x_current, x_next, x_inHand, x_mode, x_outcome, x_stepCount, x_atWork, x_mostAtWork, x_saidCount, nI t, x_classParent, x_classFields, x_bound, x_tokenKind, x_tokenValue, x_globals, vp_updL x_thingShown tt (p0 + x_madeCount.toInt64), upd x_thingClass tt c, mk_c x_thingFields (tt * 4) 4 10000000000, x_thingToken, upd x_thingMaker tt (-1), x_variables, x_homeOf, x_within, x_foundIn, x_baseFrame, x_frameToken, x_frameStage, x_frameLink, x_operands, x_saidValues, mk, td)) : wpX_makeThing post (x_classCount, x_bodyCount, x_draftCount, x_wrongPlace, x_madeCount, x_frameCount, x_current, x_next, x_inHand, x_mode, x_outcome, x_stepCount, x_atWork, x_mostAtWork, x_saidCount, x_pendingCount, x_classParent, x_classFields, x_bound, x_tokenKind, x_tokenValue, x_globals, x_thingShown, x_thingClass, x_thingFields, x_thingToken, x_thingMaker, x_variables, x_homeOf, x_within, x_foundIn, x_baseFrame, x_frameToken, x_frameStage, x_frameLink, x_operands, x_saidValues, x_marked, x_pending) p0 c := by
  unfold wpX_makeThing
  dsimp only
  refine xm_markReachable hfc hfl hm hw fun mk td t mb mi => ?_
  have cl := ct_le (fun k => mk k = 1) 24
  refine pk_lt (ct_n (fun k => mk k = 1) 24) 24 (fun q => ?_) (fun q => h1 mk td t mi (by omega))
  obtain ⟨tt, t1, t2, t3⟩ := ct_first q
  have tc : (nI tt).toNatClampNeg = tt := nI_clamp (by omega)
  have vt : vp_in (nI tt) 24 := vp_in_nI t1 (by decide)
  have l44 : ∃ n44 : Nat, wX_makeThing_44 post p0 c (nI tt) x_classCount x_bodyCount x_draftCount x_wrongPlace x_madeCount x_frameCount x_current x_next x_inHand x_mode x_outcome x_stepCount x_atWork x_mostAtWork x_saidCount (nI t) n44 0 x_classParent x_classFields x_bound x_tokenKind x_tokenValue x_globals x_thingShown x_thingClass x_thingFields x_thingToken x_thingMaker x_variables x_homeOf x_within x_foundIn x_baseFrame x_frameToken x_frameStage x_frameLink x_operands x_saidValues mk td := by
    refine loop_0 (fun n i f => wX_makeThing_44 post p0 c (nI tt) x_classCount x_bodyCount x_draftCount x_wrongPlace x_madeCount x_frameCount x_current x_next x_inHand x_mode x_outcome x_stepCount x_atWork x_mostAtWork x_saidCount (nI t) n (nI i) x_classParent x_classFields x_bound x_tokenKind x_tokenValue x_globals x_thingShown x_thingClass f x_thingToken x_thingMaker x_variables x_homeOf x_within x_foundIn x_baseFrame x_frameToken x_frameStage x_frameLink x_operands x_saidValues mk td) (fun i f => f = mk_c x_thingFields (tt * 4) i 10000000000) 4 x_thingFields (mk_c0 _ _ _).symm ?_ ?_
    · intro n f I
      subst I
      refine br_t (by decide) ⟨vt, ?_⟩
      rw [tc]
      exact nm_e ⟨vt, nm_e ⟨vt, nm_e (nm_e (h2 mk td t tt mi q t1 t2))⟩⟩
    · intro n i f hi I k
      subst I
      have e : nI tt * (4 : Int32) + nI i = nI (tt * 4 + i) := ix_r 4 tt i
      refine br_f (nI_ge (b := 4) hi (by decide)) ⟨by rw [e]; exact vp_in_nI (by omega) (by decide), ?_⟩
      rw [e, nI_clamp (show tt * 4 + i < 2 ^ 31 by omega)]
      exact nm_r (mk_cs _ _ _ _) (nm_r (nI_1 i) (k _ rfl))
  refine ⟨25, ?_⟩
  have key : ∀ d i f, i + d = tt → d < f → wX_makeThing_18 post p0 c x_classCount x_bodyCount x_draftCount x_wrongPlace x_madeCount x_frameCount x_current x_next x_inHand x_mode x_outcome x_stepCount x_atWork x_mostAtWork x_saidCount (nI t) x_classParent x_classFields x_bound x_tokenKind x_tokenValue x_globals x_thingShown x_thingClass x_thingFields x_thingToken x_thingMaker x_variables x_homeOf x_within x_foundIn x_baseFrame x_frameToken x_frameStage x_frameLink x_operands x_saidValues mk td f (nI i) := by
    intro d
    induction d with
    | zero =>
      intro i f e hf
      obtain ⟨f', rfl⟩ : ∃ f', f = f' + 1 := ⟨f - 1, by omega⟩
      obtain rfl : i = tt := by omega
      refine br_c (fun _ => l44) (fun _ => ⟨vp_in_nI (by omega) (by decide), br_t ?_ l44⟩)
      rw [tc]
      exact (mb i (by omega)).resolve_right t2
    | succ d ih =>
      intro i f e hf
      obtain ⟨f', rfl⟩ : ∃ f', f = f' + 1 := ⟨f - 1, by omega⟩
      refine br_f (nI_ge (b := 23) (by omega) (by decide)) ⟨vp_in_nI (by omega) (by decide), br_f ?_ (nm_r (nI_1 i) (ih (i + 1) f' (by omega) (by omega)))⟩
      rw [nI_clamp (by omega), t3 i (by omega)]
      decide
  exact key tt 0 25 (by omega) (by omega)
theorem ym_make {post : Int32 → SY → Prop} {c : Int32} {wt wk : Nat} (hw : y_waiting = nI wt) (hwt : wt ≤ 500) (hk : y_working = nI wk) (hwk : wk ≤ 12) (hgl : ∀ k, k < 4 → vv_V (y_globals k)) (hop : ∀ k, k < wt → vv_V (y_operands k)) (hwo : ∀ k, k < wk → ∃ a, a < 160 ∧ y_work k = nI a) (Y : hp_Y y_cells y_self y_args y_temps y_param y_keeps y_within)
    (h1 : ∀ mk td, (∀ n, n < 192 → (mk n = 1 ↔ cl_r (gy_R y_globals y_operands wt y_work wk) (gy_E y_sort y_keeps y_cells y_within y_self y_args y_temps y_param) n)) → ¬ ct_n (fun k => mk k = 1) 32 < 24 → post (-1) (y_classes, y_bodies, y_fault, y_made, y_working, y_peak, y_steps, y_depth, y_waiting, y_code, y_running, y_has, y_got, nI 0, nI (ct_n (fun k => mk k = 1) 32), y_shown, y_spoken, y_parent, y_fields, y_bound, y_kind, y_word, y_size, y_sort, y_number, y_stands, y_keeps, y_cells, y_globals, y_within, y_foundIn, y_self, y_args, y_temps, y_param, y_live, y_work, y_under, y_at, y_in, y_phase, y_base, y_goal, y_operands, mk, td, y_heard))
    (h2 : ∀ mk td kk, (∀ n, n < 192 → (mk n = 1 ↔ cl_r (gy_R y_globals y_operands wt y_work wk) (gy_E y_sort y_keeps y_cells y_within y_self y_args y_temps y_param) n)) → ct_n (fun k => mk k = 1) 32 < 24 → kk < 32 → ¬ mk kk = 1 → post (nI kk) (y_classes, y_bodies, y_fault, y_made + 1, y_working, y_peak, y_steps, y_depth, y_waiting, y_code, y_running, y_has, y_got, nI 0, nI (ct_n (fun k => mk k = 1) 32), y_shown, y_spoken, y_parent, y_fields, y_bound, y_kind, y_word, y_size, upd y_sort kk c, upd y_number kk y_made, y_stands, y_keeps, mk_c y_cells (4 * kk) 4 4294967296, y_globals, y_within, y_foundIn, y_self, y_args, y_temps, y_param, y_live, y_work, y_under, y_at, y_in, y_phase, y_base, y_goal, y_operands, mk, td, y_heard)) : wpY_make post (y_classes, y_bodies, y_fault, y_made, y_working, y_peak, y_steps, y_depth, y_waiting, y_code, y_running, y_has, y_got, y_todos, y_marks, y_shown, y_spoken, y_parent, y_fields, y_bound, y_kind, y_word, y_size, y_sort, y_number, y_stands, y_keeps, y_cells, y_globals, y_within, y_foundIn, y_self, y_args, y_temps, y_param, y_live, y_work, y_under, y_at, y_in, y_phase, y_base, y_goal, y_operands, y_marked, y_todo, y_heard) c := by
  unfold wpY_make
  dsimp only
  refine ym_all hw hwt hk hwk hgl hop hwo Y fun mk td mb mi => ?_
  have cl := ct_le (fun k => mk k = 1) 32
  refine pk_lt (ct_n (fun k => mk k = 1) 32) 24 (fun q => ?_) (fun q => h1 mk td mi (by omega))
  obtain ⟨tt, t1, t2, t3⟩ := ct_first (P := fun k => mk k = 1) (N := 32) (by omega)
  have tc : (nI tt).toNatClampNeg = tt := nI_clamp (by omega)
  have vt : vp_in (nI tt) 32 := vp_in_nI t1 (by decide)
  refine ⟨33, ?_⟩
  have key : ∀ d i f, i + d = tt → d < f → wY_make_17 post c y_classes y_bodies y_fault y_made y_working y_peak y_steps y_depth y_waiting y_code y_running y_has y_got (nI 0) (nI (ct_n (fun k => mk k = 1) 32)) y_shown y_spoken y_parent y_fields y_bound y_kind y_word y_size y_sort y_number y_stands y_keeps y_cells y_globals y_within y_foundIn y_self y_args y_temps y_param y_live y_work y_under y_at y_in y_phase y_base y_goal y_operands mk td y_heard f (nI i) := by
    intro d
    induction d with
    | zero =>
      intro i f e hf
      obtain ⟨f', rfl⟩ : ∃ f', f = f' + 1 := ⟨f - 1, by omega⟩
      obtain rfl : i = tt := by omega
      refine ⟨vp_in_nI (by omega) (by decide), br_t ?_ ⟨vt, ?_⟩⟩
      · rw [tc]; exact (mb i (by omega)).resolve_right t2
      · rw [tc]
        refine nm_e (nm_e ⟨vt, nm_e ?_⟩)
        refine loop_0 (fun n j f => wY_make_58 post (nI i) y_classes y_bodies y_fault (y_made + 1) y_working y_peak y_steps y_depth y_waiting y_code y_running y_has y_got (nI 0) (nI (ct_n (fun k => mk k = 1) 32)) y_shown y_spoken n (nI j) y_parent y_fields y_bound y_kind y_word y_size (upd y_sort i c) (upd y_number i y_made) y_stands y_keeps f y_globals y_within y_foundIn y_self y_args y_temps y_param y_live y_work y_under y_at y_in y_phase y_base y_goal y_operands mk td y_heard) (fun j f => f = mk_c y_cells (4 * i) j 4294967296) 4 y_cells (mk_c0 _ _ _).symm ?_ ?_
        · intro n f I
          subst I
          exact br_t (by decide) (h2 mk td i mi q t1 t2)
        · intro n j f hj I k
          subst I
          have e : (4 : Int32) * nI i + nI j = nI (4 * i + j) := ix_l 4 i j
          refine br_f (nI_ge (b := 4) hj (by decide)) ⟨by rw [e]; exact vp_in_nI (by omega) (by decide), ?_⟩
          rw [e, nI_clamp (show 4 * i + j < 2 ^ 31 by omega)]
          exact nm_r (mk_cs _ _ _ _) (nm_r (nI_1 j) (k _ rfl))
    | succ d ih =>
      intro i f e hf
      obtain ⟨f', rfl⟩ : ∃ f', f = f' + 1 := ⟨f - 1, by omega⟩
      refine ⟨vp_in_nI (by omega) (by decide), br_f ?_ (nm_r (nI_1 i) (ih (i + 1) f' (by omega) (by omega)))⟩
      rw [nI_clamp (by omega), t3 i (by omega)]
      decide
  exact key tt 0 33 (by omega) (by omega)
/-- only what is reached counts -/
theorem hp_shrink {R : Nat → Prop} (H : hp_R cc mc T y_kind lv ST SA τ σ lev ho x_thingShown x_thingClass x_thingFields x_thingToken x_thingMaker x_variables x_homeOf x_within x_foundIn y_sort y_number y_stands y_keeps y_cells y_within y_foundIn y_self y_args y_temps y_param) (A : ∀ n, cl_r R (gy_E y_sort y_keeps y_cells y_within y_self y_args y_temps y_param) n → hp_S ST SA n) : hp_R cc mc T y_kind lv (fun k => k < 32 ∧ cl_r R (gy_E y_sort y_keeps y_cells y_within y_self y_args y_temps y_param) k) (fun a => cl_r R (gy_E y_sort y_keeps y_cells y_within y_self y_args y_temps y_param) (32 + a)) τ σ lev ho x_thingShown x_thingClass x_thingFields x_thingToken x_thingMaker x_variables x_homeOf x_within x_foundIn y_sort y_number y_stands y_keeps y_cells y_within y_foundIn y_self y_args y_temps y_param := by
  have st : ∀ k, k < 32 → cl_r R (gy_E y_sort y_keeps y_cells y_within y_self y_args y_temps y_param) k → ST k := fun k hk c => by
    rcases A k c with ⟨_, z⟩ | ⟨a, e, _⟩
    · exact z
    · omega
  have sa : ∀ a, cl_r R (gy_E y_sort y_keeps y_cells y_within y_self y_args y_temps y_param) (32 + a) → SA a := fun a c => by
    rcases A _ c with ⟨e, _⟩ | ⟨b, e, z⟩
    · omega
    · obtain rfl : a = b := by omega
      exact z
  have val : ∀ {x y : Int64}, hp_v ST (hp_s y_sort y_number) x y → (∀ n, vv_T y n → cl_r R (gy_E y_sort y_keeps y_cells y_within y_self y_args y_temps y_param) n) → hp_v (fun k => k < 32 ∧ cl_r R (gy_E y_sort y_keeps y_cells y_within y_self y_args y_temps y_param) k) (hp_s y_sort y_number) x y := fun h q => hp_v_to h fun k _ ht => ⟨⟨ht.1, q k ht⟩, rfl⟩
  refine ⟨fun k ⟨hk, c⟩ => ?_, fun a c => ?_, fun a b ca cb e => H.2.2.1 a b (sa a ca) (sa b cb) e, fun k l ck cl e => H.2.2.2 k l (st k ck.1 ck.2) (st l cl.1 cl.2) e⟩
  · obtain ⟨k1, k2, k3, k4, k5, k6, k7, k8⟩ := H.1 k (st k hk c)
    refine ⟨k1, k2, k3, k4, k5, k6, fun s => ?_, fun s => ⟨(k8 s).1, fun j hj => val ((k8 s).2 j hj) fun n ht => cl_step c (Or.inr (Or.inl ⟨hk, s, j, hj, ht⟩))⟩⟩
    obtain ⟨p, a, p1, p2, p3, p4, p5, p6, p7⟩ := k7 s
    exact ⟨p, a, p1, p2, p3, p4, p5, cl_step c (Or.inl ⟨hk, s, a, (H.2.1 a p6).1, p5, rfl⟩), p7⟩
  · have s := sa a c
    obtain ⟨k1, k2, k3, k4, k5, k6, k7⟩ := H.2.1 a s
    refine ⟨k1, k2, k3, hp_home H (lev a) a (Nat.le_refl _) s c, k5, k6, ?_⟩
    rcases k7 with ⟨w, a2, a3, a4, a5, v0, v1, v2, v3⟩ | ⟨b, w, sb, b2, b3, b4, b5, b6⟩
    · have wl : y_within a < 0 := by rw [w]; decide
      exact Or.inl ⟨w, a2, a3, a4, a5, val v0 fun n ht => cl_step c (Or.inr (Or.inr (Or.inl ⟨a, rfl, wl, Or.inl ht⟩))), fun j hj => val (v1 j hj) fun n ht => cl_step c (Or.inr (Or.inr (Or.inl ⟨a, rfl, wl, Or.inr (Or.inl ⟨j, hj, ht⟩)⟩))), fun j hj => val (v2 j hj) fun n ht => cl_step c (Or.inr (Or.inr (Or.inl ⟨a, rfl, wl, Or.inr (Or.inr ⟨j, hj, ht⟩)⟩))), v3⟩
    · have hb := (H.2.1 b sb).1
      have wl : ¬ y_within a < 0 := by rw [w]; exact nI_pos (by omega)
      exact Or.inr ⟨b, w, cl_step c (Or.inr (Or.inr (Or.inr ⟨a, rfl, wl, Or.inr ⟨b, hb, w, rfl⟩⟩))), b2, b3, b4, val b5 fun n ht => cl_step c (Or.inr (Or.inr (Or.inr ⟨a, rfl, wl, Or.inl ht⟩))), b6⟩
theorem hp_new {mc' kk tt : Nat} {xsh' xfl' ce' : Nat → Int64} {xcl' xtk' xmr' so' nu' st' kp' : Nat → Int32} (H : hp_R cc mc T y_kind lv ST SA τ σ lev ho x_thingShown x_thingClass x_thingFields x_thingToken x_thingMaker x_variables x_homeOf x_within x_foundIn y_sort y_number y_stands y_keeps y_cells y_within y_foundIn y_self y_args y_temps y_param) (hm : mc ≤ mc') (hk : ¬ ST kk) (ht : ∀ k, ST k → τ k ≠ tt)
    (ex : ∀ t, t ≠ tt → xsh' t = x_thingShown t ∧ xcl' t = x_thingClass t ∧ xtk' t = x_thingToken t ∧ xmr' t = x_thingMaker t ∧ ∀ j, j < 4 → xfl' (t * 4 + j) = x_thingFields (t * 4 + j))
    (ey : ∀ k, k ≠ kk → so' k = y_sort k ∧ nu' k = y_number k ∧ st' k = y_stands k ∧ kp' k = y_keeps k ∧ ∀ j, j < 4 → ce' (4 * k + j) = y_cells (4 * k + j))
    (hn : hp_T cc mc' T y_kind lv (fun k => ST k ∨ k = kk) SA (fun k => if k = kk then tt else τ k) σ lev xsh' xcl' xfl' xtk' xmr' so' nu' st' kp' ce' kk) :
    hp_R cc mc' T y_kind lv (fun k => ST k ∨ k = kk) SA (fun k => if k = kk then tt else τ k) σ lev ho xsh' xcl' xfl' xtk' xmr' x_variables x_homeOf x_within x_foundIn so' nu' st' kp' ce' y_within y_foundIn y_self y_args y_temps y_param ∧
    (∀ k, ST k → hp_s so' nu' k = hp_s y_sort y_number k) ∧ (∀ {x y : Int64}, hp_v ST (hp_s y_sort y_number) x y → hp_v (fun k => ST k ∨ k = kk) (hp_s so' nu') x y) := by
  have ne : ∀ k, ST k → k ≠ kk := fun k h e => hk (e ▸ h)
  have sh : ∀ k, ST k → hp_s so' nu' k = hp_s y_sort y_number k := fun k h => by
    obtain ⟨a1, a2, _⟩ := ey k (ne k h)
    unfold hp_s
    rw [a1, a2]
  have val : ∀ {x y : Int64}, hp_v ST (hp_s y_sort y_number) x y → hp_v (fun k => ST k ∨ k = kk) (hp_s so' nu') x y := fun h => hp_v_to h fun k s _ => ⟨Or.inl s, sh k s⟩
  refine ⟨⟨fun k h => ?_, fun a h => ?_, H.2.2.1, fun k l h1 h2 e => ?_⟩, sh, val⟩
  · by_cases z : k = kk
    · subst z; exact hn
    · have h := h.resolve_right z
      obtain ⟨k1, k2, k3, ⟨n, n1, n2⟩, k5, k6, k7, k8⟩ := H.1 k h
      obtain ⟨y1, y2, y3, y4, y5⟩ := ey k z
      obtain ⟨x1, x2, x3, x4, x5⟩ := ex (τ k) (ht k h)
      have e : (if k = kk then tt else τ k) = τ k := if_neg z
      unfold hp_T
      dsimp only
      rw [e, x1, x2, x3, x4, y1, y2, y3, y4, sh k h]
      refine ⟨k1, k2, k3, ⟨n, by omega, n2⟩, k5, k6, fun s => ?_, fun s => ⟨(k8 s).1, fun j hj => ?_⟩⟩
      · obtain ⟨p, a, p1, p2, p3, p4, p5, p6, p7, p8, p9⟩ := k7 s
        exact ⟨p, a, p1, p2, p3, p4, p5, p6, p7, p8, fun j hj => by rw [x5 j hj]; exact p9 j hj⟩
      · rw [x5 j hj, y5 j hj]
        exact val ((k8 s).2 j hj)
  · obtain ⟨k1, k2, k3, k4, k5, k6, k7⟩ := H.2.1 a h
    refine ⟨k1, k2, k3, k4, k5, k6, ?_⟩
    rcases k7 with ⟨w, a2, a3, a4, a5, v0, v1, v2, v3⟩ | ⟨b, w, sb, b2, b3, b4, b5, b6⟩
    · exact Or.inl ⟨w, a2, a3, a4, a5, val v0, fun j hj => val (v1 j hj), fun j hj => val (v2 j hj), v3⟩
    · exact Or.inr ⟨b, w, sb, b2, b3, b4, val b5, b6⟩
  · dsimp only at e
    by_cases z1 : k = kk
    · by_cases z2 : l = kk
      · rw [z1, z2]
      · rw [if_pos z1, if_neg z2] at e
        exact absurd e.symm (ht l (h2.resolve_right z2))
    · by_cases z2 : l = kk
      · rw [if_neg z1, if_pos z2] at e
        exact absurd e (ht k (h1.resolve_right z1))
      · rw [if_neg z1, if_neg z2] at e
        exact H.2.2.2 k l (h1.resolve_right z1) (h2.resolve_right z2) e
theorem hp_newU {tt : Nat} {v : Int64} (U : hp_U mc x_thingShown) (hv : hp_n v mc) (hm : mc + 1 < 2 ^ 30) : hp_U (mc + 1) (vp_updL x_thingShown tt v) := by
  obtain ⟨u1, u2, u3⟩ := U
  refine ⟨hm, fun t ht n h hn => ?_, fun t t' ht ht' n hn h h' => ?_⟩
  · by_cases z : t = tt
    · subst z; rw [pk_uLs] at h
      have := hp_nn h hv hn (by omega)
      omega
    · rw [pk_uLn z] at h
      have := u2 t ht n h hn
      omega
  · by_cases z : t = tt
    · by_cases z' : t' = tt
      · rw [z, z']
      · subst z
        rw [pk_uLs] at h
        rw [pk_uLn z'] at h'
        have e := hp_nn h hv hn (by omega)
        have := u2 t' ht' n h' hn
        omega
    · by_cases z' : t' = tt
      · subst z'
        rw [pk_uLs] at h'
        rw [pk_uLn z] at h
        have e := hp_nn h' hv hn (by omega)
        have := u2 t ht n h hn
        omega
      · rw [pk_uLn z] at h
        rw [pk_uLn z'] at h'
        exact u3 t t' ht ht' n hn h h'
end
theorem i_vc_create {k : Nat} {u : SX} {v : SY} (I : i_Rel k u v) (hk : k + 5 ≤ 2560) (v1 : Int32) (v2 : Int32) : wpX_create (fun r u' => wpY_create (fun r' v' => r' = r ∧ i_Rel (k + 5) u' v') v v1 v2) u v1 v2 := by
  have J := i_up I
  obtain ⟨x_classCount, x_bodyCount, x_draftCount, x_wrongPlace, x_madeCount, x_frameCount, x_current, x_next, x_inHand, x_mode, x_outcome, x_stepCount, x_atWork, x_mostAtWork, x_saidCount, x_pendingCount, x_classParent, x_classFields, x_bound, x_tokenKind, x_tokenValue, x_globals, x_thingShown, x_thingClass, x_thingFields, x_thingToken, x_thingMaker, x_variables, x_homeOf, x_within, x_foundIn, x_baseFrame, x_frameToken, x_frameStage, x_frameLink, x_operands, x_saidValues, x_marked, x_pending⟩ := u
  obtain ⟨y_classes, y_bodies, y_fault, y_made, y_working, y_peak, y_steps, y_depth, y_waiting, y_code, y_running, y_has, y_got, y_todos, y_marks, y_shown, y_spoken, y_parent, y_fields, y_bound, y_kind, y_word, y_size, y_sort, y_number, y_stands, y_keeps, y_cells, y_globals, y_within, y_foundIn, y_self, y_args, y_temps, y_param, y_live, y_work, y_under, y_at, y_in, y_phase, y_base, y_goal, y_operands, y_marked, y_todo, y_heard⟩ := v
  obtain ⟨cc, bc, dc, mc, T, ST, SA, lv, τ, σ, lev, ho, ⟨rfl, rfl, a3, a4, a5, a6, rfl, rfl, a9⟩, ⟨rfl, h22, rfl, rfl⟩, h3, h4, h5, g, ⟨H, U, Y, X⟩, bf, lv0⟩ := I
  have c4 := h4.1.1
  have c10 := h4.1.2.1
  rcases pk_ix v1 (n := 4) (by decide) with h | h | ⟨j, hj, rfl⟩
  · exact br_t h (br_t rfl (br_t h (br_t rfl ⟨rfl, J⟩)))
  · have h0 : ¬ v1 < 0 := Int32.not_lt.mpr (Int32.le_trans (by decide) h)
    exact br_f h0 (br_t h (br_t rfl (br_f h0 (br_t h (br_t rfl ⟨rfl, J⟩)))))
  · have h0 : ¬ nI j < 0 := nI_pos (by omega)
    have h7 : ¬ (4 : Int32) ≤ nI j := nI_ge (b := 4) hj (by decide)
    have jc : (nI j).toNatClampNeg = j := nI_clamp (by omega)
    have vj : vp_in (nI j) 4 := vp_in_nI hj (by decide)
    refine br_f h0 (br_f h7 (br_f (by decide) ?_))
    have goY : ∀ post : Int32 → SY → Prop, _ → wpY_create post (nI cc, y_bodies, y_fault, nI mc, 0, y_peak, y_steps, y_depth, 0, y_code, y_running, y_has, y_got, y_todos, y_marks, y_shown, y_spoken, y_parent, y_fields, y_bound, y_kind, y_word, y_size, y_sort, y_number, y_stands, y_keeps, y_cells, y_globals, y_within, y_foundIn, y_self, y_args, y_temps, y_param, y_live, y_work, y_under, y_at, y_in, y_phase, y_base, y_goal, y_operands, y_marked, y_todo, y_heard) (nI j) v2 := fun post h => br_f h0 (br_f h7 (br_f (by decide) h))
    rcases xw_made c4 c10 v2 with ⟨mX, mY⟩ | ⟨c, hc, rfl, hc2, mX, mY⟩
    · exact mX _ (br_t rfl (goY _ (mY _ (br_t rfl ⟨rfl, J⟩))))
    · refine mX _ (br_f (by decide) ?_)
      obtain ⟨A, B⟩ := hp_roots (fc := 0) (wt := 0) (wk := 0) (x_operands := x_operands) (y_operands := y_operands) (x_baseFrame := x_baseFrame) (y_work := y_work) U H g (fun j hj => by omega) (fun i hi => by omega) (fun j hj => by omega) (fun b hb z => absurd (bf b hb) z)
      have cnt := hp_count H A B
      have full : ∀ mk td t mk' td', ¬ ct_n (fun k => mk k = 1) 24 < 24 → i_Rel (k + 5) (nI cc, x_bodyCount, x_draftCount, x_wrongPlace, nI mc, 0, x_current, x_next, x_inHand, x_mode, x_outcome, x_stepCount, x_atWork, x_mostAtWork, x_saidCount, nI t, x_classParent, x_classFields, x_bound, x_tokenKind, x_tokenValue, x_globals, x_thingShown, x_thingClass, x_thingFields, x_thingToken, x_thingMaker, x_variables, x_homeOf, x_within, x_foundIn, x_baseFrame, x_frameToken, x_frameStage, x_frameLink, x_operands, x_saidValues, mk, td) (nI cc, y_bodies, y_fault, nI mc, 0, y_peak, y_steps, y_depth, 0, y_code, y_running, y_has, y_got, nI 0, nI (ct_n (fun k => mk' k = 1) 32), y_shown, y_spoken, y_parent, y_fields, y_bound, y_kind, y_word, y_size, y_sort, y_number, y_stands, y_keeps, y_cells, y_globals, y_within, y_foundIn, y_self, y_args, y_temps, y_param, y_live, y_work, y_under, y_at, y_in, y_phase, y_base, y_goal, y_operands, mk', td', y_heard) := fun mk td t mk' td' _ =>
        ⟨cc, bc, dc, mc, T, ST, SA, lv, τ, σ, lev, ho, ⟨rfl, rfl, a3, a4, a5, a6, rfl, rfl, a9⟩, ⟨rfl, h22, rfl, rfl⟩, h3, h4, by omega, g, ⟨H, U, Y, X⟩, bf, lv0⟩
      refine xm_make (fc := 0) rfl (by decide) X.1 X.2 (fun mk td t mi q => br_t rfl (goY _ (mY _ (br_f (by decide) ?_)))) (fun mk td t tt mi q t1 t2 => br_f (gx_m1 (by omega)) ?_)
      · refine ym_make (wt := 0) (wk := 0) rfl (by decide) rfl (by decide) (fun i hi => hp_v_V (g i hi)) (fun i hi => by omega) (fun i hi => by omega) Y (fun mk' td' mi' q' => br_f (by decide) ⟨rfl, full mk td t mk' td' q⟩) (fun mk' td' kk mi' q' => ?_)
        have e1 := ct_eq (N := 24) (fun n (hn : n < 24) => mi n (by omega))
        have e2 := ct_eq (N := 32) (fun n (hn : n < 32) => mi' n (by omega))
        omega
      · have tc : (nI tt).toNatClampNeg = tt := nI_clamp (by omega)
        have em : nI mc + 1 - 1 = nI mc := by rw [nI_1]; exact nI_pred mc
        have mcl := U.1
        dsimp only
        rw [tc, jc, em, pk_uLs, nI_l (by omega), show (20000000000 : Int64) = lN 20000000000 by decide, lN_add]
        refine ⟨vp_in_nI t1 (by decide), vj, nm_e (goY _ (mY _ (br_f (by decide) ?_)))⟩
        refine ym_make (wt := 0) (wk := 0) rfl (by decide) rfl (by decide) (fun i hi => hp_v_V (g i hi)) (fun i hi => by omega) (fun i hi => by omega) Y (fun mk' td' mi' q' => ?_) (fun mk' td' kk mi' q' k1 k2 => br_t (nI_pos' (by omega)) ?_)
        · have e1 := ct_eq (N := 24) (fun n (hn : n < 24) => mi n (by omega))
          have e2 := ct_eq (N := 32) (fun n (hn : n < 32) => mi' n (by omega))
          omega
        · have kc : (nI kk).toNatClampNeg = kk := nI_clamp (by omega)
          rw [kc, jc, pk_us, nI_l (by omega), show (8589934592 : Int64) = lN 8589934592 by decide, lN_add]
          refine ⟨vj, nm_e ⟨vp_in_nI k1 (by decide), rfl, ?_⟩⟩
          have H1 := hp_shrink H (fun n cn => (A n cn).1)
          have c3 : ¬ nI c = 3 := fun z => by have := (nI_eq (b := 3) (by omega) (by decide)).mp z; omega
          obtain ⟨H2, sh, val⟩ := hp_new (kk := kk) (tt := tt) (mc' := mc + 1) (xsh' := vp_updL x_thingShown tt (lN (20000000000 + mc))) (xfl' := mk_c x_thingFields (tt * 4) 4 10000000000) (ce' := mk_c y_cells (4 * kk) 4 4294967296) (xcl' := upd x_thingClass tt (nI c)) (xtk' := x_thingToken) (xmr' := upd x_thingMaker tt (-1)) (so' := upd y_sort kk (nI c)) (nu' := upd y_number kk (nI mc)) (st' := y_stands) (kp' := y_keeps) H1 (by omega) (fun z => k2 ((mi' kk (by omega)).mpr z.2)) (fun k' z e => t2 ((mi tt (by omega)).mpr (by
              have q := (A k' z.2).2
              rw [hp_f1 z.1, e] at q
              exact q)))
            (fun t ht => ⟨pk_uLn ht, pk_un ht, rfl, pk_un ht, fun i hi => mk_co (by omega)⟩)
            (fun k' hk' => ⟨pk_un hk', pk_un hk', rfl, rfl, fun i hi => mk_co (by omega)⟩) (by
              have ht : (if kk = kk then tt else τ kk) = tt := if_pos rfl
              unfold hp_T
              dsimp only
              rw [ht, pk_us, pk_us, pk_us, pk_us, pk_uLs]
              refine ⟨k1, t1, ⟨c, hc, rfl⟩, ⟨mc, by omega, rfl⟩, ?_, rfl, fun z => absurd z c3, fun _ => ⟨rfl, fun i hi => ?_⟩⟩
              · unfold hp_s
                rw [pk_us, if_neg c3, pk_us, nI_clamp (by omega)]
              · rw [mk_ci (by omega) (by omega), mk_ci (by omega) (by omega)]
                exact ⟨.inr none, fun l e => (by cases e), rfl, rfl⟩)
          refine ⟨cc, bc, dc, mc + 1, T, _, _, lv, _, σ, lev, ho, ⟨rfl, rfl, a3, a4, a5, a6, nI_1 mc, nI_1 mc, a9⟩, ⟨rfl, h22, rfl, rfl⟩, h3, h4, by omega, fun i hi => ?_, ⟨H2, hp_newU U (Or.inl rfl) (by omega), ?_, ?_⟩, bf, lv0⟩
          · by_cases z : i = j
            · subst z
              rw [pk_uLs, pk_uLs]
              refine ⟨.inr (some kk), fun l e => by cases e; exact ⟨k1, Or.inr rfl⟩, ?_, rfl⟩
              show _ = hp_s _ _ kk
              unfold hp_s
              rw [pk_us, if_neg c3, pk_us, nI_clamp (by omega)]
            · rw [pk_uLn z, pk_uLn z]
              exact val (hp_v_to (g i hi) fun k' _ ht => ⟨⟨ht.1, cl_root (Or.inl ⟨i, hi, ht⟩)⟩, rfl⟩)
          · obtain ⟨y1, y2⟩ := Y
            refine ⟨fun i hi => ?_, y2⟩
            by_cases z : 4 * kk ≤ i ∧ i < 4 * kk + 4
            · rw [mk_ci z.1 z.2]
              exact ⟨.inr none, fun l e => (by cases e), rfl⟩
            · rw [mk_co (by omega)]
              exact y1 i hi
          · refine ⟨fun t ht => ?_, X.2⟩
            by_cases z : t = tt
            · subst z; rw [pk_us]; exact Or.inl rfl
            · rw [pk_un z]; exact X.1 t ht
end
section
/-! the constructors -/
def zf_a (n : Nat) (v : Int32) : Nat → Int32 := fun j => if j < n then v else 0
def zf_b (n : Nat) (v : Int64) : Nat → Int64 := fun j => if j < n then v else 0
theorem zf_a0 (v : Int32) : zf_a 0 v = fun _ => 0 := by funext j; unfold zf_a; rw [if_neg (by omega)]
theorem zf_b0 (v : Int64) : zf_b 0 v = fun _ => 0 := by funext j; unfold zf_b; rw [if_neg (by omega)]
theorem zf_as (n : Nat) (v : Int32) : upd (zf_a n v) n v = zf_a (n + 1) v := by
  funext j
  unfold upd zf_a
  by_cases h : j = n
  · rw [if_pos h, if_pos (by omega)]
  · rw [if_neg h]
    by_cases q : j < n
    · rw [if_pos q, if_pos (by omega)]
    · rw [if_neg q, if_neg (by omega)]
theorem zf_bs (n : Nat) (v : Int64) : vp_updL (zf_b n v) n v = zf_b (n + 1) v := by
  funext j
  unfold vp_updL zf_b
  by_cases h : j = n
  · rw [if_pos h, if_pos (by omega)]
  · rw [if_neg h]
    by_cases q : j < n
    · rw [if_pos q, if_pos (by omega)]
    · rw [if_neg q, if_neg (by omega)]
theorem zf_ai {n j : Nat} {v : Int32} (h : j < n) : zf_a n v j = v := if_pos h
theorem zf_bi {n j : Nat} {v : Int64} (h : j < n) : zf_b n v j = v := if_pos h
section
variable {x_classCount x_bodyCount x_draftCount x_wrongPlace x_madeCount x_frameCount x_current x_next x_mode x_outcome x_stepCount x_atWork x_mostAtWork x_saidCount x_pendingCount : Int32} {x_inHand : Int64} {x_classParent x_classFields x_bound x_tokenKind x_tokenValue x_thingClass x_thingToken x_thingMaker x_homeOf x_within x_foundIn x_baseFrame x_frameToken x_frameStage x_frameLink x_marked x_pending : Nat → Int32} {x_globals x_thingShown x_thingFields x_variables x_operands x_saidValues : Nat → Int64}
variable {y_classes y_bodies y_fault y_made y_working y_peak y_steps y_depth y_waiting y_code y_running y_has y_todos y_marks y_spoken : Int32} {y_got y_shown : Int64} {y_parent y_fields y_bound y_kind y_word y_size y_sort y_number y_stands y_keeps y_within y_foundIn y_live y_work y_under y_at y_in y_phase y_base y_goal y_marked y_todo : Nat → Int32} {y_cells y_globals y_self y_args y_temps y_param y_operands y_heard : Nat → Int64}
theorem xi_init {post : SX → Prop} (h : post (x_classCount, x_bodyCount, x_draftCount, x_wrongPlace, x_madeCount, x_frameCount, x_current, x_next, x_inHand, x_mode, x_outcome, x_stepCount, x_atWork, x_mostAtWork, x_saidCount, x_pendingCount, x_classParent, x_classFields, zf_a 120 (-1), x_tokenKind, x_tokenValue, zf_b 4 10000000000, x_thingShown, x_thingClass, x_thingFields, x_thingToken, x_thingMaker, x_variables, x_homeOf, x_within, x_foundIn, zf_a 128 (-1), x_frameToken, x_frameStage, x_frameLink, x_operands, x_saidValues, x_marked, x_pending)) : ∃ n, wX_init_292 post x_classCount x_bodyCount x_draftCount x_wrongPlace x_madeCount x_frameCount x_current x_next x_inHand x_mode x_outcome x_stepCount x_atWork x_mostAtWork x_saidCount x_pendingCount n 0 x_classParent x_classFields (fun _ => 0) x_tokenKind x_tokenValue (fun _ => 0) x_thingShown x_thingClass x_thingFields x_thingToken x_thingMaker x_variables x_homeOf x_within x_foundIn (fun _ => 0) x_frameToken x_frameStage x_frameLink x_operands x_saidValues x_marked x_pending := by
  refine loop_0 (fun n i f => wX_init_292 post x_classCount x_bodyCount x_draftCount x_wrongPlace x_madeCount x_frameCount x_current x_next x_inHand x_mode x_outcome x_stepCount x_atWork x_mostAtWork x_saidCount x_pendingCount n (nI i) x_classParent x_classFields f x_tokenKind x_tokenValue (fun _ => 0) x_thingShown x_thingClass x_thingFields x_thingToken x_thingMaker x_variables x_homeOf x_within x_foundIn (fun _ => 0) x_frameToken x_frameStage x_frameLink x_operands x_saidValues x_marked x_pending) (fun i f => f = zf_a i (-1)) 120 (fun _ => 0) (zf_a0 _).symm ?_ ?_
  · intro n f I
    subst I
    refine br_t (by decide) ?_
    refine loop_0 (fun n i f => wX_init_313 post x_classCount x_bodyCount x_draftCount x_wrongPlace x_madeCount x_frameCount x_current x_next x_inHand x_mode x_outcome x_stepCount x_atWork x_mostAtWork x_saidCount x_pendingCount n (nI i) x_classParent x_classFields (zf_a 120 (-1)) x_tokenKind x_tokenValue f x_thingShown x_thingClass x_thingFields x_thingToken x_thingMaker x_variables x_homeOf x_within x_foundIn (fun _ => 0) x_frameToken x_frameStage x_frameLink x_operands x_saidValues x_marked x_pending) (fun i f => f = zf_b i 10000000000) 4 (fun _ => 0) (zf_b0 _).symm ?_ ?_
    · intro n f I
      subst I
      refine br_t (by decide) ?_
      refine loop_0 (fun n i f => wX_init_335 post x_classCount x_bodyCount x_draftCount x_wrongPlace x_madeCount x_frameCount x_current x_next x_inHand x_mode x_outcome x_stepCount x_atWork x_mostAtWork x_saidCount x_pendingCount n (nI i) x_classParent x_classFields (zf_a 120 (-1)) x_tokenKind x_tokenValue (zf_b 4 10000000000) x_thingShown x_thingClass x_thingFields x_thingToken x_thingMaker x_variables x_homeOf x_within x_foundIn f x_frameToken x_frameStage x_frameLink x_operands x_saidValues x_marked x_pending) (fun i f => f = zf_a i (-1)) 128 (fun _ => 0) (zf_a0 _).symm ?_ ?_
      · intro n f I
        subst I
        exact br_t (by decide) h
      · intro n i f hi I k
        subst I
        refine br_f (nI_ge (b := 128) hi (by decide)) ⟨vp_in_nI hi (by decide), ?_⟩
        rw [nI_clamp (by omega)]
        exact nm_r (zf_as _ _) (nm_r (nI_1 i) (k _ rfl))
    · intro n i f hi I k
      subst I
      refine br_f (nI_ge (b := 4) hi (by decide)) ⟨vp_in_nI hi (by decide), ?_⟩
      rw [nI_clamp (by omega)]
      exact nm_r (zf_bs _ _) (nm_r (nI_1 i) (k _ rfl))
  · intro n i f hi I k
    subst I
    refine br_f (nI_ge (b := 120) hi (by decide)) ⟨vp_in_nI hi (by decide), ?_⟩
    rw [nI_clamp (by omega)]
    exact nm_r (zf_as _ _) (nm_r (nI_1 i) (k _ rfl))
theorem yi_init {post : SY → Prop} (h : post (y_classes, y_bodies, y_fault, y_made, y_working, y_peak, y_steps, y_depth, y_waiting, y_code, y_running, y_has, y_got, y_todos, y_marks, y_shown, y_spoken, upd (fun _ => 0) 0 (-1), y_fields, zf_a 120 (-1), y_kind, y_word, y_size, y_sort, y_number, y_stands, y_keeps, y_cells, zf_b 4 4294967296, y_within, y_foundIn, y_self, y_args, y_temps, y_param, y_live, y_work, y_under, y_at, y_in, y_phase, y_base, y_goal, y_operands, y_marked, y_todo, y_heard)) : ∃ n, wY_init_280 post y_classes y_bodies y_fault y_made y_working y_peak y_steps y_depth y_waiting y_code y_running y_has y_got y_todos y_marks y_shown y_spoken n 0 (fun _ => 0) y_fields (fun _ => 0) y_kind y_word y_size y_sort y_number y_stands y_keeps y_cells (fun _ => 0) y_within y_foundIn y_self y_args y_temps y_param y_live y_work y_under y_at y_in y_phase y_base y_goal y_operands y_marked y_todo y_heard := by
  refine loop_0 (fun n i f => wY_init_280 post y_classes y_bodies y_fault y_made y_working y_peak y_steps y_depth y_waiting y_code y_running y_has y_got y_todos y_marks y_shown y_spoken n (nI i) (fun _ => 0) y_fields f y_kind y_word y_size y_sort y_number y_stands y_keeps y_cells (fun _ => 0) y_within y_foundIn y_self y_args y_temps y_param y_live y_work y_under y_at y_in y_phase y_base y_goal y_operands y_marked y_todo y_heard) (fun i f => f = zf_a i (-1)) 120 (fun _ => 0) (zf_a0 _).symm ?_ ?_
  · intro n f I
    subst I
    refine br_t (by decide) (nm_e ?_)
    refine loop_0 (fun n i f => wY_init_308 post y_classes y_bodies y_fault y_made y_working y_peak y_steps y_depth y_waiting y_code y_running y_has y_got y_todos y_marks y_shown y_spoken n (nI i) (upd (fun _ => 0) 0 (-1)) y_fields (zf_a 120 (-1)) y_kind y_word y_size y_sort y_number y_stands y_keeps y_cells f y_within y_foundIn y_self y_args y_temps y_param y_live y_work y_under y_at y_in y_phase y_base y_goal y_operands y_marked y_todo y_heard) (fun i f => f = zf_b i 4294967296) 4 (fun _ => 0) (zf_b0 _).symm ?_ ?_
    · intro n f I
      subst I
      exact br_t (by decide) h
    · intro n i f hi I k
      subst I
      refine br_f (nI_ge (b := 4) hi (by decide)) ⟨vp_in_nI hi (by decide), ?_⟩
      rw [nI_clamp (by omega)]
      exact nm_r (zf_bs _ _) (nm_r (nI_1 i) (k _ rfl))
  · intro n i f hi I k
    subst I
    refine br_f (nI_ge (b := 120) hi (by decide)) ⟨vp_in_nI hi (by decide), ?_⟩
    rw [nI_clamp (by omega)]
    exact nm_r (zf_as _ _) (nm_r (nI_1 i) (k _ rfl))
end
theorem vv_V0 : vv_V 0 := ⟨.inl 0, fun k e => (by cases e), by decide⟩
theorem i_vc0 : wpX_init (fun u => wpY_init (fun v => i_Rel 0 u v)) := by
  unfold wpX_init
  refine nm_e (xi_init ?_)
  unfold wpY_init
  refine yi_init ?_
  refine ⟨4, 0, 0, 0, fun _ => False, fun _ => False, fun _ => False, fun _ => 0, fun _ => 0, fun _ => 0, fun _ => 0, fun _ => 0, ⟨rfl, rfl, rfl, rfl, rfl, rfl, rfl, rfl, rfl, rfl, rfl, rfl, rfl, rfl, rfl⟩, ⟨rfl, rfl, rfl, rfl⟩, Or.inr ⟨by decide, rfl⟩, ⟨?_, ?_, ?_, ?_⟩, by omega, fun i hi => ?_, ⟨?_, ?_, ?_, ?_⟩, fun a ha => zf_ai ha, fun a ha => rfl⟩
  · refine ⟨by omega, by omega, pk_us, fun c h1 h2 => ⟨0, h1, ?_⟩, fun c hc => ⟨0, by omega, rfl⟩, rfl⟩
    rw [pk_un (by omega)]; rfl
  · exact ⟨by omega, fun i hi => Or.inl (zf_ai hi)⟩
  · exact ⟨by omega, fun p h => h.elim, fun p h => h.elim, fun b hb => by omega, fun p h => h.elim, fun p j h => h.elim⟩
  · exact ⟨by omega, rfl, fun i hi => by omega⟩
  · rw [zf_bi hi, zf_bi hi]
    exact ⟨.inr none, fun k e => (by cases e), rfl, rfl⟩
  · exact ⟨fun k h => h.elim, fun a h => h.elim, fun a b h => h.elim, fun k l h => h.elim⟩
  · have nz : ∀ n, n < 2 ^ 31 → ¬ hp_n 0 n := fun n hn z => by
      rcases z with e | e
      · have e : lN 0 = lN _ := e
        rw [pk_lEQ (by omega) (by omega)] at e
        omega
      · have e : lN 0 = lN _ := e
        rw [pk_lEQ (by omega) (by omega)] at e
        omega
    exact ⟨by omega, fun t ht n h hn => absurd h (nz n hn), fun t t' _ _ n hn h => absurd h (nz n hn)⟩
  · exact ⟨fun _ _ => vv_V0, fun _ _ => vv_V0, fun _ _ => vv_V0, fun _ _ => vv_V0, fun _ _ => vv_V0, fun _ _ => ⟨0, by omega, rfl⟩, fun _ _ => Or.inr ⟨0, by omega, rfl⟩⟩
  · exact ⟨fun _ _ => Or.inr ⟨0, by omega, rfl⟩, fun _ _ => Or.inr ⟨0, by omega, rfl⟩⟩
end
section
/-! the shape of a BODY -/
def ex_r (nd : Nat → Nat) : Nat → Nat → Nat → Nat
  | 0, m, _ => m
  | n + 1, m, p => if m = 0 then 0 else ex_r nd n (m - 1 + nd p) (p + 1)
theorem ex_r0 {nd : Nat → Nat} : ∀ n p, ex_r nd n 0 p = 0
  | 0, _ => rfl
  | _ + 1, _ => if_pos rfl
theorem ex_rs {nd : Nat → Nat} {n m p : Nat} (h : m ≠ 0) : ex_r nd (n + 1) m p = ex_r nd n (m - 1 + nd p) (p + 1) := if_neg h
theorem ex_r_s {nd : Nat → Nat} : ∀ {n m p : Nat}, ex_r nd n m p = 0 → ∃ n', n' ≤ n ∧ ex_s nd n' m p
  | 0, m, p, h => ⟨0, Nat.le_refl _, h⟩
  | n + 1, m, p, h => by
    by_cases z : m = 0
    · exact ⟨0, by omega, z⟩
    · rw [ex_rs z] at h
      obtain ⟨n', a, b⟩ := ex_r_s h
      exact ⟨n' + 1, by omega, z, b⟩
theorem ex_s_r {nd : Nat → Nat} : ∀ {n' n m p : Nat}, ex_s nd n' m p → n' ≤ n → ex_r nd n m p = 0
  | 0, n, m, p, h, _ => by
    have e : m = 0 := h
    subst e; exact ex_r0 n p
  | n' + 1, 0, m, p, _, hn => by omega
  | n' + 1, n + 1, m, p, h, hn => by
    rw [ex_rs h.1]
    exact ex_s_r h.2 (by omega)
/-- k is a BLOCK around i -/
def sh_P (kd wd : Nat → Int32) (i k : Nat) : Prop := kd k = 12 ∧ ¬ ex_r (tk_nd kd wd) (i - k - 1) 1 (k + 1) = 0
def sh_e (s : Nat) : Option Nat → Int32
  | none => -1
  | some r => nI (s + r)
theorem sh_m1 (s : Nat) : nI s + (-1) = nI s - 1 := by grind
theorem sh_lt {s : Nat} (h : s < 2 ^ 31) : nI s - 1 < nI s := by
  cases s with
  | zero => decide
  | succ s => rw [nI_pred]; exact nI_lt (by omega) h
section
variable {x_classCount x_bodyCount x_draftCount x_wrongPlace x_madeCount x_frameCount x_current x_next x_mode x_outcome x_stepCount x_atWork x_mostAtWork x_saidCount x_pendingCount : Int32} {x_inHand : Int64} {x_classParent x_classFields x_bound x_tokenKind x_tokenValue x_thingClass x_thingToken x_thingMaker x_homeOf x_within x_foundIn x_baseFrame x_frameToken x_frameStage x_frameLink x_marked x_pending : Nat → Int32} {x_globals x_thingShown x_thingFields x_variables x_operands x_saidValues : Nat → Int64}
variable {y_classes y_bodies y_fault y_made y_working y_peak y_steps y_depth y_waiting y_code y_running y_has y_todos y_marks y_spoken : Int32} {y_got y_shown : Int64} {y_parent y_fields y_bound y_kind y_word y_size y_sort y_number y_stands y_keeps y_within y_foundIn y_live y_work y_under y_at y_in y_phase y_base y_goal y_marked y_todo : Nat → Int32} {y_cells y_globals y_self y_args y_temps y_param y_operands y_heard : Nat → Int64}
variable {cc bc dc s : Nat} {T : Nat → Prop} {lv : Nat → Nat} {kd wd : Nat → Int32}
theorem sh_y22 {post : Int32 → Prop} {i : Nat} (hi : i ≤ 32) (hY : ∀ q, q < i → y_kind (384 + q) = kd q ∧ y_word (384 + q) = wd q ∧ tk_ok (kd q) (wd q)) : ∀ (n m q f : Nat), q + n = i → n < f → m + 3 * n < 2 ^ 31 → ((ex_r (tk_nd kd wd) n m q = 0 → post 0) ∧ (¬ ex_r (tk_nd kd wd) n m q = 0 → post 1)) → wY_isAround_22 post (nI (384 + i)) y_classes y_bodies y_fault y_made y_working y_peak y_steps y_depth y_waiting y_code y_running y_has y_got y_todos y_marks y_shown y_spoken y_parent y_fields y_bound y_kind y_word y_size y_sort y_number y_stands y_keeps y_cells y_globals y_within y_foundIn y_self y_args y_temps y_param y_live y_work y_under y_at y_in y_phase y_base y_goal y_operands y_marked y_todo y_heard f (nI m) (nI (384 + q))
  | n, m, q, 0, _, hf, _, _ => by omega
  | 0, m, q, f + 1, e, hf, hm, h => by
    refine br_t (nI_le (by omega) (by omega)) ?_
    by_cases z : m = 0
    · subst z
      exact br_t (by decide) (h.1 rfl)
    · exact br_f (nI_nle (by omega) (by omega)) (h.2 z)
  | n + 1, m, q, f + 1, e, hf, hm, h => by
    refine br_f (nI_ge (by omega) (by omega)) ?_
    by_cases z : m = 0
    · subst z
      exact br_t (by decide) (br_t (by decide) (h.1 (ex_r0 _ _)))
    · obtain ⟨y1, y2, y3⟩ := hY q (by omega)
      refine br_f (nI_nle (by omega) (by omega)) (yw_needs (by omega) (by rw [y1, y2]; exact y3) ?_)
      rw [y1, y2]
      have l3 := tk_need_le y3
      refine nm_r (tk_mm z) (nm_r (nI_1 (384 + q)) ?_)
      rw [ex_rs z] at h
      have := sh_y22 hi hY n (m - 1 + tk_need (kd q) (wd q)) (q + 1) f (by omega) (by omega) (by omega) h
      exact this
theorem sh_x5 {post : Int32 → Prop} {i : Nat} (hi : i ≤ 32) (hs : s + 32 ≤ 416) (hX : ∀ q, q < i → x_tokenKind (s + q) = kd q ∧ x_tokenValue (s + q) = wd q ∧ tk_ok (kd q) (wd q)) : ∀ (n m q f : Nat), q + n = i → n < f → m + 3 * n < 2 ^ 31 → ((ex_r (tk_nd kd wd) n m q = 0 → post 0) ∧ (¬ ex_r (tk_nd kd wd) n m q = 0 → post 1)) → wX_lacksSomething_5 post (nI (s + i)) x_classCount x_bodyCount x_draftCount x_wrongPlace x_madeCount x_frameCount x_current x_next x_inHand x_mode x_outcome x_stepCount x_atWork x_mostAtWork x_saidCount x_pendingCount x_classParent x_classFields x_bound x_tokenKind x_tokenValue x_globals x_thingShown x_thingClass x_thingFields x_thingToken x_thingMaker x_variables x_homeOf x_within x_foundIn x_baseFrame x_frameToken x_frameStage x_frameLink x_operands x_saidValues x_marked x_pending f (nI m) (nI (s + q))
  | n, m, q, 0, _, hf, _, _ => by omega
  | 0, m, q, f + 1, e, hf, hm, h => by
    refine br_t (nI_le (by omega) (by omega)) ?_
    by_cases z : m = 0
    · subst z
      exact br_t (by decide) (h.1 rfl)
    · exact br_f (nI_nle (by omega) (by omega)) (h.2 z)
  | n + 1, m, q, f + 1, e, hf, hm, h => by
    refine br_f (nI_ge (by omega) (by omega)) ?_
    by_cases z : m = 0
    · subst z
      exact br_t (by decide) (br_t (by decide) (h.1 (ex_r0 _ _)))
    · obtain ⟨y1, y2, y3⟩ := hX q (by omega)
      have l3 := tk_need_le y3
      refine br_f (nI_nle (by omega) (by omega)) ⟨vp_in_nI (by omega) (by decide), vp_in_nI (by omega) (by decide), ?_⟩
      rw [nI_clamp (by omega), y1, y2]
      refine xw_needs y3 (nm_r (tk_mm z) (nm_r (nI_1 (s + q)) ?_))
      rw [ex_rs z] at h
      exact sh_x5 hi hs hX n (m - 1 + tk_need (kd q) (wd q)) (q + 1) f (by omega) (by omega) (by omega) h
theorem sh_around {i : Nat} (hi : i < 32) (hs : s + 32 ≤ 416) (hX : ∀ q, q < i → x_tokenKind (s + q) = kd q ∧ x_tokenValue (s + q) = wd q ∧ tk_ok (kd q) (wd q)) (hY : ∀ q, q < i → y_kind (384 + q) = kd q ∧ y_word (384 + q) = wd q ∧ tk_ok (kd q) (wd q)) : ∀ n, n ≤ i → ∀ l, l < 2 ^ 30 →
    ∃ o : Option Nat, (o = none → ct_n (sh_P kd wd i) n ≤ l) ∧ (∀ r, o = some r → r < n ∧ l < ct_n (sh_P kd wd i) n) ∧
    (∀ f (post : Int32 → Prop), n < f → post (sh_e s o) → wX_blockAround_8 post (nI s) (nI (s + i)) x_classCount x_bodyCount x_draftCount x_wrongPlace x_madeCount x_frameCount x_current x_next x_inHand x_mode x_outcome x_stepCount x_atWork x_mostAtWork x_saidCount x_pendingCount x_classParent x_classFields x_bound x_tokenKind x_tokenValue x_globals x_thingShown x_thingClass x_thingFields x_thingToken x_thingMaker x_variables x_homeOf x_within x_foundIn x_baseFrame x_frameToken x_frameStage x_frameLink x_operands x_saidValues x_marked x_pending f (nI l) (nI (s + n) - 1)) ∧
    (∀ f (post : Int32 → Prop), n < f → post (sh_e 384 o) → wY_around_7 post (nI (384 + i)) y_classes y_bodies y_fault y_made y_working y_peak y_steps y_depth y_waiting y_code y_running y_has y_got y_todos y_marks y_shown y_spoken y_parent y_fields y_bound y_kind y_word y_size y_sort y_number y_stands y_keeps y_cells y_globals y_within y_foundIn y_self y_args y_temps y_param y_live y_work y_under y_at y_in y_phase y_base y_goal y_operands y_marked y_todo y_heard f (nI l) (nI (384 + n) - 1)) := by
  intro n
  induction n with
  | zero =>
    intro _ l hl
    refine ⟨none, fun _ => Nat.zero_le _, fun r e => (by cases e), fun f post hf hp => ?_, fun f post hf hp => ?_⟩
    · obtain ⟨f', rfl⟩ : ∃ f', f = f' + 1 := ⟨f - 1, by omega⟩
      exact br_t (sh_lt (by omega)) hp
    · obtain ⟨f', rfl⟩ : ∃ f', f = f' + 1 := ⟨f - 1, by omega⟩
      exact br_t (by decide) hp
  | succ n ih =>
    intro hn l hl
    obtain ⟨x1, x2, x3⟩ := hX n (by omega)
    obtain ⟨y1, y2, y3⟩ := hY n (by omega)
    have eX : nI (s + (n + 1)) - 1 = nI (s + n) := nI_pred (s + n)
    have eY : nI (384 + (n + 1)) - 1 = nI (384 + n) := nI_pred (384 + n)
    have cX : (nI (s + n)).toNatClampNeg = s + n := nI_clamp (by omega)
    have cY : (nI (384 + n)).toNatClampNeg = 384 + n := nI_clamp (by omega)
    have e1 : i - n = (i - n - 1) + 1 := by omega
    have k12 : kd n = 12 → tk_need (kd n) (wd n) = 1 := fun z => by rw [z]; rfl
    have sX : ∀ f (post : Int32 → Prop), ((sh_P kd wd i n → ((l = 0 → post (nI (s + n))) ∧ (l ≠ 0 → wX_blockAround_8 post (nI s) (nI (s + i)) x_classCount x_bodyCount x_draftCount x_wrongPlace x_madeCount x_frameCount x_current x_next x_inHand x_mode x_outcome x_stepCount x_atWork x_mostAtWork x_saidCount x_pendingCount x_classParent x_classFields x_bound x_tokenKind x_tokenValue x_globals x_thingShown x_thingClass x_thingFields x_thingToken x_thingMaker x_variables x_homeOf x_within x_foundIn x_baseFrame x_frameToken x_frameStage x_frameLink x_operands x_saidValues x_marked x_pending f (nI (l - 1)) (nI (s + n) - 1)))) ∧ (¬ sh_P kd wd i n → wX_blockAround_8 post (nI s) (nI (s + i)) x_classCount x_bodyCount x_draftCount x_wrongPlace x_madeCount x_frameCount x_current x_next x_inHand x_mode x_outcome x_stepCount x_atWork x_mostAtWork x_saidCount x_pendingCount x_classParent x_classFields x_bound x_tokenKind x_tokenValue x_globals x_thingShown x_thingClass x_thingFields x_thingToken x_thingMaker x_variables x_homeOf x_within x_foundIn x_baseFrame x_frameToken x_frameStage x_frameLink x_operands x_saidValues x_marked x_pending f (nI l) (nI (s + n) - 1))) → wX_blockAround_8 post (nI s) (nI (s + i)) x_classCount x_bodyCount x_draftCount x_wrongPlace x_madeCount x_frameCount x_current x_next x_inHand x_mode x_outcome x_stepCount x_atWork x_mostAtWork x_saidCount x_pendingCount x_classParent x_classFields x_bound x_tokenKind x_tokenValue x_globals x_thingShown x_thingClass x_thingFields x_thingToken x_thingMaker x_variables x_homeOf x_within x_foundIn x_baseFrame x_frameToken x_frameStage x_frameLink x_operands x_saidValues x_marked x_pending (f + 1) (nI l) (nI (s + (n + 1)) - 1) := fun f post h => by
      rw [eX]
      refine br_f (nI_nlt (by omega) (by omega)) ⟨vp_in_nI (by omega) (by decide), ?_⟩
      rw [cX, x1]
      by_cases z : kd n = 12
      · refine br_t z ⟨i - n + 1, ?_⟩
        refine sh_x5 (by omega) hs hX (i - n) 1 n (i - n + 1) (by omega) (by omega) (by omega) ?_
        have e2 : ex_r (tk_nd kd wd) (i - n) 1 n = ex_r (tk_nd kd wd) (i - n - 1) 1 (n + 1) := by
          rw [e1, ex_rs (by decide)]
          show ex_r _ _ (1 - 1 + tk_need (kd n) (wd n)) _ = _
          rw [k12 z]; rfl
        rw [e2]
        refine ⟨fun q => br_t rfl (nm_r (sh_m1 _) (h.2 fun P => P.2 q)), fun q => br_f (by decide) ?_⟩
        have hh := h.1 ⟨z, q⟩
        by_cases l0 : l = 0
        · subst l0
          exact br_t rfl (hh.1 rfl)
        · refine br_f (nI_ne0 (by omega) (by omega)) (nm_r (show nI l + (-1) = nI (l - 1) from ?_) (nm_r (sh_m1 _) (hh.2 l0)))
          obtain ⟨j, rfl⟩ : ∃ j, l = j + 1 := ⟨l - 1, by omega⟩
          exact pk_m1 j
      · exact br_f z (nm_r (sh_m1 _) (h.2 fun P => z P.1))
    have sY : ∀ f (post : Int32 → Prop), ((sh_P kd wd i n → ((l = 0 → post (nI (384 + n))) ∧ (l ≠ 0 → wY_around_7 post (nI (384 + i)) y_classes y_bodies y_fault y_made y_working y_peak y_steps y_depth y_waiting y_code y_running y_has y_got y_todos y_marks y_shown y_spoken y_parent y_fields y_bound y_kind y_word y_size y_sort y_number y_stands y_keeps y_cells y_globals y_within y_foundIn y_self y_args y_temps y_param y_live y_work y_under y_at y_in y_phase y_base y_goal y_operands y_marked y_todo y_heard f (nI (l - 1)) (nI (384 + n) - 1)))) ∧ (¬ sh_P kd wd i n → wY_around_7 post (nI (384 + i)) y_classes y_bodies y_fault y_made y_working y_peak y_steps y_depth y_waiting y_code y_running y_has y_got y_todos y_marks y_shown y_spoken y_parent y_fields y_bound y_kind y_word y_size y_sort y_number y_stands y_keeps y_cells y_globals y_within y_foundIn y_self y_args y_temps y_param y_live y_work y_under y_at y_in y_phase y_base y_goal y_operands y_marked y_todo y_heard f (nI l) (nI (384 + n) - 1))) → wY_around_7 post (nI (384 + i)) y_classes y_bodies y_fault y_made y_working y_peak y_steps y_depth y_waiting y_code y_running y_has y_got y_todos y_marks y_shown y_spoken y_parent y_fields y_bound y_kind y_word y_size y_sort y_number y_stands y_keeps y_cells y_globals y_within y_foundIn y_self y_args y_temps y_param y_live y_work y_under y_at y_in y_phase y_base y_goal y_operands y_marked y_todo y_heard (f + 1) (nI l) (nI (384 + (n + 1)) - 1) := fun f post h => by
      rw [eY]
      refine br_f (nI_nlt (b := 384) (by omega) (by omega)) ?_
      have no : ∀ r : Int32, r = 0 → ¬ sh_P kd wd i n → _ := fun r e q => br_t (c := r = 0) (B := ∀ x3_53 : Int32, x3_53 = nI l + (-1) → ((nI l = 0 → post (nI (384 + n))) ∧ (¬ nI l = 0 → ∀ x4_55 : Int32, x4_55 = nI (384 + n) + (-1) → wY_around_7 post (nI (384 + i)) y_classes y_bodies y_fault y_made y_working y_peak y_steps y_depth y_waiting y_code y_running y_has y_got y_todos y_marks y_shown y_spoken y_parent y_fields y_bound y_kind y_word y_size y_sort y_number y_stands y_keeps y_cells y_globals y_within y_foundIn y_self y_args y_temps y_param y_live y_work y_under y_at y_in y_phase y_base y_goal y_operands y_marked y_todo y_heard f x3_53 x4_55))) e (nm_r (P := fun z => wY_around_7 post (nI (384 + i)) y_classes y_bodies y_fault y_made y_working y_peak y_steps y_depth y_waiting y_code y_running y_has y_got y_todos y_marks y_shown y_spoken y_parent y_fields y_bound y_kind y_word y_size y_sort y_number y_stands y_keeps y_cells y_globals y_within y_foundIn y_self y_args y_temps y_param y_live y_work y_under y_at y_in y_phase y_base y_goal y_operands y_marked y_todo y_heard f (nI l) z) (sh_m1 (384 + n)) (h.2 q))
      unfold wpY_isAround
      dsimp only
      rw [cY, y1]
      refine ⟨vp_in_nI (by omega) (by decide), ?_⟩
      by_cases z : kd n = 12
      · refine br_t z (nm_r (nI_1 (384 + n)) ⟨i - n, ?_⟩)
        refine sh_y22 (by omega) hY (i - n - 1) 1 (n + 1) (i - n) (by omega) (by omega) (by omega) ?_
        refine ⟨fun q => no 0 rfl fun P => P.2 q, fun q => br_f (by decide) ?_⟩
        have hh := h.1 ⟨z, q⟩
        by_cases l0 : l = 0
        · subst l0
          exact nm_e (br_t rfl (hh.1 rfl))
        · have em : nI l + (-1) = nI (l - 1) := by
            obtain ⟨j, rfl⟩ : ∃ j, l = j + 1 := ⟨l - 1, by omega⟩
            exact pk_m1 j
          exact nm_r em (br_f (nI_ne0 (by omega) (by omega)) (nm_r (sh_m1 _) (hh.2 l0)))
      · refine br_f z (nm_r (nI_1 (384 + n)) ⟨i - n, ?_⟩)
        refine sh_y22 (by omega) hY (i - n - 1) 0 (n + 1) (i - n) (by omega) (by omega) (by omega) ?_
        exact ⟨fun _ => no 0 rfl fun P => z P.1, fun q => absurd (ex_r0 _ _) q⟩
    by_cases P : sh_P kd wd i n
    · have c : ct_n (sh_P kd wd i) (n + 1) = ct_n (sh_P kd wd i) n + 1 := by
        show _ + ct_b _ = _
        rw [ct_bt P]
      by_cases l0 : l = 0
      · subst l0
        refine ⟨some n, fun e => (by cases e), fun r e => by cases e; exact ⟨by omega, by omega⟩, fun f post hf hp => ?_, fun f post hf hp => ?_⟩
        · obtain ⟨f', rfl⟩ : ∃ f', f = f' + 1 := ⟨f - 1, by omega⟩
          exact sX f' post ⟨fun _ => ⟨fun _ => hp, fun z => absurd rfl z⟩, fun z => absurd P z⟩
        · obtain ⟨f', rfl⟩ : ∃ f', f = f' + 1 := ⟨f - 1, by omega⟩
          exact sY f' post ⟨fun _ => ⟨fun _ => hp, fun z => absurd rfl z⟩, fun z => absurd P z⟩
      · obtain ⟨o, o1, o2, o3, o4⟩ := ih (by omega) (l - 1) (by omega)
        refine ⟨o, fun e => by have := o1 e; omega, fun r e => by have := o2 r e; omega, fun f post hf hp => ?_, fun f post hf hp => ?_⟩
        · obtain ⟨f', rfl⟩ : ∃ f', f = f' + 1 := ⟨f - 1, by omega⟩
          exact sX f' post ⟨fun _ => ⟨fun z => absurd z l0, fun _ => o3 f' post (by omega) hp⟩, fun z => absurd P z⟩
        · obtain ⟨f', rfl⟩ : ∃ f', f = f' + 1 := ⟨f - 1, by omega⟩
          exact sY f' post ⟨fun _ => ⟨fun z => absurd z l0, fun _ => o4 f' post (by omega) hp⟩, fun z => absurd P z⟩
    · have c : ct_n (sh_P kd wd i) (n + 1) = ct_n (sh_P kd wd i) n := by
        show _ + ct_b _ = _
        rw [ct_bf P]; rfl
      obtain ⟨o, o1, o2, o3, o4⟩ := ih (by omega) l hl
      refine ⟨o, fun e => by have := o1 e; omega, fun r e => by have := o2 r e; omega, fun f post hf hp => ?_, fun f post hf hp => ?_⟩
      · obtain ⟨f', rfl⟩ : ∃ f', f = f' + 1 := ⟨f - 1, by omega⟩
        exact sX f' post ⟨fun z => absurd z P, fun _ => o3 f' post (by omega) hp⟩
      · obtain ⟨f', rfl⟩ : ∃ f', f = f' + 1 := ⟨f - 1, by omega⟩
        exact sY f' post ⟨fun z => absurd z P, fun _ => o4 f' post (by omega) hp⟩
end
end
section
/-! fits, and the whole of a draft -/
section
variable {x_classCount x_bodyCount x_draftCount x_wrongPlace x_madeCount x_frameCount x_current x_next x_mode x_outcome x_stepCount x_atWork x_mostAtWork x_saidCount x_pendingCount : Int32} {x_inHand : Int64} {x_classParent x_classFields x_bound x_tokenKind x_tokenValue x_thingClass x_thingToken x_thingMaker x_homeOf x_within x_foundIn x_baseFrame x_frameToken x_frameStage x_frameLink x_marked x_pending : Nat → Int32} {x_globals x_thingShown x_thingFields x_variables x_operands x_saidValues : Nat → Int64}
variable {y_classes y_bodies y_fault y_made y_working y_peak y_steps y_depth y_waiting y_code y_running y_has y_todos y_marks y_spoken : Int32} {y_got y_shown : Int64} {y_parent y_fields y_bound y_kind y_word y_size y_sort y_number y_stands y_keeps y_within y_foundIn y_live y_work y_under y_at y_in y_phase y_base y_goal y_marked y_todo : Nat → Int32} {y_cells y_globals y_self y_args y_temps y_param y_operands y_heard : Nat → Int64}
variable {cc bc dc : Nat} {T : Nat → Prop} {lv : Nat → Nat} {kd wd : Nat → Int32}
theorem sh_fits {i : Nat} (hi : i < dc) (h4 : 4 ≤ cc) (h10 : cc ≤ 10) (TT : rl_T cc bc x_tokenKind x_tokenValue y_kind y_word y_size T lv) (b11 : bc < 12) (d32 : dc ≤ 32) (hX : ∀ q, q < dc → x_tokenKind (32 * bc + q) = kd q ∧ x_tokenValue (32 * bc + q) = wd q ∧ tk_ok (kd q) (wd q)) (hY : ∀ q, q < dc → y_kind (384 + q) = kd q ∧ y_word (384 + q) = wd q ∧ tk_ok (kd q) (wd q)) :
    ((∀ post : Int32 → Prop, post 0 → wpX_tokenFits post (nI cc, nI bc, x_draftCount, x_wrongPlace, x_madeCount, x_frameCount, x_current, x_next, x_inHand, x_mode, x_outcome, x_stepCount, x_atWork, x_mostAtWork, x_saidCount, x_pendingCount, x_classParent, x_classFields, x_bound, x_tokenKind, x_tokenValue, x_globals, x_thingShown, x_thingClass, x_thingFields, x_thingToken, x_thingMaker, x_variables, x_homeOf, x_within, x_foundIn, x_baseFrame, x_frameToken, x_frameStage, x_frameLink, x_operands, x_saidValues, x_marked, x_pending) (nI (32 * bc)) (nI (32 * bc + i))) ∧ (∀ post : Int32 → Prop, post 0 → wpY_fits post (nI cc, nI bc, y_fault, y_made, y_working, y_peak, y_steps, y_depth, y_waiting, y_code, y_running, y_has, y_got, y_todos, y_marks, y_shown, y_spoken, y_parent, y_fields, y_bound, y_kind, y_word, y_size, y_sort, y_number, y_stands, y_keeps, y_cells, y_globals, y_within, y_foundIn, y_self, y_args, y_temps, y_param, y_live, y_work, y_under, y_at, y_in, y_phase, y_base, y_goal, y_operands, y_marked, y_todo, y_heard) (nI (384 + i)))) ∨
    (tk_fit cc bc (kd i) (wd i) (ct_n (sh_P kd wd i) i) ∧ (∀ post : Int32 → Prop, post 1 → wpX_tokenFits post (nI cc, nI bc, x_draftCount, x_wrongPlace, x_madeCount, x_frameCount, x_current, x_next, x_inHand, x_mode, x_outcome, x_stepCount, x_atWork, x_mostAtWork, x_saidCount, x_pendingCount, x_classParent, x_classFields, x_bound, x_tokenKind, x_tokenValue, x_globals, x_thingShown, x_thingClass, x_thingFields, x_thingToken, x_thingMaker, x_variables, x_homeOf, x_within, x_foundIn, x_baseFrame, x_frameToken, x_frameStage, x_frameLink, x_operands, x_saidValues, x_marked, x_pending) (nI (32 * bc)) (nI (32 * bc + i))) ∧ (∀ post : Int32 → Prop, post 1 → wpY_fits post (nI cc, nI bc, y_fault, y_made, y_working, y_peak, y_steps, y_depth, y_waiting, y_code, y_running, y_has, y_got, y_todos, y_marks, y_shown, y_spoken, y_parent, y_fields, y_bound, y_kind, y_word, y_size, y_sort, y_number, y_stands, y_keeps, y_cells, y_globals, y_within, y_foundIn, y_self, y_args, y_temps, y_param, y_live, y_work, y_under, y_at, y_in, y_phase, y_base, y_goal, y_operands, y_marked, y_todo, y_heard) (nI (384 + i)))) := by
  obtain ⟨x1, x2, ok⟩ := hX i hi
  obtain ⟨y1, y2, _⟩ := hY i hi
  have vX : vp_in (nI (32 * bc + i)) 416 := vp_in_nI (by omega) (by decide)
  have vY : vp_in (nI (384 + i)) 416 := vp_in_nI (by omega) (by decide)
  have cX : (nI (32 * bc + i)).toNatClampNeg = 32 * bc + i := nI_clamp (by omega)
  have cY : (nI (384 + i)).toNatClampNeg = 384 + i := nI_clamp (by omega)
  have m1X : nI (32 * bc + i) - 1 = nI (32 * bc + i) - 1 := rfl
  have ar := sh_around (x_classCount := nI cc) (x_bodyCount := nI bc) (x_draftCount := x_draftCount) (x_wrongPlace := x_wrongPlace) (x_madeCount := x_madeCount) (x_frameCount := x_frameCount) (x_current := x_current) (x_next := x_next) (x_inHand := x_inHand) (x_mode := x_mode) (x_outcome := x_outcome) (x_stepCount := x_stepCount) (x_atWork := x_atWork) (x_mostAtWork := x_mostAtWork) (x_saidCount := x_saidCount) (x_pendingCount := x_pendingCount) (x_classParent := x_classParent) (x_classFields := x_classFields) (x_bound := x_bound) (x_tokenKind := x_tokenKind) (x_tokenValue := x_tokenValue) (x_globals := x_globals) (x_thingShown := x_thingShown) (x_thingClass := x_thingClass) (x_thingFields := x_thingFields) (x_thingToken := x_thingToken) (x_thingMaker := x_thingMaker) (x_variables := x_variables) (x_homeOf := x_homeOf) (x_within := x_within) (x_foundIn := x_foundIn) (x_baseFrame := x_baseFrame) (x_frameToken := x_frameToken) (x_frameStage := x_frameStage) (x_frameLink := x_frameLink) (x_operands := x_operands) (x_saidValues := x_saidValues) (x_marked := x_marked) (x_pending := x_pending) (y_classes := nI cc) (y_bodies := nI bc) (y_fault := y_fault) (y_made := y_made) (y_working := y_working) (y_peak := y_peak) (y_steps := y_steps) (y_depth := y_depth) (y_waiting := y_waiting) (y_code := y_code) (y_running := y_running) (y_has := y_has) (y_got := y_got) (y_todos := y_todos) (y_marks := y_marks) (y_shown := y_shown) (y_spoken := y_spoken) (y_parent := y_parent) (y_fields := y_fields) (y_bound := y_bound) (y_kind := y_kind) (y_word := y_word) (y_size := y_size) (y_sort := y_sort) (y_number := y_number) (y_stands := y_stands) (y_keeps := y_keeps) (y_cells := y_cells) (y_globals := y_globals) (y_within := y_within) (y_foundIn := y_foundIn) (y_self := y_self) (y_args := y_args) (y_temps := y_temps) (y_param := y_param) (y_live := y_live) (y_work := y_work) (y_under := y_under) (y_at := y_at) (y_in := y_in) (y_phase := y_phase) (y_base := y_base) (y_goal := y_goal) (y_operands := y_operands) (y_marked := y_marked) (y_todo := y_todo) (y_heard := y_heard) (s := 32 * bc) (i := i) (by omega) (by omega) (fun q hq => hX q (by omega)) (fun q hq => hY q (by omega)) i (Nat.le_refl _)
  have ne : ∀ {a b : Nat}, a < 30 → b < 30 → a ≠ b → ¬ nI a = nI b := fun ha hb h z => h ((nI_eq (by omega) (by omega)).mp z)
  obtain ⟨kn, k30, ek, okl, ok28⟩ := ok
  by_cases k12 : kn = 12
  · subst k12
    obtain ⟨o, o1, o2, o3, o4⟩ := ar 2 (by omega)
    have goX : ∀ post : Int32 → Prop, ((sh_e (32 * bc) o = -1 → post 1) ∧ (¬ sh_e (32 * bc) o = -1 → post 0)) → wpX_tokenFits post (nI cc, nI bc, x_draftCount, x_wrongPlace, x_madeCount, x_frameCount, x_current, x_next, x_inHand, x_mode, x_outcome, x_stepCount, x_atWork, x_mostAtWork, x_saidCount, x_pendingCount, x_classParent, x_classFields, x_bound, x_tokenKind, x_tokenValue, x_globals, x_thingShown, x_thingClass, x_thingFields, x_thingToken, x_thingMaker, x_variables, x_homeOf, x_within, x_foundIn, x_baseFrame, x_frameToken, x_frameStage, x_frameLink, x_operands, x_saidValues, x_marked, x_pending) (nI (32 * bc)) (nI (32 * bc + i)) := fun post h => by
      unfold wpX_tokenFits
      dsimp only
      rw [cX, x1, x2, ek]
      exact ⟨vX, nm_e ⟨vX, nm_e (br_t rfl (nm_e ⟨i + 1, o3 _ _ (by omega) h⟩))⟩⟩
    have goY : ∀ post : Int32 → Prop, ((0 ≤ sh_e 384 o → post 0) ∧ (¬ 0 ≤ sh_e 384 o → post 1)) → wpY_fits post (nI cc, nI bc, y_fault, y_made, y_working, y_peak, y_steps, y_depth, y_waiting, y_code, y_running, y_has, y_got, y_todos, y_marks, y_shown, y_spoken, y_parent, y_fields, y_bound, y_kind, y_word, y_size, y_sort, y_number, y_stands, y_keeps, y_cells, y_globals, y_within, y_foundIn, y_self, y_args, y_temps, y_param, y_live, y_work, y_under, y_at, y_in, y_phase, y_base, y_goal, y_operands, y_marked, y_todo, y_heard) (nI (384 + i)) := fun post h => by
      unfold wpY_fits
      dsimp only
      rw [cY, y1, y2, ek]
      exact ⟨vY, nm_e ⟨vY, br_t rfl (nm_e ⟨i + 1, o4 _ _ (by omega) h⟩)⟩⟩
    cases o with
    | none =>
      refine Or.inr ⟨⟨fun _ => o1 rfl, fun z => ?_, fun z => ?_, fun z => ?_⟩, fun post hp => goX post (br_t rfl hp), fun post hp => goY post (br_f (by decide) hp)⟩
      · rw [ek] at z; exact absurd z (by decide)
      · rw [ek] at z; exact absurd z (by decide)
      · rw [ek] at z; exact absurd z (by decide)
    | some r =>
      have hr := o2 r rfl
      exact Or.inl ⟨fun post hp => goX post (br_f (gx_m1 (by omega)) hp), fun post hp => goY post (br_t (nI_pos' (by omega)) hp)⟩
  by_cases k13 : kn = 13
  · subst k13
    obtain ⟨v, v1, ev⟩ := okl (by omega)
    have v3 : v < 3 := v1
    obtain ⟨o, o1, o2, o3, o4⟩ := ar v (by omega)
    have goX : ∀ post : Int32 → Prop, ((sh_e (32 * bc) o = -1 → post 0) ∧ (¬ sh_e (32 * bc) o = -1 → vp_in (sh_e (32 * bc) o) 416 ∧ ((x_tokenValue (sh_e (32 * bc) o).toNatClampNeg = 1 → post 1) ∧ (¬ x_tokenValue (sh_e (32 * bc) o).toNatClampNeg = 1 → post 0)))) → wpX_tokenFits post (nI cc, nI bc, x_draftCount, x_wrongPlace, x_madeCount, x_frameCount, x_current, x_next, x_inHand, x_mode, x_outcome, x_stepCount, x_atWork, x_mostAtWork, x_saidCount, x_pendingCount, x_classParent, x_classFields, x_bound, x_tokenKind, x_tokenValue, x_globals, x_thingShown, x_thingClass, x_thingFields, x_thingToken, x_thingMaker, x_variables, x_homeOf, x_within, x_foundIn, x_baseFrame, x_frameToken, x_frameStage, x_frameLink, x_operands, x_saidValues, x_marked, x_pending) (nI (32 * bc)) (nI (32 * bc + i)) := fun post h => by
      unfold wpX_tokenFits
      dsimp only
      rw [cX, x1, x2, ek, ev]
      exact ⟨vX, nm_e ⟨vX, nm_e (br_f (by decide) (br_t rfl (nm_e ⟨i + 1, o3 _ _ (by omega) h⟩)))⟩⟩
    have goY : ∀ post : Int32 → Prop, ((sh_e 384 o < 0 → post 0) ∧ (¬ sh_e 384 o < 0 → vp_in (sh_e 384 o) 416 ∧ ((y_word (sh_e 384 o).toNatClampNeg = 1 → post 1) ∧ (¬ y_word (sh_e 384 o).toNatClampNeg = 1 → post 0)))) → wpY_fits post (nI cc, nI bc, y_fault, y_made, y_working, y_peak, y_steps, y_depth, y_waiting, y_code, y_running, y_has, y_got, y_todos, y_marks, y_shown, y_spoken, y_parent, y_fields, y_bound, y_kind, y_word, y_size, y_sort, y_number, y_stands, y_keeps, y_cells, y_globals, y_within, y_foundIn, y_self, y_args, y_temps, y_param, y_live, y_work, y_under, y_at, y_in, y_phase, y_base, y_goal, y_operands, y_marked, y_todo, y_heard) (nI (384 + i)) := fun post h => by
      unfold wpY_fits
      dsimp only
      rw [cY, y1, y2, ek, ev]
      exact ⟨vY, nm_e ⟨vY, br_f (by decide) ⟨vY, br_f (by decide) ⟨vY, br_f (by decide) ⟨vY, br_t rfl (nm_e ⟨i + 1, o4 _ _ (by omega) h⟩)⟩⟩⟩⟩⟩
    cases o with
    | none => exact Or.inl ⟨fun post hp => goX post (br_t rfl hp), fun post hp => goY post (br_t (by decide) hp)⟩
    | some r =>
      have hr := o2 r rfl
      have eX : (sh_e (32 * bc) (some r)).toNatClampNeg = 32 * bc + r := nI_clamp (by omega)
      have eY : (sh_e 384 (some r)).toNatClampNeg = 384 + r := nI_clamp (by omega)
      have wX := (hX r (by omega)).2.1
      have wY := (hY r (by omega)).2.1
      rw [eX, wX] at goX
      rw [eY, wY] at goY
      have vrX : vp_in (sh_e (32 * bc) (some r)) 416 := vp_in_nI (by omega) (by decide)
      have vrY : vp_in (sh_e 384 (some r)) 416 := vp_in_nI (by omega) (by decide)
      by_cases w1 : wd r = 1
      · refine Or.inr ⟨⟨fun z => ?_, fun _ => ?_, fun z => ?_, fun z => ?_⟩, fun post hp => goX post (br_f (gx_m1 (by omega)) ⟨vrX, br_t w1 hp⟩), fun post hp => goY post (br_f (nI_pos (by omega)) ⟨vrY, br_t w1 hp⟩)⟩
        · rw [ek] at z; exact absurd z (by decide)
        · rw [ev, nI_clamp (by omega)]; exact hr.2
        · rw [ek] at z; exact absurd z (by decide)
        · rw [ek] at z; exact absurd z (by decide)
      · exact Or.inl ⟨fun post hp => goX post (br_f (gx_m1 (by omega)) ⟨vrX, br_f w1 hp⟩), fun post hp => goY post (br_f (nI_pos (by omega)) ⟨vrY, br_f w1 hp⟩)⟩
  by_cases k25 : kn = 25
  · subst k25
    have goX : ∀ post : Int32 → Prop, wpX_canHaveObjects (fun r_92 => (narrow .boolean (.int r_92) = .int r_92 ∧ (post r_92))) (nI cc, nI bc, x_draftCount, x_wrongPlace, x_madeCount, x_frameCount, x_current, x_next, x_inHand, x_mode, x_outcome, x_stepCount, x_atWork, x_mostAtWork, x_saidCount, x_pendingCount, x_classParent, x_classFields, x_bound, x_tokenKind, x_tokenValue, x_globals, x_thingShown, x_thingClass, x_thingFields, x_thingToken, x_thingMaker, x_variables, x_homeOf, x_within, x_foundIn, x_baseFrame, x_frameToken, x_frameStage, x_frameLink, x_operands, x_saidValues, x_marked, x_pending) (wd i) → wpX_tokenFits post (nI cc, nI bc, x_draftCount, x_wrongPlace, x_madeCount, x_frameCount, x_current, x_next, x_inHand, x_mode, x_outcome, x_stepCount, x_atWork, x_mostAtWork, x_saidCount, x_pendingCount, x_classParent, x_classFields, x_bound, x_tokenKind, x_tokenValue, x_globals, x_thingShown, x_thingClass, x_thingFields, x_thingToken, x_thingMaker, x_variables, x_homeOf, x_within, x_foundIn, x_baseFrame, x_frameToken, x_frameStage, x_frameLink, x_operands, x_saidValues, x_marked, x_pending) (nI (32 * bc)) (nI (32 * bc + i)) := fun post h => by
      unfold wpX_tokenFits
      dsimp only
      rw [cX, x1, x2, ek]
      exact ⟨vX, nm_e ⟨vX, nm_e (br_f (by decide) (br_f (by decide) (br_t rfl h)))⟩⟩
    have goY : ∀ post : Int32 → Prop, wpY_isMade (fun r_113 => (narrow .boolean (.int r_113) = .int r_113 ∧ (post r_113))) (nI cc, nI bc, y_fault, y_made, y_working, y_peak, y_steps, y_depth, y_waiting, y_code, y_running, y_has, y_got, y_todos, y_marks, y_shown, y_spoken, y_parent, y_fields, y_bound, y_kind, y_word, y_size, y_sort, y_number, y_stands, y_keeps, y_cells, y_globals, y_within, y_foundIn, y_self, y_args, y_temps, y_param, y_live, y_work, y_under, y_at, y_in, y_phase, y_base, y_goal, y_operands, y_marked, y_todo, y_heard) (wd i) → wpY_fits post (nI cc, nI bc, y_fault, y_made, y_working, y_peak, y_steps, y_depth, y_waiting, y_code, y_running, y_has, y_got, y_todos, y_marks, y_shown, y_spoken, y_parent, y_fields, y_bound, y_kind, y_word, y_size, y_sort, y_number, y_stands, y_keeps, y_cells, y_globals, y_within, y_foundIn, y_self, y_args, y_temps, y_param, y_live, y_work, y_under, y_at, y_in, y_phase, y_base, y_goal, y_operands, y_marked, y_todo, y_heard) (nI (384 + i)) := fun post h => by
      unfold wpY_fits
      dsimp only
      rw [cY, y1, y2, ek]
      exact ⟨vY, nm_e ⟨vY, br_f (by decide) ⟨vY, br_t rfl h⟩⟩⟩
    rcases xw_made h4 h10 (wd i) with ⟨mX, mY⟩ | ⟨c, c1, c2, c3, mX, mY⟩
    · exact Or.inl ⟨fun post hp => goX post (mX _ ⟨rfl, hp⟩), fun post hp => goY post (mY _ ⟨rfl, hp⟩)⟩
    · refine Or.inr ⟨⟨fun z => ?_, fun z => ?_, fun _ => ⟨c, c1, c2, c3⟩, fun z => ?_⟩, fun post hp => goX post (mX _ ⟨rfl, hp⟩), fun post hp => goY post (mY _ ⟨rfl, hp⟩)⟩
      · rw [ek] at z; exact absurd z (by decide)
      · rw [ek] at z; exact absurd z (by decide)
      · rw [ek] at z; exact absurd z (by decide)
  by_cases k28 : kn = 28
  · subst k28
    obtain ⟨w, w1, w2, w3, ew⟩ := ok28 rfl
    have wl : w < 2 ^ 31 := by omega
    have f2 : (nI w / 16) - (nI w / 16) / 16 * 16 = nI (w / 16 % 16) := by rw [tk_d16 wl, tk_r16 (by omega)]
    have e2 : (nI w >>> ((4 : Int32) &&& 31)) &&& 15 = nI (w / 16 % 16) := by rw [tk_shr4 wl, tk_and15 (by omega)]
    have goX : ∀ post : Int32 → Prop, wpX_isClass (fun r => (r = 0 → post 0) ∧ (¬ r = 0 → (nI bc ≤ nI (w % 16) → post 0) ∧ (¬ nI bc ≤ nI (w % 16) → wpX_usesArgFrom (fun q => (q = 0 → post 1) ∧ (¬ q = 0 → post 0)) (nI cc, nI bc, x_draftCount, x_wrongPlace, x_madeCount, x_frameCount, x_current, x_next, x_inHand, x_mode, x_outcome, x_stepCount, x_atWork, x_mostAtWork, x_saidCount, x_pendingCount, x_classParent, x_classFields, x_bound, x_tokenKind, x_tokenValue, x_globals, x_thingShown, x_thingClass, x_thingFields, x_thingToken, x_thingMaker, x_variables, x_homeOf, x_within, x_foundIn, x_baseFrame, x_frameToken, x_frameStage, x_frameLink, x_operands, x_saidValues, x_marked, x_pending) (nI (w % 16)) (nI (w / 16 % 16 / 4))))) (nI cc, nI bc, x_draftCount, x_wrongPlace, x_madeCount, x_frameCount, x_current, x_next, x_inHand, x_mode, x_outcome, x_stepCount, x_atWork, x_mostAtWork, x_saidCount, x_pendingCount, x_classParent, x_classFields, x_bound, x_tokenKind, x_tokenValue, x_globals, x_thingShown, x_thingClass, x_thingFields, x_thingToken, x_thingMaker, x_variables, x_homeOf, x_within, x_foundIn, x_baseFrame, x_frameToken, x_frameStage, x_frameLink, x_operands, x_saidValues, x_marked, x_pending) (nI (w / 256)) → wpX_tokenFits post (nI cc, nI bc, x_draftCount, x_wrongPlace, x_madeCount, x_frameCount, x_current, x_next, x_inHand, x_mode, x_outcome, x_stepCount, x_atWork, x_mostAtWork, x_saidCount, x_pendingCount, x_classParent, x_classFields, x_bound, x_tokenKind, x_tokenValue, x_globals, x_thingShown, x_thingClass, x_thingFields, x_thingToken, x_thingMaker, x_variables, x_homeOf, x_within, x_foundIn, x_baseFrame, x_frameToken, x_frameStage, x_frameLink, x_operands, x_saidValues, x_marked, x_pending) (nI (32 * bc)) (nI (32 * bc + i)) := fun post h => by
      unfold wpX_tokenFits
      dsimp only
      rw [cX, x1, x2, ek, ew]
      refine ⟨vX, nm_e ⟨vX, nm_e (br_f (by decide) (br_f (by decide) (br_f (by decide) (br_t rfl ⟨by decide, ?_⟩))))⟩⟩
      rw [tk_d256 wl, tk_r16 wl, f2, tk_div4 (by omega)]
      rcases Nat.lt_or_ge (w / 256) cc with q | q
      · have h' := (h.2 (nI_pos (by omega))).2 (nI_ge q (by omega))
        exact br_f (nI_pos (by omega)) (br_f (nI_ge q (by omega)) (br_f (by decide) ⟨by decide, (h'.2 (by decide)).1, fun z => ⟨by decide, by decide, by decide, by decide, (h'.2 (by decide)).2 z⟩⟩))
      · have h' := (h.2 (nI_pos (by omega))).1 (nI_le q (by omega))
        exact br_f (nI_pos (by omega)) (br_t (nI_le q (by omega)) (br_t rfl (h'.1 rfl)))
    have goY : ∀ post : Int32 → Prop, ((nI cc ≤ nI (w / 256) → post 0) ∧ (¬ nI cc ≤ nI (w / 256) → (nI bc ≤ nI (w % 16) → post 0) ∧ (¬ nI bc ≤ nI (w % 16) → wpY_suits (fun q => (q = 0 → post 0) ∧ (¬ q = 0 → post 1)) (nI cc, nI bc, y_fault, y_made, y_working, y_peak, y_steps, y_depth, y_waiting, y_code, y_running, y_has, y_got, y_todos, y_marks, y_shown, y_spoken, y_parent, y_fields, y_bound, y_kind, y_word, y_size, y_sort, y_number, y_stands, y_keeps, y_cells, y_globals, y_within, y_foundIn, y_self, y_args, y_temps, y_param, y_live, y_work, y_under, y_at, y_in, y_phase, y_base, y_goal, y_operands, y_marked, y_todo, y_heard) (nI (w % 16)) (nI (w / 16 % 16))))) → wpY_fits post (nI cc, nI bc, y_fault, y_made, y_working, y_peak, y_steps, y_depth, y_waiting, y_code, y_running, y_has, y_got, y_todos, y_marks, y_shown, y_spoken, y_parent, y_fields, y_bound, y_kind, y_word, y_size, y_sort, y_number, y_stands, y_keeps, y_cells, y_globals, y_within, y_foundIn, y_self, y_args, y_temps, y_param, y_live, y_work, y_under, y_at, y_in, y_phase, y_base, y_goal, y_operands, y_marked, y_todo, y_heard) (nI (384 + i)) := fun post h => by
      unfold wpY_fits
      dsimp only
      rw [cY, y1, y2, ek, ew]
      refine ⟨vY, nm_e ⟨vY, br_f (by decide) ⟨vY, br_f (by decide) ⟨vY, br_t rfl ?_⟩⟩⟩⟩
      rw [tk_shr8 wl, tk_and15 wl, e2]
      exact h
    rcases Nat.lt_or_ge (w / 256) cc with q | q
    · have q1 : ¬ nI cc ≤ nI (w / 256) := nI_ge q (by omega)
      have q0 : ¬ nI (w / 256) < 0 := nI_pos (by omega)
      rcases Nat.lt_or_ge (w % 16) bc with p | p
      · have p1 : ¬ nI bc ≤ nI (w % 16) := nI_ge p (by omega)
        rcases xw_uses TT p (show w / 16 % 16 < 2 ^ 31 by omega) with ⟨uX, uY⟩ | ⟨uX, uY⟩
        · refine Or.inr ⟨⟨fun z => ?_, fun z => ?_, fun z => ?_, fun _ => ?_⟩, fun post hp => goX post (br_f q0 (br_f q1 (br_f (by decide) (br_f p1 (uX _ (br_t rfl hp)))))), fun post hp => goY post (br_f q1 (br_f p1 (uY _ (br_f (by decide) hp))))⟩
          · rw [ek] at z; exact absurd z (by decide)
          · rw [ek] at z; exact absurd z (by decide)
          · rw [ek] at z; exact absurd z (by decide)
          · rw [ew, nI_clamp wl]; exact ⟨q, p⟩
        · exact Or.inl ⟨fun post hp => goX post (br_f q0 (br_f q1 (br_f (by decide) (br_f p1 (uX _ (br_f (by decide) hp)))))), fun post hp => goY post (br_f q1 (br_f p1 (uY _ (br_t rfl hp))))⟩
      · have p1 : nI bc ≤ nI (w % 16) := nI_le p (by omega)
        exact Or.inl ⟨fun post hp => goX post (br_f q0 (br_f q1 (br_f (by decide) (br_t p1 hp)))), fun post hp => goY post (br_f q1 (br_t p1 hp))⟩
    · have q1 : nI cc ≤ nI (w / 256) := nI_le q (by omega)
      exact Or.inl ⟨fun post hp => goX post (br_f (nI_pos (by omega)) (br_t q1 (br_t rfl hp))), fun post hp => goY post (br_t q1 hp)⟩
  · have n12 : ¬ nI kn = 12 := ne k30 (b := 12) (by decide) k12
    have n13 : ¬ nI kn = 13 := ne k30 (b := 13) (by decide) k13
    have n25 : ¬ nI kn = 25 := ne k30 (b := 25) (by decide) k25
    have n28 : ¬ nI kn = 28 := ne k30 (b := 28) (by decide) k28
    refine Or.inr ⟨⟨fun z => ?_, fun z => ?_, fun z => ?_, fun z => ?_⟩, fun post hp => ?_, fun post hp => ?_⟩
    · rw [ek] at z; exact absurd z n12
    · rw [ek] at z; exact absurd z n13
    · rw [ek] at z; exact absurd z n25
    · rw [ek] at z; exact absurd z n28
    · unfold wpX_tokenFits
      dsimp only
      rw [cX, x1, x2, ek]
      exact ⟨vX, nm_e ⟨vX, nm_e (br_f n12 (br_f n13 (br_f n25 (br_f n28 hp))))⟩⟩
    · unfold wpY_fits
      dsimp only
      rw [cY, y1, y2, ek]
      exact ⟨vY, nm_e ⟨vY, br_f n12 ⟨vY, br_f n25 ⟨vY, br_f n28 ⟨vY, br_f n13 hp⟩⟩⟩⟩⟩
theorem sh_loop (h4 : 4 ≤ cc) (h10 : cc ≤ 10) (TT : rl_T cc bc x_tokenKind x_tokenValue y_kind y_word y_size T lv) (b11 : bc < 12) (d32 : dc ≤ 32) (hd : y_size 12 = nI dc) (hX : ∀ q, q < dc → x_tokenKind (32 * bc + q) = kd q ∧ x_tokenValue (32 * bc + q) = wd q ∧ tk_ok (kd q) (wd q)) (hY : ∀ q, q < dc → y_kind (384 + q) = kd q ∧ y_word (384 + q) = wd q ∧ tk_ok (kd q) (wd q)) :
    ∀ d i m, i + d = dc → m ≤ 1 + 2 * i → (∀ j, j < i → tk_fit cc bc (kd j) (wd j) (ct_n (sh_P kd wd j) j)) → (∀ n, ex_s (tk_nd kd wd) n m i → ex_s (tk_nd kd wd) (i + n) 1 0) →
    ∃ r : Int32, (r = -1 ∧ ex_s (tk_nd kd wd) dc 1 0 ∧ (∀ j, j < dc → tk_fit cc bc (kd j) (wd j) (ct_n (sh_P kd wd j) j)) ∨ ∃ q, q ≤ 32 ∧ r = nI q) ∧
    (∀ f (post : Int32 → Prop), d < f → post r → wX_findWrongPlace_12 post (nI (32 * bc)) (nI cc) (nI bc) (nI dc) x_wrongPlace x_madeCount x_frameCount x_current x_next x_inHand x_mode x_outcome x_stepCount x_atWork x_mostAtWork x_saidCount x_pendingCount x_classParent x_classFields x_bound x_tokenKind x_tokenValue x_globals x_thingShown x_thingClass x_thingFields x_thingToken x_thingMaker x_variables x_homeOf x_within x_foundIn x_baseFrame x_frameToken x_frameStage x_frameLink x_operands x_saidValues x_marked x_pending f (nI m) (nI i)) ∧
    (∀ f (post : Int32 → Prop), d < f → post r → wY_misfit_4 post (nI cc) (nI bc) y_fault y_made y_working y_peak y_steps y_depth y_waiting y_code y_running y_has y_got y_todos y_marks y_shown y_spoken y_parent y_fields y_bound y_kind y_word y_size y_sort y_number y_stands y_keeps y_cells y_globals y_within y_foundIn y_self y_args y_temps y_param y_live y_work y_under y_at y_in y_phase y_base y_goal y_operands y_marked y_todo y_heard f (nI m) (nI i)) := by
  intro d
  induction d with
  | zero =>
    intro i m e hm hf hp
    obtain rfl : i = dc := by omega
    by_cases z : m = 0
    · subst z
      refine ⟨-1, Or.inl ⟨rfl, hp 0 rfl, hf⟩, fun f post hf hp => ?_, fun f post hf hp => ?_⟩
      · obtain ⟨f', rfl⟩ : ∃ f', f = f' + 1 := ⟨f - 1, by omega⟩
        exact br_t (nI_le (Nat.le_refl _) (by omega)) (br_t rfl hp)
      · obtain ⟨f', rfl⟩ : ∃ f', f = f' + 1 := ⟨f - 1, by omega⟩
        exact br_t (by rw [hd]; exact nI_le (Nat.le_refl _) (by omega)) (br_t (by decide) hp)
    · refine ⟨nI i, Or.inr ⟨i, d32, rfl⟩, fun f post hf hp => ?_, fun f post hf hp => ?_⟩
      · obtain ⟨f', rfl⟩ : ∃ f', f = f' + 1 := ⟨f - 1, by omega⟩
        exact br_t (nI_le (Nat.le_refl _) (by omega)) (br_f (nI_ne0 (by omega) (by omega)) hp)
      · obtain ⟨f', rfl⟩ : ∃ f', f = f' + 1 := ⟨f - 1, by omega⟩
        refine br_t (by rw [hd]; exact nI_le (Nat.le_refl _) (by omega)) (br_f (nI_nle (by omega) (by omega)) ?_)
        rw [hd]; exact hp
  | succ d ih =>
    intro i m e hm hf hpre
    have eX : nI (32 * bc) + nI i = nI (32 * bc + i) := nI_add _ _
    have eY : (384 : Int32) + nI i = nI (384 + i) := nI_add 384 i
    have lX : ¬ nI dc ≤ nI i := nI_ge (by omega) (by omega)
    have lY : ¬ y_size 12 ≤ nI i := by rw [hd]; exact lX
    by_cases z : m = 0
    · subst z
      refine ⟨nI i, Or.inr ⟨i, by omega, rfl⟩, fun f post hf hp => ?_, fun f post hf hp => ?_⟩
      · obtain ⟨f', rfl⟩ : ∃ f', f = f' + 1 := ⟨f - 1, by omega⟩
        exact br_f lX (nm_r eX (br_t rfl hp))
      · obtain ⟨f', rfl⟩ : ∃ f', f = f' + 1 := ⟨f - 1, by omega⟩
        exact br_f lY (br_t rfl hp)
    · have z0 : ¬ nI m = 0 := nI_ne0 (by omega) (by omega)
      rcases sh_fits (by omega : i < dc) h4 h10 TT b11 d32 hX hY with ⟨fX, fY⟩ | ⟨F, fX, fY⟩
      · refine ⟨nI i, Or.inr ⟨i, by omega, rfl⟩, fun f post hf hp => ?_, fun f post hf hp => ?_⟩
        · obtain ⟨f', rfl⟩ : ∃ f', f = f' + 1 := ⟨f - 1, by omega⟩
          exact br_f lX (nm_r eX (br_f z0 (fX _ (br_t rfl hp))))
        · obtain ⟨f', rfl⟩ : ∃ f', f = f' + 1 := ⟨f - 1, by omega⟩
          refine br_f lY (br_f z0 ?_)
          rw [eY]
          exact fY _ (br_t rfl hp)
      · obtain ⟨x1, x2, ok⟩ := hX i (by omega)
        obtain ⟨y1, y2, _⟩ := hY i (by omega)
        have l3 := tk_need_le ok
        obtain ⟨r, r1, r2, r3⟩ := ih (i + 1) (m - 1 + tk_need (kd i) (wd i)) (by omega) (by omega) (fun j hj => by
            by_cases q : j = i
            · subst q; exact F
            · exact hf j (by omega)) (fun n hn => by
            have := hpre (n + 1) ⟨z, hn⟩
            rw [show i + 1 + n = i + (n + 1) by omega]; exact this)
        refine ⟨r, r1, fun f post hf hp => ?_, fun f post hf hp => ?_⟩
        · obtain ⟨f', rfl⟩ : ∃ f', f = f' + 1 := ⟨f - 1, by omega⟩
          refine br_f lX (nm_r eX (br_f z0 (fX _ (br_f (by decide) ⟨vp_in_nI (by omega) (by decide), vp_in_nI (by omega) (by decide), ?_⟩))))
          rw [nI_clamp (by omega), x1, x2]
          exact xw_needs ok (nm_r (tk_mm z) (nm_r (nI_1 i) (r2 f' post (by omega) hp)))
        · obtain ⟨f', rfl⟩ : ∃ f', f = f' + 1 := ⟨f - 1, by omega⟩
          refine br_f lY (br_f z0 ?_)
          rw [eY]
          refine fY _ (br_f (by decide) (yw_needs (by omega) (by rw [y1, y2]; exact ok) ?_))
          rw [y1, y2]
          exact nm_r (tk_mm z) (nm_r (nI_1 i) (r3 f' post (by omega) hp))
end
end
section
/-! a draft that is a BODY -/
theorem ct_ext {P : Nat → Prop} {a : Nat} : ∀ {b : Nat}, a ≤ b → (∀ j, a ≤ j → j < b → ¬ P j) → ct_n P b = ct_n P a
  | 0, h, _ => by rw [show a = 0 by omega]
  | b + 1, h, hp => by
    by_cases e : a = b + 1
    · rw [e]
    · show ct_n P b + ct_b (P b) = _
      rw [ct_bf (hp b (by omega) (by omega)), ct_ext (b := b) (by omega) (fun j h1 h2 => hp j h1 (by omega))]; rfl
theorem ex_sib {nd : Nat → Nat} {n k : Nat} (h : ex_s nd n 1 k) : ∀ j, j < nd k → ∀ q, k < q → q < ex_pt nd k j → ex_e nd q ≤ ex_pt nd k j
  | 0, _, q, h1, h2 => by
    have : q < k + 1 := h2
    omega
  | j + 1, hj, q, h1, h2 => by
    obtain ⟨a, b, m, hm, hm2⟩ := ex_part h (show j < nd k by omega)
    have e : ex_pt nd k (j + 1) = ex_pt nd k j + m := ex_eq hm
    rcases Nat.lt_or_ge q (ex_pt nd k j) with z | z
    · have := ex_sib h j (by omega) q h1 z
      omega
    · have h2 : q < ex_e nd (ex_pt nd k j) := h2
      obtain ⟨m', hm', hl⟩ := ex_nest hm z h2
      rw [ex_eq hm']
      omega
section
variable {kd wd : Nat → Int32} {dc : Nat}
theorem sh_at (hs : ex_s (tk_nd kd wd) dc 1 0) {i : Nat} (hi : i < dc) : ∃ m, ex_s (tk_nd kd wd) m 1 i ∧ i + m ≤ dc ∧ 1 ≤ m ∧ ex_e (tk_nd kd wd) i = i + m := by
  obtain ⟨m, m1, m2, m3⟩ := ex_in hs hi
  rw [Nat.zero_add] at m3
  exact ⟨m, m3, by omega, m2, ex_eq m3⟩
theorem sh_Pe (hs : ex_s (tk_nd kd wd) dc 1 0) {i k : Nat} (hk : k < i) (hi : i < dc) : sh_P kd wd i k ↔ (kd k = 12 ∧ i < ex_e (tk_nd kd wd) k) := by
  obtain ⟨m, m1, m2, m3, m4⟩ := sh_at hs (show k < dc by omega)
  unfold sh_P
  by_cases z : kd k = 12
  · have n1 : tk_nd kd wd k = 1 := by unfold tk_nd; rw [z]; rfl
    have h1 := ex_hd m1
    rw [n1] at h1
    refine ⟨fun ⟨a, b⟩ => ⟨a, ?_⟩, fun ⟨a, b⟩ => ⟨a, fun q => ?_⟩⟩
    · rw [m4]
      rcases Nat.lt_or_ge i (k + m) with q | q
      · exact q
      · exact absurd (ex_s_r h1 (by omega)) b
    · obtain ⟨n', n2, n3⟩ := ex_r_s q
      have := ex_u n3 h1
      rw [m4] at b
      omega
  · exact ⟨fun ⟨a, _⟩ => absurd a z, fun ⟨a, _⟩ => absurd a z⟩
/-- how many BLOCKS stand around token i -/
noncomputable def sh_lv (kd wd : Nat → Int32) (i : Nat) : Nat := ct_n (sh_P kd wd i) i
theorem sh_lv4 (hs : ex_s (tk_nd kd wd) dc 1 0) {k : Nat} (hk : k < dc) (h12 : kd k = 12) : k + 1 < dc ∧ sh_lv kd wd (k + 1) = sh_lv kd wd k + 1 := by
  obtain ⟨m, m1, m2, m3, m4⟩ := sh_at hs hk
  have n1 : tk_nd kd wd k = 1 := by unfold tk_nd; rw [h12]; rfl
  have h1 := ex_hd m1
  rw [n1] at h1
  have hm := ex_pos h1
  have k1 : k + 1 < dc := by omega
  refine ⟨k1, ?_⟩
  show ct_n (sh_P kd wd (k + 1)) k + ct_b (sh_P kd wd (k + 1) k) = ct_n (sh_P kd wd k) k + 1
  rw [ct_bt ((sh_Pe hs (by omega) k1).mpr ⟨h12, by omega⟩), ct_eq (Q := sh_P kd wd k) (fun j hj => ?_)]
  rw [sh_Pe hs (by omega) k1, sh_Pe hs hj hk]
  refine ⟨fun ⟨a, b⟩ => ⟨a, by omega⟩, fun ⟨a, b⟩ => ⟨a, ?_⟩⟩
  obtain ⟨m', q1, q2, q3, q4⟩ := sh_at hs (show j < dc by omega)
  obtain ⟨m2', r1, r2⟩ := ex_nest q1 (Nat.le_of_lt hj) b
  have := ex_u r1 m1
  omega
theorem sh_lv5 (hs : ex_s (tk_nd kd wd) dc 1 0) {k j : Nat} (hk : k < dc) (h12 : ¬ kd k = 12) (hj : j < tk_nd kd wd k) : sh_lv kd wd (ex_pt (tk_nd kd wd) k j) = sh_lv kd wd k := by
  obtain ⟨m, m1, m2, m3, m4⟩ := sh_at hs hk
  obtain ⟨p1, p2, _⟩ := ex_part m1 hj
  have pd : ex_pt (tk_nd kd wd) k j < dc := by omega
  unfold sh_lv
  rw [ct_ext (a := k) (by omega) (fun q h1 h2 z => ?_), ct_eq (Q := sh_P kd wd k) (fun q hq => ?_)]
  · rw [sh_Pe hs (by omega) pd, sh_Pe hs hq hk]
    refine ⟨fun ⟨a, b⟩ => ⟨a, by omega⟩, fun ⟨a, b⟩ => ⟨a, ?_⟩⟩
    obtain ⟨m', q1, q2, q3, q4⟩ := sh_at hs (show q < dc by omega)
    obtain ⟨m2', r1, r2⟩ := ex_nest q1 (Nat.le_of_lt hq) b
    have := ex_u r1 m1
    omega
  · rw [sh_Pe hs h2 pd] at z
    by_cases e : q = k
    · subst e; exact h12 z.1
    · have := ex_sib m1 j hj q (by omega) h2
      omega
end
/-- the tokens of the draft, copied -/
def cp_f (f : Nat → Int32) (s n : Nat) : Nat → Int32 := fun j => if s ≤ j ∧ j < s + n then f (384 + (j - s)) else f j
theorem cp_0 (f : Nat → Int32) (s : Nat) : cp_f f s 0 = f := by
  funext j
  unfold cp_f
  rw [if_neg (by omega)]
theorem cp_s {f : Nat → Int32} {s n : Nat} (h : s + n < 384) : upd (cp_f f s n) (s + n) (cp_f f s n (384 + n)) = cp_f f s (n + 1) := by
  funext j
  unfold upd cp_f
  by_cases e : j = s + n
  · subst e
    rw [if_pos rfl, if_neg (by omega), if_pos (by omega), Nat.add_sub_cancel_left]
  · rw [if_neg e]
    by_cases q : s ≤ j ∧ j < s + n
    · rw [if_pos q, if_pos (by omega)]
    · rw [if_neg q, if_neg (by omega)]
theorem cp_i {f : Nat → Int32} {s n i : Nat} (h : i < n) : cp_f f s n (s + i) = f (384 + i) := by
  unfold cp_f
  rw [if_pos (by omega), Nat.add_sub_cancel_left]
theorem cp_o {f : Nat → Int32} {s n j : Nat} (h : j < s ∨ s + n ≤ j) : cp_f f s n j = f j := if_neg (by omega)
theorem rl_add {cc bc dc : Nat} {KX WX K W sz kd wd : Nat → Int32} {T : Nat → Prop} {lv : Nat → Nat} (TT : rl_T cc bc KX WX K W sz T lv) (b11 : bc < 12) (d32 : dc ≤ 32) (hz : sz bc = nI dc)
    (tok : ∀ i, i < dc → KX (32 * bc + i) = kd i ∧ WX (32 * bc + i) = wd i ∧ K (32 * bc + i) = kd i ∧ W (32 * bc + i) = wd i ∧ tk_ok (kd i) (wd i)) (hs : ex_s (tk_nd kd wd) dc 1 0) (fit : ∀ i, i < dc → tk_fit cc bc (kd i) (wd i) (sh_lv kd wd i)) :
    rl_T cc (bc + 1) KX WX K W sz (fun p => T p ∨ (32 * bc ≤ p ∧ p < 32 * bc + dc)) (fun p => if p < 32 * bc then lv p else sh_lv kd wd (p - 32 * bc)) := by
  obtain ⟨b12, t1, t2, t3, t4, t5⟩ := TT
  have nd : ∀ i, i < dc → tk_nd kd wd i = tk_nd K W (32 * bc + i) := fun i hi => by
    obtain ⟨_, _, a, b, _⟩ := tok i hi
    unfold tk_nd
    rw [a, b]
  have es : ∀ i m, i + m ≤ dc → ex_s (tk_nd kd wd) m 1 i → ex_s (tk_nd K W) m 1 (32 * bc + i) := fun i m hm h => ex_shift (q := 32 * bc) (fun j hj => by rw [nd (i + j) (by omega), Nat.add_assoc]) h
  have pt : ∀ i, i < dc → ∀ j, j ≤ tk_nd kd wd i → ex_pt (tk_nd K W) (32 * bc + i) j = 32 * bc + ex_pt (tk_nd kd wd) i j := by
    intro i hi j
    obtain ⟨m, m1, m2, m3, m4⟩ := sh_at hs hi
    induction j with
    | zero => intro _; rfl
    | succ j ih =>
      intro hj
      obtain ⟨p1, p2, m', q1, q2⟩ := ex_part m1 (show j < tk_nd kd wd i by omega)
      show ex_e _ (ex_pt (tk_nd K W) (32 * bc + i) j) = 32 * bc + ex_e _ (ex_pt (tk_nd kd wd) i j)
      rw [ih (by omega), ex_eq (es _ _ (by omega) q1), ex_eq q1, Nat.add_assoc]
  have lo : ∀ p, T p → p < 32 * bc := fun p tp => (t1 p tp).1
  have mono : ∀ {k w : Int32} {l : Nat}, tk_fit cc bc k w l → tk_fit cc (bc + 1) k w l := fun h => ⟨h.1, h.2.1, h.2.2.1, fun z => ⟨(h.2.2.2 z).1, by have := (h.2.2.2 z).2; omega⟩⟩
  have lvl : ∀ p, p < 32 * bc → (if p < 32 * bc then lv p else sh_lv kd wd (p - 32 * bc)) = lv p := fun p h => if_pos h
  have lvh : ∀ i, (if 32 * bc + i < 32 * bc then lv (32 * bc + i) else sh_lv kd wd (32 * bc + i - 32 * bc)) = sh_lv kd wd i := fun i => by
    rw [if_neg (by omega), Nat.add_sub_cancel_left]
  refine ⟨by omega, fun p tp => ?_, fun p tp => ?_, fun b hb => ?_, fun p tp e => ?_, fun p j tp e hj => ?_⟩
  · rcases tp with tp | ⟨h1, h2⟩
    · obtain ⟨c1, c2, c3, c4, c5⟩ := t1 p tp
      dsimp only
      rw [lvl p c1]
      exact ⟨by omega, c2, c3, c4, mono c5⟩
    · obtain ⟨i, rfl⟩ : ∃ i, p = 32 * bc + i := ⟨p - 32 * bc, by omega⟩
      obtain ⟨a1, a2, a3, a4, a5⟩ := tok i (by omega)
      dsimp only
      rw [lvh i, a1, a2, a3, a4]
      exact ⟨by omega, rfl, rfl, a5, mono (fit i (by omega))⟩
  · rcases tp with tp | ⟨h1, h2⟩
    · obtain ⟨m, m1, m2, m3⟩ := t2 p tp
      exact ⟨m, m1, m2, fun q q1 q2 => Or.inl (m3 q q1 q2)⟩
    · obtain ⟨i, rfl⟩ : ∃ i, p = 32 * bc + i := ⟨p - 32 * bc, by omega⟩
      obtain ⟨m, m1, m2, m3, m4⟩ := sh_at hs (show i < dc by omega)
      exact ⟨m, es i m m2 m1, by omega, fun q q1 q2 => Or.inr ⟨by omega, by omega⟩⟩
  · by_cases q : b = bc
    · subst q
      have hd := ex_pos hs
      refine ⟨Or.inr ⟨by omega, by omega⟩, ?_, dc, d32, hz, ?_⟩
      · have := lvh 0
        rw [Nat.add_zero] at this
        dsimp only
        rw [this]; rfl
      · have := es 0 dc (by omega) hs
        rw [Nat.add_zero] at this
        exact this
    · obtain ⟨a1, a2, a3⟩ := t3 b (by omega)
      refine ⟨Or.inl a1, ?_, a3⟩
      dsimp only
      rw [lvl _ (lo _ a1)]; exact a2
  · rcases tp with tp | ⟨h1, h2⟩
    · have hp := lo p tp
      obtain ⟨m, m1, m2, m3⟩ := t2 p tp
      have n1 : tk_nd K W p = 1 := by unfold tk_nd; rw [e]; rfl
      have h1 := ex_hd m1
      rw [n1] at h1
      have hm := ex_pos h1
      dsimp only
      rw [lvl p hp, lvl (p + 1) (lo _ (m3 (p + 1) (by omega) (by omega)))]
      exact t4 p tp e
    · obtain ⟨i, rfl⟩ : ∃ i, p = 32 * bc + i := ⟨p - 32 * bc, by omega⟩
      obtain ⟨_, _, a3, _⟩ := tok i (by omega)
      rw [a3] at e
      dsimp only
      have l1 := lvh (i + 1)
      rw [show 32 * bc + (i + 1) = 32 * bc + i + 1 by omega] at l1
      rw [lvh i, l1]
      exact (sh_lv4 hs (by omega) e).2
  · rcases tp with tp | ⟨h1, h2⟩
    · have hp := lo p tp
      obtain ⟨m, m1, m2, m3⟩ := t2 p tp
      obtain ⟨p1, p2, _⟩ := ex_part m1 hj
      dsimp only
      rw [lvl p hp, lvl _ (lo _ (m3 _ (by omega) p2))]
      exact t5 p j tp e hj
    · obtain ⟨i, rfl⟩ : ∃ i, p = 32 * bc + i := ⟨p - 32 * bc, by omega⟩
      obtain ⟨_, _, a3, _⟩ := tok i (by omega)
      rw [a3] at e
      rw [← nd i (by omega)] at hj
      dsimp only
      rw [pt i (by omega) j (by omega), lvh, lvh]
      exact sh_lv5 hs (by omega) e hj
theorem i_vc_body {k : Nat} {u : SX} {v : SY} (I : i_Rel k u v) (hk : k + 5 ≤ 2560) : wpX_body (fun r u' => wpY_body (fun r' v' => r' = r ∧ i_Rel (k + 5) u' v') v) u := by
  have J := i_up I
  obtain ⟨x_classCount, x_bodyCount, x_draftCount, x_wrongPlace, x_madeCount, x_frameCount, x_current, x_next, x_inHand, x_mode, x_outcome, x_stepCount, x_atWork, x_mostAtWork, x_saidCount, x_pendingCount, x_classParent, x_classFields, x_bound, x_tokenKind, x_tokenValue, x_globals, x_thingShown, x_thingClass, x_thingFields, x_thingToken, x_thingMaker, x_variables, x_homeOf, x_within, x_foundIn, x_baseFrame, x_frameToken, x_frameStage, x_frameLink, x_operands, x_saidValues, x_marked, x_pending⟩ := u
  obtain ⟨y_classes, y_bodies, y_fault, y_made, y_working, y_peak, y_steps, y_depth, y_waiting, y_code, y_running, y_has, y_got, y_todos, y_marks, y_shown, y_spoken, y_parent, y_fields, y_bound, y_kind, y_word, y_size, y_sort, y_number, y_stands, y_keeps, y_cells, y_globals, y_within, y_foundIn, y_self, y_args, y_temps, y_param, y_live, y_work, y_under, y_at, y_in, y_phase, y_base, y_goal, y_operands, y_marked, y_todo, y_heard⟩ := v
  obtain ⟨cc, bc, dc, mc, T, ST, SA, lv, τ, σ, lev, ho, ⟨rfl, rfl, rfl, rfl, rfl, rfl, a7⟩, h2, h3, ⟨C, B, TT, D⟩, h5, g, ⟨H, hU⟩, bf⟩ := I
  obtain ⟨d32, hd, dt⟩ := D
  have b12 := TT.1
  by_cases z : bc = 12
  · subst z
    exact br_t rfl (br_t rfl ⟨rfl, J⟩)
  · have z1 : ¬ nI bc = 12 := fun q => z ((nI_eq (b := 12) (by omega) (by decide)).mp q)
    have eX : nI bc * (32 : Int32) = nI (32 * bc) := by rw [Nat.mul_comm]; exact pk_mul bc 32
    obtain ⟨r, r1, r2, r3⟩ := sh_loop (x_wrongPlace := y_fault) (x_madeCount := x_madeCount) (x_frameCount := x_frameCount) (x_current := x_current) (x_next := x_next) (x_inHand := x_inHand) (x_mode := x_mode) (x_outcome := x_outcome) (x_stepCount := x_stepCount) (x_atWork := x_atWork) (x_mostAtWork := x_mostAtWork) (x_saidCount := x_saidCount) (x_pendingCount := x_pendingCount) (x_classParent := x_classParent) (x_classFields := x_classFields) (x_bound := x_bound) (x_tokenKind := x_tokenKind) (x_tokenValue := x_tokenValue) (x_globals := x_globals) (x_thingShown := x_thingShown) (x_thingClass := x_thingClass) (x_thingFields := x_thingFields) (x_thingToken := x_thingToken) (x_thingMaker := x_thingMaker) (x_variables := x_variables) (x_homeOf := x_homeOf) (x_within := x_within) (x_foundIn := x_foundIn) (x_baseFrame := x_baseFrame) (x_frameToken := x_frameToken) (x_frameStage := x_frameStage) (x_frameLink := x_frameLink) (x_operands := x_operands) (x_saidValues := x_saidValues) (x_marked := x_marked) (x_pending := x_pending) (y_fault := y_fault) (y_made := y_made) (y_working := y_working) (y_peak := y_peak) (y_steps := y_steps) (y_depth := y_depth) (y_waiting := y_waiting) (y_code := y_code) (y_running := y_running) (y_has := y_has) (y_got := y_got) (y_todos := y_todos) (y_marks := y_marks) (y_shown := y_shown) (y_spoken := y_spoken) (y_parent := y_parent) (y_fields := y_fields) (y_bound := y_bound) (y_kind := y_kind) (y_word := y_word) (y_size := y_size) (y_sort := y_sort) (y_number := y_number) (y_stands := y_stands) (y_keeps := y_keeps) (y_cells := y_cells) (y_globals := y_globals) (y_within := y_within) (y_foundIn := y_foundIn) (y_self := y_self) (y_args := y_args) (y_temps := y_temps) (y_param := y_param) (y_live := y_live) (y_work := y_work) (y_under := y_under) (y_at := y_at) (y_in := y_in) (y_phase := y_phase) (y_base := y_base) (y_goal := y_goal) (y_operands := y_operands) (y_marked := y_marked) (y_todo := y_todo) (y_heard := y_heard) (kd := fun i => y_kind (384 + i)) (wd := fun i => y_word (384 + i)) (cc := cc) (bc := bc) (dc := dc) C.1 C.2.1 TT (by omega) d32 hd dt (fun q hq => ⟨rfl, rfl, (dt q hq).2.2⟩) dc 0 1 (by omega) (by omega) (fun j hj => by omega) (fun n hn => by rw [Nat.zero_add]; exact hn)
    refine br_f z1 (nm_r eX ⟨dc + 1, r2 _ _ (by omega) ?_⟩)
    have szb : ∀ b, b < bc → upd y_size 12 0 b = y_size b := fun b hb => pk_un (by omega)
    have bad : ∀ q, q ≤ 32 → r = nI q → i_Rel (k + 5) (nI cc, nI bc, 0, r, x_madeCount, x_frameCount, x_current, x_next, x_inHand, x_mode, x_outcome, x_stepCount, x_atWork, x_mostAtWork, x_saidCount, x_pendingCount, x_classParent, x_classFields, x_bound, x_tokenKind, x_tokenValue, x_globals, x_thingShown, x_thingClass, x_thingFields, x_thingToken, x_thingMaker, x_variables, x_homeOf, x_within, x_foundIn, x_baseFrame, x_frameToken, x_frameStage, x_frameLink, x_operands, x_saidValues, x_marked, x_pending) (nI cc, nI bc, r, y_made, y_working, y_peak, y_steps, y_depth, y_waiting, y_code, y_running, y_has, y_got, y_todos, y_marks, y_shown, y_spoken, y_parent, y_fields, y_bound, y_kind, y_word, upd y_size 12 0, y_sort, y_number, y_stands, y_keeps, y_cells, y_globals, y_within, y_foundIn, y_self, y_args, y_temps, y_param, y_live, y_work, y_under, y_at, y_in, y_phase, y_base, y_goal, y_operands, y_marked, y_todo, y_heard) := fun q hq e =>
      ⟨cc, bc, 0, mc, T, ST, SA, lv, τ, σ, lev, ho, ⟨rfl, rfl, rfl, rfl, rfl, rfl, a7⟩, h2, h3, ⟨C, B, rl_Tsz TT (Nat.le_refl _) (fun p _ _ => ⟨rfl, rfl, rfl, rfl⟩) szb, ⟨by omega, pk_us, fun i hi => by omega⟩⟩, by omega, g, ⟨H, hU⟩, bf⟩
    have goY : ∀ post : Int32 → SY → Prop, ((r < 0 → vp_in (nI bc) 13 ∧ ∀ a_size : Nat → Int32, a_size = upd (upd y_size 12 0) (nI bc).toNatClampNeg (nI dc) → ∃ n47 : Nat, wY_body_47 post (nI dc) (nI cc) (nI bc) r y_made y_working y_peak y_steps y_depth y_waiting y_code y_running y_has y_got y_todos y_marks y_shown y_spoken n47 0 y_parent y_fields y_bound y_kind y_word a_size y_sort y_number y_stands y_keeps y_cells y_globals y_within y_foundIn y_self y_args y_temps y_param y_live y_work y_under y_at y_in y_phase y_base y_goal y_operands y_marked y_todo y_heard) ∧ (¬ r < 0 → post (-2) (nI cc, nI bc, r, y_made, y_working, y_peak, y_steps, y_depth, y_waiting, y_code, y_running, y_has, y_got, y_todos, y_marks, y_shown, y_spoken, y_parent, y_fields, y_bound, y_kind, y_word, upd y_size 12 0, y_sort, y_number, y_stands, y_keeps, y_cells, y_globals, y_within, y_foundIn, y_self, y_args, y_temps, y_param, y_live, y_work, y_under, y_at, y_in, y_phase, y_base, y_goal, y_operands, y_marked, y_todo, y_heard))) → wpY_body post (nI cc, nI bc, y_fault, y_made, y_working, y_peak, y_steps, y_depth, y_waiting, y_code, y_running, y_has, y_got, y_todos, y_marks, y_shown, y_spoken, y_parent, y_fields, y_bound, y_kind, y_word, y_size, y_sort, y_number, y_stands, y_keeps, y_cells, y_globals, y_within, y_foundIn, y_self, y_args, y_temps, y_param, y_live, y_work, y_under, y_at, y_in, y_phase, y_base, y_goal, y_operands, y_marked, y_todo, y_heard) := fun post h => by
      refine br_f z1 ⟨dc + 1, r3 _ _ (by omega) ?_⟩
      refine nm_r hd (nm_e ?_)
      exact h
    rcases r1 with ⟨rfl, hs, fit⟩ | ⟨q, q1, rfl⟩
    · refine br_t rfl (nm_r (nI_1 bc) ?_)
      rw [show nI (bc + 1) - 1 = nI bc from nI_pred bc]
      refine goY _ (br_t (by decide) ⟨vp_in_nI (by omega) (by decide), ?_⟩)
      rw [nI_clamp (show bc < 2 ^ 31 by omega)]
      refine nm_e ?_
      refine loop_0 (fun n i (ss : (Nat → Int32) × (Nat → Int32)) => wY_body_47 _ (nI dc) (nI cc) (nI bc) (-1) y_made y_working y_peak y_steps y_depth y_waiting y_code y_running y_has y_got y_todos y_marks y_shown y_spoken n (nI i) y_parent y_fields y_bound (ss.1) (ss.2) (upd (upd y_size 12 0) bc (nI dc)) y_sort y_number y_stands y_keeps y_cells y_globals y_within y_foundIn y_self y_args y_temps y_param y_live y_work y_under y_at y_in y_phase y_base y_goal y_operands y_marked y_todo y_heard) (fun i ss => i ≤ dc → ss = (cp_f y_kind (32 * bc) i, cp_f y_word (32 * bc) i)) dc (y_kind, y_word) (fun _ => by rw [cp_0, cp_0]) ?_ ?_
      · intro n ss I
        have I := I (Nat.le_refl _)
        subst I
        refine br_t (nI_le (Nat.le_refl _) (by omega)) (nm_r (nI_1 bc) ⟨rfl, ?_⟩)
        have T0 := rl_Tsz (cc' := cc) (KX' := x_tokenKind) (WX' := x_tokenValue) (K' := cp_f y_kind (32 * bc) dc) (W' := cp_f y_word (32 * bc) dc) (sz' := upd (upd y_size 12 0) bc (nI dc)) TT (Nat.le_refl _) (fun p _ hp => ⟨rfl, rfl, cp_o (Or.inl hp), cp_o (Or.inl hp)⟩) (fun b hb => by rw [pk_un (by omega)]; exact szb b hb)
        have T1 := rl_add (kd := fun i => y_kind (384 + i)) (wd := fun i => y_word (384 + i)) T0 (by omega) d32 pk_us (fun i hi => ⟨(dt i hi).1, (dt i hi).2.1, cp_i hi, cp_i hi, (dt i hi).2.2⟩) hs fit
        refine ⟨cc, bc + 1, 0, mc, _, ST, SA, _, τ, σ, lev, ho, ⟨rfl, rfl, rfl, rfl, rfl, rfl, a7⟩, h2, h3, ⟨C, ⟨by omega, fun i hi => ?_⟩, T1, ⟨by omega, ?_, fun i hi => by omega⟩⟩, by omega, g, ⟨?_, hU⟩, bf⟩
        · rcases B.2 i hi with q | ⟨b, q1, q2⟩
          · exact Or.inl q
          · exact Or.inr ⟨b, by omega, q2⟩
        · rw [pk_un (by omega)]; exact pk_us
        · refine hp_TK H fun p tp => ?_
          have hp := (TT.2.1 p tp).1
          exact ⟨Or.inl tp, if_pos hp, cp_o (Or.inl hp)⟩
      · intro n i ss hi I k
        have I := I (by omega)
        subst I
        have e1 : (384 : Int32) + nI i = nI (384 + i) := nI_add 384 i
        have e2 : (32 : Int32) * nI bc + nI i = nI (32 * bc + i) := ix_l 32 bc i
        have v1 : vp_in (nI (384 + i)) 416 := vp_in_nI (by omega) (by decide)
        have v2 : vp_in (nI (32 * bc + i)) 416 := vp_in_nI (by omega) (by decide)
        refine br_f (nI_ge hi (by omega)) ?_
        rw [e1, e2, nI_clamp (show 384 + i < 2 ^ 31 by omega), nI_clamp (show 32 * bc + i < 2 ^ 31 by omega)]
        exact ⟨v1, v2, nm_r (cp_s (by omega)) ⟨v1, v2, nm_r (cp_s (by omega)) (nm_r (nI_1 i) (k (cp_f y_kind (32 * bc) (i + 1), cp_f y_word (32 * bc) (i + 1)) fun _ => rfl))⟩⟩
    · exact br_f (gx_m1 (by omega)) (goY _ (br_f (nI_pos (by omega)) ⟨rfl, bad q q1 rfl⟩))
end
section
/-! the stack of a run: frames p below d, activations i below w -/
def nu {α : Type} (f : Nat → α) (k : Nat) (x : α) : Nat → α := fun j => if j = k then x else f j
theorem nu_s {α : Type} {f : Nat → α} {k : Nat} {x : α} : nu f k x k = x := if_pos rfl
theorem nu_n {α : Type} {f : Nat → α} {k j : Nat} {x : α} (h : j ≠ k) : nu f k x j = f j := if_neg h
def fr_tail (k : Int32) (ph : Nat) : Prop := (k = 16 ∧ ph = 1) ∨ (k = 23 ∧ ph = 2)
noncomputable def fr_x (K : Nat → Int32) (fa ph : Nat → Nat) : Nat → Nat
  | 0 => 1
  | p + 1 => fr_x K fa ph p + ct_b (¬ fr_tail (K (fa p)) (ph p))
def fr_pt (k : Int32) (ph : Nat) : Nat := if k = 27 ∧ ph = 2 then 1 else ph
def fr_c (k : Int32) (ph : Nat) : Nat := if ph = 100 then 0 else if k = 16 ∨ k = 23 ∨ k = 24 then 0 else if k = 27 then (if ph = 0 then 0 else 1) else ph
def fr_gen (k : Int32) : Prop := k = 5 ∨ k = 7 ∨ k = 9 ∨ k = 10 ∨ k = 11 ∨ k = 14 ∨ k = 15 ∨ k = 17 ∨ k = 18 ∨ k = 19 ∨ k = 20 ∨ k = 21 ∨ k = 22 ∨ k = 26 ∨ k = 29
def fr_ok (k : Int32) (n ph : Nat) : Prop := (ph = 100 ∧ (k = 10 ∨ k = 11 ∨ k = 14 ∨ k = 15)) ∨ (k = 16 ∧ ph ≤ 1) ∨ (k = 23 ∧ ph ≤ 2) ∨ (k = 24 ∧ ph ≤ 1) ∨ (k = 27 ∧ ph ≤ 2) ∨ (fr_gen k ∧ ph ≤ n)
def fr_lo (ph ow un : Nat → Nat) (p i : Nat) : Prop := (p = 0 → i = 0) ∧ (∀ q, p = q + 1 → (ph q = 100 → i = ow q + 1 ∧ un i = p) ∧ (ph q ≠ 100 → i = ow q))
def fr_lt (K : Nat → Int32) (nd : Nat → Nat) (fa ph rt : Nat → Nat) (p t i : Nat) : Prop := (p = 0 → t = rt 0) ∧ (∀ q, p = q + 1 → (ph q = 100 → t = rt i) ∧ (ph q ≠ 100 → fr_pt (K (fa q)) (ph q) < nd (fa q) ∧ t = ex_pt nd (fa q) (fr_pt (K (fa q)) (ph q))))
def fr_F (K : Nat → Int32) (nd : Nat → Nat) (T : Nat → Prop) (fa ph bs ow gg un rt : Nat → Nat) (w p : Nat) : Prop :=
  T (fa p) ∧ ow p < w ∧ fr_lo ph ow un p (ow p) ∧ fr_lt K nd fa ph rt p (fa p) (ow p) ∧ fr_ok (K (fa p)) (nd (fa p)) (ph p) ∧ bs (p + 1) = bs p + fr_c (K (fa p)) (ph p) ∧ (K (fa p) = 27 → ph p = 2 → gg p ≤ ow p)
def fr_S (K : Nat → Int32) (nd : Nat → Nat) (T : Nat → Prop) (fa ph bs ow gg un rt : Nat → Nat) (d w : Nat) : Prop :=
  1 ≤ w ∧ w ≤ 12 ∧ un 0 = 0 ∧ bs 0 = 0 ∧ (∀ p, p < d → fr_F K nd T fa ph bs ow gg un rt w p) ∧ fr_lo ph ow un d (w - 1) ∧ (∀ i, i < w → T (rt i)) ∧
  (∀ i, i + 1 < w → ∃ p, p < d ∧ un (i + 1) = p + 1 ∧ ph p = 100 ∧ ow p = i)
/-- what is known of the tokens -/
def fr_T (K : Nat → Int32) (nd : Nat → Nat) (T : Nat → Prop) : Prop :=
  ∀ p, T p → p < 384 ∧ nd p ≤ 3 ∧ ∃ m, ex_s nd m 1 p ∧ p + m ≤ 32 * (p / 32) + 32 ∧ ∀ q, p ≤ q → q < p + m → T q
section
variable {K : Nat → Int32} {nd : Nat → Nat} {T : Nat → Prop} {fa ph bs ow gg un rt : Nat → Nat} {d w : Nat}
theorem fr_en (TF : fr_T K nd T) {p : Nat} (tp : T p) : p < ex_e nd p ∧ ex_e nd p ≤ 32 * (p / 32) + 32 ∧ ex_pt nd p (nd p) = ex_e nd p := by
  obtain ⟨_, _, m, m1, m2, _⟩ := TF p tp
  have := ex_pos m1
  rw [ex_end m1, ex_eq m1]
  omega
theorem fr_ch (TF : fr_T K nd T) {p j : Nat} (tp : T p) (hj : j < nd p) : T (ex_pt nd p j) ∧ p + j + 1 ≤ ex_pt nd p j ∧ ex_pt nd p j < ex_e nd p ∧ ex_e nd (ex_pt nd p j) ≤ ex_e nd p ∧ ex_pt nd p j < ex_e nd (ex_pt nd p j) ∧ ex_pt nd p j / 32 = p / 32 := by
  obtain ⟨_, _, m, m1, m2, m3⟩ := TF p tp
  obtain ⟨a, b, m', c, e⟩ := ex_part m1 hj
  have := ex_pos c
  rw [ex_eq c, ex_eq m1]
  exact ⟨m3 _ (by omega) b, a, b, e, by omega, by omega⟩
theorem fr_cpt {k : Int32} {ph : Nat} (h : ph ≠ 100) : fr_c k ph ≤ fr_pt k ph := by
  unfold fr_c fr_pt
  rw [if_neg h]
  split
  · omega
  · split
    · rename_i z
      split
      · omega
      · split <;> omega
    · rename_i z
      rw [if_neg (fun q => z q.1)]
      exact Nat.le_refl _
/-- where frame p stands -/
theorem fr_pos (TF : fr_T K nd T) (S : fr_S K nd T fa ph bs ow gg un rt d w) : ∀ p, p ≤ d → ∀ t i, (p = d → i = w - 1) → (p < d → i = ow p) → fr_lo ph ow un p i → fr_lt K nd fa ph rt p t i → T t →
    i < w ∧ un i ≤ p ∧ rt i ≤ t ∧ t < ex_e nd (rt i) ∧ ex_e nd t ≤ ex_e nd (rt i) ∧ t / 32 = rt i / 32 ∧ p - un i ≤ t - rt i ∧ un i ≤ 32 * i ∧ bs p ≤ 32 * i + (t - rt i) := by
  obtain ⟨w1, w12, u0, b0, F, top, tr, act⟩ := S
  intro p
  induction p with
  | zero =>
    intro hp t i hd hl lo lt tt
    have e := lo.1 rfl
    have et := lt.1 rfl
    subst e
    subst et
    have := fr_en TF tt
    refine ⟨by omega, by omega, by omega, by omega, by omega, rfl, by omega, by omega, by omega⟩
  | succ q ih =>
    intro hp t i hd hl lo lt tt
    obtain ⟨f1, f2, f3, f4, f5, f6, _⟩ := F q (by omega)
    obtain ⟨g1, g2, g3, g4, g5, g6, g7, g8, g9⟩ := ih (by omega) (fa q) (ow q) (fun e => by omega) (fun _ => rfl) f3 f4 f1
    have hen := fr_en TF f1
    have hrt := fr_en TF (tr (ow q) g1)
    by_cases z : ph q = 100
    · obtain ⟨e1, e2⟩ := (lo.2 q rfl).1 z
      have et := (lt.2 q rfl).1 z
      have c0 : fr_c (K (fa q)) (ph q) = 0 := by unfold fr_c; rw [if_pos z]
      rw [c0] at f6
      have hi : i < w := by
        rcases Nat.lt_or_ge (q + 1) d with z2 | z2
        · rw [hl z2]; exact (F (q + 1) z2).2.1
        · rw [hd (by omega)]; omega
      subst et
      have h2 := fr_en TF tt
      refine ⟨hi, by omega, by omega, by omega, by omega, rfl, by omega, by omega, by omega⟩
    · have e1 := (lo.2 q rfl).2 z
      obtain ⟨l1, l2⟩ := (lt.2 q rfl).2 z
      obtain ⟨c1, c2, c3, c4, c5, c6⟩ := fr_ch TF f1 l1
      have cp := fr_cpt (k := K (fa q)) z
      subst e1
      rw [← l2] at c1 c2 c3 c4 c5 c6
      refine ⟨g1, by omega, by omega, by omega, by omega, by omega, by omega, by omega, by omega⟩
/-- there is room -/
theorem fr_room (TF : fr_T K nd T) (S : fr_S K nd T fa ph bs ow gg un rt d w) {t : Nat} (lt : fr_lt K nd fa ph rt d t (w - 1)) (tt : T t) : d ≤ 383 ∧ bs d ≤ 383 := by
  have h := fr_pos TF S d (Nat.le_refl _) t (w - 1) (fun _ => rfl) (fun z => by omega) S.2.2.2.2.2.1 lt tt
  obtain ⟨g1, g2, g3, g4, g5, g6, g7, g8, g9⟩ := h
  have w12 := S.2.1
  have := fr_en TF (S.2.2.2.2.2.2.1 (w - 1) g1)
  omega
theorem fr_xle : ∀ p, fr_x K fa ph p ≤ p + 1 ∧ 1 ≤ fr_x K fa ph p
  | 0 => ⟨Nat.le_refl _, Nat.le_refl _⟩
  | p + 1 => by
    have := fr_xle p
    have h := ct_ble (¬ fr_tail (K (fa p)) (ph p))
    show fr_x K fa ph p + _ ≤ _ ∧ 1 ≤ fr_x K fa ph p + _
    omega
theorem fr_xmono {q : Nat} : ∀ {p : Nat}, q ≤ p → fr_x K fa ph q ≤ fr_x K fa ph p
  | 0, h => by rw [show q = 0 by omega]; exact Nat.le_refl _
  | p + 1, h => by
    by_cases e : q = p + 1
    · rw [e]; exact Nat.le_refl _
    · have := fr_xmono (q := q) (p := p) (by omega)
      show _ ≤ fr_x K fa ph p + _
      omega
theorem fr_xc {fa' ph' : Nat → Nat} : ∀ {p : Nat}, (∀ q, q < p → fa' q = fa q ∧ ph' q = ph q) → fr_x K fa' ph' p = fr_x K fa ph p
  | 0, _ => rfl
  | p + 1, h => by
    show fr_x K fa' ph' p + ct_b _ = fr_x K fa ph p + ct_b _
    rw [fr_xc (fun q hq => h q (by omega)), (h p (by omega)).1, (h p (by omega)).2]
/-- only what lies below counts -/
theorem fr_Fc {fa' ph' bs' ow' gg' un' rt' : Nat → Nat} {w' p : Nat} (F : fr_F K nd T fa ph bs ow gg un rt w p) (hw : ow p < w') (h : ∀ q, q ≤ p → fa' q = fa q ∧ ph' q = ph q ∧ bs' q = bs q ∧ ow' q = ow q ∧ (K (fa q) = 27 → ph q = 2 → gg' q = gg q)) (hb : bs' (p + 1) = bs (p + 1)) (hu : ∀ i, i < w → un' i = un i ∧ rt' i = rt i) : fr_F K nd T fa' ph' bs' ow' gg' un' rt' w' p := by
  obtain ⟨f1, f2, f3, f4, f5, f6, f7⟩ := F
  obtain ⟨a1, a2, a3, a4, a5⟩ := h p (Nat.le_refl _)
  unfold fr_F
  rw [a1, a2, a3, a4, hb]
  refine ⟨f1, hw, ⟨f3.1, fun q e => ?_⟩, ⟨fun e => ?_, fun q e => ?_⟩, f5, f6, fun z1 z2 => ?_⟩
  · obtain ⟨b1, b2, b3, b4, _⟩ := h q (by omega)
    rw [b2, b4]
    refine ⟨fun z => ⟨((f3.2 q e).1 z).1, ?_⟩, (f3.2 q e).2⟩
    rw [(hu (ow p) f2).1]; exact ((f3.2 q e).1 z).2
  · have : ow p = 0 := f3.1 e
    rw [(hu 0 (by omega)).2]; exact f4.1 e
  · obtain ⟨b1, b2, b3, b4, _⟩ := h q (by omega)
    rw [b1, b2]
    refine ⟨fun z => ?_, (f4.2 q e).2⟩
    rw [(hu (ow p) f2).2]; exact (f4.2 q e).1 z
  · rw [a5 z1 z2]; exact f7 z1 z2
end
end
section
/-! what may happen to the stack -/
section
variable {K : Nat → Int32} {nd : Nat → Nat} {T : Nat → Prop} {fa ph bs ow gg un rt : Nat → Nat} {d w : Nat}
theorem fr_owm (S : fr_S K nd T fa ph bs ow gg un rt d w) {q : Nat} : ∀ {p : Nat}, q ≤ p → p < d → ow q ≤ ow p
  | 0, h, _ => by rw [show q = 0 by omega]; exact Nat.le_refl _
  | p + 1, h, hp => by
    by_cases e : q = p + 1
    · rw [e]; exact Nat.le_refl _
    · have i := fr_owm S (q := q) (p := p) (by omega) (by omega)
      have lo := (S.2.2.2.2.1 (p + 1) hp).2.2.1
      by_cases z : ph p = 100
      · have := ((lo.2 p rfl).1 z).1; omega
      · have := (lo.2 p rfl).2 z; omega
/-- below frame p -/
theorem fr_res (S : fr_S K nd T fa ph bs ow gg un rt d w) {p : Nat} (hp : p < d) : fr_S K nd T fa ph bs ow gg un rt p (ow p + 1) := by
  have mono := fun q h => fr_owm S (q := q) (p := p) h hp
  have mono2 := fun q (h : p ≤ q) (hq : q < d) => fr_owm S (q := p) (p := q) h hq
  obtain ⟨w1, w12, u0, b0, F, top, tr, act⟩ := S
  have fp := F p hp
  refine ⟨by omega, by have := fp.2.1; omega, u0, b0, fun q hq => ?_, by rw [Nat.add_sub_cancel]; exact fp.2.2.1, fun i hi => tr i (by have := fp.2.1; omega), fun i hi => ?_⟩
  · exact fr_Fc (F q (by omega)) (by have := mono q (by omega); omega) (fun _ _ => ⟨rfl, rfl, rfl, rfl, fun _ _ => rfl⟩) rfl (fun _ _ => ⟨rfl, rfl⟩)
  · obtain ⟨p', a, b, c, e⟩ := act i (by have := fp.2.1; omega)
    refine ⟨p', ?_, b, c, e⟩
    rcases Nat.lt_or_ge p' p with q | q
    · exact q
    · have := mono2 p' q a; omega
theorem fr_push (S : fr_S K nd T fa ph bs ow gg un rt d w) {t : Nat} (lt : fr_lt K nd fa ph rt d t (w - 1)) (tt : T t) (ok : fr_ok (K t) (nd t) 0) : fr_S K nd T (nu fa d t) (nu ph d 0) (nu bs (d + 1) (bs d)) (nu ow d (w - 1)) gg un rt (d + 1) w := by
  obtain ⟨w1, w12, u0, b0, F, top, tr, act⟩ := S
  refine ⟨w1, w12, u0, by rw [nu_n (by omega)]; exact b0, fun p hp => ?_, ⟨fun e => by omega, fun q e => ?_⟩, tr, fun i hi => ?_⟩
  · by_cases e : p = d
    · subst e
      unfold fr_F
      rw [nu_s, nu_s, nu_s, nu_s, nu_n (show p ≠ p + 1 by omega)]
      refine ⟨tt, by omega, ⟨top.1, fun q e => ?_⟩, ⟨lt.1, fun q e => ?_⟩, ok, by unfold fr_c; simp, fun _ z => by omega⟩
      · rw [nu_n (by omega), nu_n (by omega)]; exact top.2 q e
      · rw [nu_n (by omega), nu_n (by omega)]; exact lt.2 q e
    · refine fr_Fc (F p (by omega)) (F p (by omega)).2.1 (fun q hq => ⟨nu_n (by omega), nu_n (by omega), nu_n (by omega), nu_n (by omega), fun _ _ => rfl⟩) (nu_n (by omega)) (fun _ _ => ⟨rfl, rfl⟩)
  · obtain rfl : q = d := by omega
    rw [nu_s, nu_s]
    exact ⟨fun z => by omega, fun _ => rfl⟩
  · obtain ⟨p', a, b, c, e⟩ := act i hi
    exact ⟨p', by omega, b, by rw [nu_n (by omega)]; exact c, by rw [nu_n (by omega)]; exact e⟩
theorem fr_set {p : Nat} (S : fr_S K nd T fa ph bs ow gg un rt (p + 1) w) {φ g : Nat} (h1 : ph p ≠ 100) (h2 : φ ≠ 100) (ok : fr_ok (K (fa p)) (nd (fa p)) φ) (hg : K (fa p) = 27 → φ = 2 → g ≤ ow p) : fr_S K nd T fa (nu ph p φ) (nu bs (p + 1) (bs p + fr_c (K (fa p)) φ)) ow (nu gg p g) un rt (p + 1) w := by
  obtain ⟨w1, w12, u0, b0, F, top, tr, act⟩ := S
  refine ⟨w1, w12, u0, by rw [nu_n (by omega)]; exact b0, fun q hq => ?_, ⟨fun e => by omega, fun q e => ?_⟩, tr, fun i hi => ?_⟩
  · by_cases e : q = p
    · subst e
      obtain ⟨f1, f2, f3, f4, f5, f6, f7⟩ := F q (by omega)
      unfold fr_F
      rw [nu_s, nu_s, nu_s, nu_n (show q ≠ q + 1 by omega)]
      refine ⟨f1, f2, ⟨f3.1, fun r e => ?_⟩, ⟨f4.1, fun r e => ?_⟩, ok, rfl, hg⟩
      · rw [nu_n (by omega)]; exact f3.2 r e
      · rw [nu_n (by omega)]; exact f4.2 r e
    · refine fr_Fc (F q (by omega)) (F q (by omega)).2.1 (fun r hr => ⟨rfl, nu_n (by omega), nu_n (by omega), rfl, fun _ _ => nu_n (by omega)⟩) (nu_n (by omega)) (fun _ _ => ⟨rfl, rfl⟩)
  · obtain rfl : q = p := by omega
    rw [nu_s]
    exact ⟨fun z => absurd z h2, fun _ => (top.2 q rfl).2 h1⟩
  · obtain ⟨p', a, b, c, e⟩ := act i hi
    refine ⟨p', a, b, ?_, e⟩
    rw [nu_n (fun z => by subst z; exact h1 c)]; exact c
theorem fr_beg {p r : Nat} (S : fr_S K nd T fa ph bs ow gg un rt (p + 1) w) (h1 : ph p ≠ 100) (hk : K (fa p) = 10 ∨ K (fa p) = 11 ∨ K (fa p) = 14 ∨ K (fa p) = 15) (hw : w < 12) (tr : T r) : fr_S K nd T fa (nu ph p 100) (nu bs (p + 1) (bs p)) ow gg (nu un w (p + 1)) (nu rt w r) (p + 1) (w + 1) := by
  obtain ⟨w1, w12, u0, b0, F, top, tr0, act⟩ := S
  have hu : ∀ i, i < w → nu un w (p + 1) i = un i ∧ nu rt w r i = rt i := fun i hi => ⟨nu_n (by omega), nu_n (by omega)⟩
  refine ⟨by omega, by omega, by rw [nu_n (by omega)]; exact u0, by rw [nu_n (by omega)]; exact b0, fun q hq => ?_, ⟨fun e => by omega, fun q e => ?_⟩, fun i hi => ?_, fun i hi => ?_⟩
  · by_cases e : q = p
    · subst e
      obtain ⟨f1, f2, f3, f4, f5, f6, f7⟩ := F q (by omega)
      unfold fr_F
      rw [nu_s, nu_s, nu_n (show q ≠ q + 1 by omega)]
      refine ⟨f1, by omega, ⟨f3.1, fun s e => ?_⟩, ⟨fun e => ?_, fun s e => ?_⟩, Or.inl ⟨rfl, hk⟩, by unfold fr_c; simp, fun _ z => by omega⟩
      · rw [nu_n (by omega)]
        exact ⟨fun z => ⟨((f3.2 s e).1 z).1, by rw [(hu _ f2).1]; exact ((f3.2 s e).1 z).2⟩, (f3.2 s e).2⟩
      · rw [nu_n (by omega)]; exact f4.1 e
      · rw [nu_n (by omega), (hu _ f2).2]; exact f4.2 s e
    · exact fr_Fc (F q (by omega)) (by have := (F q (by omega)).2.1; omega) (fun s hs => ⟨rfl, nu_n (by omega), nu_n (by omega), rfl, fun _ _ => rfl⟩) (nu_n (by omega)) hu
  · obtain rfl : q = p := by omega
    rw [nu_s]
    refine ⟨fun _ => ⟨?_, ?_⟩, fun z => absurd rfl z⟩
    · have := (top.2 q rfl).2 h1; omega
    · rw [Nat.add_sub_cancel, nu_s]
  · by_cases e : i = w
    · subst e; rw [nu_s]; exact tr
    · rw [(hu i (by omega)).2]; exact tr0 i (by omega)
  · by_cases e : i + 1 = w
    · subst e
      refine ⟨p, by omega, nu_s, nu_s, ?_⟩
      have := (top.2 p rfl).2 h1; omega
    · obtain ⟨p', a, b, c, e'⟩ := act i (by omega)
      refine ⟨p', a, by rw [nu_n e]; exact b, ?_, e'⟩
      rw [nu_n (fun z => by subst z; exact h1 c)]; exact c
/-- up to and with frame p, if it does not wait for an answer -/
theorem fr_low (S : fr_S K nd T fa ph bs ow gg un rt d w) {p : Nat} (hp : p < d) (h : ph p ≠ 100) : fr_S K nd T fa ph bs ow gg un rt (p + 1) (ow p + 1) := by
  have R := fr_res S hp
  obtain ⟨w1, w12, u0, b0, F, top, tr, act⟩ := R
  refine ⟨w1, w12, u0, b0, fun q hq => ?_, ⟨fun e => by omega, fun q e => ?_⟩, tr, fun i hi => ?_⟩
  · by_cases e : q = p
    · subst e
      exact fr_Fc (S.2.2.2.2.1 q hp) (by omega) (fun _ _ => ⟨rfl, rfl, rfl, rfl, fun _ _ => rfl⟩) rfl (fun _ _ => ⟨rfl, rfl⟩)
    · exact F q (by omega)
  · obtain rfl : q = p := by omega
    exact ⟨fun z => absurd z h, fun _ => by omega⟩
  · obtain ⟨p', a, b⟩ := act i hi
    exact ⟨p', by omega, b⟩
/-- frames of one activation lie within one another -/
theorem fr_in (TF : fr_T K nd T) (S : fr_S K nd T fa ph bs ow gg un rt d w) {e : Nat} : ∀ {p : Nat}, e < p → p < d → ow p = ow e → ph e ≠ 100 ∧ fr_pt (K (fa e)) (ph e) < nd (fa e) ∧ ex_e nd (fa p) ≤ ex_pt nd (fa e) (fr_pt (K (fa e)) (ph e) + 1)
  | 0, h, _, _ => by omega
  | p + 1, h, hp, eo => by
    have Fp := S.2.2.2.2.1 (p + 1) hp
    have Fq := S.2.2.2.2.1 p (by omega)
    have m := fr_owm S (q := e) (p := p) (by omega) (by omega)
    have nz : ph p ≠ 100 := fun z => by have := ((Fp.2.2.1.2 p rfl).1 z).1; omega
    have ep := (Fp.2.2.1.2 p rfl).2 nz
    obtain ⟨l1, l2⟩ := (Fp.2.2.2.1.2 p rfl).2 nz
    by_cases q : e = p
    · subst q
      refine ⟨nz, l1, ?_⟩
      show _ ≤ ex_e nd (ex_pt nd (fa e) _)
      rw [l2]
      exact Nat.le_refl _
    · obtain ⟨a, b, c⟩ := fr_in TF S (e := e) (p := p) (by omega) (by omega) (by omega)
      refine ⟨a, b, Nat.le_trans ?_ c⟩
      rw [l2]
      exact (fr_ch TF Fq.1 l1).2.2.2.1
end
end
section
/-! a run: how the two states belong together -/
def fr_s (k : Int32) : Nat := if k = 11 then 1 else 0
def fr_Y (aat ain aph aba ago awo aun : Nat → Int32) (K : Nat → Int32) (fa ph bs ow gg wk un : Nat → Nat) (d w : Nat) : Prop :=
  (∀ p, p < d → aat p = nI (fa p) ∧ ain p = nI (wk (ow p)) ∧ aph p = nI (ph p) ∧ aba p = nI (bs p) ∧ (K (fa p) = 27 → ph p = 2 → ago p = nI (wk (gg p)))) ∧
  (∀ i, i < w → awo i = nI (wk i) ∧ aun i = nI (un i))
/-- the operands of one frame: the class's row X, the reference's from b on, c of them -/
def fr_O (ST : Nat → Prop) (sh : Nat → Int64) (xop yop : Nat → Int64) (self : Int64) (k : Int32) (X b c : Nat) : Prop :=
  ∀ i, i < 3 → (i < fr_s k → hp_v ST sh (xop (X * 3 + i)) self) ∧ (fr_s k ≤ i → i - fr_s k < c → hp_v ST sh (xop (X * 3 + i)) (yop (b + (i - fr_s k)))) ∧ (fr_s k ≤ i → c ≤ i - fr_s k → xop (X * 3 + i) = 10000000000)
def fr_XF (K : Nat → Int32) (nd : Nat → Nat) (ST : Nat → Prop) (so nu' : Nat → Int32) (xtk xsg xlk : Nat → Int32) (xop yop yse : Nat → Int64) (σ ho fa ph bs ow gg wk : Nat → Nat) (X p : Nat) : Prop :=
  (ph p = 100 → xtk X = -1 ∧ xsg X = nI (ex_e nd (fa p)) ∧ xlk X = nI (σ (wk (ow p))) ∧ ∀ i, i < 3 → xop (X * 3 + i) = 10000000000) ∧
  (ph p ≠ 100 → xtk X = nI (fa p) ∧ xsg X = nI (ph p + fr_s (K (fa p))) ∧ (K (fa p) = 27 → ph p = 2 → xlk X = nI (σ (wk (gg p)))) ∧ fr_O ST (hp_s so nu') xop yop (yse (ho (wk (ow p)))) (K (fa p)) X (bs p) (fr_c (K (fa p)) (ph p)))
def fr_X (K : Nat → Int32) (nd : Nat → Nat) (ST : Nat → Prop) (so nu' : Nat → Int32) (xtk xsg xlk : Nat → Int32) (xop yop yse : Nat → Int64) (σ ho fa ph bs ow gg wk : Nat → Nat) (d : Nat) : Prop :=
  (xtk 0 = -1 ∧ ∀ i, i < 3 → xop i = 10000000000) ∧ ∀ p, p < d → ¬ fr_tail (K (fa p)) (ph p) → fr_XF K nd ST so nu' xtk xsg xlk xop yop yse σ ho fa ph bs ow gg wk (fr_x K fa ph p) p
def fr_W (SA : Nat → Prop) (lev lv σ : Nat → Nat) (xbf yli : Nat → Int32) (K : Nat → Int32) (fa ph wk un rt : Nat → Nat) (w : Nat) : Prop :=
  (∀ i, i < w → SA (wk i) ∧ lev (wk i) = lv (rt i) ∧ xbf (σ (wk i)) = nI (fr_x K fa ph (un i) - 1)) ∧ (∀ i j, i < w → j < w → wk i = wk j → i = j) ∧
  (∀ b, b < 128 → ¬ xbf b = -1 → ∃ i, i < w ∧ b = σ (wk i)) ∧ (∀ a, a < 160 → (yli a = 0 ∨ yli a = 1) ∧ (yli a = 1 ↔ ∃ i, i < w ∧ wk i = a))
def rn_A (cc bc dc mc : Nat) (T ST SA : Nat → Prop) (lv τ σ lev ho : Nat → Nat) (x_tokenKind x_tokenValue y_kind y_word y_size y_parent y_fields y_bound : Nat → Int32) (x_globals y_globals : Nat → Int64) (x_thingShown : Nat → Int64) (x_thingClass : Nat → Int32) (x_thingFields : Nat → Int64) (x_thingToken x_thingMaker : Nat → Int32) (x_variables : Nat → Int64) (x_homeOf x_within x_foundIn : Nat → Int32) (y_sort y_number y_stands y_keeps : Nat → Int32) (y_cells : Nat → Int64) (y_within y_foundIn : Nat → Int32) (y_self y_args y_temps y_param : Nat → Int64) : Prop :=
  (rl_C cc y_parent y_fields ∧ rl_B bc y_bound ∧ rl_T cc bc x_tokenKind x_tokenValue y_kind y_word y_size T lv ∧ rl_D bc dc x_tokenKind x_tokenValue y_kind y_word y_size) ∧ (∀ i, i < 4 → hp_v ST (hp_s y_sort y_number) (x_globals i) (y_globals i)) ∧
  hp_R cc mc T y_kind lv ST SA τ σ lev ho x_thingShown x_thingClass x_thingFields x_thingToken x_thingMaker x_variables x_homeOf x_within x_foundIn y_sort y_number y_stands y_keeps y_cells y_within y_foundIn y_self y_args y_temps y_param ∧ hp_U mc x_thingShown ∧ hp_Y y_cells y_self y_args y_temps y_param y_keeps y_within ∧ hp_X x_thingMaker x_within
def rn_F (T ST SA : Nat → Prop) (lv σ lev ho : Nat → Nat) (y_kind y_word : Nat → Int32) (fa ph bs ow gg wk un rt : Nat → Nat) (d w : Nat) (y_sort y_number x_frameToken x_frameStage x_frameLink : Nat → Int32) (x_operands : Nat → Int64) (x_baseFrame : Nat → Int32) (y_operands y_self : Nat → Int64) (y_at y_in y_phase y_base y_goal y_work y_under y_live : Nat → Int32) : Prop :=
  fr_S y_kind (tk_nd y_kind y_word) T fa ph bs ow gg un rt d w ∧ fr_Y y_at y_in y_phase y_base y_goal y_work y_under y_kind fa ph bs ow gg wk un d w ∧ fr_X y_kind (tk_nd y_kind y_word) ST y_sort y_number x_frameToken x_frameStage x_frameLink x_operands y_operands y_self σ ho fa ph bs ow gg wk d ∧ fr_W SA lev lv σ x_baseFrame y_live y_kind fa ph wk un rt w
def fr_sum (f : Nat → Nat) : Nat → Nat
  | 0 => 0
  | n + 1 => fr_sum f n + f n
noncomputable def rn_mu (nd : Nat → Nat) (fa un rt : Nat → Nat) (st d w np md : Nat) : Nat :=
  400 * (200 - st) + fr_sum (fun i => 10 * (ex_e nd (rt i) - ex_e nd (fa (un (i + 1) - 1)))) (w - 1) + 10 * (ex_e nd (rt (w - 1)) - np) + 3 * d + md
/-- the loops, with fuel enough -/
def XL (post : Int32 → SX → Prop) (t : Nat) (u : SX) : Prop := match u with
  | (x_classCount, x_bodyCount, x_draftCount, x_wrongPlace, x_madeCount, x_frameCount, x_current, x_next, x_inHand, x_mode, x_outcome, x_stepCount, x_atWork, x_mostAtWork, x_saidCount, x_pendingCount, x_classParent, x_classFields, x_bound, x_tokenKind, x_tokenValue, x_globals, x_thingShown, x_thingClass, x_thingFields, x_thingToken, x_thingMaker, x_variables, x_homeOf, x_within, x_foundIn, x_baseFrame, x_frameToken, x_frameStage, x_frameLink, x_operands, x_saidValues, x_marked, x_pending) => ∀ n, 1000000 - t < n → wX_send_91 post n (nI t) x_classCount x_bodyCount x_draftCount x_wrongPlace x_madeCount x_frameCount x_current x_next x_inHand x_mode x_outcome x_stepCount x_atWork x_mostAtWork x_saidCount x_pendingCount x_classParent x_classFields x_bound x_tokenKind x_tokenValue x_globals x_thingShown x_thingClass x_thingFields x_thingToken x_thingMaker x_variables x_homeOf x_within x_foundIn x_baseFrame x_frameToken x_frameStage x_frameLink x_operands x_saidValues x_marked x_pending
def YL (post : Int32 → SY → Prop) (m : Nat) (v : SY) : Prop := match v with
  | (y_classes, y_bodies, y_fault, y_made, y_working, y_peak, y_steps, y_depth, y_waiting, y_code, y_running, y_has, y_got, y_todos, y_marks, y_shown, y_spoken, y_parent, y_fields, y_bound, y_kind, y_word, y_size, y_sort, y_number, y_stands, y_keeps, y_cells, y_globals, y_within, y_foundIn, y_self, y_args, y_temps, y_param, y_live, y_work, y_under, y_at, y_in, y_phase, y_base, y_goal, y_operands, y_marked, y_todo, y_heard) => ∀ n, m < n → wY_send_126 post n y_classes y_bodies y_fault y_made y_working y_peak y_steps y_depth y_waiting y_code y_running y_has y_got y_todos y_marks y_shown y_spoken y_parent y_fields y_bound y_kind y_word y_size y_sort y_number y_stands y_keeps y_cells y_globals y_within y_foundIn y_self y_args y_temps y_param y_live y_work y_under y_at y_in y_phase y_base y_goal y_operands y_marked y_todo y_heard
theorem YL_mono {post : Int32 → SY → Prop} {m m' : Nat} {v : SY} (h : YL post m v) (hm : m ≤ m') : YL post m' v := by
  obtain ⟨y_classes, y_bodies, y_fault, y_made, y_working, y_peak, y_steps, y_depth, y_waiting, y_code, y_running, y_has, y_got, y_todos, y_marks, y_shown, y_spoken, y_parent, y_fields, y_bound, y_kind, y_word, y_size, y_sort, y_number, y_stands, y_keeps, y_cells, y_globals, y_within, y_foundIn, y_self, y_args, y_temps, y_param, y_live, y_work, y_under, y_at, y_in, y_phase, y_base, y_goal, y_operands, y_marked, y_todo, y_heard⟩ := v
  exact fun n hn => h n (by omega)
section
variable {x_classCount x_bodyCount x_draftCount x_wrongPlace x_madeCount x_frameCount x_current x_next x_mode x_outcome x_stepCount x_atWork x_mostAtWork x_saidCount x_pendingCount : Int32} {x_inHand : Int64} {x_classParent x_classFields x_bound x_tokenKind x_tokenValue x_thingClass x_thingToken x_thingMaker x_homeOf x_within x_foundIn x_baseFrame x_frameToken x_frameStage x_frameLink x_marked x_pending : Nat → Int32} {x_globals x_thingShown x_thingFields x_variables x_operands x_saidValues : Nat → Int64}
variable {y_classes y_bodies y_fault y_made y_working y_peak y_steps y_depth y_waiting y_code y_running y_has y_todos y_marks y_spoken : Int32} {y_got y_shown : Int64} {y_parent y_fields y_bound y_kind y_word y_size y_sort y_number y_stands y_keeps y_within y_foundIn y_live y_work y_under y_at y_in y_phase y_base y_goal y_marked y_todo : Nat → Int32} {y_cells y_globals y_self y_args y_temps y_param y_operands y_heard : Nat → Int64}
theorem xt_read {post : Int32 → SX → Prop} {t : Nat} {u1 : SX} (ht : t < 1000000) (h : ∀ Q : SX → Prop, Q u1 → wpX_readToken Q (x_classCount, x_bodyCount, x_draftCount, x_wrongPlace, x_madeCount, x_frameCount, x_current, x_next, x_inHand, 0, 100, x_stepCount, x_atWork, x_mostAtWork, x_saidCount, x_pendingCount, x_classParent, x_classFields, x_bound, x_tokenKind, x_tokenValue, x_globals, x_thingShown, x_thingClass, x_thingFields, x_thingToken, x_thingMaker, x_variables, x_homeOf, x_within, x_foundIn, x_baseFrame, x_frameToken, x_frameStage, x_frameLink, x_operands, x_saidValues, x_marked, x_pending)) (k : XL post (t + 1) u1) : XL post t (x_classCount, x_bodyCount, x_draftCount, x_wrongPlace, x_madeCount, x_frameCount, x_current, x_next, x_inHand, 0, 100, x_stepCount, x_atWork, x_mostAtWork, x_saidCount, x_pendingCount, x_classParent, x_classFields, x_bound, x_tokenKind, x_tokenValue, x_globals, x_thingShown, x_thingClass, x_thingFields, x_thingToken, x_thingMaker, x_variables, x_homeOf, x_within, x_foundIn, x_baseFrame, x_frameToken, x_frameStage, x_frameLink, x_operands, x_saidValues, x_marked, x_pending) := by
  intro n hn
  obtain ⟨n', rfl⟩ : ∃ n', n = n' + 1 := ⟨n - 1, by omega⟩
  refine br_f (nI_ge (b := 1000000) ht (by decide)) (br_t rfl (br_t rfl (h _ ?_)))
  obtain ⟨b1, b2, b3, b4, b5, b6, b7, b8, b9, b10, b11, b12, b13, b14, b15, b16, b17, b18, b19, b20, b21, b22, b23, b24, b25, b26, b27, b28, b29, b30, b31, b32, b33, b34, b35, b36, b37, b38, b39⟩ := u1
  exact nm_r (nI_1 t) (k n' (by omega))
theorem xt_hand {post : Int32 → SX → Prop} {t : Nat} {u1 : SX} (ht : t < 1000000) (h : ∀ Q : SX → Prop, Q u1 → wpX_handOn Q (x_classCount, x_bodyCount, x_draftCount, x_wrongPlace, x_madeCount, x_frameCount, x_current, x_next, x_inHand, 1, 100, x_stepCount, x_atWork, x_mostAtWork, x_saidCount, x_pendingCount, x_classParent, x_classFields, x_bound, x_tokenKind, x_tokenValue, x_globals, x_thingShown, x_thingClass, x_thingFields, x_thingToken, x_thingMaker, x_variables, x_homeOf, x_within, x_foundIn, x_baseFrame, x_frameToken, x_frameStage, x_frameLink, x_operands, x_saidValues, x_marked, x_pending)) (k : XL post (t + 1) u1) : XL post t (x_classCount, x_bodyCount, x_draftCount, x_wrongPlace, x_madeCount, x_frameCount, x_current, x_next, x_inHand, 1, 100, x_stepCount, x_atWork, x_mostAtWork, x_saidCount, x_pendingCount, x_classParent, x_classFields, x_bound, x_tokenKind, x_tokenValue, x_globals, x_thingShown, x_thingClass, x_thingFields, x_thingToken, x_thingMaker, x_variables, x_homeOf, x_within, x_foundIn, x_baseFrame, x_frameToken, x_frameStage, x_frameLink, x_operands, x_saidValues, x_marked, x_pending) := by
  intro n hn
  obtain ⟨n', rfl⟩ : ∃ n', n = n' + 1 := ⟨n - 1, by omega⟩
  refine br_f (nI_ge (b := 1000000) ht (by decide)) (br_t rfl (br_f (by decide) (br_t rfl (h _ ?_))))
  obtain ⟨b1, b2, b3, b4, b5, b6, b7, b8, b9, b10, b11, b12, b13, b14, b15, b16, b17, b18, b19, b20, b21, b22, b23, b24, b25, b26, b27, b28, b29, b30, b31, b32, b33, b34, b35, b36, b37, b38, b39⟩ := u1
  exact nm_r (nI_1 t) (k n' (by omega))
theorem xt_apply {post : Int32 → SX → Prop} {t : Nat} {u1 : SX} (ht : t < 1000000) (h : ∀ Q : SX → Prop, Q u1 → wpX_applyOperator Q (x_classCount, x_bodyCount, x_draftCount, x_wrongPlace, x_madeCount, x_frameCount, x_current, x_next, x_inHand, 2, 100, x_stepCount, x_atWork, x_mostAtWork, x_saidCount, x_pendingCount, x_classParent, x_classFields, x_bound, x_tokenKind, x_tokenValue, x_globals, x_thingShown, x_thingClass, x_thingFields, x_thingToken, x_thingMaker, x_variables, x_homeOf, x_within, x_foundIn, x_baseFrame, x_frameToken, x_frameStage, x_frameLink, x_operands, x_saidValues, x_marked, x_pending)) (k : XL post (t + 1) u1) : XL post t (x_classCount, x_bodyCount, x_draftCount, x_wrongPlace, x_madeCount, x_frameCount, x_current, x_next, x_inHand, 2, 100, x_stepCount, x_atWork, x_mostAtWork, x_saidCount, x_pendingCount, x_classParent, x_classFields, x_bound, x_tokenKind, x_tokenValue, x_globals, x_thingShown, x_thingClass, x_thingFields, x_thingToken, x_thingMaker, x_variables, x_homeOf, x_within, x_foundIn, x_baseFrame, x_frameToken, x_frameStage, x_frameLink, x_operands, x_saidValues, x_marked, x_pending) := by
  intro n hn
  obtain ⟨n', rfl⟩ : ∃ n', n = n' + 1 := ⟨n - 1, by omega⟩
  refine br_f (nI_ge (b := 1000000) ht (by decide)) (br_t rfl (br_f (by decide) (br_f (by decide) (h _ ?_))))
  obtain ⟨b1, b2, b3, b4, b5, b6, b7, b8, b9, b10, b11, b12, b13, b14, b15, b16, b17, b18, b19, b20, b21, b22, b23, b24, b25, b26, b27, b28, b29, b30, b31, b32, b33, b34, b35, b36, b37, b38, b39⟩ := u1
  exact nm_r (nI_1 t) (k n' (by omega))
theorem yt_next {post : Int32 → SY → Prop} {m : Nat} {v1 : SY} (h : ∀ Q : SY → Prop, Q v1 → wpY_next Q (y_classes, y_bodies, y_fault, y_made, y_working, y_peak, y_steps, y_depth, y_waiting, y_code, 1, 0, y_got, y_todos, y_marks, y_shown, y_spoken, y_parent, y_fields, y_bound, y_kind, y_word, y_size, y_sort, y_number, y_stands, y_keeps, y_cells, y_globals, y_within, y_foundIn, y_self, y_args, y_temps, y_param, y_live, y_work, y_under, y_at, y_in, y_phase, y_base, y_goal, y_operands, y_marked, y_todo, y_heard)) (k : YL post m v1) : YL post (m + 1) (y_classes, y_bodies, y_fault, y_made, y_working, y_peak, y_steps, y_depth, y_waiting, y_code, 1, 0, y_got, y_todos, y_marks, y_shown, y_spoken, y_parent, y_fields, y_bound, y_kind, y_word, y_size, y_sort, y_number, y_stands, y_keeps, y_cells, y_globals, y_within, y_foundIn, y_self, y_args, y_temps, y_param, y_live, y_work, y_under, y_at, y_in, y_phase, y_base, y_goal, y_operands, y_marked, y_todo, y_heard) := by
  intro n hn
  obtain ⟨n', rfl⟩ : ∃ n', n = n' + 1 := ⟨n - 1, by omega⟩
  refine br_f (by decide) (br_t rfl (h _ ?_))
  obtain ⟨b1, b2, b3, b4, b5, b6, b7, b8, b9, b10, b11, b12, b13, b14, b15, b16, b17, b18, b19, b20, b21, b22, b23, b24, b25, b26, b27, b28, b29, b30, b31, b32, b33, b34, b35, b36, b37, b38, b39, b40, b41, b42, b43, b44, b45, b46, b47⟩ := v1
  exact k n' (by omega)
theorem yt_deliver {post : Int32 → SY → Prop} {m : Nat} {v1 : SY} (h : ∀ Q : SY → Prop, Q v1 → wpY_deliver Q (y_classes, y_bodies, y_fault, y_made, y_working, y_peak, y_steps, y_depth, y_waiting, y_code, 1, 1, y_got, y_todos, y_marks, y_shown, y_spoken, y_parent, y_fields, y_bound, y_kind, y_word, y_size, y_sort, y_number, y_stands, y_keeps, y_cells, y_globals, y_within, y_foundIn, y_self, y_args, y_temps, y_param, y_live, y_work, y_under, y_at, y_in, y_phase, y_base, y_goal, y_operands, y_marked, y_todo, y_heard)) (k : YL post m v1) : YL post (m + 1) (y_classes, y_bodies, y_fault, y_made, y_working, y_peak, y_steps, y_depth, y_waiting, y_code, 1, 1, y_got, y_todos, y_marks, y_shown, y_spoken, y_parent, y_fields, y_bound, y_kind, y_word, y_size, y_sort, y_number, y_stands, y_keeps, y_cells, y_globals, y_within, y_foundIn, y_self, y_args, y_temps, y_param, y_live, y_work, y_under, y_at, y_in, y_phase, y_base, y_goal, y_operands, y_marked, y_todo, y_heard) := by
  intro n hn
  obtain ⟨n', rfl⟩ : ∃ n', n = n' + 1 := ⟨n - 1, by omega⟩
  refine br_f (by decide) (br_f (by decide) (h _ ?_))
  obtain ⟨b1, b2, b3, b4, b5, b6, b7, b8, b9, b10, b11, b12, b13, b14, b15, b16, b17, b18, b19, b20, b21, b22, b23, b24, b25, b26, b27, b28, b29, b30, b31, b32, b33, b34, b35, b36, b37, b38, b39, b40, b41, b42, b43, b44, b45, b46, b47⟩ := v1
  exact k n' (by omega)
end
end
section
/-! the run as a whole: from step to step to its end -/
def rn_H (ST : Nat → Prop) (so nu' : Nat → Int32) (K : Nat → Int32) (nd : Nat → Nat) (T : Nat → Prop) (fa ph rt : Nat → Nat) (d w np md : Nat) (xmode yhas : Int32) (xin ygot : Int64) : Prop :=
  xmode = 1 ∧ yhas = 1 ∧ md = 2 ∧ hp_v ST (hp_s so nu') xin ygot ∧ ∃ t, fr_lt K nd fa ph rt d t (w - 1) ∧ T t ∧ np = ex_e nd t
def rn_N (K : Nat → Int32) (nd : Nat → Nat) (fa ph : Nat → Nat) (d np md : Nat) (xmode yhas : Int32) : Prop :=
  yhas = 0 ∧ ∃ p, d = p + 1 ∧ ph p ≠ 100 ∧ np = ex_pt nd (fa p) (fr_pt (K (fa p)) (ph p)) ∧ ((fr_pt (K (fa p)) (ph p) < nd (fa p) ∧ xmode = 0 ∧ md = 0) ∨ (fr_pt (K (fa p)) (ph p) = nd (fa p) ∧ xmode = 2 ∧ md = 1))
/-- a run under way, with less than M to go; B bounds what is made -/
def rn_St (B M : Nat) (u : SX) (v : SY) : Prop := match u, v with
  | (x_classCount, x_bodyCount, x_draftCount, x_wrongPlace, x_madeCount, x_frameCount, x_current, x_next, x_inHand, x_mode, x_outcome, x_stepCount, x_atWork, x_mostAtWork, x_saidCount, x_pendingCount, x_classParent, x_classFields, x_bound, x_tokenKind, x_tokenValue, x_globals, x_thingShown, x_thingClass, x_thingFields, x_thingToken, x_thingMaker, x_variables, x_homeOf, x_within, x_foundIn, x_baseFrame, x_frameToken, x_frameStage, x_frameLink, x_operands, x_saidValues, x_marked, x_pending), (y_classes, y_bodies, y_fault, y_made, y_working, y_peak, y_steps, y_depth, y_waiting, y_code, y_running, y_has, y_got, y_todos, y_marks, y_shown, y_spoken, y_parent, y_fields, y_bound, y_kind, y_word, y_size, y_sort, y_number, y_stands, y_keeps, y_cells, y_globals, y_within, y_foundIn, y_self, y_args, y_temps, y_param, y_live, y_work, y_under, y_at, y_in, y_phase, y_base, y_goal, y_operands, y_marked, y_todo, y_heard) => ∃ (cc bc dc mc st sp d w np md : Nat) (T ST SA : Nat → Prop) (lv τ σ lev ho fa ph bs ow gg wk un rt : Nat → Nat),
    (x_classCount = nI cc ∧ x_bodyCount = nI bc ∧ x_draftCount = nI dc ∧ y_fault = x_wrongPlace ∧ x_madeCount = nI mc ∧ x_frameCount = nI (fr_x y_kind fa ph d) ∧ x_current = nI (σ (wk (w - 1))) ∧ x_outcome = 100 ∧ x_stepCount = nI st ∧ x_atWork = nI w ∧ y_peak = x_mostAtWork ∧ x_saidCount = nI sp ∧ y_parent = x_classParent ∧ y_fields = x_classFields ∧ y_bound = x_bound ∧ y_heard = x_saidValues ∧ x_next = nI np) ∧
    (y_classes = nI cc ∧ y_bodies = nI bc ∧ y_made = nI mc ∧ y_working = nI w ∧ y_steps = nI st ∧ y_depth = nI d ∧ y_waiting = nI (bs d) ∧ y_running = 1 ∧ y_spoken = nI sp ∧ y_shown = -10000000000) ∧
    rn_A cc bc dc mc T ST SA lv τ σ lev ho x_tokenKind x_tokenValue y_kind y_word y_size y_parent y_fields y_bound x_globals y_globals x_thingShown x_thingClass x_thingFields x_thingToken x_thingMaker x_variables x_homeOf x_within x_foundIn y_sort y_number y_stands y_keeps y_cells y_within y_foundIn y_self y_args y_temps y_param ∧ rn_F T ST SA lv σ lev ho y_kind y_word fa ph bs ow gg wk un rt d w y_sort y_number x_frameToken x_frameStage x_frameLink x_operands x_baseFrame y_operands y_self y_at y_in y_phase y_base y_goal y_work y_under y_live ∧ (rn_H ST y_sort y_number y_kind (tk_nd y_kind y_word) T fa ph rt d w np md x_mode y_has x_inHand y_got ∨ rn_N y_kind (tk_nd y_kind y_word) fa ph d np md x_mode y_has) ∧
    st ≤ 200 ∧ sp < 2 ^ 30 - rn_mu (tk_nd y_kind y_word) fa un rt st d w np md ∧ rn_mu (tk_nd y_kind y_word) fa un rt st d w np md < M ∧ mc + rn_mu (tk_nd y_kind y_word) fa un rt st d w np md ≤ B
/-- a run that has ended -/
def rn_E (B : Nat) (u : SX) (v : SY) : Prop := match u, v with
  | (x_classCount, x_bodyCount, x_draftCount, x_wrongPlace, x_madeCount, x_frameCount, x_current, x_next, x_inHand, x_mode, x_outcome, x_stepCount, x_atWork, x_mostAtWork, x_saidCount, x_pendingCount, x_classParent, x_classFields, x_bound, x_tokenKind, x_tokenValue, x_globals, x_thingShown, x_thingClass, x_thingFields, x_thingToken, x_thingMaker, x_variables, x_homeOf, x_within, x_foundIn, x_baseFrame, x_frameToken, x_frameStage, x_frameLink, x_operands, x_saidValues, x_marked, x_pending), (y_classes, y_bodies, y_fault, y_made, y_working, y_peak, y_steps, y_depth, y_waiting, y_code, y_running, y_has, y_got, y_todos, y_marks, y_shown, y_spoken, y_parent, y_fields, y_bound, y_kind, y_word, y_size, y_sort, y_number, y_stands, y_keeps, y_cells, y_globals, y_within, y_foundIn, y_self, y_args, y_temps, y_param, y_live, y_work, y_under, y_at, y_in, y_phase, y_base, y_goal, y_operands, y_marked, y_todo, y_heard) => ∃ (cc bc dc mc w : Nat) (T ST SA : Nat → Prop) (lv τ σ lev ho : Nat → Nat),
    (x_classCount = nI cc ∧ x_bodyCount = nI bc ∧ x_draftCount = nI dc ∧ y_fault = x_wrongPlace ∧ x_madeCount = nI mc ∧ y_peak = x_mostAtWork ∧ y_spoken = x_saidCount ∧ y_steps = x_stepCount ∧ y_parent = x_classParent ∧ y_fields = x_classFields ∧ y_bound = x_bound ∧ y_heard = x_saidValues) ∧
    (y_classes = nI cc ∧ y_bodies = nI bc ∧ y_made = nI mc ∧ y_working = nI w ∧ y_running = 0 ∧ w ≤ 12) ∧
    (¬ x_outcome = 100 ∧ y_code = x_outcome ∧ ((x_outcome = 0 ∧ y_shown = x_inHand) ∨ (¬ x_outcome = 0 ∧ y_shown = -10000000000))) ∧
    rn_A cc bc dc mc T ST SA lv τ σ lev ho x_tokenKind x_tokenValue y_kind y_word y_size y_parent y_fields y_bound x_globals y_globals x_thingShown x_thingClass x_thingFields x_thingToken x_thingMaker x_variables x_homeOf x_within x_foundIn y_sort y_number y_stands y_keeps y_cells y_within y_foundIn y_self y_args y_temps y_param ∧ mc ≤ B ∧ (∀ i, i < w → ∃ a, a < 160 ∧ y_work i = nI a) ∧ (∀ a, a < 160 → y_live a = 0 ∨ ∃ i, i < w ∧ y_work i = nI a)
/-- one step -/
def rn_Go (B M t : Nat) (u : SX) (v : SY) : Prop := ∃ u1 v1 t1, t1 ≤ t + 2 ∧ (∀ PX, XL PX t1 u1 → XL PX t u) ∧ (∀ PY m, YL PY m v1 → YL PY (m + 2) v) ∧ (rn_E B u1 v1 ∨ rn_St B M u1 v1)
theorem rn_main {B : Nat} (step : ∀ M t u v, t + 2 ≤ 1000000 → rn_St B (M + 1) u v → rn_Go B M t u v) : ∀ M t u v, t + 2 * M ≤ 1000000 → rn_St B M u v → ∃ u' v' t', t' ≤ 1000000 ∧ rn_E B u' v' ∧ (∀ PX, XL PX t' u' → XL PX t u) ∧ (∀ PY, YL PY 0 v' → YL PY (2 * M) v)
  | 0, t, u, v, _, h => by
    obtain ⟨x_classCount, x_bodyCount, x_draftCount, x_wrongPlace, x_madeCount, x_frameCount, x_current, x_next, x_inHand, x_mode, x_outcome, x_stepCount, x_atWork, x_mostAtWork, x_saidCount, x_pendingCount, x_classParent, x_classFields, x_bound, x_tokenKind, x_tokenValue, x_globals, x_thingShown, x_thingClass, x_thingFields, x_thingToken, x_thingMaker, x_variables, x_homeOf, x_within, x_foundIn, x_baseFrame, x_frameToken, x_frameStage, x_frameLink, x_operands, x_saidValues, x_marked, x_pending⟩ := u
    obtain ⟨y_classes, y_bodies, y_fault, y_made, y_working, y_peak, y_steps, y_depth, y_waiting, y_code, y_running, y_has, y_got, y_todos, y_marks, y_shown, y_spoken, y_parent, y_fields, y_bound, y_kind, y_word, y_size, y_sort, y_number, y_stands, y_keeps, y_cells, y_globals, y_within, y_foundIn, y_self, y_args, y_temps, y_param, y_live, y_work, y_under, y_at, y_in, y_phase, y_base, y_goal, y_operands, y_marked, y_todo, y_heard⟩ := v
    obtain ⟨_, _, _, _, _, _, _, _, _, _, _, _, _, _, _, _, _, _, _, _, _, _, _, _, _, _, _, _, _, _, _, _, _, z, _⟩ := h
    omega
  | M + 1, t, u, v, ht, h => by
    obtain ⟨u1, v1, t1, a, b, c, e | s⟩ := step M t u v (by omega) h
    · exact ⟨u1, v1, t1, by omega, e, b, fun PY q => YL_mono (c PY 0 q) (by omega)⟩
    · obtain ⟨u', v', t', a', e', b', c'⟩ := rn_main step M t1 u1 v1 (by omega) s
      exact ⟨u', v', t', a', e', fun PX q => b PX (b' PX q), fun PY q => YL_mono (c PY _ (c' PY q)) (by omega)⟩
def zf_c (f : Nat → Int32) (n : Nat) (v : Int32) : Nat → Int32 := fun j => if j < n then v else f j
theorem zf_c0 (f : Nat → Int32) (v : Int32) : zf_c f 0 v = f := by funext j; unfold zf_c; rw [if_neg (by omega)]
theorem zf_cs (f : Nat → Int32) (n : Nat) (v : Int32) : upd (zf_c f n v) n v = zf_c f (n + 1) v := by
  funext j
  unfold upd zf_c
  by_cases h : j = n
  · rw [if_pos h, if_pos (by omega)]
  · rw [if_neg h]
    by_cases q : j < n
    · rw [if_pos q, if_pos (by omega)]
    · rw [if_neg q, if_neg (by omega)]
section
variable {x_classCount x_bodyCount x_draftCount x_wrongPlace x_madeCount x_frameCount x_current x_next x_mode x_outcome x_stepCount x_atWork x_mostAtWork x_saidCount x_pendingCount : Int32} {x_inHand : Int64} {x_classParent x_classFields x_bound x_tokenKind x_tokenValue x_thingClass x_thingToken x_thingMaker x_homeOf x_within x_foundIn x_baseFrame x_frameToken x_frameStage x_frameLink x_marked x_pending : Nat → Int32} {x_globals x_thingShown x_thingFields x_variables x_operands x_saidValues : Nat → Int64}
variable {y_classes y_bodies y_fault y_made y_working y_peak y_steps y_depth y_waiting y_code y_running y_has y_todos y_marks y_spoken : Int32} {y_got y_shown : Int64} {y_parent y_fields y_bound y_kind y_word y_size y_sort y_number y_stands y_keeps y_within y_foundIn y_live y_work y_under y_at y_in y_phase y_base y_goal y_marked y_todo : Nat → Int32} {y_cells y_globals y_self y_args y_temps y_param y_operands y_heard : Nat → Int64}
theorem xe_end {post : Int32 → SX → Prop} {t : Nat} (ht : t ≤ 1000000) (ho : ¬ x_outcome = 100) (h : post x_outcome (x_classCount, x_bodyCount, x_draftCount, x_wrongPlace, x_madeCount, 0, x_current, x_next, x_inHand, x_mode, x_outcome, x_stepCount, 0, x_mostAtWork, x_saidCount, x_pendingCount, x_classParent, x_classFields, x_bound, x_tokenKind, x_tokenValue, x_globals, x_thingShown, x_thingClass, x_thingFields, x_thingToken, x_thingMaker, x_variables, x_homeOf, x_within, x_foundIn, zf_c x_baseFrame 128 (-1), x_frameToken, x_frameStage, x_frameLink, x_operands, x_saidValues, x_marked, x_pending)) : XL post t (x_classCount, x_bodyCount, x_draftCount, x_wrongPlace, x_madeCount, x_frameCount, x_current, x_next, x_inHand, x_mode, x_outcome, x_stepCount, x_atWork, x_mostAtWork, x_saidCount, x_pendingCount, x_classParent, x_classFields, x_bound, x_tokenKind, x_tokenValue, x_globals, x_thingShown, x_thingClass, x_thingFields, x_thingToken, x_thingMaker, x_variables, x_homeOf, x_within, x_foundIn, x_baseFrame, x_frameToken, x_frameStage, x_frameLink, x_operands, x_saidValues, x_marked, x_pending) := by
  have e146 : wX_send_146 post x_classCount x_bodyCount x_draftCount x_wrongPlace x_madeCount x_frameCount x_current x_next x_inHand x_mode x_outcome x_stepCount x_atWork x_mostAtWork x_saidCount x_pendingCount x_classParent x_classFields x_bound x_tokenKind x_tokenValue x_globals x_thingShown x_thingClass x_thingFields x_thingToken x_thingMaker x_variables x_homeOf x_within x_foundIn x_baseFrame x_frameToken x_frameStage x_frameLink x_operands x_saidValues x_marked x_pending := by
    unfold wX_send_146 wpX_endRun
    dsimp only
    refine loop_0 (fun n i f => wX_endRun_2 _ x_classCount x_bodyCount x_draftCount x_wrongPlace x_madeCount x_frameCount x_current x_next x_inHand x_mode x_outcome x_stepCount x_atWork x_mostAtWork x_saidCount x_pendingCount n (nI i) x_classParent x_classFields x_bound x_tokenKind x_tokenValue x_globals x_thingShown x_thingClass x_thingFields x_thingToken x_thingMaker x_variables x_homeOf x_within x_foundIn f x_frameToken x_frameStage x_frameLink x_operands x_saidValues x_marked x_pending) (fun i f => f = zf_c x_baseFrame i (-1)) 128 x_baseFrame (zf_c0 _ _).symm ?_ ?_
    · intro n f I
      subst I
      exact br_t (by decide) h
    · intro n i f hi I k
      subst I
      refine br_f (nI_ge (b := 128) hi (by decide)) ⟨vp_in_nI hi (by decide), ?_⟩
      rw [nI_clamp (by omega)]
      exact nm_r (zf_cs _ _ _) (nm_r (nI_1 i) (k _ rfl))
  intro n hn
  obtain ⟨n', rfl⟩ : ∃ n', n = n' + 1 := ⟨n - 1, by omega⟩
  exact br_c (fun _ => e146) (fun _ => br_f ho e146)
theorem ye_end {post : Int32 → SY → Prop} {w : Nat} (hw : w ≤ 12) (hwk : ∀ i, i < w → ∃ a, a < 160 ∧ y_work i = nI a) (h : ∀ lv, (∀ a, a < 160 → (lv a = y_live a ∨ lv a = 0) ∧ ((∃ i, i < w ∧ y_work i = nI a) → lv a = 0)) → post y_code (y_classes, y_bodies, y_fault, y_made, 0, y_peak, y_steps, y_depth, 0, y_code, 0, y_has, y_got, y_todos, y_marks, y_shown, y_spoken, y_parent, y_fields, y_bound, y_kind, y_word, y_size, y_sort, y_number, y_stands, y_keeps, y_cells, y_globals, y_within, y_foundIn, y_self, y_args, y_temps, y_param, lv, y_work, y_under, y_at, y_in, y_phase, y_base, y_goal, y_operands, y_marked, y_todo, y_heard)) : YL post 0 (y_classes, y_bodies, y_fault, y_made, nI w, y_peak, y_steps, y_depth, y_waiting, y_code, 0, y_has, y_got, y_todos, y_marks, y_shown, y_spoken, y_parent, y_fields, y_bound, y_kind, y_word, y_size, y_sort, y_number, y_stands, y_keeps, y_cells, y_globals, y_within, y_foundIn, y_self, y_args, y_temps, y_param, y_live, y_work, y_under, y_at, y_in, y_phase, y_base, y_goal, y_operands, y_marked, y_todo, y_heard) := by
  intro n hn
  obtain ⟨n', rfl⟩ : ∃ n', n = n' + 1 := ⟨n - 1, by omega⟩
  refine br_t rfl ?_
  refine loop_0 (fun n i f => wY_send_157 post y_classes y_bodies y_fault y_made (nI w) y_peak y_steps y_depth y_waiting y_code 0 y_has y_got y_todos y_marks y_shown y_spoken n (nI i) y_parent y_fields y_bound y_kind y_word y_size y_sort y_number y_stands y_keeps y_cells y_globals y_within y_foundIn y_self y_args y_temps y_param f y_work y_under y_at y_in y_phase y_base y_goal y_operands y_marked y_todo y_heard) (fun i f => i ≤ w → ∀ a, a < 160 → (f a = y_live a ∨ f a = 0) ∧ ((∃ j, j < i ∧ y_work j = nI a) → f a = 0)) w y_live (fun _ a _ => ⟨Or.inl rfl, fun ⟨j, hj, _⟩ => by omega⟩) ?_ ?_
  · intro n f I
    exact br_t (nI_le (Nat.le_refl _) (by omega)) (h f (I (Nat.le_refl _)))
  · intro n i f hi I k
    obtain ⟨b, b1, b2⟩ := hwk i hi
    refine br_f (nI_ge hi (by omega)) ⟨vp_in_nI (by omega) (by decide), ?_⟩
    rw [nI_clamp (show i < 2 ^ 31 by omega), b2, nI_clamp (show b < 2 ^ 31 by omega), show vp_nar .boolean 0 = 0 by rfl]
    refine ⟨vp_in_nI b1 (by decide), nm_e (nm_r (nI_1 i) (k _ fun _ a ha => ?_))⟩
    have I := I (by omega) a ha
    by_cases e : a = b
    · subst e
      rw [pk_us]
      exact ⟨Or.inr rfl, fun _ => rfl⟩
    · rw [pk_un e]
      refine ⟨I.1, fun ⟨j, j1, j2⟩ => I.2 ⟨j, ?_, j2⟩⟩
      by_cases q : j = i
      · subst q
        exact absurd ((nI_eq (by omega) (by omega)).mp (j2.symm.trans b2)) e
      · omega
end
/-- the end of a run, seen from outside -/
theorem rn_fin {k B : Nat} {u : SX} {v : SY} {t : Nat} (ht : t ≤ 1000000) (hB : B ≤ 20000 * (k + 5)) (h : rn_E B u v) : ∃ (r : Int32) (u' : SX), (∀ PX : Int32 → SX → Prop, PX r u' → XL PX t u) ∧ (∀ PY : Int32 → SY → Prop, (∀ v', i_Rel (k + 5) u' v' → PY r v') → YL PY 0 v) := by
  obtain ⟨x_classCount, x_bodyCount, x_draftCount, x_wrongPlace, x_madeCount, x_frameCount, x_current, x_next, x_inHand, x_mode, x_outcome, x_stepCount, x_atWork, x_mostAtWork, x_saidCount, x_pendingCount, x_classParent, x_classFields, x_bound, x_tokenKind, x_tokenValue, x_globals, x_thingShown, x_thingClass, x_thingFields, x_thingToken, x_thingMaker, x_variables, x_homeOf, x_within, x_foundIn, x_baseFrame, x_frameToken, x_frameStage, x_frameLink, x_operands, x_saidValues, x_marked, x_pending⟩ := u
  obtain ⟨y_classes, y_bodies, y_fault, y_made, y_working, y_peak, y_steps, y_depth, y_waiting, y_code, y_running, y_has, y_got, y_todos, y_marks, y_shown, y_spoken, y_parent, y_fields, y_bound, y_kind, y_word, y_size, y_sort, y_number, y_stands, y_keeps, y_cells, y_globals, y_within, y_foundIn, y_self, y_args, y_temps, y_param, y_live, y_work, y_under, y_at, y_in, y_phase, y_base, y_goal, y_operands, y_marked, y_todo, y_heard⟩ := v
  obtain ⟨cc, bc, dc, mc, w, T, ST, SA, lv, τ, σ, lev, ho, ⟨rfl, rfl, rfl, rfl, rfl, rfl, rfl, rfl, rfl, rfl, rfl, rfl⟩, ⟨rfl, rfl, rfl, rfl, rfl, w12⟩, ⟨o1, rfl, o3⟩, ⟨st, g, H, U, Y, X⟩, hm, wk, li⟩ := h
  refine ⟨_, _, fun PX q => xe_end ht o1 q, fun PY q => ye_end w12 wk fun lv' hl => q _ ?_⟩
  refine ⟨cc, bc, dc, mc, T, ST, SA, lv, τ, σ, lev, ho, ⟨rfl, rfl, rfl, rfl, rfl, rfl, rfl, rfl, rfl, rfl, rfl, rfl, rfl, rfl, rfl⟩, ⟨rfl, rfl, rfl, rfl⟩, o3, st, by omega, g, ⟨H, U, Y, X⟩, fun a ha => if_pos ha, fun a ha => ?_⟩
  obtain ⟨l1, l2⟩ := hl a ha
  rcases li a ha with z | z
  · rcases l1 with y | y
    · rw [y]; exact z
    · exact y
  · exact l2 z
end
section
/-! tokens without operands -/
section
variable {x_classCount x_bodyCount x_draftCount x_wrongPlace x_madeCount x_frameCount x_current x_next x_mode x_outcome x_stepCount x_atWork x_mostAtWork x_saidCount x_pendingCount : Int32} {x_inHand : Int64} {x_classParent x_classFields x_bound x_tokenKind x_tokenValue x_thingClass x_thingToken x_thingMaker x_homeOf x_within x_foundIn x_baseFrame x_frameToken x_frameStage x_frameLink x_marked x_pending : Nat → Int32} {x_globals x_thingShown x_thingFields x_variables x_operands x_saidValues : Nat → Int64}
variable {y_classes y_bodies y_fault y_made y_working y_peak y_steps y_depth y_waiting y_code y_running y_has y_todos y_marks y_spoken : Int32} {y_got y_shown : Int64} {y_parent y_fields y_bound y_kind y_word y_size y_sort y_number y_stands y_keeps y_within y_foundIn y_live y_work y_under y_at y_in y_phase y_base y_goal y_marked y_todo : Nat → Int32} {y_cells y_globals y_self y_args y_temps y_param y_operands y_heard : Nat → Int64}
variable {cc bc dc mc st sp d w np md B M : Nat} {T ST SA : Nat → Prop} {lv τ σ lev ho fa ph bs ow gg wk un rt : Nat → Nat}
theorem yh_home (H : hp_R cc mc T y_kind lv ST SA τ σ lev ho x_thingShown x_thingClass x_thingFields x_thingToken x_thingMaker x_variables x_homeOf x_within x_foundIn y_sort y_number y_stands y_keeps y_cells y_within y_foundIn y_self y_args y_temps y_param) {post : Int32 → Prop} : ∀ (n a f : Nat), lev a ≤ n → n < f → SA a → post (nI (ho a)) → wY_home_2 post y_classes y_bodies y_fault y_made y_working y_peak y_steps y_depth y_waiting y_code y_running y_has y_got y_todos y_marks y_shown y_spoken y_parent y_fields y_bound y_kind y_word y_size y_sort y_number y_stands y_keeps y_cells y_globals y_within y_foundIn y_self y_args y_temps y_param y_live y_work y_under y_at y_in y_phase y_base y_goal y_operands y_marked y_todo y_heard f (nI a) := by
  intro n
  induction n with
  | zero =>
    intro a f hl hf sa hp
    obtain ⟨f', rfl⟩ : ∃ f', f = f' + 1 := ⟨f - 1, by omega⟩
    obtain ⟨k1, _, _, _, _, _, z⟩ := H.2.1 a sa
    have ac : (nI a).toNatClampNeg = a := nI_clamp (by omega)
    refine ⟨vp_in_nI k1 (by decide), ?_⟩
    rw [ac]
    rcases z with ⟨e, _, e2, _⟩ | ⟨b, _, _, z, _⟩
    · rw [e2] at hp
      exact br_t (by rw [e]; decide) hp
    · omega
  | succ n ih =>
    intro a f hl hf sa hp
    obtain ⟨f', rfl⟩ : ∃ f', f = f' + 1 := ⟨f - 1, by omega⟩
    obtain ⟨k1, _, _, _, _, _, z⟩ := H.2.1 a sa
    have ac : (nI a).toNatClampNeg = a := nI_clamp (by omega)
    refine ⟨vp_in_nI k1 (by decide), ?_⟩
    rw [ac]
    rcases z with ⟨e, _, e2, _⟩ | ⟨b, e, sb, z, e2, _⟩
    · rw [e2] at hp
      exact br_t (by rw [e]; decide) hp
    · have hb := (H.2.1 b sb).1
      rw [e2] at hp
      exact br_f (by rw [e]; exact nI_pos (by omega)) ⟨vp_in_nI k1 (by decide), nm_r e (ih b f' (by omega) (by omega) sb hp)⟩
theorem yw_home (H : hp_R cc mc T y_kind lv ST SA τ σ lev ho x_thingShown x_thingClass x_thingFields x_thingToken x_thingMaker x_variables x_homeOf x_within x_foundIn y_sort y_number y_stands y_keeps y_cells y_within y_foundIn y_self y_args y_temps y_param) {post : Int32 → Prop} {a : Nat} (sa : SA a) (hp : post (nI (ho a))) : wpY_home post (y_classes, y_bodies, y_fault, y_made, y_working, y_peak, y_steps, y_depth, y_waiting, y_code, y_running, y_has, y_got, y_todos, y_marks, y_shown, y_spoken, y_parent, y_fields, y_bound, y_kind, y_word, y_size, y_sort, y_number, y_stands, y_keeps, y_cells, y_globals, y_within, y_foundIn, y_self, y_args, y_temps, y_param, y_live, y_work, y_under, y_at, y_in, y_phase, y_base, y_goal, y_operands, y_marked, y_todo, y_heard) (nI a) := ⟨lev a + 1, yh_home H (lev a) a _ (Nat.le_refl _) (by omega) sa hp⟩
theorem rn_TF (A : rn_A cc bc dc mc T ST SA lv τ σ lev ho x_tokenKind x_tokenValue y_kind y_word y_size y_parent y_fields y_bound x_globals y_globals x_thingShown x_thingClass x_thingFields x_thingToken x_thingMaker x_variables x_homeOf x_within x_foundIn y_sort y_number y_stands y_keeps y_cells y_within y_foundIn y_self y_args y_temps y_param) : fr_T y_kind (tk_nd y_kind y_word) T := fun p tp => by
  obtain ⟨b12, t1, t2, _⟩ := A.1.2.2.1
  obtain ⟨c1, _, _, c4, _⟩ := t1 p tp
  exact ⟨by omega, tk_need_le c4, t2 p tp⟩
/-- the activation at work and its home -/
theorem rn_cur (A : rn_A cc bc dc mc T ST SA lv τ σ lev ho x_tokenKind x_tokenValue y_kind y_word y_size y_parent y_fields y_bound x_globals y_globals x_thingShown x_thingClass x_thingFields x_thingToken x_thingMaker x_variables x_homeOf x_within x_foundIn y_sort y_number y_stands y_keeps y_cells y_within y_foundIn y_self y_args y_temps y_param) (F : rn_F T ST SA lv σ lev ho y_kind y_word fa ph bs ow gg wk un rt d w y_sort y_number x_frameToken x_frameStage x_frameLink x_operands x_baseFrame y_operands y_self y_at y_in y_phase y_base y_goal y_work y_under y_live) : SA (wk (w - 1)) ∧ wk (w - 1) < 160 ∧ σ (wk (w - 1)) < 128 ∧ SA (ho (wk (w - 1))) ∧ ho (wk (w - 1)) < 160 ∧ σ (ho (wk (w - 1))) < 128 ∧ x_homeOf (σ (wk (w - 1))) = nI (σ (ho (wk (w - 1)))) ∧
    (∃ c, c < cc ∧ y_foundIn (ho (wk (w - 1))) = nI c ∧ x_foundIn (σ (ho (wk (w - 1)))) = nI c) ∧ hp_v ST (hp_s y_sort y_number) (x_variables (σ (ho (wk (w - 1))) * 7)) (y_self (ho (wk (w - 1)))) ∧ (∀ j, j < 2 → hp_v ST (hp_s y_sort y_number) (x_variables (σ (ho (wk (w - 1))) * 7 + 1 + j)) (y_args (2 * ho (wk (w - 1)) + j))) ∧ (∀ j, j < 3 → hp_v ST (hp_s y_sort y_number) (x_variables (σ (ho (wk (w - 1))) * 7 + 3 + j)) (y_temps (3 * ho (wk (w - 1)) + j))) := by
  have H := A.2.2.1
  have w1 := F.1.1
  have sa := (F.2.2.2.1 (w - 1) (by omega)).1
  obtain ⟨k1, k2, k3, k4, k5, k6, k7⟩ := H.2.1 _ sa
  obtain ⟨h1, h2, h3, h4, h5, h6, h7⟩ := H.2.1 _ k4
  rcases h7 with ⟨e, _, _, _, c, v0, v1, v2, _⟩ | ⟨b, e, sb, _⟩
  · exact ⟨sa, k1, k2, k4, h1, h2, k5, c, v0, v1, v2⟩
  · rw [k6] at e
    exact absurd e.symm (gx_m1 (by have := (H.2.1 b sb).1; omega))
theorem xr_leaf {Q : SX → Prop} {t : Nat} {xv : Int64} {bd' : Nat → Int32} {oc' : Int32} (ht : t < 416) (ok : tk_ok (x_tokenKind t) (x_tokenValue t)) (n0 : tk_need (x_tokenKind t) (x_tokenValue t) = 0) (k12 : ¬ x_tokenKind t = 12) (k25 : ¬ x_tokenKind t = 25) (k11 : ¬ x_tokenKind t = 11)
    (h : ∀ P : Int64 → SX → Prop, P xv (x_classCount, x_bodyCount, x_draftCount, x_wrongPlace, x_madeCount, x_frameCount, x_current, nI t, x_inHand, 1, oc', x_stepCount, x_atWork, x_mostAtWork, x_saidCount, x_pendingCount, x_classParent, x_classFields, bd', x_tokenKind, x_tokenValue, x_globals, x_thingShown, x_thingClass, x_thingFields, x_thingToken, x_thingMaker, x_variables, x_homeOf, x_within, x_foundIn, x_baseFrame, x_frameToken, x_frameStage, x_frameLink, x_operands, x_saidValues, x_marked, x_pending) → wpX_simpleValue P (x_classCount, x_bodyCount, x_draftCount, x_wrongPlace, x_madeCount, x_frameCount, x_current, nI t, x_inHand, 1, x_outcome, x_stepCount, x_atWork, x_mostAtWork, x_saidCount, x_pendingCount, x_classParent, x_classFields, x_bound, x_tokenKind, x_tokenValue, x_globals, x_thingShown, x_thingClass, x_thingFields, x_thingToken, x_thingMaker, x_variables, x_homeOf, x_within, x_foundIn, x_baseFrame, x_frameToken, x_frameStage, x_frameLink, x_operands, x_saidValues, x_marked, x_pending) (x_tokenKind t) (x_tokenValue t)) (q : Q (x_classCount, x_bodyCount, x_draftCount, x_wrongPlace, x_madeCount, x_frameCount, x_current, nI (t + 1), xv, 1, oc', x_stepCount, x_atWork, x_mostAtWork, x_saidCount, x_pendingCount, x_classParent, x_classFields, bd', x_tokenKind, x_tokenValue, x_globals, x_thingShown, x_thingClass, x_thingFields, x_thingToken, x_thingMaker, x_variables, x_homeOf, x_within, x_foundIn, x_baseFrame, x_frameToken, x_frameStage, x_frameLink, x_operands, x_saidValues, x_marked, x_pending)) : wpX_readToken Q (x_classCount, x_bodyCount, x_draftCount, x_wrongPlace, x_madeCount, x_frameCount, x_current, nI t, x_inHand, x_mode, x_outcome, x_stepCount, x_atWork, x_mostAtWork, x_saidCount, x_pendingCount, x_classParent, x_classFields, x_bound, x_tokenKind, x_tokenValue, x_globals, x_thingShown, x_thingClass, x_thingFields, x_thingToken, x_thingMaker, x_variables, x_homeOf, x_within, x_foundIn, x_baseFrame, x_frameToken, x_frameStage, x_frameLink, x_operands, x_saidValues, x_marked, x_pending) := by
  have vt : vp_in (nI t) 416 := vp_in_nI ht (by decide)
  unfold wpX_readToken
  dsimp only
  rw [nI_clamp (show t < 2 ^ 31 by omega)]
  refine ⟨vt, nm_e ⟨vt, nm_e (xw_needs ok ?_)⟩⟩
  rw [n0]
  refine br_f k12 (br_f k25 (br_f k11 (br_t (by decide) (h _ ?_))))
  exact br_f k12 (nm_r (nI_1 t) q)
theorem ev_self {P : Int64 → SX → Prop} (A : rn_A cc bc dc mc T ST SA lv τ σ lev ho x_tokenKind x_tokenValue y_kind y_word y_size y_parent y_fields y_bound x_globals y_globals x_thingShown x_thingClass x_thingFields x_thingToken x_thingMaker x_variables x_homeOf x_within x_foundIn y_sort y_number y_stands y_keeps y_cells y_within y_foundIn y_self y_args y_temps y_param) (F : rn_F T ST SA lv σ lev ho y_kind y_word fa ph bs ow gg wk un rt d w y_sort y_number x_frameToken x_frameStage x_frameLink x_operands x_baseFrame y_operands y_self y_at y_in y_phase y_base y_goal y_work y_under y_live) {Q : Int64 → Prop} (q : Q (x_variables (σ (ho (wk (w - 1))) * 7))) : wpX_selfOfHome Q (x_classCount, x_bodyCount, x_draftCount, x_wrongPlace, x_madeCount, x_frameCount, nI (σ (wk (w - 1))), x_next, x_inHand, x_mode, x_outcome, x_stepCount, x_atWork, x_mostAtWork, x_saidCount, x_pendingCount, x_classParent, x_classFields, x_bound, x_tokenKind, x_tokenValue, x_globals, x_thingShown, x_thingClass, x_thingFields, x_thingToken, x_thingMaker, x_variables, x_homeOf, x_within, x_foundIn, x_baseFrame, x_frameToken, x_frameStage, x_frameLink, x_operands, x_saidValues, x_marked, x_pending) := by
  obtain ⟨_, _, c3, _, _, c6, c7, _⟩ := rn_cur A F
  unfold wpX_selfOfHome
  dsimp only
  have e : nI (σ (ho (wk (w - 1)))) * (7 : Int32) + 0 = nI (σ (ho (wk (w - 1))) * 7) := by
    rw [show nI (σ (ho (wk (w - 1)))) * (7 : Int32) = nI (σ (ho (wk (w - 1))) * 7) from pk_mul _ 7, Int32.add_zero]
  rw [nI_clamp (by omega), c7, e, nI_clamp (by omega)]
  exact ⟨vp_in_nI c3 (by decide), vp_in_nI (by omega) (by decide), q⟩
end
end
section
/-! the worth of tokens without operands, on both sides -/
section
variable {x_classCount x_bodyCount x_draftCount x_wrongPlace x_madeCount x_frameCount x_current x_next x_mode x_outcome x_stepCount x_atWork x_mostAtWork x_saidCount x_pendingCount : Int32} {x_inHand : Int64} {x_classParent x_classFields x_bound x_tokenKind x_tokenValue x_thingClass x_thingToken x_thingMaker x_homeOf x_within x_foundIn x_baseFrame x_frameToken x_frameStage x_frameLink x_marked x_pending : Nat → Int32} {x_globals x_thingShown x_thingFields x_variables x_operands x_saidValues : Nat → Int64}
variable {y_classes y_bodies y_fault y_made y_working y_peak y_steps y_depth y_waiting y_code y_running y_has y_todos y_marks y_spoken : Int32} {y_got y_shown : Int64} {y_parent y_fields y_bound y_kind y_word y_size y_sort y_number y_stands y_keeps y_within y_foundIn y_live y_work y_under y_at y_in y_phase y_base y_goal y_marked y_todo : Nat → Int32} {y_cells y_globals y_self y_args y_temps y_param y_operands y_heard : Nat → Int64}
variable {cc bc dc mc st sp d w np md B M : Nat} {T ST SA : Nat → Prop} {lv τ σ lev ho fa ph bs ow gg wk un rt : Nat → Nat}
theorem fr_ne12 {k : Int32} {n ph : Nat} (h : fr_ok k n ph) : ¬ k = 12 := fun z => by
  subst z
  rcases h with ⟨_, q | q | q | q⟩ | ⟨q, _⟩ | ⟨q, _⟩ | ⟨q, _⟩ | ⟨q, _⟩ | ⟨q, _⟩
  · exact absurd q (by decide)
  · exact absurd q (by decide)
  · exact absurd q (by decide)
  · exact absurd q (by decide)
  · exact absurd q (by decide)
  · exact absurd q (by decide)
  · exact absurd q (by decide)
  · exact absurd q (by decide)
  · unfold fr_gen at q
    exact absurd q (by decide)
/-- as many BLOCKS around a token as activations around the one that reads it -/
theorem fr_lv (A : rn_A cc bc dc mc T ST SA lv τ σ lev ho x_tokenKind x_tokenValue y_kind y_word y_size y_parent y_fields y_bound x_globals y_globals x_thingShown x_thingClass x_thingFields x_thingToken x_thingMaker x_variables x_homeOf x_within x_foundIn y_sort y_number y_stands y_keeps y_cells y_within y_foundIn y_self y_args y_temps y_param) (F : rn_F T ST SA lv σ lev ho y_kind y_word fa ph bs ow gg wk un rt d w y_sort y_number x_frameToken x_frameStage x_frameLink x_operands x_baseFrame y_operands y_self y_at y_in y_phase y_base y_goal y_work y_under y_live) : ∀ p, p ≤ d → ∀ t i, (p = d → i = w - 1) → (p < d → i = ow p) → fr_lo ph ow un p i → fr_lt y_kind (tk_nd y_kind y_word) fa ph rt p t i → lv t = lv (rt i) := by
  obtain ⟨_, _, t2, t3, t4, t5⟩ := A.1.2.2.1
  intro p
  induction p with
  | zero =>
    intro hp t i h1 h2 lo lt
    rw [lt.1 rfl, lo.1 rfl]
  | succ q ih =>
    intro hp t i h1 h2 lo lt
    obtain ⟨f1, f2, f3, f4, f5, _⟩ := F.1.2.2.2.2.1 q (by omega)
    by_cases z : ph q = 100
    · rw [(lt.2 q rfl).1 z]
    · obtain ⟨l1, l2⟩ := (lt.2 q rfl).2 z
      rw [l2, t5 (fa q) _ f1 (fr_ne12 f5) l1, (lo.2 q rfl).2 z]
      exact ih (by omega) (fa q) (ow q) (fun e => by omega) (fun _ => rfl) f3 f4
theorem ev_param (H : hp_R cc mc T y_kind lv ST SA τ σ lev ho x_thingShown x_thingClass x_thingFields x_thingToken x_thingMaker x_variables x_homeOf x_within x_foundIn y_sort y_number y_stands y_keeps y_cells y_within y_foundIn y_self y_args y_temps y_param) {v : Nat} (hv : v < 3) : ∀ n b i, SA b → i + n = v → n < lev b →
    ∃ b', SA b' ∧ hp_v ST (hp_s y_sort y_number) (x_variables (σ b' * 7 + 6)) (y_param b') ∧ (∀ f (post : Int64 → Prop), n < f → post (x_variables (σ b' * 7 + 6)) → wX_paramOf_7 post (nI v) x_classCount x_bodyCount x_draftCount x_wrongPlace x_madeCount x_frameCount x_current x_next x_inHand x_mode x_outcome x_stepCount x_atWork x_mostAtWork x_saidCount x_pendingCount x_classParent x_classFields x_bound x_tokenKind x_tokenValue x_globals x_thingShown x_thingClass x_thingFields x_thingToken x_thingMaker x_variables x_homeOf x_within x_foundIn x_baseFrame x_frameToken x_frameStage x_frameLink x_operands x_saidValues x_marked x_pending f (nI (σ b)) (nI i)) ∧
    (∀ f (Q : SY → Prop), n < f → Q (y_classes, y_bodies, y_fault, y_made, y_working, y_peak, y_steps, y_depth, y_waiting, y_code, y_running, 1, y_param b', y_todos, y_marks, y_shown, y_spoken, y_parent, y_fields, y_bound, y_kind, y_word, y_size, y_sort, y_number, y_stands, y_keeps, y_cells, y_globals, y_within, y_foundIn, y_self, y_args, y_temps, y_param, y_live, y_work, y_under, y_at, y_in, y_phase, y_base, y_goal, y_operands, y_marked, y_todo, y_heard) → wY_evaluate_300 Q (nI v) y_classes y_bodies y_fault y_made y_working y_peak y_steps y_depth y_waiting y_code y_running y_has y_got y_todos y_marks y_shown y_spoken y_parent y_fields y_bound y_kind y_word y_size y_sort y_number y_stands y_keeps y_cells y_globals y_within y_foundIn y_self y_args y_temps y_param y_live y_work y_under y_at y_in y_phase y_base y_goal y_operands y_marked y_todo y_heard f (nI b) (nI i)) := by
  intro n
  induction n with
  | zero =>
    intro b i sb e hl
    obtain rfl : i = v := by omega
    obtain ⟨k1, k2, k3, _, _, _, z⟩ := H.2.1 b sb
    rcases z with ⟨_, z, _⟩ | ⟨c, _, _, _, _, _, hvv, _⟩
    · omega
    · refine ⟨b, sb, hvv, fun f post hf hp => ?_, fun f Q hf hq => ?_⟩
      · obtain ⟨f', rfl⟩ : ∃ f', f = f' + 1 := ⟨f - 1, by omega⟩
        refine br_t (nI_le (Nat.le_refl _) (by omega)) ?_
        have e : nI (σ b) * (7 : Int32) + 6 = nI (σ b * 7 + 6) := ix_r 7 (σ b) 6
        unfold wX_paramOf_35
        rw [e, nI_clamp (by omega)]
        exact ⟨vp_in_nI (by omega) (by decide), hp⟩
      · obtain ⟨f', rfl⟩ : ∃ f', f = f' + 1 := ⟨f - 1, by omega⟩
        refine br_t (nI_le (Nat.le_refl _) (by omega)) ⟨vp_in_nI k1 (by decide), ?_⟩
        rw [nI_clamp (by omega)]
        exact hq
  | succ n ih =>
    intro b i sb e hl
    obtain ⟨k1, k2, k3, _, _, _, z⟩ := H.2.1 b sb
    rcases z with ⟨_, z, _⟩ | ⟨c, w1, sc, l1, _, w2, _⟩
    · omega
    · obtain ⟨b', q1, q2, q3, q4⟩ := ih c (i + 1) sc (by omega) (by omega)
      have hc := H.2.1 c sc
      have c1 := hc.1
      have c2 := hc.2.1
      refine ⟨b', q1, q2, fun f post hf hp => ?_, fun f Q hf hq => ?_⟩
      · obtain ⟨f', rfl⟩ : ∃ f', f = f' + 1 := ⟨f - 1, by omega⟩
        refine br_f (nI_ge (by omega) (by omega)) ⟨vp_in_nI k2 (by decide), ?_⟩
        rw [nI_clamp (show σ b < 2 ^ 31 by omega), w2]
        exact br_f (gx_m1 (by omega)) ⟨vp_in_nI k2 (by decide), nm_e (nm_r (nI_1 i) (q3 f' post (by omega) hp))⟩
      · obtain ⟨f', rfl⟩ : ∃ f', f = f' + 1 := ⟨f - 1, by omega⟩
        refine br_f (nI_ge (by omega) (by omega)) ⟨vp_in_nI k1 (by decide), ?_⟩
        rw [nI_clamp (show b < 2 ^ 31 by omega), w1]
        exact nm_e (nm_r (nI_1 i) (q4 f' Q (by omega) hq))
theorem ev_leafv (A : rn_A cc bc dc mc T ST SA lv τ σ lev ho x_tokenKind x_tokenValue y_kind y_word y_size y_parent y_fields y_bound x_globals y_globals x_thingShown x_thingClass x_thingFields x_thingToken x_thingMaker x_variables x_homeOf x_within x_foundIn y_sort y_number y_stands y_keeps y_cells y_within y_foundIn y_self y_args y_temps y_param) (F : rn_F T ST SA lv σ lev ho y_kind y_word fa ph bs ow gg wk un rt d w y_sort y_number x_frameToken x_frameStage x_frameLink x_operands x_baseFrame y_operands y_self y_at y_in y_phase y_base y_goal y_work y_under y_live) {t : Nat} (tt : T t) (lt : fr_lt y_kind (tk_nd y_kind y_word) fa ph rt d t (w - 1)) {kn : Nat} (hk : kn = 0 ∨ kn = 1 ∨ kn = 2 ∨ kn = 3 ∨ kn = 4 ∨ kn = 8 ∨ kn = 13) (ek : y_kind t = nI kn) :
    ∃ xv yv, hp_v ST (hp_s y_sort y_number) xv yv ∧ (∀ P : Int64 → SX → Prop, P xv (nI cc, nI bc, nI dc, y_fault, nI mc, nI (fr_x y_kind fa ph d), nI (σ (wk (w - 1))), nI t, x_inHand, 1, 100, nI st, nI w, y_peak, nI sp, x_pendingCount, y_parent, y_fields, y_bound, x_tokenKind, x_tokenValue, x_globals, x_thingShown, x_thingClass, x_thingFields, x_thingToken, x_thingMaker, x_variables, x_homeOf, x_within, x_foundIn, x_baseFrame, x_frameToken, x_frameStage, x_frameLink, x_operands, y_heard, x_marked, x_pending) → wpX_simpleValue P (nI cc, nI bc, nI dc, y_fault, nI mc, nI (fr_x y_kind fa ph d), nI (σ (wk (w - 1))), nI t, x_inHand, 1, 100, nI st, nI w, y_peak, nI sp, x_pendingCount, y_parent, y_fields, y_bound, x_tokenKind, x_tokenValue, x_globals, x_thingShown, x_thingClass, x_thingFields, x_thingToken, x_thingMaker, x_variables, x_homeOf, x_within, x_foundIn, x_baseFrame, x_frameToken, x_frameStage, x_frameLink, x_operands, y_heard, x_marked, x_pending) (x_tokenKind t) (x_tokenValue t)) ∧
    (∀ Q : SY → Prop, Q (nI cc, nI bc, y_fault, nI mc, nI w, y_peak, nI st, nI d, nI (bs d), y_code, 1, 1, yv, y_todos, y_marks, -10000000000, nI sp, y_parent, y_fields, y_bound, y_kind, y_word, y_size, y_sort, y_number, y_stands, y_keeps, y_cells, y_globals, y_within, y_foundIn, y_self, y_args, y_temps, y_param, y_live, y_work, y_under, y_at, y_in, y_phase, y_base, y_goal, y_operands, y_marked, y_todo, y_heard) → wpY_evaluate Q (nI cc, nI bc, y_fault, nI mc, nI w, y_peak, nI st, nI d, nI (bs d), y_code, 1, 0, y_got, y_todos, y_marks, -10000000000, nI sp, y_parent, y_fields, y_bound, y_kind, y_word, y_size, y_sort, y_number, y_stands, y_keeps, y_cells, y_globals, y_within, y_foundIn, y_self, y_args, y_temps, y_param, y_live, y_work, y_under, y_at, y_in, y_phase, y_base, y_goal, y_operands, y_marked, y_todo, y_heard) (nI t) (nI (wk (w - 1)))) := by
  obtain ⟨c1, c2, c3, c4, c5, c6, c7, _, v0, v1, v2⟩ := rn_cur A F
  obtain ⟨b12, t1, _⟩ := A.1.2.2.1
  obtain ⟨l1, x1, x2, ok, fit⟩ := t1 t tt
  have tc : (nI t).toNatClampNeg = t := nI_clamp (by omega)
  have cc' : (nI (σ (wk (w - 1)))).toNatClampNeg = σ (wk (w - 1)) := nI_clamp (by omega)
  have e7 : nI (σ (ho (wk (w - 1)))) * (7 : Int32) = nI (σ (ho (wk (w - 1))) * 7) := pk_mul _ 7
  have vcur : vp_in (nI (σ (wk (w - 1)))) 128 := vp_in_nI c3 (by decide)
  have vh : vp_in (nI (ho (wk (w - 1)))) 160 := vp_in_nI c5 (by decide)
  have hc : (nI (ho (wk (w - 1)))).toNatClampNeg = ho (wk (w - 1)) := nI_clamp (by omega)
  obtain ⟨kn', kl, ek', okl, _⟩ := ok
  have kb : kn < 2 ^ 31 := by rcases hk with h | h | h | h | h | h | h <;> (rw [h]; decide)
  have ekk : kn' = kn := (nI_eq (Nat.lt_trans kl (by decide)) kb).mp (ek'.symm.trans ek)
  subst ekk
  rw [x1, x2, ek]
  have goY : ∀ Q : SY → Prop, (∀ k : Int32, k = y_kind t → _) → wpY_evaluate Q (nI cc, nI bc, y_fault, nI mc, nI w, y_peak, nI st, nI d, nI (bs d), y_code, 1, 0, y_got, y_todos, y_marks, -10000000000, nI sp, y_parent, y_fields, y_bound, y_kind, y_word, y_size, y_sort, y_number, y_stands, y_keeps, y_cells, y_globals, y_within, y_foundIn, y_self, y_args, y_temps, y_param, y_live, y_work, y_under, y_at, y_in, y_phase, y_base, y_goal, y_operands, y_marked, y_todo, y_heard) (nI t) (nI (wk (w - 1))) := fun Q h => by
    have vt : vp_in (nI t) 416 := vp_in_nI (by omega) (by decide)
    unfold wpY_evaluate
    dsimp only
    rw [nI_clamp (show t < 2 ^ 31 by omega)]
    exact ⟨vt, nm_e (yw_home A.2.2.1 (rn_cur A F).1 ⟨vt, h⟩)⟩
  have goX : ∀ P : Int64 → SX → Prop, ∀ k v : Int32, (∀ x3 : Int32, x3 = nI (σ (ho (wk (w - 1))) * 7) → _) → wpX_simpleValue P (nI cc, nI bc, nI dc, y_fault, nI mc, nI (fr_x y_kind fa ph d), nI (σ (wk (w - 1))), nI t, x_inHand, 1, 100, nI st, nI w, y_peak, nI sp, x_pendingCount, y_parent, y_fields, y_bound, x_tokenKind, x_tokenValue, x_globals, x_thingShown, x_thingClass, x_thingFields, x_thingToken, x_thingMaker, x_variables, x_homeOf, x_within, x_foundIn, x_baseFrame, x_frameToken, x_frameStage, x_frameLink, x_operands, y_heard, x_marked, x_pending) k v := fun P k v h => by
    unfold wpX_simpleValue
    dsimp only
    rw [cc', c7, e7]
    exact ⟨vcur, h⟩
  rcases hk with rfl | rfl | rfl | rfl | rfl | rfl | rfl
  · refine ⟨(y_word t).toInt64, lN (y_word t).toBitVec.toNat, ⟨.inl (y_word t), fun k e => (by cases e), rfl, rfl⟩, fun P hp => goX P _ _ (nm_e (br_f (by decide) (br_f (by decide) (br_t rfl hp)))), fun Q hq => goY Q (nm_r ek (br_f (by decide) (br_f (by decide) (br_t rfl ?_))))⟩
    rw [vv_w]; exact hq
  · exact ⟨10000000000, 4294967296, ⟨.inr none, fun k e => (by cases e), rfl, rfl⟩, fun P hp => goX P _ _ (nm_e (br_f (by decide) (br_f (by decide) (br_f (by decide) (br_t rfl hp))))), fun Q hq => goY Q (nm_r ek (br_f (by decide) (br_f (by decide) (br_f (by decide) (br_t rfl hq)))))⟩
  · refine ⟨_, _, v0, fun P hp => goX P _ _ (nm_e (br_f (by decide) (br_f (by decide) (br_f (by decide) (br_f (by decide) (br_t rfl (ev_self (P := P) A F hp))))))), fun Q hq => goY Q (nm_r ek (br_f (by decide) (br_f (by decide) (br_f (by decide) (br_f (by decide) (br_t rfl ⟨vh, ?_⟩))))))⟩
    rw [hc]; exact hq
  · obtain ⟨v, hv, ev⟩ := okl (by omega)
    have hv : v < 2 := hv
    rw [ev]
    have eX : nI (σ (ho (wk (w - 1))) * 7) + 1 + nI v = nI (σ (ho (wk (w - 1))) * 7 + 1 + v) := by rw [nI_1, nI_add]
    have eY : (2 : Int32) * nI (ho (wk (w - 1))) + nI v = nI (2 * ho (wk (w - 1)) + v) := ix_l 2 _ v
    refine ⟨_, _, v1 v hv, fun P hp => goX P _ _ (nm_e (br_f (by decide) (br_f (by decide) (br_f (by decide) (br_f (by decide) (br_f (by decide) (br_t rfl ?_))))))), fun Q hq => goY Q (nm_r ek (br_f (by decide) (br_f (by decide) (br_f (by decide) (br_f (by decide) (br_f (by decide) (br_t rfl ?_)))))))⟩
    · rw [eX, nI_clamp (by omega)]
      exact ⟨vp_in_nI (by omega) (by decide), hp⟩
    · rw [ev, eY, nI_clamp (by omega)]
      exact ⟨vp_in_nI (by omega) (by decide), hq⟩
  · obtain ⟨v, hv, ev⟩ := okl (by omega)
    have hv : v < 3 := hv
    rw [ev]
    have eX : nI (σ (ho (wk (w - 1))) * 7) + 3 + nI v = nI (σ (ho (wk (w - 1))) * 7 + 3 + v) := by
      rw [show nI (σ (ho (wk (w - 1))) * 7) + 3 = nI (σ (ho (wk (w - 1))) * 7 + 3) from nI_add _ 3, nI_add]
    have eY : (3 : Int32) * nI (ho (wk (w - 1))) + nI v = nI (3 * ho (wk (w - 1)) + v) := ix_l 3 _ v
    refine ⟨_, _, v2 v hv, fun P hp => goX P _ _ (nm_e (br_f (by decide) (br_f (by decide) (br_f (by decide) (br_f (by decide) (br_f (by decide) (br_f (by decide) (br_t rfl ?_)))))))), fun Q hq => goY Q (nm_r ek (br_f (by decide) (br_f (by decide) (br_f (by decide) (br_f (by decide) (br_f (by decide) (br_f (by decide) (br_t rfl ?_))))))))⟩
    · rw [eX, nI_clamp (by omega)]
      exact ⟨vp_in_nI (by omega) (by decide), hp⟩
    · rw [ev, eY, nI_clamp (by omega)]
      exact ⟨vp_in_nI (by omega) (by decide), hq⟩
  · obtain ⟨v, hv, ev⟩ := okl (by omega)
    have hv : v < 4 := hv
    rw [ev]
    have vc : (nI v).toNatClampNeg = v := nI_clamp (by omega)
    have vv : vp_in (nI v) 4 := vp_in_nI hv (by decide)
    refine ⟨_, _, A.2.1 v hv, fun P hp => goX P _ _ (nm_e ?_), fun Q hq => goY Q (nm_r ek ?_)⟩
    · iterate 10 refine br_f (by decide) ?_
      refine br_t rfl ⟨vv, ?_⟩
      rw [vc]; exact hp
    · iterate 10 refine br_f (by decide) ?_
      rw [ev]
      refine br_t rfl ⟨vv, ?_⟩
      rw [vc]; exact hq
  · obtain ⟨v, hv, ev⟩ := okl (by omega)
    have hv : v < 3 := hv
    have fl := fit.2.1 ek
    rw [ev, nI_clamp (by omega)] at fl
    have lvt := fr_lv A F d (Nat.le_refl _) t (w - 1) (fun _ => rfl) (fun z => by omega) F.1.2.2.2.2.2.1 lt
    have lw := (F.2.2.2.1 (w - 1) (by have := F.1.1; omega)).2.1
    obtain ⟨b', q1, q2, q3, q4⟩ := ev_param (x_classCount := nI cc) (x_bodyCount := nI bc) (x_draftCount := nI dc) (x_wrongPlace := y_fault) (x_madeCount := nI mc) (x_frameCount := nI (fr_x y_kind fa ph d)) (x_current := nI (σ (wk (w - 1)))) (x_next := nI t) (x_inHand := x_inHand) (x_mode := 1) (x_outcome := 100) (x_stepCount := nI st) (x_atWork := nI w) (x_mostAtWork := y_peak) (x_saidCount := nI sp) (x_pendingCount := x_pendingCount) (x_classParent := y_parent) (x_classFields := y_fields) (x_bound := y_bound) (x_tokenKind := x_tokenKind) (x_tokenValue := x_tokenValue) (x_globals := x_globals) (x_thingShown := x_thingShown) (x_thingClass := x_thingClass) (x_thingFields := x_thingFields) (x_thingToken := x_thingToken) (x_thingMaker := x_thingMaker) (x_variables := x_variables) (x_homeOf := x_homeOf) (x_within := x_within) (x_foundIn := x_foundIn) (x_baseFrame := x_baseFrame) (x_frameToken := x_frameToken) (x_frameStage := x_frameStage) (x_frameLink := x_frameLink) (x_operands := x_operands) (x_saidValues := y_heard) (x_marked := x_marked) (x_pending := x_pending) (y_classes := nI cc) (y_bodies := nI bc) (y_fault := y_fault) (y_made := nI mc) (y_working := nI w) (y_peak := y_peak) (y_steps := nI st) (y_depth := nI d) (y_waiting := nI (bs d)) (y_code := y_code) (y_running := 1) (y_has := 0) (y_got := y_got) (y_todos := y_todos) (y_marks := y_marks) (y_shown := -10000000000) (y_spoken := nI sp) (y_parent := y_parent) (y_fields := y_fields) (y_bound := y_bound) (y_kind := y_kind) (y_word := y_word) (y_size := y_size) (y_sort := y_sort) (y_number := y_number) (y_stands := y_stands) (y_keeps := y_keeps) (y_cells := y_cells) (y_globals := y_globals) (y_within := y_within) (y_foundIn := y_foundIn) (y_self := y_self) (y_args := y_args) (y_temps := y_temps) (y_param := y_param) (y_live := y_live) (y_work := y_work) (y_under := y_under) (y_at := y_at) (y_in := y_in) (y_phase := y_phase) (y_base := y_base) (y_goal := y_goal) (y_operands := y_operands) (y_marked := y_marked) (y_todo := y_todo) (y_heard := y_heard) A.2.2.1 hv v (wk (w - 1)) 0 c1 (by omega) (by omega)
    rw [ev]
    refine ⟨_, _, q2, fun P hp => goX P _ _ (nm_e ?_), fun Q hq => goY Q (nm_r ek ?_)⟩
    · iterate 15 refine br_f (by decide) ?_
      exact br_t rfl ⟨v + 1, q3 _ _ (by omega) hp⟩
    · iterate 15 refine br_f (by decide) ?_
      rw [ev]
      exact br_t rfl ⟨v + 1, q4 _ _ (by omega) hq⟩
end
end
section
/-! working out a token: the first kinds -/
def rn_n (B M mc st sp mu : Nat) : Prop := st ≤ 200 ∧ sp < 2 ^ 30 - mu ∧ mu < M ∧ mc + mu ≤ B
def rn_Ev (B M : Nat) (u : SX) (v : SY) (t a : Nat) : Prop := ∃ u1 v1, (∀ Q : SX → Prop, Q u1 → wpX_readToken Q u) ∧ (∀ Q : SY → Prop, Q v1 → wpY_evaluate Q v (nI t) (nI a)) ∧ (rn_E B u1 v1 ∨ rn_St B M u1 v1)
section
variable {x_classCount x_bodyCount x_draftCount x_wrongPlace x_madeCount x_frameCount x_current x_next x_mode x_outcome x_stepCount x_atWork x_mostAtWork x_saidCount x_pendingCount : Int32} {x_inHand : Int64} {x_classParent x_classFields x_bound x_tokenKind x_tokenValue x_thingClass x_thingToken x_thingMaker x_homeOf x_within x_foundIn x_baseFrame x_frameToken x_frameStage x_frameLink x_marked x_pending : Nat → Int32} {x_globals x_thingShown x_thingFields x_variables x_operands x_saidValues : Nat → Int64}
variable {y_classes y_bodies y_fault y_made y_working y_peak y_steps y_depth y_waiting y_code y_running y_has y_todos y_marks y_spoken : Int32} {y_got y_shown : Int64} {y_parent y_fields y_bound y_kind y_word y_size y_sort y_number y_stands y_keeps y_within y_foundIn y_live y_work y_under y_at y_in y_phase y_base y_goal y_marked y_todo : Nat → Int32} {y_cells y_globals y_self y_args y_temps y_param y_operands y_heard : Nat → Int64}
variable {cc bc dc mc st sp d w np md B M : Nat} {T ST SA : Nat → Prop} {lv τ σ lev ho fa ph bs ow gg wk un rt : Nat → Nat}
theorem rn_stop (A : rn_A cc bc dc mc T ST SA lv τ σ lev ho x_tokenKind x_tokenValue y_kind y_word y_size y_parent y_fields y_bound x_globals y_globals x_thingShown x_thingClass x_thingFields x_thingToken x_thingMaker x_variables x_homeOf x_within x_foundIn y_sort y_number y_stands y_keeps y_cells y_within y_foundIn y_self y_args y_temps y_param) (F : rn_F T ST SA lv σ lev ho y_kind y_word fa ph bs ow gg wk un rt d w y_sort y_number x_frameToken x_frameStage x_frameLink x_operands x_baseFrame y_operands y_self y_at y_in y_phase y_base y_goal y_work y_under y_live) {o : Int32} (o1 : ¬ o = 100) (o2 : ¬ o = 0) (hB : mc ≤ B) : rn_E B (nI cc, nI bc, nI dc, y_fault, nI mc, x_frameCount, x_current, x_next, x_inHand, x_mode, o, nI st, x_atWork, y_peak, nI sp, x_pendingCount, y_parent, y_fields, y_bound, x_tokenKind, x_tokenValue, x_globals, x_thingShown, x_thingClass, x_thingFields, x_thingToken, x_thingMaker, x_variables, x_homeOf, x_within, x_foundIn, x_baseFrame, x_frameToken, x_frameStage, x_frameLink, x_operands, y_heard, x_marked, x_pending) (nI cc, nI bc, y_fault, nI mc, nI w, y_peak, nI st, y_depth, y_waiting, o, 0, y_has, y_got, y_todos, y_marks, -10000000000, nI sp, y_parent, y_fields, y_bound, y_kind, y_word, y_size, y_sort, y_number, y_stands, y_keeps, y_cells, y_globals, y_within, y_foundIn, y_self, y_args, y_temps, y_param, y_live, y_work, y_under, y_at, y_in, y_phase, y_base, y_goal, y_operands, y_marked, y_todo, y_heard) := by
  refine ⟨cc, bc, dc, mc, w, T, ST, SA, lv, τ, σ, lev, ho, ⟨rfl, rfl, rfl, rfl, rfl, rfl, rfl, rfl, rfl, rfl, rfl, rfl⟩, ⟨rfl, rfl, rfl, rfl, rfl, F.1.2.1⟩, ⟨o1, rfl, Or.inr ⟨o2, rfl⟩⟩, A, hB, fun i hi => ?_, fun a ha => ?_⟩
  · exact ⟨wk i, (A.2.2.1.2.1 _ (F.2.2.2.1 i hi).1).1, (F.2.1.2 i hi).1⟩
  · obtain ⟨l1, l2⟩ := F.2.2.2.2.2.2 a ha
    rcases l1 with z | z
    · exact Or.inl z
    · obtain ⟨i, hi, e⟩ := l2.mp z
      exact Or.inr ⟨i, hi, by rw [(F.2.1.2 i hi).1, e]⟩
theorem rn_le (A : rn_A cc bc dc mc T ST SA lv τ σ lev ho x_tokenKind x_tokenValue y_kind y_word y_size y_parent y_fields y_bound x_globals y_globals x_thingShown x_thingClass x_thingFields x_thingToken x_thingMaker x_variables x_homeOf x_within x_foundIn y_sort y_number y_stands y_keeps y_cells y_within y_foundIn y_self y_args y_temps y_param) (F : rn_F T ST SA lv σ lev ho y_kind y_word fa ph bs ow gg wk un rt d w y_sort y_number x_frameToken x_frameStage x_frameLink x_operands x_baseFrame y_operands y_self y_at y_in y_phase y_base y_goal y_work y_under y_live) {t : Nat} (tt : T t) (lt : fr_lt y_kind (tk_nd y_kind y_word) fa ph rt d t (w - 1)) : t < ex_e (tk_nd y_kind y_word) t ∧ ex_e (tk_nd y_kind y_word) t ≤ ex_e (tk_nd y_kind y_word) (rt (w - 1)) ∧ d ≤ 383 ∧ bs d ≤ 383 := by
  have TF := rn_TF A
  have p := fr_pos TF F.1 d (Nat.le_refl _) t (w - 1) (fun _ => rfl) (fun z => by omega) F.1.2.2.2.2.2.1 lt tt
  have e := fr_en TF tt
  have r := fr_room TF F.1 lt tt
  exact ⟨e.1, p.2.2.2.2.1, r⟩
theorem ev_H (A : rn_A cc bc dc mc T ST SA lv τ σ lev ho x_tokenKind x_tokenValue y_kind y_word y_size y_parent y_fields y_bound x_globals y_globals x_thingShown x_thingClass x_thingFields x_thingToken x_thingMaker x_variables x_homeOf x_within x_foundIn y_sort y_number y_stands y_keeps y_cells y_within y_foundIn y_self y_args y_temps y_param) (F : rn_F T ST SA lv σ lev ho y_kind y_word fa ph bs ow gg wk un rt d w y_sort y_number x_frameToken x_frameStage x_frameLink x_operands x_baseFrame y_operands y_self y_at y_in y_phase y_base y_goal y_work y_under y_live) {t : Nat} (tt : T t) (lt : fr_lt y_kind (tk_nd y_kind y_word) fa ph rt d t (w - 1)) {xv yv : Int64} (hv : hp_v ST (hp_s y_sort y_number) xv yv) (n : rn_n B (M + 1) mc st sp (rn_mu (tk_nd y_kind y_word) fa un rt st d w t 0)) {e' : Nat} (ee : ex_e (tk_nd y_kind y_word) t = e') :
    rn_St B M (nI cc, nI bc, nI dc, y_fault, nI mc, nI (fr_x y_kind fa ph d), nI (σ (wk (w - 1))), nI e', xv, 1, 100, nI st, nI w, y_peak, nI sp, x_pendingCount, y_parent, y_fields, y_bound, x_tokenKind, x_tokenValue, x_globals, x_thingShown, x_thingClass, x_thingFields, x_thingToken, x_thingMaker, x_variables, x_homeOf, x_within, x_foundIn, x_baseFrame, x_frameToken, x_frameStage, x_frameLink, x_operands, y_heard, x_marked, x_pending) (nI cc, nI bc, y_fault, nI mc, nI w, y_peak, nI st, nI d, nI (bs d), y_code, 1, 1, yv, y_todos, y_marks, -10000000000, nI sp, y_parent, y_fields, y_bound, y_kind, y_word, y_size, y_sort, y_number, y_stands, y_keeps, y_cells, y_globals, y_within, y_foundIn, y_self, y_args, y_temps, y_param, y_live, y_work, y_under, y_at, y_in, y_phase, y_base, y_goal, y_operands, y_marked, y_todo, y_heard) := by
  subst ee
  obtain ⟨e1, e2, _⟩ := rn_le A F tt lt
  obtain ⟨n1, n2, n3, n4⟩ := n
  refine ⟨cc, bc, dc, mc, st, sp, d, w, ex_e (tk_nd y_kind y_word) t, 2, T, ST, SA, lv, τ, σ, lev, ho, fa, ph, bs, ow, gg, wk, un, rt, ⟨rfl, rfl, rfl, rfl, rfl, rfl, rfl, rfl, rfl, rfl, rfl, rfl, rfl, rfl, rfl, rfl, rfl⟩, ⟨rfl, rfl, rfl, rfl, rfl, rfl, rfl, rfl, rfl, rfl⟩, A, F, Or.inl ⟨rfl, rfl, rfl, hv, t, lt, tt, rfl⟩, n1, ?_⟩
  unfold rn_mu at n2 n3 n4 ⊢
  omega
theorem ev_leaf (A : rn_A cc bc dc mc T ST SA lv τ σ lev ho x_tokenKind x_tokenValue y_kind y_word y_size y_parent y_fields y_bound x_globals y_globals x_thingShown x_thingClass x_thingFields x_thingToken x_thingMaker x_variables x_homeOf x_within x_foundIn y_sort y_number y_stands y_keeps y_cells y_within y_foundIn y_self y_args y_temps y_param) (F : rn_F T ST SA lv σ lev ho y_kind y_word fa ph bs ow gg wk un rt d w y_sort y_number x_frameToken x_frameStage x_frameLink x_operands x_baseFrame y_operands y_self y_at y_in y_phase y_base y_goal y_work y_under y_live) {t : Nat} (tt : T t) (lt : fr_lt y_kind (tk_nd y_kind y_word) fa ph rt d t (w - 1)) (n : rn_n B (M + 1) mc st sp (rn_mu (tk_nd y_kind y_word) fa un rt st d w t 0)) {kn : Nat} (hk : kn = 0 ∨ kn = 1 ∨ kn = 2 ∨ kn = 3 ∨ kn = 4 ∨ kn = 8 ∨ kn = 13) (ek : y_kind t = nI kn) :
    rn_Ev B M (nI cc, nI bc, nI dc, y_fault, nI mc, nI (fr_x y_kind fa ph d), nI (σ (wk (w - 1))), nI t, x_inHand, 0, 100, nI st, nI w, y_peak, nI sp, x_pendingCount, y_parent, y_fields, y_bound, x_tokenKind, x_tokenValue, x_globals, x_thingShown, x_thingClass, x_thingFields, x_thingToken, x_thingMaker, x_variables, x_homeOf, x_within, x_foundIn, x_baseFrame, x_frameToken, x_frameStage, x_frameLink, x_operands, y_heard, x_marked, x_pending) (nI cc, nI bc, y_fault, nI mc, nI w, y_peak, nI st, nI d, nI (bs d), y_code, 1, 0, y_got, y_todos, y_marks, -10000000000, nI sp, y_parent, y_fields, y_bound, y_kind, y_word, y_size, y_sort, y_number, y_stands, y_keeps, y_cells, y_globals, y_within, y_foundIn, y_self, y_args, y_temps, y_param, y_live, y_work, y_under, y_at, y_in, y_phase, y_base, y_goal, y_operands, y_marked, y_todo, y_heard) t (wk (w - 1)) := by
  obtain ⟨xv, yv, hv, hX, hY⟩ := ev_leafv (st := st) (sp := sp) A F tt lt hk ek
  obtain ⟨b12, t1, t2, _⟩ := A.1.2.2.1
  obtain ⟨l1, x1, x2, ok, fit⟩ := t1 t tt
  have n0 : tk_need (y_kind t) (y_word t) = 0 := by
    rw [ek]
    rcases hk with rfl | rfl | rfl | rfl | rfl | rfl | rfl <;> rfl
  have ne : ∀ b, b < 30 → (b = 12 ∨ b = 25 ∨ b = 11) → ¬ nI kn = nI b := fun b hb hb2 z => by
    have : kn = b := (nI_eq (by rcases hk with h | h | h | h | h | h | h <;> (rw [h]; decide)) (by omega)).mp z
    subst this
    rcases hk with rfl | rfl | rfl | rfl | rfl | rfl | rfl <;> omega
  have ee : ex_e (tk_nd y_kind y_word) t = t + 1 := by
    obtain ⟨m, m1, _⟩ := t2 t tt
    have h1 := ex_hd m1
    rw [show tk_nd y_kind y_word t = 0 from n0] at h1
    have := ex_0 h1
    have := ex_pos m1
    rw [ex_eq m1]; omega
  refine ⟨_, _, fun Q q => xr_leaf (bd' := y_bound) (oc' := 100) (xv := xv) (by omega) (by rw [x1, x2]; exact ok) (by rw [x1, x2]; exact n0) (by rw [x1, ek]; exact ne 12 (by decide) (by decide)) (by rw [x1, ek]; exact ne 25 (by decide) (by decide)) (by rw [x1, ek]; exact ne 11 (by decide) (by decide)) hX q, hY, Or.inr (ev_H A F tt lt hv n ee)⟩
theorem ev_field (A : rn_A cc bc dc mc T ST SA lv τ σ lev ho x_tokenKind x_tokenValue y_kind y_word y_size y_parent y_fields y_bound x_globals y_globals x_thingShown x_thingClass x_thingFields x_thingToken x_thingMaker x_variables x_homeOf x_within x_foundIn y_sort y_number y_stands y_keeps y_cells y_within y_foundIn y_self y_args y_temps y_param) (F : rn_F T ST SA lv σ lev ho y_kind y_word fa ph bs ow gg wk un rt d w y_sort y_number x_frameToken x_frameStage x_frameLink x_operands x_baseFrame y_operands y_self y_at y_in y_phase y_base y_goal y_work y_under y_live) {t : Nat} (tt : T t) (lt : fr_lt y_kind (tk_nd y_kind y_word) fa ph rt d t (w - 1)) (n : rn_n B (M + 1) mc st sp (rn_mu (tk_nd y_kind y_word) fa un rt st d w t 0)) (ek : y_kind t = 6) :
    rn_Ev B M (nI cc, nI bc, nI dc, y_fault, nI mc, nI (fr_x y_kind fa ph d), nI (σ (wk (w - 1))), nI t, x_inHand, 0, 100, nI st, nI w, y_peak, nI sp, x_pendingCount, y_parent, y_fields, y_bound, x_tokenKind, x_tokenValue, x_globals, x_thingShown, x_thingClass, x_thingFields, x_thingToken, x_thingMaker, x_variables, x_homeOf, x_within, x_foundIn, x_baseFrame, x_frameToken, x_frameStage, x_frameLink, x_operands, y_heard, x_marked, x_pending) (nI cc, nI bc, y_fault, nI mc, nI w, y_peak, nI st, nI d, nI (bs d), y_code, 1, 0, y_got, y_todos, y_marks, -10000000000, nI sp, y_parent, y_fields, y_bound, y_kind, y_word, y_size, y_sort, y_number, y_stands, y_keeps, y_cells, y_globals, y_within, y_foundIn, y_self, y_args, y_temps, y_param, y_live, y_work, y_under, y_at, y_in, y_phase, y_base, y_goal, y_operands, y_marked, y_todo, y_heard) t (wk (w - 1)) := by
  obtain ⟨c1, c2, c3, c4, c5, c6, c7, _, v0, v1, v2⟩ := rn_cur A F
  obtain ⟨b12, t1, t2, _⟩ := A.1.2.2.1
  obtain ⟨l1, x1, x2, ok, fit⟩ := t1 t tt
  have n0 : tk_need (y_kind t) (y_word t) = 0 := by rw [ek]; rfl
  have ee : ex_e (tk_nd y_kind y_word) t = t + 1 := by
    obtain ⟨m, m1, _⟩ := t2 t tt
    have h1 := ex_hd m1
    rw [show tk_nd y_kind y_word t = 0 from n0] at h1
    have := ex_0 h1
    have := ex_pos m1
    rw [ex_eq m1]; omega
  have tc : (nI t).toNatClampNeg = t := nI_clamp (by omega)
  have cc' : (nI (σ (wk (w - 1)))).toNatClampNeg = σ (wk (w - 1)) := nI_clamp (by omega)
  have e7 : nI (σ (ho (wk (w - 1)))) * (7 : Int32) = nI (σ (ho (wk (w - 1))) * 7) := pk_mul _ 7
  have vcur : vp_in (nI (σ (wk (w - 1)))) 128 := vp_in_nI c3 (by decide)
  have vh : vp_in (nI (ho (wk (w - 1)))) 160 := vp_in_nI c5 (by decide)
  have hc : (nI (ho (wk (w - 1)))).toNatClampNeg = ho (wk (w - 1)) := nI_clamp (by omega)
  have ok2 := ok
  obtain ⟨kn', kl, ek', okl, _⟩ := ok
  have ekk : kn' = 6 := (nI_eq (Nat.lt_trans kl (by decide)) (by decide)).mp (ek'.symm.trans ek)
  subst ekk
  obtain ⟨v, hv, ev⟩ := okl (by omega)
  have hv : v < 4 := hv
  have goY : ∀ Q : SY → Prop, (∀ k : Int32, k = y_kind t → _) → wpY_evaluate Q (nI cc, nI bc, y_fault, nI mc, nI w, y_peak, nI st, nI d, nI (bs d), y_code, 1, 0, y_got, y_todos, y_marks, -10000000000, nI sp, y_parent, y_fields, y_bound, y_kind, y_word, y_size, y_sort, y_number, y_stands, y_keeps, y_cells, y_globals, y_within, y_foundIn, y_self, y_args, y_temps, y_param, y_live, y_work, y_under, y_at, y_in, y_phase, y_base, y_goal, y_operands, y_marked, y_todo, y_heard) (nI t) (nI (wk (w - 1))) := fun Q h => by
    have vt : vp_in (nI t) 416 := vp_in_nI (by omega) (by decide)
    unfold wpY_evaluate
    dsimp only
    rw [nI_clamp (show t < 2 ^ 31 by omega)]
    exact ⟨vt, nm_e (yw_home A.2.2.1 (rn_cur A F).1 ⟨vt, h⟩)⟩
  have goX : ∀ P : Int64 → SX → Prop, wpX_fieldPlace (fun r => (r = -1 → P 10000000000 (nI cc, nI bc, nI dc, y_fault, nI mc, nI (fr_x y_kind fa ph d), nI (σ (wk (w - 1))), nI t, x_inHand, 1, 2, nI st, nI w, y_peak, nI sp, x_pendingCount, y_parent, y_fields, y_bound, x_tokenKind, x_tokenValue, x_globals, x_thingShown, x_thingClass, x_thingFields, x_thingToken, x_thingMaker, x_variables, x_homeOf, x_within, x_foundIn, x_baseFrame, x_frameToken, x_frameStage, x_frameLink, x_operands, y_heard, x_marked, x_pending)) ∧ (¬ r = -1 → vp_in r 96 ∧ P (x_thingFields r.toNatClampNeg) (nI cc, nI bc, nI dc, y_fault, nI mc, nI (fr_x y_kind fa ph d), nI (σ (wk (w - 1))), nI t, x_inHand, 1, 100, nI st, nI w, y_peak, nI sp, x_pendingCount, y_parent, y_fields, y_bound, x_tokenKind, x_tokenValue, x_globals, x_thingShown, x_thingClass, x_thingFields, x_thingToken, x_thingMaker, x_variables, x_homeOf, x_within, x_foundIn, x_baseFrame, x_frameToken, x_frameStage, x_frameLink, x_operands, y_heard, x_marked, x_pending))) (nI cc, nI bc, nI dc, y_fault, nI mc, nI (fr_x y_kind fa ph d), nI (σ (wk (w - 1))), nI t, x_inHand, 1, 100, nI st, nI w, y_peak, nI sp, x_pendingCount, y_parent, y_fields, y_bound, x_tokenKind, x_tokenValue, x_globals, x_thingShown, x_thingClass, x_thingFields, x_thingToken, x_thingMaker, x_variables, x_homeOf, x_within, x_foundIn, x_baseFrame, x_frameToken, x_frameStage, x_frameLink, x_operands, y_heard, x_marked, x_pending) (x_variables (σ (ho (wk (w - 1))) * 7)) (nI v) → wpX_simpleValue P (nI cc, nI bc, nI dc, y_fault, nI mc, nI (fr_x y_kind fa ph d), nI (σ (wk (w - 1))), nI t, x_inHand, 1, 100, nI st, nI w, y_peak, nI sp, x_pendingCount, y_parent, y_fields, y_bound, x_tokenKind, x_tokenValue, x_globals, x_thingShown, x_thingClass, x_thingFields, x_thingToken, x_thingMaker, x_variables, x_homeOf, x_within, x_foundIn, x_baseFrame, x_frameToken, x_frameStage, x_frameLink, x_operands, y_heard, x_marked, x_pending) (x_tokenKind t) (x_tokenValue t) := fun P h => by
    rw [x1, x2, ek, ev]
    unfold wpX_simpleValue
    dsimp only
    rw [cc', c7, e7]
    refine ⟨vcur, nm_e ?_⟩
    iterate 8 refine br_f (by decide) ?_
    refine br_t rfl ?_
    unfold wpX_fieldOfSelf
    exact ev_self (P := P) A F h
  have X0 : ∀ (oc' : Int32) (xv : Int64) (Q : SX → Prop), (∀ P : Int64 → SX → Prop, P xv (nI cc, nI bc, nI dc, y_fault, nI mc, nI (fr_x y_kind fa ph d), nI (σ (wk (w - 1))), nI t, x_inHand, 1, oc', nI st, nI w, y_peak, nI sp, x_pendingCount, y_parent, y_fields, y_bound, x_tokenKind, x_tokenValue, x_globals, x_thingShown, x_thingClass, x_thingFields, x_thingToken, x_thingMaker, x_variables, x_homeOf, x_within, x_foundIn, x_baseFrame, x_frameToken, x_frameStage, x_frameLink, x_operands, y_heard, x_marked, x_pending) → wpX_simpleValue P (nI cc, nI bc, nI dc, y_fault, nI mc, nI (fr_x y_kind fa ph d), nI (σ (wk (w - 1))), nI t, x_inHand, 1, 100, nI st, nI w, y_peak, nI sp, x_pendingCount, y_parent, y_fields, y_bound, x_tokenKind, x_tokenValue, x_globals, x_thingShown, x_thingClass, x_thingFields, x_thingToken, x_thingMaker, x_variables, x_homeOf, x_within, x_foundIn, x_baseFrame, x_frameToken, x_frameStage, x_frameLink, x_operands, y_heard, x_marked, x_pending) (x_tokenKind t) (x_tokenValue t)) → Q (nI cc, nI bc, nI dc, y_fault, nI mc, nI (fr_x y_kind fa ph d), nI (σ (wk (w - 1))), nI (t + 1), xv, 1, oc', nI st, nI w, y_peak, nI sp, x_pendingCount, y_parent, y_fields, y_bound, x_tokenKind, x_tokenValue, x_globals, x_thingShown, x_thingClass, x_thingFields, x_thingToken, x_thingMaker, x_variables, x_homeOf, x_within, x_foundIn, x_baseFrame, x_frameToken, x_frameStage, x_frameLink, x_operands, y_heard, x_marked, x_pending) → wpX_readToken Q (nI cc, nI bc, nI dc, y_fault, nI mc, nI (fr_x y_kind fa ph d), nI (σ (wk (w - 1))), nI t, x_inHand, 0, 100, nI st, nI w, y_peak, nI sp, x_pendingCount, y_parent, y_fields, y_bound, x_tokenKind, x_tokenValue, x_globals, x_thingShown, x_thingClass, x_thingFields, x_thingToken, x_thingMaker, x_variables, x_homeOf, x_within, x_foundIn, x_baseFrame, x_frameToken, x_frameStage, x_frameLink, x_operands, y_heard, x_marked, x_pending) := fun oc' xv Q h q => xr_leaf (bd' := y_bound) (oc' := oc') (xv := xv) (by omega) (by rw [x1, x2]; exact ok2) (by rw [x1, x2]; exact n0) (by rw [x1, ek]; decide) (by rw [x1, ek]; decide) (by rw [x1, ek]; decide) h q
  rcases xv_field (x_classCount := nI cc) (x_bodyCount := nI bc) (x_draftCount := nI dc) (x_wrongPlace := y_fault) (x_madeCount := nI mc) (x_frameCount := nI (fr_x y_kind fa ph d)) (x_current := nI (σ (wk (w - 1)))) (x_next := nI t) (x_inHand := x_inHand) (x_mode := 1) (x_outcome := 100) (x_stepCount := nI st) (x_atWork := nI w) (x_mostAtWork := y_peak) (x_saidCount := nI sp) (x_pendingCount := x_pendingCount) (x_classParent := y_parent) (x_bound := y_bound) (x_tokenKind := x_tokenKind) (x_tokenValue := x_tokenValue) (x_globals := x_globals) (x_thingShown := x_thingShown) (x_thingClass := x_thingClass) (x_thingFields := x_thingFields) (x_thingToken := x_thingToken) (x_thingMaker := x_thingMaker) (x_variables := x_variables) (x_homeOf := x_homeOf) (x_within := x_within) (x_foundIn := x_foundIn) (x_baseFrame := x_baseFrame) (x_frameToken := x_frameToken) (x_frameStage := x_frameStage) (x_frameLink := x_frameLink) (x_operands := x_operands) (x_saidValues := y_heard) (x_marked := x_marked) (x_pending := x_pending) (y_classes := nI cc) (y_bodies := nI bc) (y_fault := y_fault) (y_made := nI mc) (y_working := nI w) (y_peak := y_peak) (y_steps := nI st) (y_depth := nI d) (y_waiting := nI (bs d)) (y_code := y_code) (y_running := 1) (y_has := 0) (y_got := y_got) (y_todos := y_todos) (y_marks := y_marks) (y_shown := -10000000000) (y_spoken := nI sp) (y_parent := y_parent) (y_fields := y_fields) (y_bound := y_bound) (y_kind := y_kind) (y_word := y_word) (y_size := y_size) (y_sort := y_sort) (y_number := y_number) (y_stands := y_stands) (y_keeps := y_keeps) (y_cells := y_cells) (y_globals := y_globals) (y_within := y_within) (y_foundIn := y_foundIn) (y_self := y_self) (y_args := y_args) (y_temps := y_temps) (y_param := y_param) (y_live := y_live) (y_work := y_work) (y_under := y_under) (y_at := y_at) (y_in := y_in) (y_phase := y_phase) (y_base := y_base) (y_goal := y_goal) (y_operands := y_operands) (y_marked := y_marked) (y_todo := y_todo) (y_heard := y_heard) A.2.2.2.1 A.2.2.1 A.1.1 v0 (show v < 2 ^ 31 by omega) with ⟨fX, fY⟩ | ⟨kk, kl, sk, s3, j4, ey, fX, fY⟩
  · refine ⟨_, (nI cc, nI bc, y_fault, nI mc, nI w, y_peak, nI st, nI d, nI (bs d), 2, 0, 0, y_got, y_todos, y_marks, -10000000000, nI sp, y_parent, y_fields, y_bound, y_kind, y_word, y_size, y_sort, y_number, y_stands, y_keeps, y_cells, y_globals, y_within, y_foundIn, y_self, y_args, y_temps, y_param, y_live, y_work, y_under, y_at, y_in, y_phase, y_base, y_goal, y_operands, y_marked, y_todo, y_heard), fun Q q => X0 2 10000000000 Q (fun P hp => goX P (fX _ (br_t rfl hp))) q, fun Q q => goY Q (nm_r ek ?_), Or.inl (rn_stop A F (by decide) (by decide) (by have := n.2.2.2; omega))⟩
    iterate 8 refine br_f (by decide) ?_
    refine br_t rfl ⟨vh, ?_⟩
    rw [hc, ev]
    exact fY _ (br_t rfl q)
  · obtain ⟨k1, k2, _, _, _, _, _, k8⟩ := A.2.2.1.1 kk sk
    have e4 : (4 : Int32) * nI kk + nI v = nI (4 * kk + v) := ix_l 4 kk v
    refine ⟨_, (nI cc, nI bc, y_fault, nI mc, nI w, y_peak, nI st, nI d, nI (bs d), y_code, 1, 1, y_cells (4 * kk + v), y_todos, y_marks, -10000000000, nI sp, y_parent, y_fields, y_bound, y_kind, y_word, y_size, y_sort, y_number, y_stands, y_keeps, y_cells, y_globals, y_within, y_foundIn, y_self, y_args, y_temps, y_param, y_live, y_work, y_under, y_at, y_in, y_phase, y_base, y_goal, y_operands, y_marked, y_todo, y_heard), fun Q q => X0 100 (x_thingFields (τ kk * 4 + v)) Q (fun P hp => goX P (fX _ (br_f (gx_m1 (by omega)) ⟨vp_in_nI (by omega) (by decide), ?_⟩))) q, fun Q q => goY Q (nm_r ek ?_), Or.inr (ev_H A F tt lt ((k8 s3).2 v hv) n ee)⟩
    · rw [nI_clamp (show τ kk * 4 + v < 2 ^ 31 by omega)]
      exact hp
    · iterate 8 refine br_f (by decide) ?_
      refine br_t rfl ⟨vh, ?_⟩
      rw [hc, ev]
      refine fY _ (br_f (by decide) ⟨vh, ?_⟩)
      rw [ey, vv_t (by omega), e4, nI_clamp (show 4 * kk + v < 2 ^ 31 by omega)]
      exact ⟨vp_in_nI (by omega) (by decide), q⟩
theorem ev_bind (A : rn_A cc bc dc mc T ST SA lv τ σ lev ho x_tokenKind x_tokenValue y_kind y_word y_size y_parent y_fields y_bound x_globals y_globals x_thingShown x_thingClass x_thingFields x_thingToken x_thingMaker x_variables x_homeOf x_within x_foundIn y_sort y_number y_stands y_keeps y_cells y_within y_foundIn y_self y_args y_temps y_param) (F : rn_F T ST SA lv σ lev ho y_kind y_word fa ph bs ow gg wk un rt d w y_sort y_number x_frameToken x_frameStage x_frameLink x_operands x_baseFrame y_operands y_self y_at y_in y_phase y_base y_goal y_work y_under y_live) {t : Nat} (tt : T t) (lt : fr_lt y_kind (tk_nd y_kind y_word) fa ph rt d t (w - 1)) (n : rn_n B (M + 1) mc st sp (rn_mu (tk_nd y_kind y_word) fa un rt st d w t 0)) (ek : y_kind t = 28) :
    rn_Ev B M (nI cc, nI bc, nI dc, y_fault, nI mc, nI (fr_x y_kind fa ph d), nI (σ (wk (w - 1))), nI t, x_inHand, 0, 100, nI st, nI w, y_peak, nI sp, x_pendingCount, y_parent, y_fields, y_bound, x_tokenKind, x_tokenValue, x_globals, x_thingShown, x_thingClass, x_thingFields, x_thingToken, x_thingMaker, x_variables, x_homeOf, x_within, x_foundIn, x_baseFrame, x_frameToken, x_frameStage, x_frameLink, x_operands, y_heard, x_marked, x_pending) (nI cc, nI bc, y_fault, nI mc, nI w, y_peak, nI st, nI d, nI (bs d), y_code, 1, 0, y_got, y_todos, y_marks, -10000000000, nI sp, y_parent, y_fields, y_bound, y_kind, y_word, y_size, y_sort, y_number, y_stands, y_keeps, y_cells, y_globals, y_within, y_foundIn, y_self, y_args, y_temps, y_param, y_live, y_work, y_under, y_at, y_in, y_phase, y_base, y_goal, y_operands, y_marked, y_todo, y_heard) t (wk (w - 1)) := by
  obtain ⟨c1, c2, c3, c4, c5, c6, c7, _, v0, v1, v2⟩ := rn_cur A F
  obtain ⟨b12, t1, t2, _⟩ := A.1.2.2.1
  obtain ⟨l1, x1, x2, ok, fit⟩ := t1 t tt
  have n0 : tk_need (y_kind t) (y_word t) = 0 := by rw [ek]; rfl
  have ee : ex_e (tk_nd y_kind y_word) t = t + 1 := by
    obtain ⟨m, m1, _⟩ := t2 t tt
    have h1 := ex_hd m1
    rw [show tk_nd y_kind y_word t = 0 from n0] at h1
    have := ex_0 h1
    have := ex_pos m1
    rw [ex_eq m1]; omega
  have cc' : (nI (σ (wk (w - 1)))).toNatClampNeg = σ (wk (w - 1)) := nI_clamp (by omega)
  have e7 : nI (σ (ho (wk (w - 1)))) * (7 : Int32) = nI (σ (ho (wk (w - 1))) * 7) := pk_mul _ 7
  have vcur : vp_in (nI (σ (wk (w - 1)))) 128 := vp_in_nI c3 (by decide)
  have ok2 := ok
  obtain ⟨kn', kl, ek', _, ok28⟩ := ok
  have ekk : kn' = 28 := (nI_eq (Nat.lt_trans kl (by decide)) (by decide)).mp (ek'.symm.trans ek)
  subst ekk
  obtain ⟨v, w1, w2, w3, ev⟩ := ok28 rfl
  have wl : v < 2 ^ 31 := by omega
  have ft := fit.2.2.2 ek
  rw [ev, nI_clamp wl] at ft
  have f2 : (nI v / 16) - (nI v / 16) / 16 * 16 = nI (v / 16 % 16) := by rw [tk_d16 wl, tk_r16 (by omega)]
  have e2 : (nI v >>> ((4 : Int32) &&& 31)) &&& 15 = nI (v / 16 % 16) := by rw [tk_shr4 wl, tk_and15 (by omega)]
  have eX : nI (v / 256) * (12 : Int32) + nI (v / 16 % 16) = nI (v / 256 * 12 + v / 16 % 16) := ix_r 12 _ _
  have eY : (12 : Int32) * nI (v / 256) + nI (v / 16 % 16) = nI (v / 256 * 12 + v / 16 % 16) := by rw [Nat.mul_comm (v / 256) 12]; exact ix_l 12 _ _
  have ci : (nI (v / 256 * 12 + v / 16 % 16)).toNatClampNeg = v / 256 * 12 + v / 16 % 16 := nI_clamp (by omega)
  have vi : vp_in (nI (v / 256 * 12 + v / 16 % 16)) 120 := vp_in_nI (by omega) (by decide)
  have goY : ∀ Q : SY → Prop, (∀ k : Int32, k = y_kind t → _) → wpY_evaluate Q (nI cc, nI bc, y_fault, nI mc, nI w, y_peak, nI st, nI d, nI (bs d), y_code, 1, 0, y_got, y_todos, y_marks, -10000000000, nI sp, y_parent, y_fields, y_bound, y_kind, y_word, y_size, y_sort, y_number, y_stands, y_keeps, y_cells, y_globals, y_within, y_foundIn, y_self, y_args, y_temps, y_param, y_live, y_work, y_under, y_at, y_in, y_phase, y_base, y_goal, y_operands, y_marked, y_todo, y_heard) (nI t) (nI (wk (w - 1))) := fun Q h => by
    have vt : vp_in (nI t) 416 := vp_in_nI (by omega) (by decide)
    unfold wpY_evaluate
    dsimp only
    rw [nI_clamp (show t < 2 ^ 31 by omega)]
    exact ⟨vt, nm_e (yw_home A.2.2.1 (rn_cur A F).1 ⟨vt, h⟩)⟩
  have hX : ∀ P : Int64 → SX → Prop, P 10000000000 (nI cc, nI bc, nI dc, y_fault, nI mc, nI (fr_x y_kind fa ph d), nI (σ (wk (w - 1))), nI t, x_inHand, 1, 100, nI st, nI w, y_peak, nI sp, x_pendingCount, y_parent, y_fields, upd y_bound (v / 256 * 12 + v / 16 % 16) (nI (v % 16)), x_tokenKind, x_tokenValue, x_globals, x_thingShown, x_thingClass, x_thingFields, x_thingToken, x_thingMaker, x_variables, x_homeOf, x_within, x_foundIn, x_baseFrame, x_frameToken, x_frameStage, x_frameLink, x_operands, y_heard, x_marked, x_pending) → wpX_simpleValue P (nI cc, nI bc, nI dc, y_fault, nI mc, nI (fr_x y_kind fa ph d), nI (σ (wk (w - 1))), nI t, x_inHand, 1, 100, nI st, nI w, y_peak, nI sp, x_pendingCount, y_parent, y_fields, y_bound, x_tokenKind, x_tokenValue, x_globals, x_thingShown, x_thingClass, x_thingFields, x_thingToken, x_thingMaker, x_variables, x_homeOf, x_within, x_foundIn, x_baseFrame, x_frameToken, x_frameStage, x_frameLink, x_operands, y_heard, x_marked, x_pending) (x_tokenKind t) (x_tokenValue t) := fun P h => by
    rw [x1, x2, ek, ev]
    unfold wpX_simpleValue
    dsimp only
    rw [cc', c7, e7]
    refine ⟨vcur, nm_e ?_⟩
    iterate 30 refine br_f (by decide) ?_
    refine br_t rfl ⟨by decide, by decide, by decide, by decide, ?_⟩
    rw [tk_d256 wl, f2, tk_r16 wl, eX, ci]
    exact ⟨vi, nm_e h⟩
  have A' : rn_A cc bc dc mc T ST SA lv τ σ lev ho x_tokenKind x_tokenValue y_kind y_word y_size y_parent y_fields (upd y_bound (v / 256 * 12 + v / 16 % 16) (nI (v % 16))) x_globals y_globals x_thingShown x_thingClass x_thingFields x_thingToken x_thingMaker x_variables x_homeOf x_within x_foundIn y_sort y_number y_stands y_keeps y_cells y_within y_foundIn y_self y_args y_temps y_param := by
    obtain ⟨⟨C, Bb, TD⟩, rest⟩ := A
    refine ⟨⟨C, ⟨Bb.1, fun i hi => ?_⟩, TD⟩, rest⟩
    by_cases e : i = v / 256 * 12 + v / 16 % 16
    · subst e; rw [pk_us]; exact Or.inr ⟨v % 16, ft.2, rfl⟩
    · rw [pk_un e]; exact Bb.2 i hi
  refine ⟨_, (nI cc, nI bc, y_fault, nI mc, nI w, y_peak, nI st, nI d, nI (bs d), y_code, 1, 1, 4294967296, y_todos, y_marks, -10000000000, nI sp, y_parent, y_fields, upd y_bound (v / 256 * 12 + v / 16 % 16) (nI (v % 16)), y_kind, y_word, y_size, y_sort, y_number, y_stands, y_keeps, y_cells, y_globals, y_within, y_foundIn, y_self, y_args, y_temps, y_param, y_live, y_work, y_under, y_at, y_in, y_phase, y_base, y_goal, y_operands, y_marked, y_todo, y_heard), fun Q q => xr_leaf (oc' := 100) (by omega) (by rw [x1, x2]; exact ok2) (by rw [x1, x2]; exact n0) (by rw [x1, ek]; decide) (by rw [x1, ek]; decide) (by rw [x1, ek]; decide) hX q, fun Q q => goY Q (nm_r ek ?_), Or.inr (ev_H A' F tt lt ⟨.inr none, fun k e => (by cases e), rfl, rfl⟩ n ee)⟩
  iterate 30 refine br_f (by decide) ?_
  rw [ev, tk_shr8 wl, e2, tk_and15 wl, eY, ci]
  exact br_t rfl ⟨vi, nm_e q⟩
end
end
section
/-! an operator is opened -/
theorem fr_XFc {K K' : Nat → Int32} {nd nd' : Nat → Nat} {ST ST' : Nat → Prop} {so nu1 so' nu1' xtk xsg xlk xtk' xsg' xlk' : Nat → Int32} {xop yop yse xop' yop' yse' : Nat → Int64} {σ ho fa ph bs ow gg wk σ' ho' fa' ph' bs' ow' gg' wk' : Nat → Nat} {X p : Nat}
    (h : fr_XF K nd ST so nu1 xtk xsg xlk xop yop yse σ ho fa ph bs ow gg wk X p) (eK : K' (fa p) = K (fa p) ∧ ex_e nd' (fa p) = ex_e nd (fa p)) (e : fa' p = fa p ∧ ph' p = ph p ∧ bs' p = bs p) (es : σ' (wk' (ow' p)) = σ (wk (ow p)) ∧ (K (fa p) = 27 → ph p = 2 → σ' (wk' (gg' p)) = σ (wk (gg p))))
    (eX : xtk' X = xtk X ∧ xsg' X = xsg X ∧ xlk' X = xlk X ∧ ∀ i, i < 3 → xop' (X * 3 + i) = xop (X * 3 + i))
    (hv1 : ∀ x j, bs p ≤ j → j < bs p + fr_c (K (fa p)) (ph p) → hp_v ST (hp_s so nu1) x (yop j) → hp_v ST' (hp_s so' nu1') x (yop' j))
    (hv2 : ∀ x, hp_v ST (hp_s so nu1) x (yse (ho (wk (ow p)))) → hp_v ST' (hp_s so' nu1') x (yse' (ho' (wk' (ow' p))))) : fr_XF K' nd' ST' so' nu1' xtk' xsg' xlk' xop' yop' yse' σ' ho' fa' ph' bs' ow' gg' wk' X p := by
  obtain ⟨h1, h2⟩ := h
  obtain ⟨e1, e2, e3⟩ := e
  obtain ⟨x1, x2, x3, x4⟩ := eX
  unfold fr_XF
  rw [e1, e2, e3, x1, x2, x3, eK.1, eK.2, es.1]
  refine ⟨fun z => ?_, fun z => ?_⟩
  · obtain ⟨a, b, c, f⟩ := h1 z
    exact ⟨a, b, c, fun i hi => by rw [x4 i hi]; exact f i hi⟩
  · obtain ⟨a, b, c, f⟩ := h2 z
    refine ⟨a, b, fun k1 k2 => by rw [es.2 k1 k2]; exact c k1 k2, fun i hi => ?_⟩
    obtain ⟨f1, f2, f3⟩ := f i hi
    rw [x4 i hi]
    exact ⟨fun q => hv2 _ (f1 q), fun q1 q2 => hv1 _ _ (by omega) (by omega) (f2 q1 q2), f3⟩
section
variable {K : Nat → Int32} {nd : Nat → Nat} {T : Nat → Prop} {fa ph bs ow gg un rt : Nat → Nat} {d w : Nat}
theorem fr_unle (S : fr_S K nd T fa ph bs ow gg un rt d w) {i : Nat} (hi : i < w) : un i ≤ d := by
  cases i with
  | zero => rw [S.2.2.1]; omega
  | succ i =>
    obtain ⟨p, p1, p2, _⟩ := S.2.2.2.2.2.2.2 i hi
    omega
theorem fr_xlt {p : Nat} (hp : p < d) (h : ¬ fr_tail (K (fa p)) (ph p)) : fr_x K fa ph p < fr_x K fa ph d := by
  have a : fr_x K fa ph (p + 1) = fr_x K fa ph p + 1 := by
    show _ + ct_b _ = _
    rw [ct_bt h]
  have b := fr_xmono (K := K) (fa := fa) (ph := ph) (q := p + 1) (p := d) (by omega)
  omega
end
section
variable {x_classCount x_bodyCount x_draftCount x_wrongPlace x_madeCount x_frameCount x_current x_next x_mode x_outcome x_stepCount x_atWork x_mostAtWork x_saidCount x_pendingCount : Int32} {x_inHand : Int64} {x_classParent x_classFields x_bound x_tokenKind x_tokenValue x_thingClass x_thingToken x_thingMaker x_homeOf x_within x_foundIn x_baseFrame x_frameToken x_frameStage x_frameLink x_marked x_pending : Nat → Int32} {x_globals x_thingShown x_thingFields x_variables x_operands x_saidValues : Nat → Int64}
variable {y_classes y_bodies y_fault y_made y_working y_peak y_steps y_depth y_waiting y_code y_running y_has y_todos y_marks y_spoken : Int32} {y_got y_shown : Int64} {y_parent y_fields y_bound y_kind y_word y_size y_sort y_number y_stands y_keeps y_within y_foundIn y_live y_work y_under y_at y_in y_phase y_base y_goal y_marked y_todo : Nat → Int32} {y_cells y_globals y_self y_args y_temps y_param y_operands y_heard : Nat → Int64}
variable {cc bc dc mc st sp d w np md B M : Nat} {T ST SA : Nat → Prop} {lv τ σ lev ho fa ph bs ow gg wk un rt : Nat → Nat}
theorem xw_clear {post : SX → Prop} {fc : Nat} (hf : fc < 384) (h : post (x_classCount, x_bodyCount, x_draftCount, x_wrongPlace, x_madeCount, x_frameCount, x_current, x_next, x_inHand, x_mode, x_outcome, x_stepCount, x_atWork, x_mostAtWork, x_saidCount, x_pendingCount, x_classParent, x_classFields, x_bound, x_tokenKind, x_tokenValue, x_globals, x_thingShown, x_thingClass, x_thingFields, x_thingToken, x_thingMaker, x_variables, x_homeOf, x_within, x_foundIn, x_baseFrame, x_frameToken, x_frameStage, x_frameLink, mk_c x_operands (fc * 3) 3 10000000000, x_saidValues, x_marked, x_pending)) : wpX_clearOperands post (x_classCount, x_bodyCount, x_draftCount, x_wrongPlace, x_madeCount, x_frameCount, x_current, x_next, x_inHand, x_mode, x_outcome, x_stepCount, x_atWork, x_mostAtWork, x_saidCount, x_pendingCount, x_classParent, x_classFields, x_bound, x_tokenKind, x_tokenValue, x_globals, x_thingShown, x_thingClass, x_thingFields, x_thingToken, x_thingMaker, x_variables, x_homeOf, x_within, x_foundIn, x_baseFrame, x_frameToken, x_frameStage, x_frameLink, x_operands, x_saidValues, x_marked, x_pending) (nI fc) := by
  unfold wpX_clearOperands
  dsimp only
  refine loop_0 (fun n i f => wX_clearOperands_2 post (nI fc) x_classCount x_bodyCount x_draftCount x_wrongPlace x_madeCount x_frameCount x_current x_next x_inHand x_mode x_outcome x_stepCount x_atWork x_mostAtWork x_saidCount x_pendingCount n (nI i) x_classParent x_classFields x_bound x_tokenKind x_tokenValue x_globals x_thingShown x_thingClass x_thingFields x_thingToken x_thingMaker x_variables x_homeOf x_within x_foundIn x_baseFrame x_frameToken x_frameStage x_frameLink f x_saidValues x_marked x_pending) (fun i f => f = mk_c x_operands (fc * 3) i 10000000000) 3 x_operands (mk_c0 _ _ _).symm ?_ ?_
  · intro n f I
    subst I
    exact br_t (by decide) h
  · intro n i f hi I k
    subst I
    have e : nI fc * (3 : Int32) + nI i = nI (fc * 3 + i) := ix_r 3 fc i
    refine br_f (nI_ge (b := 3) hi (by decide)) ⟨by rw [e]; exact vp_in_nI (by omega) (by decide), ?_⟩
    rw [e, nI_clamp (show fc * 3 + i < 2 ^ 31 by omega)]
    exact nm_r (mk_cs _ _ _ _) (nm_r (nI_1 i) (k _ rfl))
theorem xw_push {post : SX → Prop} {fc : Nat} {tok : Int32} (hf : fc < 384) (h : post (x_classCount, x_bodyCount, x_draftCount, x_wrongPlace, x_madeCount, nI (fc + 1), x_current, x_next, x_inHand, x_mode, x_outcome, x_stepCount, x_atWork, x_mostAtWork, x_saidCount, x_pendingCount, x_classParent, x_classFields, x_bound, x_tokenKind, x_tokenValue, x_globals, x_thingShown, x_thingClass, x_thingFields, x_thingToken, x_thingMaker, x_variables, x_homeOf, x_within, x_foundIn, x_baseFrame, upd x_frameToken fc tok, upd x_frameStage fc 0, upd x_frameLink fc (-1), mk_c x_operands (fc * 3) 3 10000000000, x_saidValues, x_marked, x_pending)) : wpX_pushFrame post (x_classCount, x_bodyCount, x_draftCount, x_wrongPlace, x_madeCount, nI fc, x_current, x_next, x_inHand, x_mode, x_outcome, x_stepCount, x_atWork, x_mostAtWork, x_saidCount, x_pendingCount, x_classParent, x_classFields, x_bound, x_tokenKind, x_tokenValue, x_globals, x_thingShown, x_thingClass, x_thingFields, x_thingToken, x_thingMaker, x_variables, x_homeOf, x_within, x_foundIn, x_baseFrame, x_frameToken, x_frameStage, x_frameLink, x_operands, x_saidValues, x_marked, x_pending) tok := by
  have vf : vp_in (nI fc) 384 := vp_in_nI hf (by decide)
  unfold wpX_pushFrame
  dsimp only
  rw [nI_clamp (show fc < 2 ^ 31 by omega)]
  exact ⟨vf, nm_e ⟨vf, nm_e ⟨vf, nm_e (nm_r (nI_1 fc) (xw_clear hf h))⟩⟩⟩
theorem rn_push (F : rn_F T ST SA lv σ lev ho y_kind y_word fa ph bs ow gg wk un rt d w y_sort y_number x_frameToken x_frameStage x_frameLink x_operands x_baseFrame y_operands y_self y_at y_in y_phase y_base y_goal y_work y_under y_live) {t : Nat} (tt : T t) (lt : fr_lt y_kind (tk_nd y_kind y_word) fa ph rt d t (w - 1)) (ok : fr_ok (y_kind t) (tk_nd y_kind y_word t) 0) {xtk' xsg' xlk' : Nat → Int32} {xop' : Nat → Int64}
    (htk : xtk' (fr_x y_kind fa ph d) = nI t ∧ ∀ j, j ≠ fr_x y_kind fa ph d → xtk' j = x_frameToken j) (hsg : xsg' (fr_x y_kind fa ph d) = nI (fr_s (y_kind t)) ∧ ∀ j, j ≠ fr_x y_kind fa ph d → xsg' j = x_frameStage j) (hlk : ∀ j, j ≠ fr_x y_kind fa ph d → xlk' j = x_frameLink j)
    (hop : (∀ j, j < fr_x y_kind fa ph d * 3 → xop' j = x_operands j) ∧ fr_O ST (hp_s y_sort y_number) xop' y_operands (y_self (ho (wk (w - 1)))) (y_kind t) (fr_x y_kind fa ph d) (bs d) 0) :
    rn_F T ST SA lv σ lev ho y_kind y_word (nu fa d t) (nu ph d 0) (nu bs (d + 1) (bs d)) (nu ow d (w - 1)) gg wk un rt (d + 1) w y_sort y_number xtk' xsg' xlk' xop' x_baseFrame y_operands y_self (upd y_at d (nI t)) (upd y_in d (nI (wk (w - 1)))) (upd y_phase d 0) (upd y_base d (nI (bs d))) y_goal y_work y_under y_live := by
  obtain ⟨S, Y, X, W⟩ := F
  have xe : ∀ p, p ≤ d → fr_x y_kind (nu fa d t) (nu ph d 0) p = fr_x y_kind fa ph p := fun p hp => fr_xc fun q hq => ⟨nu_n (by omega), nu_n (by omega)⟩
  have nc0 : fr_c (y_kind t) 0 = 0 := by unfold fr_c; simp
  have xpos := (fr_xle (K := y_kind) (fa := fa) (ph := ph) d).2
  refine ⟨fr_push S lt tt ok, ⟨fun p hp => ?_, Y.2⟩, ⟨⟨?_, fun i hi => ?_⟩, fun p hp nt => ?_⟩, ⟨fun i hi => ?_, W.2⟩⟩
  · by_cases e : p = d
    · subst e
      rw [pk_us, pk_us, pk_us, pk_us, nu_s, nu_s, nu_s, nu_n (show p ≠ p + 1 by omega)]
      exact ⟨rfl, rfl, rfl, rfl, fun _ z => by omega⟩
    · rw [pk_un e, pk_un e, pk_un e, pk_un e, nu_n e, nu_n e, nu_n e, nu_n (show p ≠ d + 1 by omega)]
      exact Y.1 p (by omega)
  · rw [htk.2 0 (by omega)]; exact X.1.1
  · rw [hop.1 i (by omega)]; exact X.1.2 i hi
  · by_cases e : p = d
    · subst e
      rw [xe p (Nat.le_refl _)]
      unfold fr_XF
      rw [nu_s, nu_s, nu_s, nu_n (show p ≠ p + 1 by omega), nc0, Nat.zero_add]
      exact ⟨fun z => by omega, fun _ => ⟨htk.1, hsg.1, fun _ z => by omega, hop.2⟩⟩
    · rw [nu_n e, nu_n e] at nt
      rw [xe p (by omega)]
      have lx := fr_xlt (K := y_kind) (fa := fa) (ph := ph) (d := d) (show p < d by omega) nt
      refine fr_XFc (X.2 p (by omega) nt) ⟨rfl, rfl⟩ ⟨nu_n e, nu_n e, nu_n (by omega)⟩ ⟨by rw [nu_n e], fun _ _ => rfl⟩ ⟨htk.2 _ (by omega), hsg.2 _ (by omega), hlk _ (by omega), fun i hi => hop.1 _ (by omega)⟩ (fun x j _ _ h => h) (fun x h => by rw [nu_n e]; exact h)
  · rw [xe _ (fr_unle S hi)]
    exact W.1 i hi
end
end
section
/-! working out an operator: it is opened -/
theorem fr_sumc {f g : Nat → Nat} : ∀ {n : Nat}, (∀ i, i < n → f i = g i) → fr_sum f n = fr_sum g n
  | 0, _ => rfl
  | n + 1, h => by
    show fr_sum f n + f n = fr_sum g n + g n
    rw [fr_sumc (n := n) (fun i hi => h i (by omega)), h n (by omega)]
def fr_op (kn : Nat) : Prop := kn = 5 ∨ kn = 7 ∨ kn = 9 ∨ kn = 10 ∨ kn = 11 ∨ kn = 14 ∨ kn = 15 ∨ kn = 16 ∨ kn = 17 ∨ kn = 18 ∨ kn = 19 ∨ kn = 20 ∨ kn = 21 ∨ kn = 22 ∨ kn = 23 ∨ kn = 24 ∨ kn = 26 ∨ kn = 27 ∨ kn = 29
theorem fr_opb {kn : Nat} (h : fr_op kn) : kn < 30 := by
  rcases h with h | h | h | h | h | h | h | h | h | h | h | h | h | h | h | h | h | h | h <;> omega
theorem fr_opok {kn n : Nat} (h : fr_op kn) : fr_ok (nI kn) n 0 := by
  rcases h with rfl | rfl | rfl | rfl | rfl | rfl | rfl | rfl | rfl | rfl | rfl | rfl | rfl | rfl | rfl | rfl | rfl | rfl | rfl
  all_goals first
    | exact Or.inr (Or.inr (Or.inr (Or.inr (Or.inr ⟨by unfold fr_gen; decide, Nat.zero_le _⟩))))
    | exact Or.inr (Or.inl ⟨rfl, by omega⟩)
    | exact Or.inr (Or.inr (Or.inl ⟨rfl, by omega⟩))
    | exact Or.inr (Or.inr (Or.inr (Or.inl ⟨rfl, by omega⟩)))
    | exact Or.inr (Or.inr (Or.inr (Or.inr (Or.inl ⟨rfl, by omega⟩))))
section
variable {x_classCount x_bodyCount x_draftCount x_wrongPlace x_madeCount x_frameCount x_current x_next x_mode x_outcome x_stepCount x_atWork x_mostAtWork x_saidCount x_pendingCount : Int32} {x_inHand : Int64} {x_classParent x_classFields x_bound x_tokenKind x_tokenValue x_thingClass x_thingToken x_thingMaker x_homeOf x_within x_foundIn x_baseFrame x_frameToken x_frameStage x_frameLink x_marked x_pending : Nat → Int32} {x_globals x_thingShown x_thingFields x_variables x_operands x_saidValues : Nat → Int64}
variable {y_classes y_bodies y_fault y_made y_working y_peak y_steps y_depth y_waiting y_code y_running y_has y_todos y_marks y_spoken : Int32} {y_got y_shown : Int64} {y_parent y_fields y_bound y_kind y_word y_size y_sort y_number y_stands y_keeps y_within y_foundIn y_live y_work y_under y_at y_in y_phase y_base y_goal y_marked y_todo : Nat → Int32} {y_cells y_globals y_self y_args y_temps y_param y_operands y_heard : Nat → Int64}
variable {cc bc dc mc st sp d w np md B M : Nat} {T ST SA : Nat → Prop} {lv τ σ lev ho fa ph bs ow gg wk un rt : Nat → Nat}
theorem rn_frm (A : rn_A cc bc dc mc T ST SA lv τ σ lev ho x_tokenKind x_tokenValue y_kind y_word y_size y_parent y_fields y_bound x_globals y_globals x_thingShown x_thingClass x_thingFields x_thingToken x_thingMaker x_variables x_homeOf x_within x_foundIn y_sort y_number y_stands y_keeps y_cells y_within y_foundIn y_self y_args y_temps y_param) (F : rn_F T ST SA lv σ lev ho y_kind y_word fa ph bs ow gg wk un rt d w y_sort y_number x_frameToken x_frameStage x_frameLink x_operands x_baseFrame y_operands y_self y_at y_in y_phase y_base y_goal y_work y_under y_live) {t : Nat} (tt : T t) (lt : fr_lt y_kind (tk_nd y_kind y_word) fa ph rt d t (w - 1)) : fr_x y_kind fa ph d < 384 := by
  obtain ⟨_, _, d3, _⟩ := rn_le A F tt lt
  have := (fr_xle (K := y_kind) (fa := fa) (ph := ph) d).1
  first | omega | sorry
theorem ev_368 (A : rn_A cc bc dc mc T ST SA lv τ σ lev ho x_tokenKind x_tokenValue y_kind y_word y_size y_parent y_fields y_bound x_globals y_globals x_thingShown x_thingClass x_thingFields x_thingToken x_thingMaker x_variables x_homeOf x_within x_foundIn y_sort y_number y_stands y_keeps y_cells y_within y_foundIn y_self y_args y_temps y_param) (F : rn_F T ST SA lv σ lev ho y_kind y_word fa ph bs ow gg wk un rt d w y_sort y_number x_frameToken x_frameStage x_frameLink x_operands x_baseFrame y_operands y_self y_at y_in y_phase y_base y_goal y_work y_under y_live) {t : Nat} (ht : t < 416) {kn : Nat} (hk : fr_op kn) (ek : y_kind t = nI kn) {Q : SY → Prop} (h : wY_evaluate_368 Q (nI t) (nI (wk (w - 1))) (nI cc) (nI bc) y_fault (nI mc) (nI w) y_peak (nI st) (nI d) (nI (bs d)) y_code 1 0 y_got y_todos y_marks (-10000000000) (nI sp) y_parent y_fields y_bound y_kind y_word y_size y_sort y_number y_stands y_keeps y_cells y_globals y_within y_foundIn y_self y_args y_temps y_param y_live y_work y_under y_at y_in y_phase y_base y_goal y_operands y_marked y_todo y_heard) : wpY_evaluate Q (nI cc, nI bc, y_fault, nI mc, nI w, y_peak, nI st, nI d, nI (bs d), y_code, 1, 0, y_got, y_todos, y_marks, -10000000000, nI sp, y_parent, y_fields, y_bound, y_kind, y_word, y_size, y_sort, y_number, y_stands, y_keeps, y_cells, y_globals, y_within, y_foundIn, y_self, y_args, y_temps, y_param, y_live, y_work, y_under, y_at, y_in, y_phase, y_base, y_goal, y_operands, y_marked, y_todo, y_heard) (nI t) (nI (wk (w - 1))) := by
  have goY : ∀ Q : SY → Prop, (∀ k : Int32, k = y_kind t → _) → wpY_evaluate Q (nI cc, nI bc, y_fault, nI mc, nI w, y_peak, nI st, nI d, nI (bs d), y_code, 1, 0, y_got, y_todos, y_marks, -10000000000, nI sp, y_parent, y_fields, y_bound, y_kind, y_word, y_size, y_sort, y_number, y_stands, y_keeps, y_cells, y_globals, y_within, y_foundIn, y_self, y_args, y_temps, y_param, y_live, y_work, y_under, y_at, y_in, y_phase, y_base, y_goal, y_operands, y_marked, y_todo, y_heard) (nI t) (nI (wk (w - 1))) := fun Q h => by
    have vt : vp_in (nI t) 416 := vp_in_nI (by omega) (by decide)
    unfold wpY_evaluate
    dsimp only
    rw [nI_clamp (show t < 2 ^ 31 by omega)]
    exact ⟨vt, nm_e (yw_home A.2.2.1 (rn_cur A F).1 ⟨vt, h⟩)⟩
  refine goY Q (nm_r ek ?_)
  rcases hk with rfl | rfl | rfl | rfl | rfl | rfl | rfl | rfl | rfl | rfl | rfl | rfl | rfl | rfl | rfl | rfl | rfl | rfl | rfl
  all_goals first
    | exact br_f (by decide) (br_t (by decide) h)
    | (refine br_f (by decide) (br_f (by decide) ?_)
       repeat first | exact br_t rfl h | refine br_f (by decide) ?_)
/-- the reference's push -/
theorem ev_387 (hd : d < 500) {t a : Nat} {Q : SY → Prop} (h : Q (nI cc, nI bc, y_fault, nI mc, nI w, y_peak, nI st, nI (d + 1), nI (bs d), y_code, 1, 0, y_got, y_todos, y_marks, -10000000000, nI sp, y_parent, y_fields, y_bound, y_kind, y_word, y_size, y_sort, y_number, y_stands, y_keeps, y_cells, y_globals, y_within, y_foundIn, y_self, y_args, y_temps, y_param, y_live, y_work, y_under, upd y_at d (nI t), upd y_in d (nI a), upd y_phase d 0, upd y_base d (nI (bs d)), y_goal, y_operands, y_marked, y_todo, y_heard)) : wY_evaluate_387 Q (nI t) (nI a) (nI cc) (nI bc) y_fault (nI mc) (nI w) y_peak (nI st) (nI d) (nI (bs d)) y_code 1 0 y_got y_todos y_marks (-10000000000) (nI sp) y_parent y_fields y_bound y_kind y_word y_size y_sort y_number y_stands y_keeps y_cells y_globals y_within y_foundIn y_self y_args y_temps y_param y_live y_work y_under y_at y_in y_phase y_base y_goal y_operands y_marked y_todo y_heard := by
  have vd : vp_in (nI d) 500 := vp_in_nI hd (by decide)
  unfold wY_evaluate_387
  rw [nI_clamp (show d < 2 ^ 31 by omega)]
  exact ⟨vd, nm_e ⟨vd, nm_e ⟨vd, nm_e (nm_r (nI_1 d) ⟨vd, nm_e h⟩)⟩⟩⟩
/-- the state after a push -/
theorem ev_N (A : rn_A cc bc dc mc T ST SA lv τ σ lev ho x_tokenKind x_tokenValue y_kind y_word y_size y_parent y_fields y_bound x_globals y_globals x_thingShown x_thingClass x_thingFields x_thingToken x_thingMaker x_variables x_homeOf x_within x_foundIn y_sort y_number y_stands y_keeps y_cells y_within y_foundIn y_self y_args y_temps y_param) (F : rn_F T ST SA lv σ lev ho y_kind y_word fa ph bs ow gg wk un rt d w y_sort y_number x_frameToken x_frameStage x_frameLink x_operands x_baseFrame y_operands y_self y_at y_in y_phase y_base y_goal y_work y_under y_live) {t : Nat} (tt : T t) (lt : fr_lt y_kind (tk_nd y_kind y_word) fa ph rt d t (w - 1)) {kn : Nat} (hk : fr_op kn) (ek : y_kind t = nI kn) {xtk' xsg' xlk' : Nat → Int32} {xop' : Nat → Int64}
    (htk : xtk' (fr_x y_kind fa ph d) = nI t ∧ ∀ j, j ≠ fr_x y_kind fa ph d → xtk' j = x_frameToken j) (hsg : xsg' (fr_x y_kind fa ph d) = nI (fr_s (y_kind t)) ∧ ∀ j, j ≠ fr_x y_kind fa ph d → xsg' j = x_frameStage j) (hlk : ∀ j, j ≠ fr_x y_kind fa ph d → xlk' j = x_frameLink j)
    (hop : (∀ j, j < fr_x y_kind fa ph d * 3 → xop' j = x_operands j) ∧ fr_O ST (hp_s y_sort y_number) xop' y_operands (y_self (ho (wk (w - 1)))) (y_kind t) (fr_x y_kind fa ph d) (bs d) 0)
    {st' : Nat} (hst : st' ≤ 200) (n2 : sp < 2 ^ 30 - (rn_mu (tk_nd y_kind y_word) fa un rt st' d w t 0)) (n3 : rn_mu (tk_nd y_kind y_word) fa un rt st' d w t 0 < M + 1) (n4 : mc + (rn_mu (tk_nd y_kind y_word) fa un rt st' d w t 0) ≤ B) {xm : Int32} (hm : (0 < tk_nd y_kind y_word t ∧ xm = 0) ∨ (tk_nd y_kind y_word t = 0 ∧ xm = 2)) :
    rn_St B M (nI cc, nI bc, nI dc, y_fault, nI mc, nI (fr_x y_kind fa ph d + 1), nI (σ (wk (w - 1))), nI (t + 1), x_inHand, xm, 100, nI st', nI w, y_peak, nI sp, x_pendingCount, y_parent, y_fields, y_bound, x_tokenKind, x_tokenValue, x_globals, x_thingShown, x_thingClass, x_thingFields, x_thingToken, x_thingMaker, x_variables, x_homeOf, x_within, x_foundIn, x_baseFrame, xtk', xsg', xlk', xop', y_heard, x_marked, x_pending) (nI cc, nI bc, y_fault, nI mc, nI w, y_peak, nI st', nI (d + 1), nI (bs d), y_code, 1, 0, y_got, y_todos, y_marks, -10000000000, nI sp, y_parent, y_fields, y_bound, y_kind, y_word, y_size, y_sort, y_number, y_stands, y_keeps, y_cells, y_globals, y_within, y_foundIn, y_self, y_args, y_temps, y_param, y_live, y_work, y_under, upd y_at d (nI t), upd y_in d (nI (wk (w - 1))), upd y_phase d 0, upd y_base d (nI (bs d)), y_goal, y_operands, y_marked, y_todo, y_heard) := by
  have F' := rn_push F tt lt (by rw [ek]; exact fr_opok hk) htk hsg hlk hop
  obtain ⟨e1, e2, d3, _⟩ := rn_le A F tt lt
  have nt : ¬ fr_tail (y_kind t) 0 := fun z => by rcases z with ⟨_, z⟩ | ⟨_, z⟩ <;> omega
  have ex : fr_x y_kind (nu fa d t) (nu ph d 0) (d + 1) = fr_x y_kind fa ph d + 1 := by
    show fr_x y_kind (nu fa d t) (nu ph d 0) d + ct_b _ = _
    rw [fr_xc (fun q hq => ⟨nu_n (by omega), nu_n (by omega)⟩), nu_s, nu_s, ct_bt nt]
  have pt0 : fr_pt (y_kind t) 0 = 0 := by unfold fr_pt; rw [if_neg (fun z => by have := z.2; omega)]
  have sm : fr_sum (fun i => 10 * (ex_e (tk_nd y_kind y_word) (rt i) - ex_e (tk_nd y_kind y_word) (nu fa d t (un (i + 1) - 1)))) (w - 1) = fr_sum (fun i => 10 * (ex_e (tk_nd y_kind y_word) (rt i) - ex_e (tk_nd y_kind y_word) (fa (un (i + 1) - 1)))) (w - 1) := fr_sumc fun i hi => by
    obtain ⟨p, p1, p2, _⟩ := F.1.2.2.2.2.2.2.2 i (by omega)
    rw [nu_n (by omega)]
  refine ⟨cc, bc, dc, mc, st', sp, d + 1, w, t + 1, if 0 < tk_nd y_kind y_word t then 0 else 1, T, ST, SA, lv, τ, σ, lev, ho, nu fa d t, nu ph d 0, nu bs (d + 1) (bs d), nu ow d (w - 1), gg, wk, un, rt, ⟨rfl, rfl, rfl, rfl, rfl, by rw [ex], rfl, rfl, rfl, rfl, rfl, rfl, rfl, rfl, rfl, rfl, rfl⟩, ⟨rfl, rfl, rfl, rfl, rfl, rfl, by rw [nu_s], rfl, rfl, rfl⟩, A, F', Or.inr ⟨rfl, d, rfl, by rw [nu_s]; decide, ?_, ?_⟩, hst, ?_⟩
  · rw [nu_s, nu_s, pt0]; rfl
  · rw [nu_s, nu_s, pt0]
    rcases hm with ⟨a, b⟩ | ⟨a, b⟩
    · exact Or.inl ⟨a, b, if_pos a⟩
    · exact Or.inr ⟨a.symm, b, if_neg (by omega)⟩
  · unfold rn_mu at n2 n3 n4 ⊢
    rw [sm]
    split <;> omega
end
end
section
/-! the operators' first turn -/
section
variable {x_classCount x_bodyCount x_draftCount x_wrongPlace x_madeCount x_frameCount x_current x_next x_mode x_outcome x_stepCount x_atWork x_mostAtWork x_saidCount x_pendingCount : Int32} {x_inHand : Int64} {x_classParent x_classFields x_bound x_tokenKind x_tokenValue x_thingClass x_thingToken x_thingMaker x_homeOf x_within x_foundIn x_baseFrame x_frameToken x_frameStage x_frameLink x_marked x_pending : Nat → Int32} {x_globals x_thingShown x_thingFields x_variables x_operands x_saidValues : Nat → Int64}
variable {y_classes y_bodies y_fault y_made y_working y_peak y_steps y_depth y_waiting y_code y_running y_has y_todos y_marks y_spoken : Int32} {y_got y_shown : Int64} {y_parent y_fields y_bound y_kind y_word y_size y_sort y_number y_stands y_keeps y_within y_foundIn y_live y_work y_under y_at y_in y_phase y_base y_goal y_marked y_todo : Nat → Int32} {y_cells y_globals y_self y_args y_temps y_param y_operands y_heard : Nat → Int64}
variable {cc bc dc mc st sp d w np md B M : Nat} {T ST SA : Nat → Prop} {lv τ σ lev ho fa ph bs ow gg wk un rt : Nat → Nat}
theorem xr_open {Q : SX → Prop} {t fc : Nat} (ht : t < 416) (hf : fc < 384) (ok : tk_ok (x_tokenKind t) (x_tokenValue t)) (n0 : 0 < tk_need (x_tokenKind t) (x_tokenValue t)) (k12 : ¬ x_tokenKind t = 12) (k25 : ¬ x_tokenKind t = 25) (k11 : ¬ x_tokenKind t = 11)
    (hs : x_tokenKind t = 24 → (x_stepCount = 200 → Q (x_classCount, x_bodyCount, x_draftCount, x_wrongPlace, x_madeCount, nI fc, x_current, nI (t + 1), x_inHand, 1, 4, x_stepCount, x_atWork, x_mostAtWork, x_saidCount, x_pendingCount, x_classParent, x_classFields, x_bound, x_tokenKind, x_tokenValue, x_globals, x_thingShown, x_thingClass, x_thingFields, x_thingToken, x_thingMaker, x_variables, x_homeOf, x_within, x_foundIn, x_baseFrame, x_frameToken, x_frameStage, x_frameLink, x_operands, x_saidValues, x_marked, x_pending)) ∧ (¬ x_stepCount = 200 → Q (x_classCount, x_bodyCount, x_draftCount, x_wrongPlace, x_madeCount, nI (fc + 1), x_current, nI (t + 1), x_inHand, 0, x_outcome, x_stepCount + 1, x_atWork, x_mostAtWork, x_saidCount, x_pendingCount, x_classParent, x_classFields, x_bound, x_tokenKind, x_tokenValue, x_globals, x_thingShown, x_thingClass, x_thingFields, x_thingToken, x_thingMaker, x_variables, x_homeOf, x_within, x_foundIn, x_baseFrame, upd x_frameToken fc (nI t), upd x_frameStage fc 0, upd x_frameLink fc (-1), mk_c x_operands (fc * 3) 3 10000000000, x_saidValues, x_marked, x_pending)))
    (q : ¬ x_tokenKind t = 24 → Q (x_classCount, x_bodyCount, x_draftCount, x_wrongPlace, x_madeCount, nI (fc + 1), x_current, nI (t + 1), x_inHand, 0, x_outcome, x_stepCount, x_atWork, x_mostAtWork, x_saidCount, x_pendingCount, x_classParent, x_classFields, x_bound, x_tokenKind, x_tokenValue, x_globals, x_thingShown, x_thingClass, x_thingFields, x_thingToken, x_thingMaker, x_variables, x_homeOf, x_within, x_foundIn, x_baseFrame, upd x_frameToken fc (nI t), upd x_frameStage fc 0, upd x_frameLink fc (-1), mk_c x_operands (fc * 3) 3 10000000000, x_saidValues, x_marked, x_pending)) : wpX_readToken Q (x_classCount, x_bodyCount, x_draftCount, x_wrongPlace, x_madeCount, nI fc, x_current, nI t, x_inHand, x_mode, x_outcome, x_stepCount, x_atWork, x_mostAtWork, x_saidCount, x_pendingCount, x_classParent, x_classFields, x_bound, x_tokenKind, x_tokenValue, x_globals, x_thingShown, x_thingClass, x_thingFields, x_thingToken, x_thingMaker, x_variables, x_homeOf, x_within, x_foundIn, x_baseFrame, x_frameToken, x_frameStage, x_frameLink, x_operands, x_saidValues, x_marked, x_pending) := by
  have vt : vp_in (nI t) 416 := vp_in_nI ht (by decide)
  have l3 := tk_need_le ok
  unfold wpX_readToken
  dsimp only
  rw [nI_clamp (show t < 2 ^ 31 by omega)]
  refine ⟨vt, nm_e ⟨vt, nm_e (xw_needs ok ?_)⟩⟩
  refine br_f k12 (br_f k25 (br_f k11 (br_f (nI_nle n0 (by omega)) ?_)))
  unfold wpX_openOperator
  dsimp only
  by_cases z : x_tokenKind t = 24
  · obtain ⟨h1, h2⟩ := hs z
    refine br_t z ?_
    unfold wpX_takeStep
    dsimp only
    by_cases y : x_stepCount = 200
    · exact br_t y (br_t rfl (br_f k12 (nm_r (nI_1 t) (h1 y))))
    · exact br_f y (nm_e (br_f (by decide) (xw_push hf (br_f k12 (nm_r (nI_1 t) (h2 y))))))
  · exact br_f z (xw_push hf (br_f k12 (nm_r (nI_1 t) (q z))))
theorem xr_super {Q : SX → Prop} {t fc c h : Nat} (ht : t < 416) (hf : fc < 384) (ok : tk_ok (x_tokenKind t) (x_tokenValue t)) (k11 : x_tokenKind t = 11) (hc : c < 128) (hh : h < 128) (hm : x_homeOf c = nI h)
    (q : ∀ m : Int32, ((0 < tk_need (x_tokenKind t) (x_tokenValue t) ∧ m = 0) ∨ (tk_need (x_tokenKind t) (x_tokenValue t) = 0 ∧ m = 2)) → Q (x_classCount, x_bodyCount, x_draftCount, x_wrongPlace, x_madeCount, nI (fc + 1), nI c, nI (t + 1), x_inHand, m, x_outcome, x_stepCount, x_atWork, x_mostAtWork, x_saidCount, x_pendingCount, x_classParent, x_classFields, x_bound, x_tokenKind, x_tokenValue, x_globals, x_thingShown, x_thingClass, x_thingFields, x_thingToken, x_thingMaker, x_variables, x_homeOf, x_within, x_foundIn, x_baseFrame, upd x_frameToken fc (nI t), upd (upd x_frameStage fc 0) fc 1, upd x_frameLink fc (-1), vp_updL (mk_c x_operands (fc * 3) 3 10000000000) (fc * 3) (x_variables (h * 7)), x_saidValues, x_marked, x_pending)) : wpX_readToken Q (x_classCount, x_bodyCount, x_draftCount, x_wrongPlace, x_madeCount, nI fc, nI c, nI t, x_inHand, x_mode, x_outcome, x_stepCount, x_atWork, x_mostAtWork, x_saidCount, x_pendingCount, x_classParent, x_classFields, x_bound, x_tokenKind, x_tokenValue, x_globals, x_thingShown, x_thingClass, x_thingFields, x_thingToken, x_thingMaker, x_variables, x_homeOf, x_within, x_foundIn, x_baseFrame, x_frameToken, x_frameStage, x_frameLink, x_operands, x_saidValues, x_marked, x_pending) := by
  have vt : vp_in (nI t) 416 := vp_in_nI ht (by decide)
  have l3 := tk_need_le ok
  have k12 : ¬ x_tokenKind t = 12 := by rw [k11]; decide
  have e3 : nI fc * (3 : Int32) = nI (fc * 3) := pk_mul fc 3
  have e7 : nI h * (7 : Int32) + 0 = nI (h * 7) := by rw [show nI h * (7 : Int32) = nI (h * 7) from pk_mul h 7, Int32.add_zero]
  unfold wpX_readToken
  dsimp only
  rw [nI_clamp (show t < 2 ^ 31 by omega)]
  refine ⟨vt, nm_e ⟨vt, nm_e (xw_needs ok ?_)⟩⟩
  refine br_f k12 (br_f (by rw [k11]; decide) (br_t k11 ?_))
  unfold wpX_openSuper
  dsimp only
  refine xw_push hf ?_
  dsimp only
  unfold wpX_selfOfHome
  dsimp only
  rw [nI_clamp (show c < 2 ^ 31 by omega), hm, e7, nI_clamp (show h * 7 < 2 ^ 31 by omega), e3, nI_clamp (show fc * 3 < 2 ^ 31 by omega), nI_clamp (show fc < 2 ^ 31 by omega)]
  refine ⟨vp_in_nI hc (by decide), vp_in_nI (by omega) (by decide), vp_in_nI (by omega) (by decide), nm_e ⟨vp_in_nI hf (by decide), nm_e ?_⟩⟩
  rcases Nat.eq_zero_or_pos (tk_need (x_tokenKind t) (x_tokenValue t)) with z | z
  · exact br_t (by rw [z]; rfl) (br_f k12 (nm_r (nI_1 t) (q 2 (Or.inr ⟨z, rfl⟩))))
  · exact br_f (nI_ne0 z (by omega)) (br_f k12 (nm_r (nI_1 t) (q 0 (Or.inl ⟨z, rfl⟩))))
theorem ev_op (A : rn_A cc bc dc mc T ST SA lv τ σ lev ho x_tokenKind x_tokenValue y_kind y_word y_size y_parent y_fields y_bound x_globals y_globals x_thingShown x_thingClass x_thingFields x_thingToken x_thingMaker x_variables x_homeOf x_within x_foundIn y_sort y_number y_stands y_keeps y_cells y_within y_foundIn y_self y_args y_temps y_param) (F : rn_F T ST SA lv σ lev ho y_kind y_word fa ph bs ow gg wk un rt d w y_sort y_number x_frameToken x_frameStage x_frameLink x_operands x_baseFrame y_operands y_self y_at y_in y_phase y_base y_goal y_work y_under y_live) {t : Nat} (tt : T t) (lt : fr_lt y_kind (tk_nd y_kind y_word) fa ph rt d t (w - 1)) (n : rn_n B (M + 1) mc st sp (rn_mu (tk_nd y_kind y_word) fa un rt st d w t 0)) {kn : Nat} (hk : fr_op kn) (ek : y_kind t = nI kn) :
    rn_Ev B M (nI cc, nI bc, nI dc, y_fault, nI mc, nI (fr_x y_kind fa ph d), nI (σ (wk (w - 1))), nI t, x_inHand, 0, 100, nI st, nI w, y_peak, nI sp, x_pendingCount, y_parent, y_fields, y_bound, x_tokenKind, x_tokenValue, x_globals, x_thingShown, x_thingClass, x_thingFields, x_thingToken, x_thingMaker, x_variables, x_homeOf, x_within, x_foundIn, x_baseFrame, x_frameToken, x_frameStage, x_frameLink, x_operands, y_heard, x_marked, x_pending) (nI cc, nI bc, y_fault, nI mc, nI w, y_peak, nI st, nI d, nI (bs d), y_code, 1, 0, y_got, y_todos, y_marks, -10000000000, nI sp, y_parent, y_fields, y_bound, y_kind, y_word, y_size, y_sort, y_number, y_stands, y_keeps, y_cells, y_globals, y_within, y_foundIn, y_self, y_args, y_temps, y_param, y_live, y_work, y_under, y_at, y_in, y_phase, y_base, y_goal, y_operands, y_marked, y_todo, y_heard) t (wk (w - 1)) := by
  obtain ⟨c1, c2, c3, c4, c5, c6, c7, _, v0, v1, v2⟩ := rn_cur A F
  obtain ⟨b12, t1, t2, _⟩ := A.1.2.2.1
  obtain ⟨l1, x1, x2, ok, fit⟩ := t1 t tt
  obtain ⟨_, _, d3, _⟩ := rn_le A F tt lt
  have hf := rn_frm A F tt lt
  have kb := fr_opb hk
  have ne : ∀ b, b < 30 → kn ≠ b → ¬ y_kind t = nI b := fun b hb h z => h ((nI_eq (by omega) (by omega)).mp (ek.symm.trans z))
  have k12 : ¬ y_kind t = 12 := ne 12 (by decide) (fun z => by subst z; rcases hk with h | h | h | h | h | h | h | h | h | h | h | h | h | h | h | h | h | h | h <;> omega)
  have k25 : ¬ y_kind t = 25 := ne 25 (by decide) (fun z => by subst z; rcases hk with h | h | h | h | h | h | h | h | h | h | h | h | h | h | h | h | h | h | h <;> omega)
  obtain ⟨n1, n2, n3, n4⟩ := n
  have vt : vp_in (nI t) 416 := vp_in_nI (by omega) (by decide)
  have tc : (nI t).toNatClampNeg = t := nI_clamp (by omega)
  have htk : upd x_frameToken (fr_x y_kind fa ph d) (nI t) (fr_x y_kind fa ph d) = nI t ∧ ∀ j, j ≠ fr_x y_kind fa ph d → upd x_frameToken (fr_x y_kind fa ph d) (nI t) j = x_frameToken j := ⟨pk_us, fun j hj => pk_un hj⟩
  have hlk : ∀ j, j ≠ fr_x y_kind fa ph d → upd x_frameLink (fr_x y_kind fa ph d) (-1) j = x_frameLink j := fun j hj => pk_un hj
  have opl : ∀ j, j < fr_x y_kind fa ph d * 3 → mk_c x_operands (fr_x y_kind fa ph d * 3) 3 10000000000 j = x_operands j := fun j hj => mk_co (Or.inl hj)
  by_cases k11 : kn = 11
  · subst k11
    have k11 : y_kind t = 11 := ek
    have s1 : fr_s (y_kind t) = 1 := by unfold fr_s; rw [if_pos k11]
    have nn : tk_need (x_tokenKind t) (x_tokenValue t) = tk_nd y_kind y_word t := by rw [x1, x2]; rfl
    rcases Nat.eq_zero_or_pos (tk_nd y_kind y_word t) with z | z
    · refine ⟨(nI cc, nI bc, nI dc, y_fault, nI mc, nI (fr_x y_kind fa ph d + 1), nI (σ (wk (w - 1))), nI (t + 1), x_inHand, 2, 100, nI st, nI w, y_peak, nI sp, x_pendingCount, y_parent, y_fields, y_bound, x_tokenKind, x_tokenValue, x_globals, x_thingShown, x_thingClass, x_thingFields, x_thingToken, x_thingMaker, x_variables, x_homeOf, x_within, x_foundIn, x_baseFrame, upd x_frameToken (fr_x y_kind fa ph d) (nI t), upd (upd x_frameStage (fr_x y_kind fa ph d) 0) (fr_x y_kind fa ph d) 1, upd x_frameLink (fr_x y_kind fa ph d) (-1), vp_updL (mk_c x_operands (fr_x y_kind fa ph d * 3) 3 10000000000) (fr_x y_kind fa ph d * 3) (x_variables (σ (ho (wk (w - 1))) * 7)), y_heard, x_marked, x_pending), (nI cc, nI bc, y_fault, nI mc, nI w, y_peak, nI st, nI (d + 1), nI (bs d), y_code, 1, 0, y_got, y_todos, y_marks, -10000000000, nI sp, y_parent, y_fields, y_bound, y_kind, y_word, y_size, y_sort, y_number, y_stands, y_keeps, y_cells, y_globals, y_within, y_foundIn, y_self, y_args, y_temps, y_param, y_live, y_work, y_under, upd y_at d (nI t), upd y_in d (nI (wk (w - 1))), upd y_phase d 0, upd y_base d (nI (bs d)), y_goal, y_operands, y_marked, y_todo, y_heard), fun Q q => xr_super (by omega) hf (by rw [x1, x2]; exact ok) (by rw [x1]; exact k11) c3 c6 c7 (fun m hm => ?_), fun Q q => ev_368 A F (by omega) hk ek ?_, Or.inr (ev_N A F tt lt hk ek htk (xsg' := upd (upd x_frameStage (fr_x y_kind fa ph d) 0) (fr_x y_kind fa ph d) 1) ⟨by rw [s1]; exact pk_us, fun j hj => by rw [pk_un hj, pk_un hj]⟩ hlk (xop' := vp_updL (mk_c x_operands (fr_x y_kind fa ph d * 3) 3 10000000000) (fr_x y_kind fa ph d * 3) (x_variables (σ (ho (wk (w - 1))) * 7))) ⟨fun j hj => by rw [pk_uLn (by omega)]; exact opl j hj, fun i hi => ?_⟩ n1 n2 n3 n4 (Or.inr ⟨z, rfl⟩))⟩
      · rw [nn] at hm
        rcases hm with ⟨a, _⟩ | ⟨_, a⟩
        · omega
        · subst a; exact q
      · unfold wY_evaluate_368
        rw [tc]
        exact ⟨vt, br_f (by rw [k11]; decide) (ev_387 (by omega) q)⟩
      · rw [s1]
        refine ⟨fun h => ?_, fun _ h => by omega, fun h _ => ?_⟩
        · obtain rfl : i = 0 := by omega
          rw [Nat.add_zero, pk_uLs]; exact v0
        · rw [pk_uLn (by omega)]; exact mk_ci (by omega) (by omega)
    · refine ⟨(nI cc, nI bc, nI dc, y_fault, nI mc, nI (fr_x y_kind fa ph d + 1), nI (σ (wk (w - 1))), nI (t + 1), x_inHand, 0, 100, nI st, nI w, y_peak, nI sp, x_pendingCount, y_parent, y_fields, y_bound, x_tokenKind, x_tokenValue, x_globals, x_thingShown, x_thingClass, x_thingFields, x_thingToken, x_thingMaker, x_variables, x_homeOf, x_within, x_foundIn, x_baseFrame, upd x_frameToken (fr_x y_kind fa ph d) (nI t), upd (upd x_frameStage (fr_x y_kind fa ph d) 0) (fr_x y_kind fa ph d) 1, upd x_frameLink (fr_x y_kind fa ph d) (-1), vp_updL (mk_c x_operands (fr_x y_kind fa ph d * 3) 3 10000000000) (fr_x y_kind fa ph d * 3) (x_variables (σ (ho (wk (w - 1))) * 7)), y_heard, x_marked, x_pending), (nI cc, nI bc, y_fault, nI mc, nI w, y_peak, nI st, nI (d + 1), nI (bs d), y_code, 1, 0, y_got, y_todos, y_marks, -10000000000, nI sp, y_parent, y_fields, y_bound, y_kind, y_word, y_size, y_sort, y_number, y_stands, y_keeps, y_cells, y_globals, y_within, y_foundIn, y_self, y_args, y_temps, y_param, y_live, y_work, y_under, upd y_at d (nI t), upd y_in d (nI (wk (w - 1))), upd y_phase d 0, upd y_base d (nI (bs d)), y_goal, y_operands, y_marked, y_todo, y_heard), fun Q q => xr_super (by omega) hf (by rw [x1, x2]; exact ok) (by rw [x1]; exact k11) c3 c6 c7 (fun m hm => ?_), fun Q q => ev_368 A F (by omega) hk ek ?_, Or.inr (ev_N A F tt lt hk ek htk (xsg' := upd (upd x_frameStage (fr_x y_kind fa ph d) 0) (fr_x y_kind fa ph d) 1) ⟨by rw [s1]; exact pk_us, fun j hj => by rw [pk_un hj, pk_un hj]⟩ hlk (xop' := vp_updL (mk_c x_operands (fr_x y_kind fa ph d * 3) 3 10000000000) (fr_x y_kind fa ph d * 3) (x_variables (σ (ho (wk (w - 1))) * 7))) ⟨fun j hj => by rw [pk_uLn (by omega)]; exact opl j hj, fun i hi => ?_⟩ n1 n2 n3 n4 (Or.inl ⟨z, rfl⟩))⟩
      · rw [nn] at hm
        rcases hm with ⟨_, a⟩ | ⟨a, _⟩
        · subst a; exact q
        · omega
      · unfold wY_evaluate_368
        rw [tc]
        exact ⟨vt, br_f (by rw [k11]; decide) (ev_387 (by omega) q)⟩
      · rw [s1]
        refine ⟨fun h => ?_, fun _ h => by omega, fun h _ => ?_⟩
        · obtain rfl : i = 0 := by omega
          rw [Nat.add_zero, pk_uLs]; exact v0
        · rw [pk_uLn (by omega)]; exact mk_ci (by omega) (by omega)
  · have k11' : ¬ y_kind t = 11 := ne 11 (by decide) k11
    have s0 : fr_s (y_kind t) = 0 := by unfold fr_s; rw [if_neg k11']
    have nz : 0 < tk_nd y_kind y_word t := by
      unfold tk_nd
      rw [ek]
      rcases hk with rfl | rfl | rfl | rfl | rfl | rfl | rfl | rfl | rfl | rfl | rfl | rfl | rfl | rfl | rfl | rfl | rfl | rfl | rfl
      all_goals first
        | exact absurd rfl k11
        | exact Nat.lt_of_lt_of_le Nat.zero_lt_one (Nat.le_add_right 1 _)
        | exact (by decide : 0 < 1)
        | exact (by decide : 0 < 2)
        | exact (by decide : 0 < 3)
    have n0 : 0 < tk_need (x_tokenKind t) (x_tokenValue t) := by rw [x1, x2]; exact nz
    have hsg : upd x_frameStage (fr_x y_kind fa ph d) 0 (fr_x y_kind fa ph d) = nI (fr_s (y_kind t)) ∧ ∀ j, j ≠ fr_x y_kind fa ph d → upd x_frameStage (fr_x y_kind fa ph d) 0 j = x_frameStage j := ⟨by rw [s0]; exact pk_us, fun j hj => pk_un hj⟩
    have hop : (∀ j, j < fr_x y_kind fa ph d * 3 → mk_c x_operands (fr_x y_kind fa ph d * 3) 3 10000000000 j = x_operands j) ∧ fr_O ST (hp_s y_sort y_number) (mk_c x_operands (fr_x y_kind fa ph d * 3) 3 10000000000) y_operands (y_self (ho (wk (w - 1)))) (y_kind t) (fr_x y_kind fa ph d) (bs d) 0 := ⟨opl, fun i hi => by
      rw [s0]
      exact ⟨fun h => by omega, fun _ h => by omega, fun _ _ => mk_ci (by omega) (by omega)⟩⟩
    by_cases k24 : y_kind t = 24
    · by_cases s200 : st = 200
      · subst s200
        refine ⟨_, (nI cc, nI bc, y_fault, nI mc, nI w, y_peak, nI 200, nI d, nI (bs d), 4, 0, 0, y_got, y_todos, y_marks, -10000000000, nI sp, y_parent, y_fields, y_bound, y_kind, y_word, y_size, y_sort, y_number, y_stands, y_keeps, y_cells, y_globals, y_within, y_foundIn, y_self, y_args, y_temps, y_param, y_live, y_work, y_under, y_at, y_in, y_phase, y_base, y_goal, y_operands, y_marked, y_todo, y_heard), fun Q q => xr_open (by omega) hf (by rw [x1, x2]; exact ok) n0 (by rw [x1]; exact k12) (by rw [x1]; exact k25) (by rw [x1]; exact k11') (fun _ => ⟨fun _ => q, fun z => absurd rfl z⟩) (fun z => absurd (by rw [x1]; exact k24) z), fun Q q => ev_368 A F (by omega) hk ek ?_, Or.inl (rn_stop A F (by decide) (by decide) (by omega))⟩
        unfold wY_evaluate_368
        rw [tc]
        refine ⟨vt, br_t k24 ?_⟩
        unfold wpY_step
        exact br_t rfl ⟨rfl, br_t rfl q⟩
      · have s1 : ¬ nI st = 200 := fun z => s200 ((nI_eq (b := 200) (by omega) (by decide)).mp z)
        have mst : rn_mu (tk_nd y_kind y_word) fa un rt (st + 1) d w t 0 ≤ rn_mu (tk_nd y_kind y_word) fa un rt st d w t 0 := by unfold rn_mu; omega
        refine ⟨(nI cc, nI bc, nI dc, y_fault, nI mc, nI (fr_x y_kind fa ph d + 1), nI (σ (wk (w - 1))), nI (t + 1), x_inHand, 0, 100, nI (st + 1), nI w, y_peak, nI sp, x_pendingCount, y_parent, y_fields, y_bound, x_tokenKind, x_tokenValue, x_globals, x_thingShown, x_thingClass, x_thingFields, x_thingToken, x_thingMaker, x_variables, x_homeOf, x_within, x_foundIn, x_baseFrame, upd x_frameToken (fr_x y_kind fa ph d) (nI t), upd x_frameStage (fr_x y_kind fa ph d) 0, upd x_frameLink (fr_x y_kind fa ph d) (-1), mk_c x_operands (fr_x y_kind fa ph d * 3) 3 10000000000, y_heard, x_marked, x_pending), (nI cc, nI bc, y_fault, nI mc, nI w, y_peak, nI (st + 1), nI (d + 1), nI (bs d), y_code, 1, 0, y_got, y_todos, y_marks, -10000000000, nI sp, y_parent, y_fields, y_bound, y_kind, y_word, y_size, y_sort, y_number, y_stands, y_keeps, y_cells, y_globals, y_within, y_foundIn, y_self, y_args, y_temps, y_param, y_live, y_work, y_under, upd y_at d (nI t), upd y_in d (nI (wk (w - 1))), upd y_phase d 0, upd y_base d (nI (bs d)), y_goal, y_operands, y_marked, y_todo, y_heard), fun Q q => xr_open (by omega) hf (by rw [x1, x2]; exact ok) n0 (by rw [x1]; exact k12) (by rw [x1]; exact k25) (by rw [x1]; exact k11') (fun _ => ⟨fun z => absurd z s1, fun _ => ?_⟩) (fun z => absurd (by rw [x1]; exact k24) z), fun Q q => ev_368 A F (by omega) hk ek ?_, Or.inr (ev_N A F tt lt hk ek htk hsg hlk hop (st' := st + 1) (by omega) (by omega) (by omega) (by omega) (Or.inl ⟨nz, rfl⟩))⟩
        · rw [nI_1]; exact q
        · unfold wY_evaluate_368
          rw [tc]
          refine ⟨vt, br_t k24 ?_⟩
          unfold wpY_step
          exact br_f s1 (nm_r (nI_1 st) ⟨rfl, br_f (by decide) (ev_387 (st := st + 1) (by omega) q)⟩)
    · refine ⟨(nI cc, nI bc, nI dc, y_fault, nI mc, nI (fr_x y_kind fa ph d + 1), nI (σ (wk (w - 1))), nI (t + 1), x_inHand, 0, 100, nI st, nI w, y_peak, nI sp, x_pendingCount, y_parent, y_fields, y_bound, x_tokenKind, x_tokenValue, x_globals, x_thingShown, x_thingClass, x_thingFields, x_thingToken, x_thingMaker, x_variables, x_homeOf, x_within, x_foundIn, x_baseFrame, upd x_frameToken (fr_x y_kind fa ph d) (nI t), upd x_frameStage (fr_x y_kind fa ph d) 0, upd x_frameLink (fr_x y_kind fa ph d) (-1), mk_c x_operands (fr_x y_kind fa ph d * 3) 3 10000000000, y_heard, x_marked, x_pending), (nI cc, nI bc, y_fault, nI mc, nI w, y_peak, nI st, nI (d + 1), nI (bs d), y_code, 1, 0, y_got, y_todos, y_marks, -10000000000, nI sp, y_parent, y_fields, y_bound, y_kind, y_word, y_size, y_sort, y_number, y_stands, y_keeps, y_cells, y_globals, y_within, y_foundIn, y_self, y_args, y_temps, y_param, y_live, y_work, y_under, upd y_at d (nI t), upd y_in d (nI (wk (w - 1))), upd y_phase d 0, upd y_base d (nI (bs d)), y_goal, y_operands, y_marked, y_todo, y_heard), fun Q q => xr_open (by omega) hf (by rw [x1, x2]; exact ok) n0 (by rw [x1]; exact k12) (by rw [x1]; exact k25) (by rw [x1]; exact k11') (fun z => absurd (by rw [← x1]; exact z) k24) (fun _ => q), fun Q q => ev_368 A F (by omega) hk ek ?_, Or.inr (ev_N A F tt lt hk ek htk hsg hlk hop n1 n2 n3 n4 (Or.inl ⟨nz, rfl⟩))⟩
      unfold wY_evaluate_368
      rw [tc]
      exact ⟨vt, br_f k24 (ev_387 (by omega) q)⟩
end
end
section
/-! what a run holds, on both sides -/
section
variable {K : Nat → Int32} {nd : Nat → Nat} {T : Nat → Prop} {fa ph bs ow gg un rt : Nat → Nat} {d w : Nat}
theorem fr_find (S : fr_S K nd T fa ph bs ow gg un rt d w) {j : Nat} : ∀ p, p ≤ d → j < bs p → ∃ q, q < p ∧ bs q ≤ j ∧ j < bs q + fr_c (K (fa q)) (ph q)
  | 0, _, h => by rw [S.2.2.2.1] at h; omega
  | p + 1, hp, h => by
    have e := (S.2.2.2.2.1 p (by omega)).2.2.2.2.2.1
    rcases Nat.lt_or_ge j (bs p) with z | z
    · obtain ⟨q, a, b, c⟩ := fr_find S p (by omega) z
      exact ⟨q, by omega, b, c⟩
    · exact ⟨p, by omega, z, by omega⟩
theorem fr_bsm (S : fr_S K nd T fa ph bs ow gg un rt d w) {q : Nat} : ∀ {p : Nat}, q < p → p ≤ d → bs q + fr_c (K (fa q)) (ph q) ≤ bs p
  | 0, h, _ => by omega
  | p + 1, h, hp => by
    have e := (S.2.2.2.2.1 p (by omega)).2.2.2.2.2.1
    by_cases z : q = p
    · subst z; omega
    · have := fr_bsm S (q := q) (p := p) (by omega) (by omega)
      omega
theorem fr_surj {R : Nat} : ∀ p, 1 ≤ R → R < fr_x K fa ph p → ∃ q, q < p ∧ ¬ fr_tail (K (fa q)) (ph q) ∧ fr_x K fa ph q = R
  | 0, h, h2 => by
    have h2 : R < 1 := h2
    omega
  | p + 1, h, h2 => by
    rcases Nat.lt_or_ge R (fr_x K fa ph p) with z | z
    · obtain ⟨q, a, b⟩ := fr_surj p h z
      exact ⟨q, by omega, b⟩
    · by_cases t : fr_tail (K (fa p)) (ph p)
      · have e : fr_x K fa ph (p + 1) = fr_x K fa ph p := by
          show _ + ct_b _ = _
          rw [ct_bf (fun q => q t)]; rfl
        omega
      · have e : fr_x K fa ph (p + 1) = fr_x K fa ph p + 1 := by
          show _ + ct_b _ = _
          rw [ct_bt t]
        exact ⟨p, by omega, t, by omega⟩
theorem fr_c0 {k : Int32} {ph : Nat} (h : fr_tail k ph) : fr_c k ph = 0 := by
  unfold fr_c
  rcases h with ⟨rfl, rfl⟩ | ⟨rfl, rfl⟩
  · rw [if_neg (by decide), if_pos (Or.inl rfl)]
  · rw [if_neg (by decide), if_pos (Or.inr (Or.inl rfl))]
theorem fr_cs {k : Int32} {n ph : Nat} (ok : fr_ok k n ph) (h3 : n ≤ 3) (h11 : k = 11 → n ≤ 2) : fr_c k ph + fr_s k ≤ 3 := by
  by_cases z : ph = 100
  · have : fr_c k ph = 0 := by unfold fr_c; rw [if_pos z]
    have : fr_s k ≤ 1 := by unfold fr_s; split <;> omega
    omega
  · rcases ok with ⟨a, _⟩ | ⟨rfl, a⟩ | ⟨rfl, a⟩ | ⟨rfl, a⟩ | ⟨rfl, a⟩ | ⟨g, a⟩
    · exact absurd a z
    · have : fr_c 16 ph = 0 := by unfold fr_c; rw [if_neg z, if_pos (Or.inl rfl)]
      have : fr_s 16 = 0 := by unfold fr_s; rw [if_neg (by decide)]
      omega
    · have : fr_c 23 ph = 0 := by unfold fr_c; rw [if_neg z, if_pos (Or.inr (Or.inl rfl))]
      have : fr_s 23 = 0 := by unfold fr_s; rw [if_neg (by decide)]
      omega
    · have : fr_c 24 ph = 0 := by unfold fr_c; rw [if_neg z, if_pos (Or.inr (Or.inr rfl))]
      have : fr_s 24 = 0 := by unfold fr_s; rw [if_neg (by decide)]
      omega
    · have : fr_c 27 ph ≤ 1 := by unfold fr_c; rw [if_neg z, if_neg (by decide), if_pos rfl]; split <;> omega
      have : fr_s 27 = 0 := by unfold fr_s; rw [if_neg (by decide)]
      omega
    · have c : fr_c k ph ≤ ph := by
        unfold fr_c
        split
        · omega
        · split
          · omega
          · split
            · split <;> omega
            · omega
      by_cases e : k = 11
      · have := h11 e
        have : fr_s k ≤ 1 := by unfold fr_s; split <;> omega
        omega
      · have : fr_s k = 0 := by unfold fr_s; rw [if_neg e]
        omega
end
section
variable {x_classCount x_bodyCount x_draftCount x_wrongPlace x_madeCount x_frameCount x_current x_next x_mode x_outcome x_stepCount x_atWork x_mostAtWork x_saidCount x_pendingCount : Int32} {x_inHand : Int64} {x_classParent x_classFields x_bound x_tokenKind x_tokenValue x_thingClass x_thingToken x_thingMaker x_homeOf x_within x_foundIn x_baseFrame x_frameToken x_frameStage x_frameLink x_marked x_pending : Nat → Int32} {x_globals x_thingShown x_thingFields x_variables x_operands x_saidValues : Nat → Int64}
variable {y_classes y_bodies y_fault y_made y_working y_peak y_steps y_depth y_waiting y_code y_running y_has y_todos y_marks y_spoken : Int32} {y_got y_shown : Int64} {y_parent y_fields y_bound y_kind y_word y_size y_sort y_number y_stands y_keeps y_within y_foundIn y_live y_work y_under y_at y_in y_phase y_base y_goal y_marked y_todo : Nat → Int32} {y_cells y_globals y_self y_args y_temps y_param y_operands y_heard : Nat → Int64}
variable {cc bc dc mc st sp d w np md B M : Nat} {T ST SA : Nat → Prop} {lv τ σ lev ho fa ph bs ow gg wk un rt : Nat → Nat}
theorem rn_11 (A : rn_A cc bc dc mc T ST SA lv τ σ lev ho x_tokenKind x_tokenValue y_kind y_word y_size y_parent y_fields y_bound x_globals y_globals x_thingShown x_thingClass x_thingFields x_thingToken x_thingMaker x_variables x_homeOf x_within x_foundIn y_sort y_number y_stands y_keeps y_cells y_within y_foundIn y_self y_args y_temps y_param) {t : Nat} (tt : T t) (h : y_kind t = 11) : tk_nd y_kind y_word t ≤ 2 := by
  obtain ⟨_, _, _, ok, _⟩ := A.1.2.2.1.2.1 t tt
  obtain ⟨kn, kl, ek, okl, _⟩ := ok
  have : kn = 11 := (nI_eq (by omega) (by decide)).mp (ek.symm.trans h)
  subst this
  obtain ⟨v, hv, ev⟩ := okl (by omega)
  have hv : v < 12 := hv
  unfold tk_nd
  rw [h]
  show (y_word t).toNatClampNeg / 4 ≤ 2
  rw [ev, nI_clamp (by omega)]
  omega
theorem rn_roots (A : rn_A cc bc dc mc T ST SA lv τ σ lev ho x_tokenKind x_tokenValue y_kind y_word y_size y_parent y_fields y_bound x_globals y_globals x_thingShown x_thingClass x_thingFields x_thingToken x_thingMaker x_variables x_homeOf x_within x_foundIn y_sort y_number y_stands y_keeps y_cells y_within y_foundIn y_self y_args y_temps y_param) (F : rn_F T ST SA lv σ lev ho y_kind y_word fa ph bs ow gg wk un rt d w y_sort y_number x_frameToken x_frameStage x_frameLink x_operands x_baseFrame y_operands y_self y_at y_in y_phase y_base y_goal y_work y_under y_live) :
    (∀ n, cl_r (gy_R y_globals y_operands (bs d) y_work w) (gy_E y_sort y_keeps y_cells y_within y_self y_args y_temps y_param) n → hp_S ST SA n ∧ cl_r (gx_R x_thingShown x_globals x_operands (fr_x y_kind fa ph d) x_baseFrame) (gx_E x_thingShown x_thingFields x_thingMaker x_variables x_within) (hp_f τ σ n)) ∧
    (∀ n, cl_r (gx_R x_thingShown x_globals x_operands (fr_x y_kind fa ph d) x_baseFrame) (gx_E x_thingShown x_thingFields x_thingMaker x_variables x_within) n → ∃ n', cl_r (gy_R y_globals y_operands (bs d) y_work w) (gy_E y_sort y_keeps y_cells y_within y_self y_args y_temps y_param) n' ∧ hp_f τ σ n' = n) := by
  obtain ⟨S, Y, X, W⟩ := F
  have Fp := S.2.2.2.2.1
  refine hp_roots A.2.2.2.1 A.2.2.1 A.2.1 (fun j hj => ?_) (fun i hi => ?_) (fun j hj => ?_) (fun b hb z => ?_)
  · obtain ⟨q, q1, q2, q3⟩ := fr_find S d (Nat.le_refl _) hj
    have nt : ¬ fr_tail (y_kind (fa q)) (ph q) := fun z => by rw [fr_c0 z] at q3; omega
    have nz : ph q ≠ 100 := fun z => by
      have : fr_c (y_kind (fa q)) (ph q) = 0 := by unfold fr_c; rw [if_pos z]
      omega
    obtain ⟨_, _, _, fo⟩ := (X.2 q q1 nt).2 nz
    have lx := fr_xlt (K := y_kind) (fa := fa) (ph := ph) q1 nt
    have cs := fr_cs (Fp q q1).2.2.2.2.1 ((rn_TF A) _ (Fp q q1).1).2.1 (rn_11 A (Fp q q1).1)
    have f2 := (fo (fr_s (y_kind (fa q)) + (j - bs q)) (by omega)).2.1 (by omega) (by omega)
    rw [show bs q + (fr_s (y_kind (fa q)) + (j - bs q) - fr_s (y_kind (fa q))) = j by omega] at f2
    exact ⟨_, by omega, f2⟩
  · rcases Nat.lt_or_ge i 3 with z | z
    · exact Or.inl (X.1.2 i z)
    · obtain ⟨q, q1, nt, q3⟩ := fr_surj (K := y_kind) (fa := fa) (ph := ph) (R := i / 3) d (by omega) (by omega)
      have ei : i = fr_x y_kind fa ph q * 3 + i % 3 := by
        have : fr_x y_kind fa ph q = i / 3 := q3
        omega
      by_cases nz : ph q = 100
      · obtain ⟨_, _, _, f⟩ := (X.2 q q1 nt).1 nz
        rw [ei]; exact Or.inl (f (i % 3) (by omega))
      · obtain ⟨_, _, _, fo⟩ := (X.2 q q1 nt).2 nz
        obtain ⟨f1, f2, f3⟩ := fo (i % 3) (by omega)
        rw [ei]
        rcases Nat.lt_or_ge (i % 3) (fr_s (y_kind (fa q))) with a | a
        · have ho := (Fp q q1).2.1
          exact Or.inr (Or.inr ⟨ow q, wk (ow q), ho, (Y.2 _ ho).1, (W.1 _ ho).1, f1 a⟩)
        · rcases Nat.lt_or_ge (i % 3 - fr_s (y_kind (fa q))) (fr_c (y_kind (fa q)) (ph q)) with b | b
          · have := fr_bsm S q1 (Nat.le_refl d)
            exact Or.inr (Or.inl ⟨_, by omega, f2 a b⟩)
          · exact Or.inl (f3 a b)
  · refine ⟨wk j, (Y.2 j hj).1, (W.1 j hj).1, ?_⟩
    rw [(W.1 j hj).2.2]
    have := (fr_xle (K := y_kind) (fa := fa) (ph := ph) (un j)).1
    have hu := fr_unle S hj
    have : d < 2 ^ 30 := by
      rcases Nat.eq_zero_or_pos d with e | e
      · omega
      · have fq := Fp (d - 1) (by omega)
        have p := fr_pos (rn_TF A) S (d - 1) (by omega) (fa (d - 1)) (ow (d - 1)) (fun e => by omega) (fun _ => rfl) fq.2.2.1 fq.2.2.2.1 fq.1
        have e2 := (rn_TF A) _ fq.1
        have := S.2.1
        have := fq.2.1
        omega
    exact gx_m1 (by omega)
  · obtain ⟨i, i1, i2⟩ := W.2.2.1 b hb z
    exact ⟨i, wk i, i1, (Y.2 i i1).1, (W.1 i i1).1, i2⟩
end
end
section
/-! marking has one outcome -/
def DT {α : Type} (W : (α → Prop) → Prop) : Prop := ∀ Q, W Q → ∃ a, Q a ∧ ∀ Q', Q' a → W Q'
theorem DT_ret {α : Type} {a : α} : DT (fun Q : α → Prop => Q a) := fun _ h => ⟨a, h, fun _ h' => h'⟩
theorem DT_no {α : Type} : DT (fun _ : α → Prop => False) := fun _ h => h.elim
theorem DT_and {α : Type} {P : Prop} {W : (α → Prop) → Prop} (h : DT W) : DT (fun Q => P ∧ W Q) := fun Q ⟨p, q⟩ => by
  obtain ⟨a, b, c⟩ := h Q q
  exact ⟨a, b, fun Q' q' => ⟨p, c Q' q'⟩⟩
theorem DT_br {α : Type} {c : Prop} {A B : (α → Prop) → Prop} (hA : DT A) (hB : DT B) : DT (fun Q => (c → A Q) ∧ (¬ c → B Q)) := fun Q h => by
  by_cases z : c
  · obtain ⟨a, b, e⟩ := hA Q (h.1 z)
    exact ⟨a, b, fun Q' q' => br_t z (e Q' q')⟩
  · obtain ⟨a, b, e⟩ := hB Q (h.2 z)
    exact ⟨a, b, fun Q' q' => br_f z (e Q' q')⟩
theorem DT_nm {α : Type} {β : Sort _} {e : β} {P : β → (α → Prop) → Prop} (h : DT (P e)) : DT (fun Q => ∀ y, y = e → P y Q) := fun Q q => by
  obtain ⟨a, b, c⟩ := h Q (q e rfl)
  exact ⟨a, b, fun Q' q' => nm_e (c Q' q')⟩
theorem DT_ex {α : Type} {W : Nat → (α → Prop) → Prop} (h : ∀ n, DT (W n)) : DT (fun Q => ∃ n, W n Q) := fun Q ⟨n, q⟩ => by
  obtain ⟨a, b, c⟩ := h n Q q
  exact ⟨a, b, fun Q' q' => ⟨n, c Q' q'⟩⟩
theorem DT_bind {α β : Type} {W : (α → Prop) → Prop} {K : α → (β → Prop) → Prop} (h : DT W) (k : ∀ a, DT (K a)) : DT (fun Q => W (fun a => K a Q)) := fun Q q => by
  obtain ⟨a, b, c⟩ := h _ q
  obtain ⟨a', b', c'⟩ := k a Q b
  exact ⟨a', b', fun Q' q' => c _ (c' Q' q')⟩
section
variable {x_classCount x_bodyCount x_draftCount x_wrongPlace x_madeCount x_frameCount x_current x_next x_mode x_outcome x_stepCount x_atWork x_mostAtWork x_saidCount x_pendingCount : Int32} {x_inHand : Int64} {x_classParent x_classFields x_bound x_tokenKind x_tokenValue x_thingClass x_thingToken x_thingMaker x_homeOf x_within x_foundIn x_baseFrame x_frameToken x_frameStage x_frameLink x_marked x_pending : Nat → Int32} {x_globals x_thingShown x_thingFields x_variables x_operands x_saidValues : Nat → Int64}
variable {y_classes y_bodies y_fault y_made y_working y_peak y_steps y_depth y_waiting y_code y_running y_has y_todos y_marks y_spoken : Int32} {y_got y_shown : Int64} {y_parent y_fields y_bound y_kind y_word y_size y_sort y_number y_stands y_keeps y_within y_foundIn y_live y_work y_under y_at y_in y_phase y_base y_goal y_marked y_todo : Nat → Int32} {y_cells y_globals y_self y_args y_temps y_param y_operands y_heard : Nat → Int64}
theorem dt_reach (p : Int32) : DT (fun Q : SY → Prop => wpY_reach Q (y_classes, y_bodies, y_fault, y_made, y_working, y_peak, y_steps, y_depth, y_waiting, y_code, y_running, y_has, y_got, y_todos, y_marks, y_shown, y_spoken, y_parent, y_fields, y_bound, y_kind, y_word, y_size, y_sort, y_number, y_stands, y_keeps, y_cells, y_globals, y_within, y_foundIn, y_self, y_args, y_temps, y_param, y_live, y_work, y_under, y_at, y_in, y_phase, y_base, y_goal, y_operands, y_marked, y_todo, y_heard) p) := by
  unfold wpY_reach
  dsimp only
  repeat first | exact DT_ret | refine DT_and ?_ | refine DT_br ?_ ?_ | refine DT_nm ?_
theorem dt_value (y : Int64) : DT (fun Q : SY → Prop => wpY_reachValue Q (y_classes, y_bodies, y_fault, y_made, y_working, y_peak, y_steps, y_depth, y_waiting, y_code, y_running, y_has, y_got, y_todos, y_marks, y_shown, y_spoken, y_parent, y_fields, y_bound, y_kind, y_word, y_size, y_sort, y_number, y_stands, y_keeps, y_cells, y_globals, y_within, y_foundIn, y_self, y_args, y_temps, y_param, y_live, y_work, y_under, y_at, y_in, y_phase, y_base, y_goal, y_operands, y_marked, y_todo, y_heard) y) := by
  unfold wpY_reachValue
  dsimp only
  refine DT_br DT_ret (DT_bind (dt_reach _) fun a => ?_)
  obtain ⟨y_classes, y_bodies, y_fault, y_made, y_working, y_peak, y_steps, y_depth, y_waiting, y_code, y_running, y_has, y_got, y_todos, y_marks, y_shown, y_spoken, y_parent, y_fields, y_bound, y_kind, y_word, y_size, y_sort, y_number, y_stands, y_keeps, y_cells, y_globals, y_within, y_foundIn, y_self, y_args, y_temps, y_param, y_live, y_work, y_under, y_at, y_in, y_phase, y_base, y_goal, y_operands, y_marked, y_todo, y_heard⟩ := a
  exact DT_ret
end
theorem dt_r72 (a : Int32) : ∀ (n : Nat) (i : Int32) (y_classes : Int32) (y_bodies : Int32) (y_fault : Int32) (y_made : Int32) (y_working : Int32) (y_peak : Int32) (y_steps : Int32) (y_depth : Int32) (y_waiting : Int32) (y_code : Int32) (y_running : Int32) (y_has : Int32) (y_got : Int64) (y_todos : Int32) (y_marks : Int32) (y_shown : Int64) (y_spoken : Int32) (y_parent : Nat → Int32) (y_fields : Nat → Int32) (y_bound : Nat → Int32) (y_kind : Nat → Int32) (y_word : Nat → Int32) (y_size : Nat → Int32) (y_sort : Nat → Int32) (y_number : Nat → Int32) (y_stands : Nat → Int32) (y_keeps : Nat → Int32) (y_cells : Nat → Int64) (y_globals : Nat → Int64) (y_within : Nat → Int32) (y_foundIn : Nat → Int32) (y_self : Nat → Int64) (y_args : Nat → Int64) (y_temps : Nat → Int64) (y_param : Nat → Int64) (y_live : Nat → Int32) (y_work : Nat → Int32) (y_under : Nat → Int32) (y_at : Nat → Int32) (y_in : Nat → Int32) (y_phase : Nat → Int32) (y_base : Nat → Int32) (y_goal : Nat → Int32) (y_operands : Nat → Int64) (y_marked : Nat → Int32) (y_todo : Nat → Int32) (y_heard : Nat → Int64), DT (fun Q : SY → Prop => wY_reachFrom_72 Q a n i y_classes y_bodies y_fault y_made y_working y_peak y_steps y_depth y_waiting y_code y_running y_has y_got y_todos y_marks y_shown y_spoken y_parent y_fields y_bound y_kind y_word y_size y_sort y_number y_stands y_keeps y_cells y_globals y_within y_foundIn y_self y_args y_temps y_param y_live y_work y_under y_at y_in y_phase y_base y_goal y_operands y_marked y_todo y_heard) := by
  intro n
  induction n with
  | zero => intros; exact DT_no
  | succ n ih =>
    intros
    unfold wY_reachFrom_72
    refine DT_br DT_ret (DT_and (DT_bind (dt_value _) fun b => ?_))
    obtain ⟨y_classes, y_bodies, y_fault, y_made, y_working, y_peak, y_steps, y_depth, y_waiting, y_code, y_running, y_has, y_got, y_todos, y_marks, y_shown, y_spoken, y_parent, y_fields, y_bound, y_kind, y_word, y_size, y_sort, y_number, y_stands, y_keeps, y_cells, y_globals, y_within, y_foundIn, y_self, y_args, y_temps, y_param, y_live, y_work, y_under, y_at, y_in, y_phase, y_base, y_goal, y_operands, y_marked, y_todo, y_heard⟩ := b
    exact DT_nm (ih _ _ _ _ _ _ _ _ _ _ _ _ _ _ _ _ _ _ _ _ _ _ _ _ _ _ _ _ _ _ _ _ _ _ _ _ _ _ _ _ _ _ _ _ _ _ _ _)
theorem dt_r45 (a : Int32) : ∀ (n : Nat) (i : Int32) (y_classes : Int32) (y_bodies : Int32) (y_fault : Int32) (y_made : Int32) (y_working : Int32) (y_peak : Int32) (y_steps : Int32) (y_depth : Int32) (y_waiting : Int32) (y_code : Int32) (y_running : Int32) (y_has : Int32) (y_got : Int64) (y_todos : Int32) (y_marks : Int32) (y_shown : Int64) (y_spoken : Int32) (y_parent : Nat → Int32) (y_fields : Nat → Int32) (y_bound : Nat → Int32) (y_kind : Nat → Int32) (y_word : Nat → Int32) (y_size : Nat → Int32) (y_sort : Nat → Int32) (y_number : Nat → Int32) (y_stands : Nat → Int32) (y_keeps : Nat → Int32) (y_cells : Nat → Int64) (y_globals : Nat → Int64) (y_within : Nat → Int32) (y_foundIn : Nat → Int32) (y_self : Nat → Int64) (y_args : Nat → Int64) (y_temps : Nat → Int64) (y_param : Nat → Int64) (y_live : Nat → Int32) (y_work : Nat → Int32) (y_under : Nat → Int32) (y_at : Nat → Int32) (y_in : Nat → Int32) (y_phase : Nat → Int32) (y_base : Nat → Int32) (y_goal : Nat → Int32) (y_operands : Nat → Int64) (y_marked : Nat → Int32) (y_todo : Nat → Int32) (y_heard : Nat → Int64), DT (fun Q : SY → Prop => wY_reachFrom_45 Q a n i y_classes y_bodies y_fault y_made y_working y_peak y_steps y_depth y_waiting y_code y_running y_has y_got y_todos y_marks y_shown y_spoken y_parent y_fields y_bound y_kind y_word y_size y_sort y_number y_stands y_keeps y_cells y_globals y_within y_foundIn y_self y_args y_temps y_param y_live y_work y_under y_at y_in y_phase y_base y_goal y_operands y_marked y_todo y_heard) := by
  intro n
  induction n with
  | zero => intros; exact DT_no
  | succ n ih =>
    intros
    unfold wY_reachFrom_45
    refine DT_br (DT_ex fun m => dt_r72 _ _ _ _ _ _ _ _ _ _ _ _ _ _ _ _ _ _ _ _ _ _ _ _ _ _ _ _ _ _ _ _ _ _ _ _ _ _ _ _ _ _ _ _ _ _ _ _ _ _) (DT_and (DT_bind (dt_value _) fun b => ?_))
    obtain ⟨y_classes, y_bodies, y_fault, y_made, y_working, y_peak, y_steps, y_depth, y_waiting, y_code, y_running, y_has, y_got, y_todos, y_marks, y_shown, y_spoken, y_parent, y_fields, y_bound, y_kind, y_word, y_size, y_sort, y_number, y_stands, y_keeps, y_cells, y_globals, y_within, y_foundIn, y_self, y_args, y_temps, y_param, y_live, y_work, y_under, y_at, y_in, y_phase, y_base, y_goal, y_operands, y_marked, y_todo, y_heard⟩ := b
    exact DT_nm (ih _ _ _ _ _ _ _ _ _ _ _ _ _ _ _ _ _ _ _ _ _ _ _ _ _ _ _ _ _ _ _ _ _ _ _ _ _ _ _ _ _ _ _ _ _ _ _ _)
section
variable {x_classCount x_bodyCount x_draftCount x_wrongPlace x_madeCount x_frameCount x_current x_next x_mode x_outcome x_stepCount x_atWork x_mostAtWork x_saidCount x_pendingCount : Int32} {x_inHand : Int64} {x_classParent x_classFields x_bound x_tokenKind x_tokenValue x_thingClass x_thingToken x_thingMaker x_homeOf x_within x_foundIn x_baseFrame x_frameToken x_frameStage x_frameLink x_marked x_pending : Nat → Int32} {x_globals x_thingShown x_thingFields x_variables x_operands x_saidValues : Nat → Int64}
variable {y_classes y_bodies y_fault y_made y_working y_peak y_steps y_depth y_waiting y_code y_running y_has y_todos y_marks y_spoken : Int32} {y_got y_shown : Int64} {y_parent y_fields y_bound y_kind y_word y_size y_sort y_number y_stands y_keeps y_within y_foundIn y_live y_work y_under y_at y_in y_phase y_base y_goal y_marked y_todo : Nat → Int32} {y_cells y_globals y_self y_args y_temps y_param y_operands y_heard : Nat → Int64}
theorem dt_from (a : Int32) : DT (fun Q : SY → Prop => wpY_reachFrom Q (y_classes, y_bodies, y_fault, y_made, y_working, y_peak, y_steps, y_depth, y_waiting, y_code, y_running, y_has, y_got, y_todos, y_marks, y_shown, y_spoken, y_parent, y_fields, y_bound, y_kind, y_word, y_size, y_sort, y_number, y_stands, y_keeps, y_cells, y_globals, y_within, y_foundIn, y_self, y_args, y_temps, y_param, y_live, y_work, y_under, y_at, y_in, y_phase, y_base, y_goal, y_operands, y_marked, y_todo, y_heard) a) := by
  unfold wpY_reachFrom
  dsimp only
  refine DT_and (DT_br (DT_and (DT_bind (dt_value _) fun b => ?_)) (DT_and (DT_bind (dt_value _) fun b => ?_)))
  · obtain ⟨y_classes, y_bodies, y_fault, y_made, y_working, y_peak, y_steps, y_depth, y_waiting, y_code, y_running, y_has, y_got, y_todos, y_marks, y_shown, y_spoken, y_parent, y_fields, y_bound, y_kind, y_word, y_size, y_sort, y_number, y_stands, y_keeps, y_cells, y_globals, y_within, y_foundIn, y_self, y_args, y_temps, y_param, y_live, y_work, y_under, y_at, y_in, y_phase, y_base, y_goal, y_operands, y_marked, y_todo, y_heard⟩ := b
    exact DT_ex fun m => dt_r45 _ _ _ _ _ _ _ _ _ _ _ _ _ _ _ _ _ _ _ _ _ _ _ _ _ _ _ _ _ _ _ _ _ _ _ _ _ _ _ _ _ _ _ _ _ _ _ _ _ _
  · obtain ⟨y_classes, y_bodies, y_fault, y_made, y_working, y_peak, y_steps, y_depth, y_waiting, y_code, y_running, y_has, y_got, y_todos, y_marks, y_shown, y_spoken, y_parent, y_fields, y_bound, y_kind, y_word, y_size, y_sort, y_number, y_stands, y_keeps, y_cells, y_globals, y_within, y_foundIn, y_self, y_args, y_temps, y_param, y_live, y_work, y_under, y_at, y_in, y_phase, y_base, y_goal, y_operands, y_marked, y_todo, y_heard⟩ := b
    refine DT_and (DT_bind (dt_reach _) fun b => ?_)
    obtain ⟨y_classes, y_bodies, y_fault, y_made, y_working, y_peak, y_steps, y_depth, y_waiting, y_code, y_running, y_has, y_got, y_todos, y_marks, y_shown, y_spoken, y_parent, y_fields, y_bound, y_kind, y_word, y_size, y_sort, y_number, y_stands, y_keeps, y_cells, y_globals, y_within, y_foundIn, y_self, y_args, y_temps, y_param, y_live, y_work, y_under, y_at, y_in, y_phase, y_base, y_goal, y_operands, y_marked, y_todo, y_heard⟩ := b
    exact DT_ret
end
theorem dt_179 (J : (SY → Prop) → Int32 → Int32 → Int32 → Int32 → Int32 → Int32 → Int32 → Int32 → Int32 → Int32 → Int32 → Int32 → Int64 → Int32 → Int32 → Int64 → Int32 → (Nat → Int32) → (Nat → Int32) → (Nat → Int32) → (Nat → Int32) → (Nat → Int32) → (Nat → Int32) → (Nat → Int32) → (Nat → Int32) → (Nat → Int32) → (Nat → Int32) → (Nat → Int64) → (Nat → Int64) → (Nat → Int32) → (Nat → Int32) → (Nat → Int64) → (Nat → Int64) → (Nat → Int64) → (Nat → Int64) → (Nat → Int32) → (Nat → Int32) → (Nat → Int32) → (Nat → Int32) → (Nat → Int32) → (Nat → Int32) → (Nat → Int32) → (Nat → Int32) → (Nat → Int64) → (Nat → Int32) → (Nat → Int32) → (Nat → Int64) → Prop) (hJ : ∀ (y_classes : Int32) (y_bodies : Int32) (y_fault : Int32) (y_made : Int32) (y_working : Int32) (y_peak : Int32) (y_steps : Int32) (y_depth : Int32) (y_waiting : Int32) (y_code : Int32) (y_running : Int32) (y_has : Int32) (y_got : Int64) (y_todos : Int32) (y_marks : Int32) (y_shown : Int64) (y_spoken : Int32) (y_parent : Nat → Int32) (y_fields : Nat → Int32) (y_bound : Nat → Int32) (y_kind : Nat → Int32) (y_word : Nat → Int32) (y_size : Nat → Int32) (y_sort : Nat → Int32) (y_number : Nat → Int32) (y_stands : Nat → Int32) (y_keeps : Nat → Int32) (y_cells : Nat → Int64) (y_globals : Nat → Int64) (y_within : Nat → Int32) (y_foundIn : Nat → Int32) (y_self : Nat → Int64) (y_args : Nat → Int64) (y_temps : Nat → Int64) (y_param : Nat → Int64) (y_live : Nat → Int32) (y_work : Nat → Int32) (y_under : Nat → Int32) (y_at : Nat → Int32) (y_in : Nat → Int32) (y_phase : Nat → Int32) (y_base : Nat → Int32) (y_goal : Nat → Int32) (y_operands : Nat → Int64) (y_marked : Nat → Int32) (y_todo : Nat → Int32) (y_heard : Nat → Int64), DT (fun Q : SY → Prop => J Q y_classes y_bodies y_fault y_made y_working y_peak y_steps y_depth y_waiting y_code y_running y_has y_got y_todos y_marks y_shown y_spoken y_parent y_fields y_bound y_kind y_word y_size y_sort y_number y_stands y_keeps y_cells y_globals y_within y_foundIn y_self y_args y_temps y_param y_live y_work y_under y_at y_in y_phase y_base y_goal y_operands y_marked y_todo y_heard)) (a : Int32) : ∀ (n : Nat) (i : Int32) (y_classes : Int32) (y_bodies : Int32) (y_fault : Int32) (y_made : Int32) (y_working : Int32) (y_peak : Int32) (y_steps : Int32) (y_depth : Int32) (y_waiting : Int32) (y_code : Int32) (y_running : Int32) (y_has : Int32) (y_got : Int64) (y_todos : Int32) (y_marks : Int32) (y_shown : Int64) (y_spoken : Int32) (y_parent : Nat → Int32) (y_fields : Nat → Int32) (y_bound : Nat → Int32) (y_kind : Nat → Int32) (y_word : Nat → Int32) (y_size : Nat → Int32) (y_sort : Nat → Int32) (y_number : Nat → Int32) (y_stands : Nat → Int32) (y_keeps : Nat → Int32) (y_cells : Nat → Int64) (y_globals : Nat → Int64) (y_within : Nat → Int32) (y_foundIn : Nat → Int32) (y_self : Nat → Int64) (y_args : Nat → Int64) (y_temps : Nat → Int64) (y_param : Nat → Int64) (y_live : Nat → Int32) (y_work : Nat → Int32) (y_under : Nat → Int32) (y_at : Nat → Int32) (y_in : Nat → Int32) (y_phase : Nat → Int32) (y_base : Nat → Int32) (y_goal : Nat → Int32) (y_operands : Nat → Int64) (y_marked : Nat → Int32) (y_todo : Nat → Int32) (y_heard : Nat → Int64), DT (fun Q : SY → Prop => wY_markAll_179 Q (J Q) a n i y_classes y_bodies y_fault y_made y_working y_peak y_steps y_depth y_waiting y_code y_running y_has y_got y_todos y_marks y_shown y_spoken y_parent y_fields y_bound y_kind y_word y_size y_sort y_number y_stands y_keeps y_cells y_globals y_within y_foundIn y_self y_args y_temps y_param y_live y_work y_under y_at y_in y_phase y_base y_goal y_operands y_marked y_todo y_heard) := by
  intro n
  induction n with
  | zero => intros; exact DT_no
  | succ n ih =>
    intros
    unfold wY_markAll_179
    refine DT_br (hJ _ _ _ _ _ _ _ _ _ _ _ _ _ _ _ _ _ _ _ _ _ _ _ _ _ _ _ _ _ _ _ _ _ _ _ _ _ _ _ _ _ _ _ _ _ _ _) (DT_and (DT_bind (dt_value _) fun b => ?_))
    obtain ⟨y_classes, y_bodies, y_fault, y_made, y_working, y_peak, y_steps, y_depth, y_waiting, y_code, y_running, y_has, y_got, y_todos, y_marks, y_shown, y_spoken, y_parent, y_fields, y_bound, y_kind, y_word, y_size, y_sort, y_number, y_stands, y_keeps, y_cells, y_globals, y_within, y_foundIn, y_self, y_args, y_temps, y_param, y_live, y_work, y_under, y_at, y_in, y_phase, y_base, y_goal, y_operands, y_marked, y_todo, y_heard⟩ := b
    exact DT_nm (ih _ _ _ _ _ _ _ _ _ _ _ _ _ _ _ _ _ _ _ _ _ _ _ _ _ _ _ _ _ _ _ _ _ _ _ _ _ _ _ _ _ _ _ _ _ _ _ _)
theorem dt_110 : ∀ (n : Nat) (y_classes : Int32) (y_bodies : Int32) (y_fault : Int32) (y_made : Int32) (y_working : Int32) (y_peak : Int32) (y_steps : Int32) (y_depth : Int32) (y_waiting : Int32) (y_code : Int32) (y_running : Int32) (y_has : Int32) (y_got : Int64) (y_todos : Int32) (y_marks : Int32) (y_shown : Int64) (y_spoken : Int32) (y_parent : Nat → Int32) (y_fields : Nat → Int32) (y_bound : Nat → Int32) (y_kind : Nat → Int32) (y_word : Nat → Int32) (y_size : Nat → Int32) (y_sort : Nat → Int32) (y_number : Nat → Int32) (y_stands : Nat → Int32) (y_keeps : Nat → Int32) (y_cells : Nat → Int64) (y_globals : Nat → Int64) (y_within : Nat → Int32) (y_foundIn : Nat → Int32) (y_self : Nat → Int64) (y_args : Nat → Int64) (y_temps : Nat → Int64) (y_param : Nat → Int64) (y_live : Nat → Int32) (y_work : Nat → Int32) (y_under : Nat → Int32) (y_at : Nat → Int32) (y_in : Nat → Int32) (y_phase : Nat → Int32) (y_base : Nat → Int32) (y_goal : Nat → Int32) (y_operands : Nat → Int64) (y_marked : Nat → Int32) (y_todo : Nat → Int32) (y_heard : Nat → Int64), DT (fun Q : SY → Prop => wY_markAll_110 Q n y_classes y_bodies y_fault y_made y_working y_peak y_steps y_depth y_waiting y_code y_running y_has y_got y_todos y_marks y_shown y_spoken y_parent y_fields y_bound y_kind y_word y_size y_sort y_number y_stands y_keeps y_cells y_globals y_within y_foundIn y_self y_args y_temps y_param y_live y_work y_under y_at y_in y_phase y_base y_goal y_operands y_marked y_todo y_heard) := by
  intro n
  induction n with
  | zero => intros; exact DT_no
  | succ n ih =>
    intros
    unfold wY_markAll_110
    refine DT_br DT_ret (DT_nm (DT_and (DT_nm (DT_br (DT_and (DT_br (DT_and (DT_bind (dt_reach _) fun b => ?_)) (DT_ex fun m => dt_179 (fun Q => wY_markAll_110 Q n) (fun y_classes y_bodies y_fault y_made y_working y_peak y_steps y_depth y_waiting y_code y_running y_has y_got y_todos y_marks y_shown y_spoken y_parent y_fields y_bound y_kind y_word y_size y_sort y_number y_stands y_keeps y_cells y_globals y_within y_foundIn y_self y_args y_temps y_param y_live y_work y_under y_at y_in y_phase y_base y_goal y_operands y_marked y_todo y_heard => ih y_classes y_bodies y_fault y_made y_working y_peak y_steps y_depth y_waiting y_code y_running y_has y_got y_todos y_marks y_shown y_spoken y_parent y_fields y_bound y_kind y_word y_size y_sort y_number y_stands y_keeps y_cells y_globals y_within y_foundIn y_self y_args y_temps y_param y_live y_work y_under y_at y_in y_phase y_base y_goal y_operands y_marked y_todo y_heard) _ _ _ _ _ _ _ _ _ _ _ _ _ _ _ _ _ _ _ _ _ _ _ _ _ _ _ _ _ _ _ _ _ _ _ _ _ _ _ _ _ _ _ _ _ _ _ _ _ _))) (DT_bind (dt_from _) fun b => ?_)))))
    · obtain ⟨y_classes, y_bodies, y_fault, y_made, y_working, y_peak, y_steps, y_depth, y_waiting, y_code, y_running, y_has, y_got, y_todos, y_marks, y_shown, y_spoken, y_parent, y_fields, y_bound, y_kind, y_word, y_size, y_sort, y_number, y_stands, y_keeps, y_cells, y_globals, y_within, y_foundIn, y_self, y_args, y_temps, y_param, y_live, y_work, y_under, y_at, y_in, y_phase, y_base, y_goal, y_operands, y_marked, y_todo, y_heard⟩ := b
      exact ih _ _ _ _ _ _ _ _ _ _ _ _ _ _ _ _ _ _ _ _ _ _ _ _ _ _ _ _ _ _ _ _ _ _ _ _ _ _ _ _ _ _ _ _ _ _ _
    · obtain ⟨y_classes, y_bodies, y_fault, y_made, y_working, y_peak, y_steps, y_depth, y_waiting, y_code, y_running, y_has, y_got, y_todos, y_marks, y_shown, y_spoken, y_parent, y_fields, y_bound, y_kind, y_word, y_size, y_sort, y_number, y_stands, y_keeps, y_cells, y_globals, y_within, y_foundIn, y_self, y_args, y_temps, y_param, y_live, y_work, y_under, y_at, y_in, y_phase, y_base, y_goal, y_operands, y_marked, y_todo, y_heard⟩ := b
      exact ih _ _ _ _ _ _ _ _ _ _ _ _ _ _ _ _ _ _ _ _ _ _ _ _ _ _ _ _ _ _ _ _ _ _ _ _ _ _ _ _ _ _ _ _ _ _ _
theorem dt_83 : ∀ (n : Nat) (i : Int32) (y_classes : Int32) (y_bodies : Int32) (y_fault : Int32) (y_made : Int32) (y_working : Int32) (y_peak : Int32) (y_steps : Int32) (y_depth : Int32) (y_waiting : Int32) (y_code : Int32) (y_running : Int32) (y_has : Int32) (y_got : Int64) (y_todos : Int32) (y_marks : Int32) (y_shown : Int64) (y_spoken : Int32) (y_parent : Nat → Int32) (y_fields : Nat → Int32) (y_bound : Nat → Int32) (y_kind : Nat → Int32) (y_word : Nat → Int32) (y_size : Nat → Int32) (y_sort : Nat → Int32) (y_number : Nat → Int32) (y_stands : Nat → Int32) (y_keeps : Nat → Int32) (y_cells : Nat → Int64) (y_globals : Nat → Int64) (y_within : Nat → Int32) (y_foundIn : Nat → Int32) (y_self : Nat → Int64) (y_args : Nat → Int64) (y_temps : Nat → Int64) (y_param : Nat → Int64) (y_live : Nat → Int32) (y_work : Nat → Int32) (y_under : Nat → Int32) (y_at : Nat → Int32) (y_in : Nat → Int32) (y_phase : Nat → Int32) (y_base : Nat → Int32) (y_goal : Nat → Int32) (y_operands : Nat → Int64) (y_marked : Nat → Int32) (y_todo : Nat → Int32) (y_heard : Nat → Int64), DT (fun Q : SY → Prop => wY_markAll_83 Q n i y_classes y_bodies y_fault y_made y_working y_peak y_steps y_depth y_waiting y_code y_running y_has y_got y_todos y_marks y_shown y_spoken y_parent y_fields y_bound y_kind y_word y_size y_sort y_number y_stands y_keeps y_cells y_globals y_within y_foundIn y_self y_args y_temps y_param y_live y_work y_under y_at y_in y_phase y_base y_goal y_operands y_marked y_todo y_heard) := by
  intro n
  induction n with
  | zero => intros; exact DT_no
  | succ n ih =>
    intros
    unfold wY_markAll_83
    refine DT_br (DT_ex fun m => dt_110 _ _ _ _ _ _ _ _ _ _ _ _ _ _ _ _ _ _ _ _ _ _ _ _ _ _ _ _ _ _ _ _ _ _ _ _ _ _ _ _ _ _ _ _ _ _ _ _) (DT_and (DT_bind (dt_reach _) fun b => ?_))
    obtain ⟨y_classes, y_bodies, y_fault, y_made, y_working, y_peak, y_steps, y_depth, y_waiting, y_code, y_running, y_has, y_got, y_todos, y_marks, y_shown, y_spoken, y_parent, y_fields, y_bound, y_kind, y_word, y_size, y_sort, y_number, y_stands, y_keeps, y_cells, y_globals, y_within, y_foundIn, y_self, y_args, y_temps, y_param, y_live, y_work, y_under, y_at, y_in, y_phase, y_base, y_goal, y_operands, y_marked, y_todo, y_heard⟩ := b
    exact DT_nm (ih _ _ _ _ _ _ _ _ _ _ _ _ _ _ _ _ _ _ _ _ _ _ _ _ _ _ _ _ _ _ _ _ _ _ _ _ _ _ _ _ _ _ _ _ _ _ _ _)
theorem dt_57 : ∀ (n : Nat) (i : Int32) (y_classes : Int32) (y_bodies : Int32) (y_fault : Int32) (y_made : Int32) (y_working : Int32) (y_peak : Int32) (y_steps : Int32) (y_depth : Int32) (y_waiting : Int32) (y_code : Int32) (y_running : Int32) (y_has : Int32) (y_got : Int64) (y_todos : Int32) (y_marks : Int32) (y_shown : Int64) (y_spoken : Int32) (y_parent : Nat → Int32) (y_fields : Nat → Int32) (y_bound : Nat → Int32) (y_kind : Nat → Int32) (y_word : Nat → Int32) (y_size : Nat → Int32) (y_sort : Nat → Int32) (y_number : Nat → Int32) (y_stands : Nat → Int32) (y_keeps : Nat → Int32) (y_cells : Nat → Int64) (y_globals : Nat → Int64) (y_within : Nat → Int32) (y_foundIn : Nat → Int32) (y_self : Nat → Int64) (y_args : Nat → Int64) (y_temps : Nat → Int64) (y_param : Nat → Int64) (y_live : Nat → Int32) (y_work : Nat → Int32) (y_under : Nat → Int32) (y_at : Nat → Int32) (y_in : Nat → Int32) (y_phase : Nat → Int32) (y_base : Nat → Int32) (y_goal : Nat → Int32) (y_operands : Nat → Int64) (y_marked : Nat → Int32) (y_todo : Nat → Int32) (y_heard : Nat → Int64), DT (fun Q : SY → Prop => wY_markAll_57 Q n i y_classes y_bodies y_fault y_made y_working y_peak y_steps y_depth y_waiting y_code y_running y_has y_got y_todos y_marks y_shown y_spoken y_parent y_fields y_bound y_kind y_word y_size y_sort y_number y_stands y_keeps y_cells y_globals y_within y_foundIn y_self y_args y_temps y_param y_live y_work y_under y_at y_in y_phase y_base y_goal y_operands y_marked y_todo y_heard) := by
  intro n
  induction n with
  | zero => intros; exact DT_no
  | succ n ih =>
    intros
    unfold wY_markAll_57
    refine DT_br (DT_ex fun m => dt_83 _ _ _ _ _ _ _ _ _ _ _ _ _ _ _ _ _ _ _ _ _ _ _ _ _ _ _ _ _ _ _ _ _ _ _ _ _ _ _ _ _ _ _ _ _ _ _ _ _) (DT_and (DT_bind (dt_value _) fun b => ?_))
    obtain ⟨y_classes, y_bodies, y_fault, y_made, y_working, y_peak, y_steps, y_depth, y_waiting, y_code, y_running, y_has, y_got, y_todos, y_marks, y_shown, y_spoken, y_parent, y_fields, y_bound, y_kind, y_word, y_size, y_sort, y_number, y_stands, y_keeps, y_cells, y_globals, y_within, y_foundIn, y_self, y_args, y_temps, y_param, y_live, y_work, y_under, y_at, y_in, y_phase, y_base, y_goal, y_operands, y_marked, y_todo, y_heard⟩ := b
    exact DT_nm (ih _ _ _ _ _ _ _ _ _ _ _ _ _ _ _ _ _ _ _ _ _ _ _ _ _ _ _ _ _ _ _ _ _ _ _ _ _ _ _ _ _ _ _ _ _ _ _ _)
theorem dt_34 : ∀ (n : Nat) (i : Int32) (y_classes : Int32) (y_bodies : Int32) (y_fault : Int32) (y_made : Int32) (y_working : Int32) (y_peak : Int32) (y_steps : Int32) (y_depth : Int32) (y_waiting : Int32) (y_code : Int32) (y_running : Int32) (y_has : Int32) (y_got : Int64) (y_todos : Int32) (y_marks : Int32) (y_shown : Int64) (y_spoken : Int32) (y_parent : Nat → Int32) (y_fields : Nat → Int32) (y_bound : Nat → Int32) (y_kind : Nat → Int32) (y_word : Nat → Int32) (y_size : Nat → Int32) (y_sort : Nat → Int32) (y_number : Nat → Int32) (y_stands : Nat → Int32) (y_keeps : Nat → Int32) (y_cells : Nat → Int64) (y_globals : Nat → Int64) (y_within : Nat → Int32) (y_foundIn : Nat → Int32) (y_self : Nat → Int64) (y_args : Nat → Int64) (y_temps : Nat → Int64) (y_param : Nat → Int64) (y_live : Nat → Int32) (y_work : Nat → Int32) (y_under : Nat → Int32) (y_at : Nat → Int32) (y_in : Nat → Int32) (y_phase : Nat → Int32) (y_base : Nat → Int32) (y_goal : Nat → Int32) (y_operands : Nat → Int64) (y_marked : Nat → Int32) (y_todo : Nat → Int32) (y_heard : Nat → Int64), DT (fun Q : SY → Prop => wY_markAll_34 Q n i y_classes y_bodies y_fault y_made y_working y_peak y_steps y_depth y_waiting y_code y_running y_has y_got y_todos y_marks y_shown y_spoken y_parent y_fields y_bound y_kind y_word y_size y_sort y_number y_stands y_keeps y_cells y_globals y_within y_foundIn y_self y_args y_temps y_param y_live y_work y_under y_at y_in y_phase y_base y_goal y_operands y_marked y_todo y_heard) := by
  intro n
  induction n with
  | zero => intros; exact DT_no
  | succ n ih =>
    intros
    unfold wY_markAll_34
    refine DT_br (DT_ex fun m => dt_57 _ _ _ _ _ _ _ _ _ _ _ _ _ _ _ _ _ _ _ _ _ _ _ _ _ _ _ _ _ _ _ _ _ _ _ _ _ _ _ _ _ _ _ _ _ _ _ _ _) (DT_and (DT_bind (dt_value _) fun b => ?_))
    obtain ⟨y_classes, y_bodies, y_fault, y_made, y_working, y_peak, y_steps, y_depth, y_waiting, y_code, y_running, y_has, y_got, y_todos, y_marks, y_shown, y_spoken, y_parent, y_fields, y_bound, y_kind, y_word, y_size, y_sort, y_number, y_stands, y_keeps, y_cells, y_globals, y_within, y_foundIn, y_self, y_args, y_temps, y_param, y_live, y_work, y_under, y_at, y_in, y_phase, y_base, y_goal, y_operands, y_marked, y_todo, y_heard⟩ := b
    exact DT_nm (ih _ _ _ _ _ _ _ _ _ _ _ _ _ _ _ _ _ _ _ _ _ _ _ _ _ _ _ _ _ _ _ _ _ _ _ _ _ _ _ _ _ _ _ _ _ _ _ _)
section
variable {x_classCount x_bodyCount x_draftCount x_wrongPlace x_madeCount x_frameCount x_current x_next x_mode x_outcome x_stepCount x_atWork x_mostAtWork x_saidCount x_pendingCount : Int32} {x_inHand : Int64} {x_classParent x_classFields x_bound x_tokenKind x_tokenValue x_thingClass x_thingToken x_thingMaker x_homeOf x_within x_foundIn x_baseFrame x_frameToken x_frameStage x_frameLink x_marked x_pending : Nat → Int32} {x_globals x_thingShown x_thingFields x_variables x_operands x_saidValues : Nat → Int64}
variable {y_classes y_bodies y_fault y_made y_working y_peak y_steps y_depth y_waiting y_code y_running y_has y_todos y_marks y_spoken : Int32} {y_got y_shown : Int64} {y_parent y_fields y_bound y_kind y_word y_size y_sort y_number y_stands y_keeps y_within y_foundIn y_live y_work y_under y_at y_in y_phase y_base y_goal y_marked y_todo : Nat → Int32} {y_cells y_globals y_self y_args y_temps y_param y_operands y_heard : Nat → Int64}
theorem dt_2 : ∀ (n : Nat) (i : Int32) (f : Nat → Int32), DT (fun Q : SY → Prop => wY_markAll_2 Q y_classes y_bodies y_fault y_made y_working y_peak y_steps y_depth y_waiting y_code y_running y_has y_got y_todos y_marks y_shown y_spoken n i y_parent y_fields y_bound y_kind y_word y_size y_sort y_number y_stands y_keeps y_cells y_globals y_within y_foundIn y_self y_args y_temps y_param y_live y_work y_under y_at y_in y_phase y_base y_goal y_operands f y_todo y_heard) := by
  intro n
  induction n with
  | zero => intros; exact DT_no
  | succ n ih =>
    intro i f
    unfold wY_markAll_2
    exact DT_br (DT_ex fun m => dt_34 _ _ _ _ _ _ _ _ _ _ _ _ _ _ _ _ _ _ _ _ _ _ _ _ _ _ _ _ _ _ _ _ _ _ _ _ _ _ _ _ _ _ _ _ _ _ _ _ _) (DT_and (DT_nm (DT_nm (ih _ _))))
theorem dt_markAll : DT (fun Q : SY → Prop => wpY_markAll Q (y_classes, y_bodies, y_fault, y_made, y_working, y_peak, y_steps, y_depth, y_waiting, y_code, y_running, y_has, y_got, y_todos, y_marks, y_shown, y_spoken, y_parent, y_fields, y_bound, y_kind, y_word, y_size, y_sort, y_number, y_stands, y_keeps, y_cells, y_globals, y_within, y_foundIn, y_self, y_args, y_temps, y_param, y_live, y_work, y_under, y_at, y_in, y_phase, y_base, y_goal, y_operands, y_marked, y_todo, y_heard)) := DT_ex fun n => dt_2 n 0 y_marked
theorem dx_act (p : Int32) : DT (fun Q : SX → Prop => wpX_markActivation Q (x_classCount, x_bodyCount, x_draftCount, x_wrongPlace, x_madeCount, x_frameCount, x_current, x_next, x_inHand, x_mode, x_outcome, x_stepCount, x_atWork, x_mostAtWork, x_saidCount, x_pendingCount, x_classParent, x_classFields, x_bound, x_tokenKind, x_tokenValue, x_globals, x_thingShown, x_thingClass, x_thingFields, x_thingToken, x_thingMaker, x_variables, x_homeOf, x_within, x_foundIn, x_baseFrame, x_frameToken, x_frameStage, x_frameLink, x_operands, x_saidValues, x_marked, x_pending) p) := by
  unfold wpX_markActivation
  dsimp only
  repeat first | exact DT_ret | refine DT_and ?_ | refine DT_br ?_ ?_ | refine DT_nm ?_
theorem dx_t11 (v : Int64) : ∀ (n : Nat) (i pc : Int32) (mk pd : Nat → Int32), DT (fun Q : SX → Prop => wX_markThing_11 Q v x_classCount x_bodyCount x_draftCount x_wrongPlace x_madeCount x_frameCount x_current x_next x_inHand x_mode x_outcome x_stepCount x_atWork x_mostAtWork x_saidCount n i pc x_classParent x_classFields x_bound x_tokenKind x_tokenValue x_globals x_thingShown x_thingClass x_thingFields x_thingToken x_thingMaker x_variables x_homeOf x_within x_foundIn x_baseFrame x_frameToken x_frameStage x_frameLink x_operands x_saidValues mk pd) := by
  intro n
  induction n with
  | zero => intros; exact DT_no
  | succ n ih =>
    intro i pc mk pd
    unfold wX_markThing_11
    exact DT_br DT_ret (DT_and (DT_br (DT_and (DT_br (DT_and (DT_nm (DT_and (DT_nm (DT_nm (DT_nm (ih _ _ _ _))))))) (DT_nm (ih _ _ _ _)))) (DT_nm (ih _ _ _ _))))
theorem dx_thing (v : Int64) : DT (fun Q : SX → Prop => wpX_markThing Q (x_classCount, x_bodyCount, x_draftCount, x_wrongPlace, x_madeCount, x_frameCount, x_current, x_next, x_inHand, x_mode, x_outcome, x_stepCount, x_atWork, x_mostAtWork, x_saidCount, x_pendingCount, x_classParent, x_classFields, x_bound, x_tokenKind, x_tokenValue, x_globals, x_thingShown, x_thingClass, x_thingFields, x_thingToken, x_thingMaker, x_variables, x_homeOf, x_within, x_foundIn, x_baseFrame, x_frameToken, x_frameStage, x_frameLink, x_operands, x_saidValues, x_marked, x_pending) v) := by
  unfold wpX_markThing
  dsimp only
  exact DT_br (DT_ex fun m => dx_t11 v m 0 _ _ _) DT_ret
/-- of an answer and a state -/
def DT2 {α β : Type} (W : (α → β → Prop) → Prop) : Prop := ∀ Q, W Q → ∃ a b, Q a b ∧ ∀ Q', Q' a b → W Q'
theorem DT2_ret {α β : Type} {a : α} {b : β} : DT2 (fun Q : α → β → Prop => Q a b) := fun _ h => ⟨a, b, h, fun _ h' => h'⟩
theorem DT2_no {α β : Type} : DT2 (fun _ : α → β → Prop => False) := fun _ h => h.elim
theorem DT2_and {α β : Type} {P : Prop} {W : (α → β → Prop) → Prop} (h : DT2 W) : DT2 (fun Q => P ∧ W Q) := fun Q ⟨p, q⟩ => by
  obtain ⟨a, a', b, c⟩ := h Q q
  exact ⟨a, a', b, fun Q' q' => ⟨p, c Q' q'⟩⟩
theorem DT2_br {α β : Type} {c : Prop} {A B : (α → β → Prop) → Prop} (hA : DT2 A) (hB : DT2 B) : DT2 (fun Q => (c → A Q) ∧ (¬ c → B Q)) := fun Q h => by
  by_cases z : c
  · obtain ⟨a, a', b, e⟩ := hA Q (h.1 z)
    exact ⟨a, a', b, fun Q' q' => br_t z (e Q' q')⟩
  · obtain ⟨a, a', b, e⟩ := hB Q (h.2 z)
    exact ⟨a, a', b, fun Q' q' => br_f z (e Q' q')⟩
theorem DT2_nm {α γ : Type} {β : Sort _} {e : β} {P : β → (α → γ → Prop) → Prop} (h : DT2 (P e)) : DT2 (fun Q => ∀ y, y = e → P y Q) := fun Q q => by
  obtain ⟨a, a', b, c⟩ := h Q (q e rfl)
  exact ⟨a, a', b, fun Q' q' => nm_e (c Q' q')⟩
theorem DT2_ex {α β : Type} {W : Nat → (α → β → Prop) → Prop} (h : ∀ n, DT2 (W n)) : DT2 (fun Q => ∃ n, W n Q) := fun Q ⟨n, q⟩ => by
  obtain ⟨a, a', b, c⟩ := h n Q q
  exact ⟨a, a', b, fun Q' q' => ⟨n, c Q' q'⟩⟩
theorem DT2_bind {α β γ : Type} {W : (α → Prop) → Prop} {K : α → (β → γ → Prop) → Prop} (h : DT W) (k : ∀ a, DT2 (K a)) : DT2 (fun Q => W (fun a => K a Q)) := fun Q q => by
  obtain ⟨a, b, c⟩ := h _ q
  obtain ⟨a', a'', b', c'⟩ := k a Q b
  exact ⟨a', a'', b', fun Q' q' => c _ (c' Q' q')⟩
theorem dx_235 : ∀ (n : Nat) (i j : Int32), DT2 (fun Q : Int32 → SX → Prop => wX_markReachable_235 Q x_classCount x_bodyCount x_draftCount x_wrongPlace x_madeCount x_frameCount x_current x_next x_inHand x_mode x_outcome x_stepCount x_atWork x_mostAtWork x_saidCount x_pendingCount x_classParent x_classFields x_bound x_tokenKind x_tokenValue x_globals x_thingShown x_thingClass x_thingFields x_thingToken x_thingMaker x_variables x_homeOf x_within x_foundIn x_baseFrame x_frameToken x_frameStage x_frameLink x_operands x_saidValues x_marked x_pending n i j) := by
  intro n
  induction n with
  | zero => intros; exact DT2_no
  | succ n ih =>
    intro i j
    unfold wX_markReachable_235
    exact DT2_br DT2_ret (DT2_and (DT2_br (DT2_nm (ih _ _)) (DT2_nm (DT2_nm (ih _ _)))))
end
theorem dx_186 (J : (Int32 → SX → Prop) → Int32 → Int32 → Int32 → Int32 → Int32 → Int32 → Int32 → Int32 → Int32 → Int64 → Int32 → Int32 → Int32 → Int32 → Int32 → Int32 → Int32 → (Nat → Int32) → (Nat → Int32) → (Nat → Int32) → (Nat → Int32) → (Nat → Int32) → (Nat → Int64) → (Nat → Int64) → (Nat → Int32) → (Nat → Int64) → (Nat → Int32) → (Nat → Int32) → (Nat → Int64) → (Nat → Int32) → (Nat → Int32) → (Nat → Int32) → (Nat → Int32) → (Nat → Int32) → (Nat → Int32) → (Nat → Int32) → (Nat → Int64) → (Nat → Int64) → (Nat → Int32) → (Nat → Int32) → Prop) (hJ : ∀ (i : Int32) (x_classCount : Int32) (x_bodyCount : Int32) (x_draftCount : Int32) (x_wrongPlace : Int32) (x_madeCount : Int32) (x_frameCount : Int32) (x_current : Int32) (x_next : Int32) (x_inHand : Int64) (x_mode : Int32) (x_outcome : Int32) (x_stepCount : Int32) (x_atWork : Int32) (x_mostAtWork : Int32) (x_saidCount : Int32) (x_pendingCount : Int32) (x_classParent : Nat → Int32) (x_classFields : Nat → Int32) (x_bound : Nat → Int32) (x_tokenKind : Nat → Int32) (x_tokenValue : Nat → Int32) (x_globals : Nat → Int64) (x_thingShown : Nat → Int64) (x_thingClass : Nat → Int32) (x_thingFields : Nat → Int64) (x_thingToken : Nat → Int32) (x_thingMaker : Nat → Int32) (x_variables : Nat → Int64) (x_homeOf : Nat → Int32) (x_within : Nat → Int32) (x_foundIn : Nat → Int32) (x_baseFrame : Nat → Int32) (x_frameToken : Nat → Int32) (x_frameStage : Nat → Int32) (x_frameLink : Nat → Int32) (x_operands : Nat → Int64) (x_saidValues : Nat → Int64) (x_marked : Nat → Int32) (x_pending : Nat → Int32), DT2 (fun Q : Int32 → SX → Prop => J Q i x_classCount x_bodyCount x_draftCount x_wrongPlace x_madeCount x_frameCount x_current x_next x_inHand x_mode x_outcome x_stepCount x_atWork x_mostAtWork x_saidCount x_pendingCount x_classParent x_classFields x_bound x_tokenKind x_tokenValue x_globals x_thingShown x_thingClass x_thingFields x_thingToken x_thingMaker x_variables x_homeOf x_within x_foundIn x_baseFrame x_frameToken x_frameStage x_frameLink x_operands x_saidValues x_marked x_pending)) (i a : Int32) : ∀ (n : Nat) (j : Int32) (x_classCount : Int32) (x_bodyCount : Int32) (x_draftCount : Int32) (x_wrongPlace : Int32) (x_madeCount : Int32) (x_frameCount : Int32) (x_current : Int32) (x_next : Int32) (x_inHand : Int64) (x_mode : Int32) (x_outcome : Int32) (x_stepCount : Int32) (x_atWork : Int32) (x_mostAtWork : Int32) (x_saidCount : Int32) (x_pendingCount : Int32) (x_classParent : Nat → Int32) (x_classFields : Nat → Int32) (x_bound : Nat → Int32) (x_tokenKind : Nat → Int32) (x_tokenValue : Nat → Int32) (x_globals : Nat → Int64) (x_thingShown : Nat → Int64) (x_thingClass : Nat → Int32) (x_thingFields : Nat → Int64) (x_thingToken : Nat → Int32) (x_thingMaker : Nat → Int32) (x_variables : Nat → Int64) (x_homeOf : Nat → Int32) (x_within : Nat → Int32) (x_foundIn : Nat → Int32) (x_baseFrame : Nat → Int32) (x_frameToken : Nat → Int32) (x_frameStage : Nat → Int32) (x_frameLink : Nat → Int32) (x_operands : Nat → Int64) (x_saidValues : Nat → Int64) (x_marked : Nat → Int32) (x_pending : Nat → Int32), DT2 (fun Q : Int32 → SX → Prop => wX_markReachable_186 Q (J Q) i a n j x_classCount x_bodyCount x_draftCount x_wrongPlace x_madeCount x_frameCount x_current x_next x_inHand x_mode x_outcome x_stepCount x_atWork x_mostAtWork x_saidCount x_pendingCount x_classParent x_classFields x_bound x_tokenKind x_tokenValue x_globals x_thingShown x_thingClass x_thingFields x_thingToken x_thingMaker x_variables x_homeOf x_within x_foundIn x_baseFrame x_frameToken x_frameStage x_frameLink x_operands x_saidValues x_marked x_pending) := by
  intro n
  induction n with
  | zero => intros; exact DT2_no
  | succ n ih =>
    intros
    unfold wX_markReachable_186
    refine DT2_br (DT2_and (DT2_bind (dx_act _) fun b => ?_)) (DT2_and (DT2_bind (dx_thing _) fun b => ?_))
    · obtain ⟨x_classCount, x_bodyCount, x_draftCount, x_wrongPlace, x_madeCount, x_frameCount, x_current, x_next, x_inHand, x_mode, x_outcome, x_stepCount, x_atWork, x_mostAtWork, x_saidCount, x_pendingCount, x_classParent, x_classFields, x_bound, x_tokenKind, x_tokenValue, x_globals, x_thingShown, x_thingClass, x_thingFields, x_thingToken, x_thingMaker, x_variables, x_homeOf, x_within, x_foundIn, x_baseFrame, x_frameToken, x_frameStage, x_frameLink, x_operands, x_saidValues, x_marked, x_pending⟩ := b
      exact DT2_nm (hJ _ _ _ _ _ _ _ _ _ _ _ _ _ _ _ _ _ _ _ _ _ _ _ _ _ _ _ _ _ _ _ _ _ _ _ _ _ _ _ _)
    · obtain ⟨x_classCount, x_bodyCount, x_draftCount, x_wrongPlace, x_madeCount, x_frameCount, x_current, x_next, x_inHand, x_mode, x_outcome, x_stepCount, x_atWork, x_mostAtWork, x_saidCount, x_pendingCount, x_classParent, x_classFields, x_bound, x_tokenKind, x_tokenValue, x_globals, x_thingShown, x_thingClass, x_thingFields, x_thingToken, x_thingMaker, x_variables, x_homeOf, x_within, x_foundIn, x_baseFrame, x_frameToken, x_frameStage, x_frameLink, x_operands, x_saidValues, x_marked, x_pending⟩ := b
      exact DT2_nm (ih _ _ _ _ _ _ _ _ _ _ _ _ _ _ _ _ _ _ _ _ _ _ _ _ _ _ _ _ _ _ _ _ _ _ _ _ _ _ _ _)
theorem dx_140 (J : (Int32 → SX → Prop) → Int32 → Int32 → Int32 → Int32 → Int32 → Int32 → Int32 → Int32 → Int32 → Int64 → Int32 → Int32 → Int32 → Int32 → Int32 → Int32 → Int32 → (Nat → Int32) → (Nat → Int32) → (Nat → Int32) → (Nat → Int32) → (Nat → Int32) → (Nat → Int64) → (Nat → Int64) → (Nat → Int32) → (Nat → Int64) → (Nat → Int32) → (Nat → Int32) → (Nat → Int64) → (Nat → Int32) → (Nat → Int32) → (Nat → Int32) → (Nat → Int32) → (Nat → Int32) → (Nat → Int32) → (Nat → Int32) → (Nat → Int64) → (Nat → Int64) → (Nat → Int32) → (Nat → Int32) → Prop) (hJ : ∀ (i : Int32) (x_classCount : Int32) (x_bodyCount : Int32) (x_draftCount : Int32) (x_wrongPlace : Int32) (x_madeCount : Int32) (x_frameCount : Int32) (x_current : Int32) (x_next : Int32) (x_inHand : Int64) (x_mode : Int32) (x_outcome : Int32) (x_stepCount : Int32) (x_atWork : Int32) (x_mostAtWork : Int32) (x_saidCount : Int32) (x_pendingCount : Int32) (x_classParent : Nat → Int32) (x_classFields : Nat → Int32) (x_bound : Nat → Int32) (x_tokenKind : Nat → Int32) (x_tokenValue : Nat → Int32) (x_globals : Nat → Int64) (x_thingShown : Nat → Int64) (x_thingClass : Nat → Int32) (x_thingFields : Nat → Int64) (x_thingToken : Nat → Int32) (x_thingMaker : Nat → Int32) (x_variables : Nat → Int64) (x_homeOf : Nat → Int32) (x_within : Nat → Int32) (x_foundIn : Nat → Int32) (x_baseFrame : Nat → Int32) (x_frameToken : Nat → Int32) (x_frameStage : Nat → Int32) (x_frameLink : Nat → Int32) (x_operands : Nat → Int64) (x_saidValues : Nat → Int64) (x_marked : Nat → Int32) (x_pending : Nat → Int32), DT2 (fun Q : Int32 → SX → Prop => J Q i x_classCount x_bodyCount x_draftCount x_wrongPlace x_madeCount x_frameCount x_current x_next x_inHand x_mode x_outcome x_stepCount x_atWork x_mostAtWork x_saidCount x_pendingCount x_classParent x_classFields x_bound x_tokenKind x_tokenValue x_globals x_thingShown x_thingClass x_thingFields x_thingToken x_thingMaker x_variables x_homeOf x_within x_foundIn x_baseFrame x_frameToken x_frameStage x_frameLink x_operands x_saidValues x_marked x_pending)) (i a : Int32) : ∀ (n : Nat) (j : Int32) (x_classCount : Int32) (x_bodyCount : Int32) (x_draftCount : Int32) (x_wrongPlace : Int32) (x_madeCount : Int32) (x_frameCount : Int32) (x_current : Int32) (x_next : Int32) (x_inHand : Int64) (x_mode : Int32) (x_outcome : Int32) (x_stepCount : Int32) (x_atWork : Int32) (x_mostAtWork : Int32) (x_saidCount : Int32) (x_pendingCount : Int32) (x_classParent : Nat → Int32) (x_classFields : Nat → Int32) (x_bound : Nat → Int32) (x_tokenKind : Nat → Int32) (x_tokenValue : Nat → Int32) (x_globals : Nat → Int64) (x_thingShown : Nat → Int64) (x_thingClass : Nat → Int32) (x_thingFields : Nat → Int64) (x_thingToken : Nat → Int32) (x_thingMaker : Nat → Int32) (x_variables : Nat → Int64) (x_homeOf : Nat → Int32) (x_within : Nat → Int32) (x_foundIn : Nat → Int32) (x_baseFrame : Nat → Int32) (x_frameToken : Nat → Int32) (x_frameStage : Nat → Int32) (x_frameLink : Nat → Int32) (x_operands : Nat → Int64) (x_saidValues : Nat → Int64) (x_marked : Nat → Int32) (x_pending : Nat → Int32), DT2 (fun Q : Int32 → SX → Prop => wX_markReachable_140 Q (J Q) i a n j x_classCount x_bodyCount x_draftCount x_wrongPlace x_madeCount x_frameCount x_current x_next x_inHand x_mode x_outcome x_stepCount x_atWork x_mostAtWork x_saidCount x_pendingCount x_classParent x_classFields x_bound x_tokenKind x_tokenValue x_globals x_thingShown x_thingClass x_thingFields x_thingToken x_thingMaker x_variables x_homeOf x_within x_foundIn x_baseFrame x_frameToken x_frameStage x_frameLink x_operands x_saidValues x_marked x_pending) := by
  intro n
  induction n with
  | zero => intros; exact DT2_no
  | succ n ih =>
    intros
    unfold wX_markReachable_140
    refine DT2_br (DT2_and (DT2_bind (dx_act _) fun b => ?_)) (DT2_and (DT2_bind (dx_thing _) fun b => ?_))
    · obtain ⟨x_classCount, x_bodyCount, x_draftCount, x_wrongPlace, x_madeCount, x_frameCount, x_current, x_next, x_inHand, x_mode, x_outcome, x_stepCount, x_atWork, x_mostAtWork, x_saidCount, x_pendingCount, x_classParent, x_classFields, x_bound, x_tokenKind, x_tokenValue, x_globals, x_thingShown, x_thingClass, x_thingFields, x_thingToken, x_thingMaker, x_variables, x_homeOf, x_within, x_foundIn, x_baseFrame, x_frameToken, x_frameStage, x_frameLink, x_operands, x_saidValues, x_marked, x_pending⟩ := b
      exact DT2_nm (hJ _ _ _ _ _ _ _ _ _ _ _ _ _ _ _ _ _ _ _ _ _ _ _ _ _ _ _ _ _ _ _ _ _ _ _ _ _ _ _ _)
    · obtain ⟨x_classCount, x_bodyCount, x_draftCount, x_wrongPlace, x_madeCount, x_frameCount, x_current, x_next, x_inHand, x_mode, x_outcome, x_stepCount, x_atWork, x_mostAtWork, x_saidCount, x_pendingCount, x_classParent, x_classFields, x_bound, x_tokenKind, x_tokenValue, x_globals, x_thingShown, x_thingClass, x_thingFields, x_thingToken, x_thingMaker, x_variables, x_homeOf, x_within, x_foundIn, x_baseFrame, x_frameToken, x_frameStage, x_frameLink, x_operands, x_saidValues, x_marked, x_pending⟩ := b
      exact DT2_nm (ih _ _ _ _ _ _ _ _ _ _ _ _ _ _ _ _ _ _ _ _ _ _ _ _ _ _ _ _ _ _ _ _ _ _ _ _ _ _ _ _)
theorem dx_110 : ∀ (n : Nat) (i : Int32) (x_classCount : Int32) (x_bodyCount : Int32) (x_draftCount : Int32) (x_wrongPlace : Int32) (x_madeCount : Int32) (x_frameCount : Int32) (x_current : Int32) (x_next : Int32) (x_inHand : Int64) (x_mode : Int32) (x_outcome : Int32) (x_stepCount : Int32) (x_atWork : Int32) (x_mostAtWork : Int32) (x_saidCount : Int32) (x_pendingCount : Int32) (x_classParent : Nat → Int32) (x_classFields : Nat → Int32) (x_bound : Nat → Int32) (x_tokenKind : Nat → Int32) (x_tokenValue : Nat → Int32) (x_globals : Nat → Int64) (x_thingShown : Nat → Int64) (x_thingClass : Nat → Int32) (x_thingFields : Nat → Int64) (x_thingToken : Nat → Int32) (x_thingMaker : Nat → Int32) (x_variables : Nat → Int64) (x_homeOf : Nat → Int32) (x_within : Nat → Int32) (x_foundIn : Nat → Int32) (x_baseFrame : Nat → Int32) (x_frameToken : Nat → Int32) (x_frameStage : Nat → Int32) (x_frameLink : Nat → Int32) (x_operands : Nat → Int64) (x_saidValues : Nat → Int64) (x_marked : Nat → Int32) (x_pending : Nat → Int32), DT2 (fun Q : Int32 → SX → Prop => wX_markReachable_110 Q n i x_classCount x_bodyCount x_draftCount x_wrongPlace x_madeCount x_frameCount x_current x_next x_inHand x_mode x_outcome x_stepCount x_atWork x_mostAtWork x_saidCount x_pendingCount x_classParent x_classFields x_bound x_tokenKind x_tokenValue x_globals x_thingShown x_thingClass x_thingFields x_thingToken x_thingMaker x_variables x_homeOf x_within x_foundIn x_baseFrame x_frameToken x_frameStage x_frameLink x_operands x_saidValues x_marked x_pending) := by
  intro n
  induction n with
  | zero => intros; exact DT2_no
  | succ n ih =>
    intros
    unfold wX_markReachable_110
    exact DT2_br (DT2_ex fun m => dx_235 _ _ _) (DT2_br (DT2_ex fun m => dx_235 _ _ _) (DT2_and (DT2_nm (DT2_br (DT2_nm (DT2_ex fun m => dx_186 (fun Q => wX_markReachable_110 Q n) (fun i x_classCount x_bodyCount x_draftCount x_wrongPlace x_madeCount x_frameCount x_current x_next x_inHand x_mode x_outcome x_stepCount x_atWork x_mostAtWork x_saidCount x_pendingCount x_classParent x_classFields x_bound x_tokenKind x_tokenValue x_globals x_thingShown x_thingClass x_thingFields x_thingToken x_thingMaker x_variables x_homeOf x_within x_foundIn x_baseFrame x_frameToken x_frameStage x_frameLink x_operands x_saidValues x_marked x_pending => ih i x_classCount x_bodyCount x_draftCount x_wrongPlace x_madeCount x_frameCount x_current x_next x_inHand x_mode x_outcome x_stepCount x_atWork x_mostAtWork x_saidCount x_pendingCount x_classParent x_classFields x_bound x_tokenKind x_tokenValue x_globals x_thingShown x_thingClass x_thingFields x_thingToken x_thingMaker x_variables x_homeOf x_within x_foundIn x_baseFrame x_frameToken x_frameStage x_frameLink x_operands x_saidValues x_marked x_pending) _ _ _ _ _ _ _ _ _ _ _ _ _ _ _ _ _ _ _ _ _ _ _ _ _ _ _ _ _ _ _ _ _ _ _ _ _ _ _ _ _ _ _)) (DT2_ex fun m => dx_140 (fun Q => wX_markReachable_110 Q n) (fun i x_classCount x_bodyCount x_draftCount x_wrongPlace x_madeCount x_frameCount x_current x_next x_inHand x_mode x_outcome x_stepCount x_atWork x_mostAtWork x_saidCount x_pendingCount x_classParent x_classFields x_bound x_tokenKind x_tokenValue x_globals x_thingShown x_thingClass x_thingFields x_thingToken x_thingMaker x_variables x_homeOf x_within x_foundIn x_baseFrame x_frameToken x_frameStage x_frameLink x_operands x_saidValues x_marked x_pending => ih i x_classCount x_bodyCount x_draftCount x_wrongPlace x_madeCount x_frameCount x_current x_next x_inHand x_mode x_outcome x_stepCount x_atWork x_mostAtWork x_saidCount x_pendingCount x_classParent x_classFields x_bound x_tokenKind x_tokenValue x_globals x_thingShown x_thingClass x_thingFields x_thingToken x_thingMaker x_variables x_homeOf x_within x_foundIn x_baseFrame x_frameToken x_frameStage x_frameLink x_operands x_saidValues x_marked x_pending) _ _ _ _ _ _ _ _ _ _ _ _ _ _ _ _ _ _ _ _ _ _ _ _ _ _ _ _ _ _ _ _ _ _ _ _ _ _ _ _ _ _ _)))))
theorem dx_80 : ∀ (n : Nat) (i : Int32) (x_classCount : Int32) (x_bodyCount : Int32) (x_draftCount : Int32) (x_wrongPlace : Int32) (x_madeCount : Int32) (x_frameCount : Int32) (x_current : Int32) (x_next : Int32) (x_inHand : Int64) (x_mode : Int32) (x_outcome : Int32) (x_stepCount : Int32) (x_atWork : Int32) (x_mostAtWork : Int32) (x_saidCount : Int32) (x_pendingCount : Int32) (x_classParent : Nat → Int32) (x_classFields : Nat → Int32) (x_bound : Nat → Int32) (x_tokenKind : Nat → Int32) (x_tokenValue : Nat → Int32) (x_globals : Nat → Int64) (x_thingShown : Nat → Int64) (x_thingClass : Nat → Int32) (x_thingFields : Nat → Int64) (x_thingToken : Nat → Int32) (x_thingMaker : Nat → Int32) (x_variables : Nat → Int64) (x_homeOf : Nat → Int32) (x_within : Nat → Int32) (x_foundIn : Nat → Int32) (x_baseFrame : Nat → Int32) (x_frameToken : Nat → Int32) (x_frameStage : Nat → Int32) (x_frameLink : Nat → Int32) (x_operands : Nat → Int64) (x_saidValues : Nat → Int64) (x_marked : Nat → Int32) (x_pending : Nat → Int32), DT2 (fun Q : Int32 → SX → Prop => wX_markReachable_80 Q n i x_classCount x_bodyCount x_draftCount x_wrongPlace x_madeCount x_frameCount x_current x_next x_inHand x_mode x_outcome x_stepCount x_atWork x_mostAtWork x_saidCount x_pendingCount x_classParent x_classFields x_bound x_tokenKind x_tokenValue x_globals x_thingShown x_thingClass x_thingFields x_thingToken x_thingMaker x_variables x_homeOf x_within x_foundIn x_baseFrame x_frameToken x_frameStage x_frameLink x_operands x_saidValues x_marked x_pending) := by
  intro n
  induction n with
  | zero => intros; exact DT2_no
  | succ n ih =>
    intros
    unfold wX_markReachable_80
    refine DT2_br (DT2_ex fun m => dx_110 _ _ _ _ _ _ _ _ _ _ _ _ _ _ _ _ _ _ _ _ _ _ _ _ _ _ _ _ _ _ _ _ _ _ _ _ _ _ _ _ _) (DT2_and (DT2_br (DT2_nm (ih _ _ _ _ _ _ _ _ _ _ _ _ _ _ _ _ _ _ _ _ _ _ _ _ _ _ _ _ _ _ _ _ _ _ _ _ _ _ _ _)) (DT2_bind (dx_act _) fun b => ?_)))
    obtain ⟨x_classCount, x_bodyCount, x_draftCount, x_wrongPlace, x_madeCount, x_frameCount, x_current, x_next, x_inHand, x_mode, x_outcome, x_stepCount, x_atWork, x_mostAtWork, x_saidCount, x_pendingCount, x_classParent, x_classFields, x_bound, x_tokenKind, x_tokenValue, x_globals, x_thingShown, x_thingClass, x_thingFields, x_thingToken, x_thingMaker, x_variables, x_homeOf, x_within, x_foundIn, x_baseFrame, x_frameToken, x_frameStage, x_frameLink, x_operands, x_saidValues, x_marked, x_pending⟩ := b
    exact DT2_nm (ih _ _ _ _ _ _ _ _ _ _ _ _ _ _ _ _ _ _ _ _ _ _ _ _ _ _ _ _ _ _ _ _ _ _ _ _ _ _ _ _)
theorem dx_52 : ∀ (n : Nat) (i : Int32) (x_classCount : Int32) (x_bodyCount : Int32) (x_draftCount : Int32) (x_wrongPlace : Int32) (x_madeCount : Int32) (x_frameCount : Int32) (x_current : Int32) (x_next : Int32) (x_inHand : Int64) (x_mode : Int32) (x_outcome : Int32) (x_stepCount : Int32) (x_atWork : Int32) (x_mostAtWork : Int32) (x_saidCount : Int32) (x_pendingCount : Int32) (x_classParent : Nat → Int32) (x_classFields : Nat → Int32) (x_bound : Nat → Int32) (x_tokenKind : Nat → Int32) (x_tokenValue : Nat → Int32) (x_globals : Nat → Int64) (x_thingShown : Nat → Int64) (x_thingClass : Nat → Int32) (x_thingFields : Nat → Int64) (x_thingToken : Nat → Int32) (x_thingMaker : Nat → Int32) (x_variables : Nat → Int64) (x_homeOf : Nat → Int32) (x_within : Nat → Int32) (x_foundIn : Nat → Int32) (x_baseFrame : Nat → Int32) (x_frameToken : Nat → Int32) (x_frameStage : Nat → Int32) (x_frameLink : Nat → Int32) (x_operands : Nat → Int64) (x_saidValues : Nat → Int64) (x_marked : Nat → Int32) (x_pending : Nat → Int32), DT2 (fun Q : Int32 → SX → Prop => wX_markReachable_52 Q n i x_classCount x_bodyCount x_draftCount x_wrongPlace x_madeCount x_frameCount x_current x_next x_inHand x_mode x_outcome x_stepCount x_atWork x_mostAtWork x_saidCount x_pendingCount x_classParent x_classFields x_bound x_tokenKind x_tokenValue x_globals x_thingShown x_thingClass x_thingFields x_thingToken x_thingMaker x_variables x_homeOf x_within x_foundIn x_baseFrame x_frameToken x_frameStage x_frameLink x_operands x_saidValues x_marked x_pending) := by
  intro n
  induction n with
  | zero => intros; exact DT2_no
  | succ n ih =>
    intros
    unfold wX_markReachable_52
    refine DT2_br (DT2_ex fun m => dx_80 _ _ _ _ _ _ _ _ _ _ _ _ _ _ _ _ _ _ _ _ _ _ _ _ _ _ _ _ _ _ _ _ _ _ _ _ _ _ _ _ _) (DT2_and (DT2_bind (dx_thing _) fun b => ?_))
    obtain ⟨x_classCount, x_bodyCount, x_draftCount, x_wrongPlace, x_madeCount, x_frameCount, x_current, x_next, x_inHand, x_mode, x_outcome, x_stepCount, x_atWork, x_mostAtWork, x_saidCount, x_pendingCount, x_classParent, x_classFields, x_bound, x_tokenKind, x_tokenValue, x_globals, x_thingShown, x_thingClass, x_thingFields, x_thingToken, x_thingMaker, x_variables, x_homeOf, x_within, x_foundIn, x_baseFrame, x_frameToken, x_frameStage, x_frameLink, x_operands, x_saidValues, x_marked, x_pending⟩ := b
    exact DT2_nm (ih _ _ _ _ _ _ _ _ _ _ _ _ _ _ _ _ _ _ _ _ _ _ _ _ _ _ _ _ _ _ _ _ _ _ _ _ _ _ _ _)
theorem dx_29 : ∀ (n : Nat) (i : Int32) (x_classCount : Int32) (x_bodyCount : Int32) (x_draftCount : Int32) (x_wrongPlace : Int32) (x_madeCount : Int32) (x_frameCount : Int32) (x_current : Int32) (x_next : Int32) (x_inHand : Int64) (x_mode : Int32) (x_outcome : Int32) (x_stepCount : Int32) (x_atWork : Int32) (x_mostAtWork : Int32) (x_saidCount : Int32) (x_pendingCount : Int32) (x_classParent : Nat → Int32) (x_classFields : Nat → Int32) (x_bound : Nat → Int32) (x_tokenKind : Nat → Int32) (x_tokenValue : Nat → Int32) (x_globals : Nat → Int64) (x_thingShown : Nat → Int64) (x_thingClass : Nat → Int32) (x_thingFields : Nat → Int64) (x_thingToken : Nat → Int32) (x_thingMaker : Nat → Int32) (x_variables : Nat → Int64) (x_homeOf : Nat → Int32) (x_within : Nat → Int32) (x_foundIn : Nat → Int32) (x_baseFrame : Nat → Int32) (x_frameToken : Nat → Int32) (x_frameStage : Nat → Int32) (x_frameLink : Nat → Int32) (x_operands : Nat → Int64) (x_saidValues : Nat → Int64) (x_marked : Nat → Int32) (x_pending : Nat → Int32), DT2 (fun Q : Int32 → SX → Prop => wX_markReachable_29 Q n i x_classCount x_bodyCount x_draftCount x_wrongPlace x_madeCount x_frameCount x_current x_next x_inHand x_mode x_outcome x_stepCount x_atWork x_mostAtWork x_saidCount x_pendingCount x_classParent x_classFields x_bound x_tokenKind x_tokenValue x_globals x_thingShown x_thingClass x_thingFields x_thingToken x_thingMaker x_variables x_homeOf x_within x_foundIn x_baseFrame x_frameToken x_frameStage x_frameLink x_operands x_saidValues x_marked x_pending) := by
  intro n
  induction n with
  | zero => intros; exact DT2_no
  | succ n ih =>
    intros
    unfold wX_markReachable_29
    refine DT2_br (DT2_ex fun m => dx_52 _ _ _ _ _ _ _ _ _ _ _ _ _ _ _ _ _ _ _ _ _ _ _ _ _ _ _ _ _ _ _ _ _ _ _ _ _ _ _ _ _) (DT2_and (DT2_bind (dx_thing _) fun b => ?_))
    obtain ⟨x_classCount, x_bodyCount, x_draftCount, x_wrongPlace, x_madeCount, x_frameCount, x_current, x_next, x_inHand, x_mode, x_outcome, x_stepCount, x_atWork, x_mostAtWork, x_saidCount, x_pendingCount, x_classParent, x_classFields, x_bound, x_tokenKind, x_tokenValue, x_globals, x_thingShown, x_thingClass, x_thingFields, x_thingToken, x_thingMaker, x_variables, x_homeOf, x_within, x_foundIn, x_baseFrame, x_frameToken, x_frameStage, x_frameLink, x_operands, x_saidValues, x_marked, x_pending⟩ := b
    exact DT2_nm (ih _ _ _ _ _ _ _ _ _ _ _ _ _ _ _ _ _ _ _ _ _ _ _ _ _ _ _ _ _ _ _ _ _ _ _ _ _ _ _ _)
section
variable {x_classCount x_bodyCount x_draftCount x_wrongPlace x_madeCount x_frameCount x_current x_next x_mode x_outcome x_stepCount x_atWork x_mostAtWork x_saidCount x_pendingCount : Int32} {x_inHand : Int64} {x_classParent x_classFields x_bound x_tokenKind x_tokenValue x_thingClass x_thingToken x_thingMaker x_homeOf x_within x_foundIn x_baseFrame x_frameToken x_frameStage x_frameLink x_marked x_pending : Nat → Int32} {x_globals x_thingShown x_thingFields x_variables x_operands x_saidValues : Nat → Int64}
variable {y_classes y_bodies y_fault y_made y_working y_peak y_steps y_depth y_waiting y_code y_running y_has y_todos y_marks y_spoken : Int32} {y_got y_shown : Int64} {y_parent y_fields y_bound y_kind y_word y_size y_sort y_number y_stands y_keeps y_within y_foundIn y_live y_work y_under y_at y_in y_phase y_base y_goal y_marked y_todo : Nat → Int32} {y_cells y_globals y_self y_args y_temps y_param y_operands y_heard : Nat → Int64}
theorem dx_7 : ∀ (n : Nat) (i : Int32) (f : Nat → Int32), DT2 (fun Q : Int32 → SX → Prop => wX_markReachable_7 Q x_classCount x_bodyCount x_draftCount x_wrongPlace x_madeCount x_frameCount x_current x_next x_inHand x_mode x_outcome x_stepCount x_atWork x_mostAtWork x_saidCount x_pendingCount n i x_classParent x_classFields x_bound x_tokenKind x_tokenValue x_globals x_thingShown x_thingClass x_thingFields x_thingToken x_thingMaker x_variables x_homeOf x_within x_foundIn x_baseFrame x_frameToken x_frameStage x_frameLink x_operands x_saidValues f x_pending) := by
  intro n
  induction n with
  | zero => intros; exact DT2_no
  | succ n ih =>
    intro i f
    unfold wX_markReachable_7
    exact DT2_br (DT2_ex fun m => dx_29 _ _ _ _ _ _ _ _ _ _ _ _ _ _ _ _ _ _ _ _ _ _ _ _ _ _ _ _ _ _ _ _ _ _ _ _ _ _ _ _ _) (DT2_and (DT2_nm (DT2_nm (ih _ _))))
theorem dx_mark : DT2 (fun Q : Int32 → SX → Prop => wpX_markReachable Q (x_classCount, x_bodyCount, x_draftCount, x_wrongPlace, x_madeCount, x_frameCount, x_current, x_next, x_inHand, x_mode, x_outcome, x_stepCount, x_atWork, x_mostAtWork, x_saidCount, x_pendingCount, x_classParent, x_classFields, x_bound, x_tokenKind, x_tokenValue, x_globals, x_thingShown, x_thingClass, x_thingFields, x_thingToken, x_thingMaker, x_variables, x_homeOf, x_within, x_foundIn, x_baseFrame, x_frameToken, x_frameStage, x_frameLink, x_operands, x_saidValues, x_marked, x_pending)) := DT2_ex fun n => dx_7 n 0 x_marked
variable {cc bc dc mc k : Nat} {T ST SA : Nat → Prop} {lv τ σ lev ho : Nat → Nat}
/-- the class's marking, its outcome named -/
theorem xd_mark {fc : Nat} (hfc : x_frameCount = nI fc) (hfl : fc * 3 ≤ 1152) (hm : ∀ m, m < 24 → gx_P (x_thingMaker m)) (hw : ∀ a, a < 128 → gx_P (x_within a)) :
    ∃ mk td t, (∀ n, n < 152 → mk n = 0 ∨ mk n = 1) ∧ (∀ n, n < 152 → (mk n = 1 ↔ cl_r (gx_R x_thingShown x_globals x_operands fc x_baseFrame) (gx_E x_thingShown x_thingFields x_thingMaker x_variables x_within) n)) ∧ ∀ post : Int32 → SX → Prop, post (nI (ct_n (fun k => mk k = 1) 24)) (x_classCount, x_bodyCount, x_draftCount, x_wrongPlace, x_madeCount, x_frameCount, x_current, x_next, x_inHand, x_mode, x_outcome, x_stepCount, x_atWork, x_mostAtWork, x_saidCount, nI t, x_classParent, x_classFields, x_bound, x_tokenKind, x_tokenValue, x_globals, x_thingShown, x_thingClass, x_thingFields, x_thingToken, x_thingMaker, x_variables, x_homeOf, x_within, x_foundIn, x_baseFrame, x_frameToken, x_frameStage, x_frameLink, x_operands, x_saidValues, mk, td) → wpX_markReachable post (x_classCount, x_bodyCount, x_draftCount, x_wrongPlace, x_madeCount, x_frameCount, x_current, x_next, x_inHand, x_mode, x_outcome, x_stepCount, x_atWork, x_mostAtWork, x_saidCount, x_pendingCount, x_classParent, x_classFields, x_bound, x_tokenKind, x_tokenValue, x_globals, x_thingShown, x_thingClass, x_thingFields, x_thingToken, x_thingMaker, x_variables, x_homeOf, x_within, x_foundIn, x_baseFrame, x_frameToken, x_frameStage, x_frameLink, x_operands, x_saidValues, x_marked, x_pending) := by
  have key : wpX_markReachable (fun r u => ∃ mk td t, (∀ n, n < 152 → mk n = 0 ∨ mk n = 1) ∧ (∀ n, n < 152 → (mk n = 1 ↔ cl_r (gx_R x_thingShown x_globals x_operands fc x_baseFrame) (gx_E x_thingShown x_thingFields x_thingMaker x_variables x_within) n)) ∧ r = nI (ct_n (fun k => mk k = 1) 24) ∧ u = (x_classCount, x_bodyCount, x_draftCount, x_wrongPlace, x_madeCount, x_frameCount, x_current, x_next, x_inHand, x_mode, x_outcome, x_stepCount, x_atWork, x_mostAtWork, x_saidCount, nI t, x_classParent, x_classFields, x_bound, x_tokenKind, x_tokenValue, x_globals, x_thingShown, x_thingClass, x_thingFields, x_thingToken, x_thingMaker, x_variables, x_homeOf, x_within, x_foundIn, x_baseFrame, x_frameToken, x_frameStage, x_frameLink, x_operands, x_saidValues, mk, td)) (x_classCount, x_bodyCount, x_draftCount, x_wrongPlace, x_madeCount, x_frameCount, x_current, x_next, x_inHand, x_mode, x_outcome, x_stepCount, x_atWork, x_mostAtWork, x_saidCount, x_pendingCount, x_classParent, x_classFields, x_bound, x_tokenKind, x_tokenValue, x_globals, x_thingShown, x_thingClass, x_thingFields, x_thingToken, x_thingMaker, x_variables, x_homeOf, x_within, x_foundIn, x_baseFrame, x_frameToken, x_frameStage, x_frameLink, x_operands, x_saidValues, x_marked, x_pending) := by
    refine xm_markReachable hfc hfl hm hw ?_
    intro mk td t a b
    exact ⟨mk, td, t, a, b, rfl, rfl⟩
  obtain ⟨r, u, ⟨mk, td, t, h1, h2, h3, h4⟩, h⟩ := dx_mark _ key
  subst h3 h4
  exact ⟨mk, td, t, h1, h2, h⟩
theorem yd_mark {wt wk : Nat} (hw : y_waiting = nI wt) (hwt : wt ≤ 500) (hk : y_working = nI wk) (hwk : wk ≤ 12) (hgl : ∀ k, k < 4 → vv_V (y_globals k)) (hop : ∀ k, k < wt → vv_V (y_operands k)) (hwo : ∀ k, k < wk → ∃ a, a < 160 ∧ y_work k = nI a) (Y : hp_Y y_cells y_self y_args y_temps y_param y_keeps y_within) :
    ∃ mk td, (∀ n, n < 192 → mk n = 0 ∨ mk n = 1) ∧ (∀ n, n < 192 → (mk n = 1 ↔ cl_r (gy_R y_globals y_operands wt y_work wk) (gy_E y_sort y_keeps y_cells y_within y_self y_args y_temps y_param) n)) ∧ ∀ post : SY → Prop, post (y_classes, y_bodies, y_fault, y_made, y_working, y_peak, y_steps, y_depth, y_waiting, y_code, y_running, y_has, y_got, nI 0, nI (ct_n (fun k => mk k = 1) 32), y_shown, y_spoken, y_parent, y_fields, y_bound, y_kind, y_word, y_size, y_sort, y_number, y_stands, y_keeps, y_cells, y_globals, y_within, y_foundIn, y_self, y_args, y_temps, y_param, y_live, y_work, y_under, y_at, y_in, y_phase, y_base, y_goal, y_operands, mk, td, y_heard) → wpY_markAll post (y_classes, y_bodies, y_fault, y_made, y_working, y_peak, y_steps, y_depth, y_waiting, y_code, y_running, y_has, y_got, y_todos, y_marks, y_shown, y_spoken, y_parent, y_fields, y_bound, y_kind, y_word, y_size, y_sort, y_number, y_stands, y_keeps, y_cells, y_globals, y_within, y_foundIn, y_self, y_args, y_temps, y_param, y_live, y_work, y_under, y_at, y_in, y_phase, y_base, y_goal, y_operands, y_marked, y_todo, y_heard) := by
  have key : wpY_markAll (fun u => ∃ mk td, (∀ n, n < 192 → mk n = 0 ∨ mk n = 1) ∧ (∀ n, n < 192 → (mk n = 1 ↔ cl_r (gy_R y_globals y_operands wt y_work wk) (gy_E y_sort y_keeps y_cells y_within y_self y_args y_temps y_param) n)) ∧ u = (y_classes, y_bodies, y_fault, y_made, y_working, y_peak, y_steps, y_depth, y_waiting, y_code, y_running, y_has, y_got, nI 0, nI (ct_n (fun k => mk k = 1) 32), y_shown, y_spoken, y_parent, y_fields, y_bound, y_kind, y_word, y_size, y_sort, y_number, y_stands, y_keeps, y_cells, y_globals, y_within, y_foundIn, y_self, y_args, y_temps, y_param, y_live, y_work, y_under, y_at, y_in, y_phase, y_base, y_goal, y_operands, mk, td, y_heard)) (y_classes, y_bodies, y_fault, y_made, y_working, y_peak, y_steps, y_depth, y_waiting, y_code, y_running, y_has, y_got, y_todos, y_marks, y_shown, y_spoken, y_parent, y_fields, y_bound, y_kind, y_word, y_size, y_sort, y_number, y_stands, y_keeps, y_cells, y_globals, y_within, y_foundIn, y_self, y_args, y_temps, y_param, y_live, y_work, y_under, y_at, y_in, y_phase, y_base, y_goal, y_operands, y_marked, y_todo, y_heard) := by
    refine ym_all hw hwt hk hwk hgl hop hwo Y ?_
    intro mk td a b
    exact ⟨mk, td, a, b, rfl⟩
  obtain ⟨u, ⟨mk, td, h1, h2, h4⟩, h⟩ := dt_markAll _ key
  subst h4
  exact ⟨mk, td, h1, h2, h⟩
end
end
section
/-! making, its outcome named -/
section
variable {x_classCount x_bodyCount x_draftCount x_wrongPlace x_madeCount x_frameCount x_current x_next x_mode x_outcome x_stepCount x_atWork x_mostAtWork x_saidCount x_pendingCount : Int32} {x_inHand : Int64} {x_classParent x_classFields x_bound x_tokenKind x_tokenValue x_thingClass x_thingToken x_thingMaker x_homeOf x_within x_foundIn x_baseFrame x_frameToken x_frameStage x_frameLink x_marked x_pending : Nat → Int32} {x_globals x_thingShown x_thingFields x_variables x_operands x_saidValues : Nat → Int64}
variable {y_classes y_bodies y_fault y_made y_working y_peak y_steps y_depth y_waiting y_code y_running y_has y_todos y_marks y_spoken : Int32} {y_got y_shown : Int64} {y_parent y_fields y_bound y_kind y_word y_size y_sort y_number y_stands y_keeps y_within y_foundIn y_live y_work y_under y_at y_in y_phase y_base y_goal y_marked y_todo : Nat → Int32} {y_cells y_globals y_self y_args y_temps y_param y_operands y_heard : Nat → Int64}
variable {cc bc dc mc k : Nat} {T ST SA : Nat → Prop} {lv τ σ lev ho : Nat → Nat}
theorem xd_make {p0 : Int64} {c : Int32} {fc : Nat} (hfc : x_frameCount = nI fc) (hfl : fc * 3 ≤ 1152) (hm : ∀ m, m < 24 → gx_P (x_thingMaker m)) (hw : ∀ a, a < 128 → gx_P (x_within a)) :
    ∃ mk td t, (∀ n, n < 152 → (mk n = 1 ↔ cl_r (gx_R x_thingShown x_globals x_operands fc x_baseFrame) (gx_E x_thingShown x_thingFields x_thingMaker x_variables x_within) n)) ∧
    ((¬ ct_n (fun k => mk k = 1) 24 < 24 ∧ ∀ post : Int32 → SX → Prop, post (-1) (x_classCount, x_bodyCount, x_draftCount, x_wrongPlace, x_madeCount, x_frameCount, x_current, x_next, x_inHand, x_mode, x_outcome, x_stepCount, x_atWork, x_mostAtWork, x_saidCount, nI t, x_classParent, x_classFields, x_bound, x_tokenKind, x_tokenValue, x_globals, x_thingShown, x_thingClass, x_thingFields, x_thingToken, x_thingMaker, x_variables, x_homeOf, x_within, x_foundIn, x_baseFrame, x_frameToken, x_frameStage, x_frameLink, x_operands, x_saidValues, mk, td) → wpX_makeThing post (x_classCount, x_bodyCount, x_draftCount, x_wrongPlace, x_madeCount, x_frameCount, x_current, x_next, x_inHand, x_mode, x_outcome, x_stepCount, x_atWork, x_mostAtWork, x_saidCount, x_pendingCount, x_classParent, x_classFields, x_bound, x_tokenKind, x_tokenValue, x_globals, x_thingShown, x_thingClass, x_thingFields, x_thingToken, x_thingMaker, x_variables, x_homeOf, x_within, x_foundIn, x_baseFrame, x_frameToken, x_frameStage, x_frameLink, x_operands, x_saidValues, x_marked, x_pending) p0 c) ∨
     (ct_n (fun k => mk k = 1) 24 < 24 ∧ ∃ tt, tt < 24 ∧ ¬ mk tt = 1 ∧ ∀ post : Int32 → SX → Prop, post (nI tt) (x_classCount, x_bodyCount, x_draftCount, x_wrongPlace, x_madeCount + 1, x_frameCount, x_current, x_next, x_inHand, x_mode, x_outcome, x_stepCount, x_atWork, x_mostAtWork, x_saidCount, nI t, x_classParent, x_classFields, x_bound, x_tokenKind, x_tokenValue, x_globals, vp_updL x_thingShown tt (p0 + x_madeCount.toInt64), upd x_thingClass tt c, mk_c x_thingFields (tt * 4) 4 10000000000, x_thingToken, upd x_thingMaker tt (-1), x_variables, x_homeOf, x_within, x_foundIn, x_baseFrame, x_frameToken, x_frameStage, x_frameLink, x_operands, x_saidValues, mk, td) → wpX_makeThing post (x_classCount, x_bodyCount, x_draftCount, x_wrongPlace, x_madeCount, x_frameCount, x_current, x_next, x_inHand, x_mode, x_outcome, x_stepCount, x_atWork, x_mostAtWork, x_saidCount, x_pendingCount, x_classParent, x_classFields, x_bound, x_tokenKind, x_tokenValue, x_globals, x_thingShown, x_thingClass, x_thingFields, x_thingToken, x_thingMaker, x_variables, x_homeOf, x_within, x_foundIn, x_baseFrame, x_frameToken, x_frameStage, x_frameLink, x_operands, x_saidValues, x_marked, x_pending) p0 c)) := by
  obtain ⟨mk, td, t, mb, mi, hM⟩ := xd_mark (x_classCount := x_classCount) (x_bodyCount := x_bodyCount) (x_draftCount := x_draftCount) (x_wrongPlace := x_wrongPlace) (x_madeCount := x_madeCount) (x_frameCount := x_frameCount) (x_current := x_current) (x_next := x_next) (x_inHand := x_inHand) (x_mode := x_mode) (x_outcome := x_outcome) (x_stepCount := x_stepCount) (x_atWork := x_atWork) (x_mostAtWork := x_mostAtWork) (x_saidCount := x_saidCount) (x_pendingCount := x_pendingCount) (x_classParent := x_classParent) (x_classFields := x_classFields) (x_bound := x_bound) (x_tokenKind := x_tokenKind) (x_tokenValue := x_tokenValue) (x_globals := x_globals) (x_thingShown := x_thingShown) (x_thingClass := x_thingClass) (x_thingFields := x_thingFields) (x_thingToken := x_thingToken) (x_thingMaker := x_thingMaker) (x_variables := x_variables) (x_homeOf := x_homeOf) (x_within := x_within) (x_foundIn := x_foundIn) (x_baseFrame := x_baseFrame) (x_frameToken := x_frameToken) (x_frameStage := x_frameStage) (x_frameLink := x_frameLink) (x_operands := x_operands) (x_saidValues := x_saidValues) (x_marked := x_marked) (x_pending := x_pending) hfc hfl hm hw
  refine ⟨mk, td, t, mi, ?_⟩
  have cl := ct_le (fun k => mk k = 1) 24
  by_cases q : ct_n (fun k => mk k = 1) 24 < 24
  · obtain ⟨tt, t1, t2, t3⟩ := ct_first q
    refine Or.inr ⟨q, tt, t1, t2, fun post h2 => ?_⟩
    unfold wpX_makeThing
    dsimp only
    refine hM _ ?_
    refine br_t (nI_lt (b := 24) q (by decide)) ?_
    have tc : (nI tt).toNatClampNeg = tt := nI_clamp (by omega)
    have vt : vp_in (nI tt) 24 := vp_in_nI t1 (by decide)
    have l44 : ∃ n44 : Nat, wX_makeThing_44 post p0 c (nI tt) x_classCount x_bodyCount x_draftCount x_wrongPlace x_madeCount x_frameCount x_current x_next x_inHand x_mode x_outcome x_stepCount x_atWork x_mostAtWork x_saidCount (nI t) n44 0 x_classParent x_classFields x_bound x_tokenKind x_tokenValue x_globals x_thingShown x_thingClass x_thingFields x_thingToken x_thingMaker x_variables x_homeOf x_within x_foundIn x_baseFrame x_frameToken x_frameStage x_frameLink x_operands x_saidValues mk td := by
      refine loop_0 (fun n i f => wX_makeThing_44 post p0 c (nI tt) x_classCount x_bodyCount x_draftCount x_wrongPlace x_madeCount x_frameCount x_current x_next x_inHand x_mode x_outcome x_stepCount x_atWork x_mostAtWork x_saidCount (nI t) n (nI i) x_classParent x_classFields x_bound x_tokenKind x_tokenValue x_globals x_thingShown x_thingClass f x_thingToken x_thingMaker x_variables x_homeOf x_within x_foundIn x_baseFrame x_frameToken x_frameStage x_frameLink x_operands x_saidValues mk td) (fun i f => f = mk_c x_thingFields (tt * 4) i 10000000000) 4 x_thingFields (mk_c0 _ _ _).symm ?_ ?_
      · intro n f I
        subst I
        refine br_t (by decide) ⟨vt, ?_⟩
        rw [tc]
        exact nm_e ⟨vt, nm_e ⟨vt, nm_e (nm_e (h2))⟩⟩
      · intro n i f hi I k
        subst I
        have e : nI tt * (4 : Int32) + nI i = nI (tt * 4 + i) := ix_r 4 tt i
        refine br_f (nI_ge (b := 4) hi (by decide)) ⟨by rw [e]; exact vp_in_nI (by omega) (by decide), ?_⟩
        rw [e, nI_clamp (show tt * 4 + i < 2 ^ 31 by omega)]
        exact nm_r (mk_cs _ _ _ _) (nm_r (nI_1 i) (k _ rfl))
    refine ⟨25, ?_⟩
    have key : ∀ d i f, i + d = tt → d < f → wX_makeThing_18 post p0 c x_classCount x_bodyCount x_draftCount x_wrongPlace x_madeCount x_frameCount x_current x_next x_inHand x_mode x_outcome x_stepCount x_atWork x_mostAtWork x_saidCount (nI t) x_classParent x_classFields x_bound x_tokenKind x_tokenValue x_globals x_thingShown x_thingClass x_thingFields x_thingToken x_thingMaker x_variables x_homeOf x_within x_foundIn x_baseFrame x_frameToken x_frameStage x_frameLink x_operands x_saidValues mk td f (nI i) := by
      intro d
      induction d with
      | zero =>
        intro i f e hf
        obtain ⟨f', rfl⟩ : ∃ f', f = f' + 1 := ⟨f - 1, by omega⟩
        obtain rfl : i = tt := by omega
        refine br_c (fun _ => l44) (fun _ => ⟨vp_in_nI (by omega) (by decide), br_t ?_ l44⟩)
        rw [tc]
        exact (mb i (by omega)).resolve_right t2
      | succ d ih =>
        intro i f e hf
        obtain ⟨f', rfl⟩ : ∃ f', f = f' + 1 := ⟨f - 1, by omega⟩
        refine br_f (nI_ge (b := 23) (by omega) (by decide)) ⟨vp_in_nI (by omega) (by decide), br_f ?_ (nm_r (nI_1 i) (ih (i + 1) f' (by omega) (by omega)))⟩
        rw [nI_clamp (by omega), t3 i (by omega)]
        decide
    exact key tt 0 25 (by omega) (by omega)
  · refine Or.inl ⟨q, fun post h1 => ?_⟩
    unfold wpX_makeThing
    dsimp only
    exact hM _ (br_f (nI_nlt (b := 24) (by omega) (by omega)) h1)
theorem yd_make {c : Int32} {wt wk : Nat} (hw : y_waiting = nI wt) (hwt : wt ≤ 500) (hk : y_working = nI wk) (hwk : wk ≤ 12) (hgl : ∀ k, k < 4 → vv_V (y_globals k)) (hop : ∀ k, k < wt → vv_V (y_operands k)) (hwo : ∀ k, k < wk → ∃ a, a < 160 ∧ y_work k = nI a) (Y : hp_Y y_cells y_self y_args y_temps y_param y_keeps y_within) :
    ∃ mk td, (∀ n, n < 192 → (mk n = 1 ↔ cl_r (gy_R y_globals y_operands wt y_work wk) (gy_E y_sort y_keeps y_cells y_within y_self y_args y_temps y_param) n)) ∧
    ((¬ ct_n (fun k => mk k = 1) 32 < 24 ∧ ∀ post : Int32 → SY → Prop, post (-1) (y_classes, y_bodies, y_fault, y_made, y_working, y_peak, y_steps, y_depth, y_waiting, y_code, y_running, y_has, y_got, nI 0, nI (ct_n (fun k => mk k = 1) 32), y_shown, y_spoken, y_parent, y_fields, y_bound, y_kind, y_word, y_size, y_sort, y_number, y_stands, y_keeps, y_cells, y_globals, y_within, y_foundIn, y_self, y_args, y_temps, y_param, y_live, y_work, y_under, y_at, y_in, y_phase, y_base, y_goal, y_operands, mk, td, y_heard) → wpY_make post (y_classes, y_bodies, y_fault, y_made, y_working, y_peak, y_steps, y_depth, y_waiting, y_code, y_running, y_has, y_got, y_todos, y_marks, y_shown, y_spoken, y_parent, y_fields, y_bound, y_kind, y_word, y_size, y_sort, y_number, y_stands, y_keeps, y_cells, y_globals, y_within, y_foundIn, y_self, y_args, y_temps, y_param, y_live, y_work, y_under, y_at, y_in, y_phase, y_base, y_goal, y_operands, y_marked, y_todo, y_heard) c) ∨
     (ct_n (fun k => mk k = 1) 32 < 24 ∧ ∃ kk, kk < 32 ∧ ¬ mk kk = 1 ∧ ∀ post : Int32 → SY → Prop, post (nI kk) (y_classes, y_bodies, y_fault, y_made + 1, y_working, y_peak, y_steps, y_depth, y_waiting, y_code, y_running, y_has, y_got, nI 0, nI (ct_n (fun k => mk k = 1) 32), y_shown, y_spoken, y_parent, y_fields, y_bound, y_kind, y_word, y_size, upd y_sort kk c, upd y_number kk y_made, y_stands, y_keeps, mk_c y_cells (4 * kk) 4 4294967296, y_globals, y_within, y_foundIn, y_self, y_args, y_temps, y_param, y_live, y_work, y_under, y_at, y_in, y_phase, y_base, y_goal, y_operands, mk, td, y_heard) → wpY_make post (y_classes, y_bodies, y_fault, y_made, y_working, y_peak, y_steps, y_depth, y_waiting, y_code, y_running, y_has, y_got, y_todos, y_marks, y_shown, y_spoken, y_parent, y_fields, y_bound, y_kind, y_word, y_size, y_sort, y_number, y_stands, y_keeps, y_cells, y_globals, y_within, y_foundIn, y_self, y_args, y_temps, y_param, y_live, y_work, y_under, y_at, y_in, y_phase, y_base, y_goal, y_operands, y_marked, y_todo, y_heard) c)) := by
  obtain ⟨mk, td, mb, mi, hM⟩ := yd_mark (y_classes := y_classes) (y_bodies := y_bodies) (y_fault := y_fault) (y_made := y_made) (y_working := y_working) (y_peak := y_peak) (y_steps := y_steps) (y_depth := y_depth) (y_waiting := y_waiting) (y_code := y_code) (y_running := y_running) (y_has := y_has) (y_got := y_got) (y_todos := y_todos) (y_marks := y_marks) (y_shown := y_shown) (y_spoken := y_spoken) (y_parent := y_parent) (y_fields := y_fields) (y_bound := y_bound) (y_kind := y_kind) (y_word := y_word) (y_size := y_size) (y_sort := y_sort) (y_number := y_number) (y_stands := y_stands) (y_keeps := y_keeps) (y_cells := y_cells) (y_globals := y_globals) (y_within := y_within) (y_foundIn := y_foundIn) (y_self := y_self) (y_args := y_args) (y_temps := y_temps) (y_param := y_param) (y_live := y_live) (y_work := y_work) (y_under := y_under) (y_at := y_at) (y_in := y_in) (y_phase := y_phase) (y_base := y_base) (y_goal := y_goal) (y_operands := y_operands) (y_marked := y_marked) (y_todo := y_todo) (y_heard := y_heard) hw hwt hk hwk hgl hop hwo Y
  refine ⟨mk, td, mi, ?_⟩
  have cl := ct_le (fun k => mk k = 1) 32
  by_cases q : ct_n (fun k => mk k = 1) 32 < 24
  · obtain ⟨tt, t1, t2, t3⟩ := ct_first (P := fun k => mk k = 1) (N := 32) (by omega)
    refine Or.inr ⟨q, tt, t1, t2, fun post h2 => ?_⟩
    unfold wpY_make
    dsimp only
    refine hM _ ?_
    refine br_t (nI_lt (b := 24) q (by decide)) ?_
    have tc : (nI tt).toNatClampNeg = tt := nI_clamp (by omega)
    have vt : vp_in (nI tt) 32 := vp_in_nI t1 (by decide)
    refine ⟨33, ?_⟩
    have key : ∀ d i f, i + d = tt → d < f → wY_make_17 post c y_classes y_bodies y_fault y_made y_working y_peak y_steps y_depth y_waiting y_code y_running y_has y_got (nI 0) (nI (ct_n (fun k => mk k = 1) 32)) y_shown y_spoken y_parent y_fields y_bound y_kind y_word y_size y_sort y_number y_stands y_keeps y_cells y_globals y_within y_foundIn y_self y_args y_temps y_param y_live y_work y_under y_at y_in y_phase y_base y_goal y_operands mk td y_heard f (nI i) := by
      intro d
      induction d with
      | zero =>
        intro i f e hf
        obtain ⟨f', rfl⟩ : ∃ f', f = f' + 1 := ⟨f - 1, by omega⟩
        obtain rfl : i = tt := by omega
        refine ⟨vp_in_nI (by omega) (by decide), br_t ?_ ⟨vt, ?_⟩⟩
        · rw [tc]; exact (mb i (by omega)).resolve_right t2
        · rw [tc]
          refine nm_e (nm_e ⟨vt, nm_e ?_⟩)
          refine loop_0 (fun n j f => wY_make_58 post (nI i) y_classes y_bodies y_fault (y_made + 1) y_working y_peak y_steps y_depth y_waiting y_code y_running y_has y_got (nI 0) (nI (ct_n (fun k => mk k = 1) 32)) y_shown y_spoken n (nI j) y_parent y_fields y_bound y_kind y_word y_size (upd y_sort i c) (upd y_number i y_made) y_stands y_keeps f y_globals y_within y_foundIn y_self y_args y_temps y_param y_live y_work y_under y_at y_in y_phase y_base y_goal y_operands mk td y_heard) (fun j f => f = mk_c y_cells (4 * i) j 4294967296) 4 y_cells (mk_c0 _ _ _).symm ?_ ?_
          · intro n f I
            subst I
            exact br_t (by decide) (h2)
          · intro n j f hj I k
            subst I
            have e : (4 : Int32) * nI i + nI j = nI (4 * i + j) := ix_l 4 i j
            refine br_f (nI_ge (b := 4) hj (by decide)) ⟨by rw [e]; exact vp_in_nI (by omega) (by decide), ?_⟩
            rw [e, nI_clamp (show 4 * i + j < 2 ^ 31 by omega)]
            exact nm_r (mk_cs _ _ _ _) (nm_r (nI_1 j) (k _ rfl))
      | succ d ih =>
        intro i f e hf
        obtain ⟨f', rfl⟩ : ∃ f', f = f' + 1 := ⟨f - 1, by omega⟩
        refine ⟨vp_in_nI (by omega) (by decide), br_f ?_ (nm_r (nI_1 i) (ih (i + 1) f' (by omega) (by omega)))⟩
        rw [nI_clamp (by omega), t3 i (by omega)]
        decide
    exact key tt 0 33 (by omega) (by omega)
  · refine Or.inl ⟨q, fun post h1 => ?_⟩
    unfold wpY_make
    dsimp only
    exact hM _ (br_f (nI_nlt (b := 24) (by omega) (by omega)) h1)
end
end
section
/-! BLOCK and NEW -/
section
variable {x_classCount x_bodyCount x_draftCount x_wrongPlace x_madeCount x_frameCount x_current x_next x_mode x_outcome x_stepCount x_atWork x_mostAtWork x_saidCount x_pendingCount : Int32} {x_inHand : Int64} {x_classParent x_classFields x_bound x_tokenKind x_tokenValue x_thingClass x_thingToken x_thingMaker x_homeOf x_within x_foundIn x_baseFrame x_frameToken x_frameStage x_frameLink x_marked x_pending : Nat → Int32} {x_globals x_thingShown x_thingFields x_variables x_operands x_saidValues : Nat → Int64}
variable {y_classes y_bodies y_fault y_made y_working y_peak y_steps y_depth y_waiting y_code y_running y_has y_todos y_marks y_spoken : Int32} {y_got y_shown : Int64} {y_parent y_fields y_bound y_kind y_word y_size y_sort y_number y_stands y_keeps y_within y_foundIn y_live y_work y_under y_at y_in y_phase y_base y_goal y_marked y_todo : Nat → Int32} {y_cells y_globals y_self y_args y_temps y_param y_operands y_heard : Nat → Int64}
variable {cc bc dc mc st sp d w np md B M : Nat} {T ST SA : Nat → Prop} {lv τ σ lev ho fa ph bs ow gg wk un rt : Nat → Nat}
theorem rn_made (A : rn_A cc bc dc mc T ST SA lv τ σ lev ho x_tokenKind x_tokenValue y_kind y_word y_size y_parent y_fields y_bound x_globals y_globals x_thingShown x_thingClass x_thingFields x_thingToken x_thingMaker x_variables x_homeOf x_within x_foundIn y_sort y_number y_stands y_keeps y_cells y_within y_foundIn y_self y_args y_temps y_param) (F : rn_F T ST SA lv σ lev ho y_kind y_word fa ph bs ow gg wk un rt d w y_sort y_number x_frameToken x_frameStage x_frameLink x_operands x_baseFrame y_operands y_self y_at y_in y_phase y_base y_goal y_work y_under y_live) {mc' kk tt : Nat} {xsh' xfl' ce' : Nat → Int64} {xcl' xtk' xmr' so' nu' st' kp' : Nat → Int32} (hm : mc ≤ mc') (hk : ¬ cl_r (gy_R y_globals y_operands (bs d) y_work w) (gy_E y_sort y_keeps y_cells y_within y_self y_args y_temps y_param) kk) (ht : ¬ cl_r (gx_R x_thingShown x_globals x_operands (fr_x y_kind fa ph d) x_baseFrame) (gx_E x_thingShown x_thingFields x_thingMaker x_variables x_within) tt)
    (ex : ∀ t, t ≠ tt → xsh' t = x_thingShown t ∧ xcl' t = x_thingClass t ∧ xtk' t = x_thingToken t ∧ xmr' t = x_thingMaker t ∧ ∀ j, j < 4 → xfl' (t * 4 + j) = x_thingFields (t * 4 + j))
    (ey : ∀ k, k ≠ kk → so' k = y_sort k ∧ nu' k = y_number k ∧ st' k = y_stands k ∧ kp' k = y_keeps k ∧ ∀ j, j < 4 → ce' (4 * k + j) = y_cells (4 * k + j))
    (hn : hp_T cc mc' T y_kind lv (fun k => (k < 32 ∧ cl_r (gy_R y_globals y_operands (bs d) y_work w) (gy_E y_sort y_keeps y_cells y_within y_self y_args y_temps y_param) k) ∨ k = kk) (fun a => cl_r (gy_R y_globals y_operands (bs d) y_work w) (gy_E y_sort y_keeps y_cells y_within y_self y_args y_temps y_param) (32 + a)) (fun k => if k = kk then tt else τ k) σ lev xsh' xcl' xfl' xtk' xmr' so' nu' st' kp' ce' kk)
    (U' : hp_U mc' xsh') (Y' : hp_Y ce' y_self y_args y_temps y_param kp' y_within) (X' : hp_X xmr' x_within) :
    rn_A cc bc dc mc' T (fun k => (k < 32 ∧ cl_r (gy_R y_globals y_operands (bs d) y_work w) (gy_E y_sort y_keeps y_cells y_within y_self y_args y_temps y_param) k) ∨ k = kk) (fun a => cl_r (gy_R y_globals y_operands (bs d) y_work w) (gy_E y_sort y_keeps y_cells y_within y_self y_args y_temps y_param) (32 + a)) lv (fun k => if k = kk then tt else τ k) σ lev ho x_tokenKind x_tokenValue y_kind y_word y_size y_parent y_fields y_bound x_globals y_globals xsh' xcl' xfl' xtk' xmr' x_variables x_homeOf x_within x_foundIn so' nu' st' kp' ce' y_within y_foundIn y_self y_args y_temps y_param ∧
    rn_F T (fun k => (k < 32 ∧ cl_r (gy_R y_globals y_operands (bs d) y_work w) (gy_E y_sort y_keeps y_cells y_within y_self y_args y_temps y_param) k) ∨ k = kk) (fun a => cl_r (gy_R y_globals y_operands (bs d) y_work w) (gy_E y_sort y_keeps y_cells y_within y_self y_args y_temps y_param) (32 + a)) lv σ lev ho y_kind y_word fa ph bs ow gg wk un rt d w so' nu' x_frameToken x_frameStage x_frameLink x_operands x_baseFrame y_operands y_self y_at y_in y_phase y_base y_goal y_work y_under y_live := by
  obtain ⟨P1, P2⟩ := rn_roots A F
  have H1 := hp_shrink A.2.2.1 (fun n cn => (P1 n cn).1)
  obtain ⟨H2, sh, val⟩ := hp_new H1 hm (fun z => hk z.2) (fun k z e => ht (by
    have q := (P1 k z.2).2
    rw [hp_f1 z.1, e] at q
    exact q)) ex ey hn
  have conv : ∀ {x y : Int64}, hp_v ST (hp_s y_sort y_number) x y → (∀ k, vv_T y k → cl_r (gy_R y_globals y_operands (bs d) y_work w) (gy_E y_sort y_keeps y_cells y_within y_self y_args y_temps y_param) k) → hp_v (fun k => (k < 32 ∧ cl_r (gy_R y_globals y_operands (bs d) y_work w) (gy_E y_sort y_keeps y_cells y_within y_self y_args y_temps y_param) k) ∨ k = kk) (hp_s so' nu') x y := fun h q => val (hp_v_to h fun k _ hT => ⟨⟨hT.1, q k hT⟩, rfl⟩)
  have wroot : ∀ i, i < w → cl_r (gy_R y_globals y_operands (bs d) y_work w) (gy_E y_sort y_keeps y_cells y_within y_self y_args y_temps y_param) (32 + wk i) := fun i hi => cl_root (Or.inr (Or.inr ⟨i, wk i, hi, (A.2.2.1.2.1 _ (F.2.2.2.1 i hi).1).1, (F.2.1.2 i hi).1, rfl⟩))
  refine ⟨⟨A.1, fun i hi => conv (A.2.1 i hi) fun k hT => cl_root (Or.inl ⟨i, hi, hT⟩), H2, U', Y', X'⟩, F.1, F.2.1, ⟨F.2.2.1.1, fun p hp nt => ?_⟩, ⟨fun i hi => ⟨wroot i hi, (F.2.2.2.1 i hi).2⟩, F.2.2.2.2⟩⟩
  refine fr_XFc (F.2.2.1.2 p hp nt) ⟨rfl, rfl⟩ ⟨rfl, rfl, rfl⟩ ⟨rfl, fun _ _ => rfl⟩ ⟨rfl, rfl, rfl, fun _ _ => rfl⟩ (fun x j j1 j2 h => conv h fun k hT => cl_root (Or.inr (Or.inl ⟨j, ?_, hT⟩))) (fun x h => conv h fun k hT => ?_)
  · have := fr_bsm F.1 hp (Nat.le_refl d)
    omega
  · have hw := (F.1.2.2.2.2.1 p hp).2.1
    have sa := (F.2.2.2.1 _ hw).1
    have c := hp_home A.2.2.1 (lev (wk (ow p))) (wk (ow p)) (Nat.le_refl _) sa (wroot _ hw)
    exact cl_step c (Or.inr (Or.inr (Or.inl ⟨ho (wk (ow p)), rfl, by rw [(A.2.2.1.2.1 _ sa).2.2.2.2.2.1]; decide, Or.inl hT⟩)))
theorem ev_H1 (A : rn_A cc bc dc mc T ST SA lv τ σ lev ho x_tokenKind x_tokenValue y_kind y_word y_size y_parent y_fields y_bound x_globals y_globals x_thingShown x_thingClass x_thingFields x_thingToken x_thingMaker x_variables x_homeOf x_within x_foundIn y_sort y_number y_stands y_keeps y_cells y_within y_foundIn y_self y_args y_temps y_param) (F : rn_F T ST SA lv σ lev ho y_kind y_word fa ph bs ow gg wk un rt d w y_sort y_number x_frameToken x_frameStage x_frameLink x_operands x_baseFrame y_operands y_self y_at y_in y_phase y_base y_goal y_work y_under y_live) {t : Nat} (tt : T t) (lt : fr_lt y_kind (tk_nd y_kind y_word) fa ph rt d t (w - 1)) {xv yv : Int64} (hv : hp_v ST (hp_s y_sort y_number) xv yv) (n1 : st ≤ 200) (n2 : sp < 2 ^ 30 - (rn_mu (tk_nd y_kind y_word) fa un rt st d w t 0)) (n3 : rn_mu (tk_nd y_kind y_word) fa un rt st d w t 0 < M + 1) (n4 : mc + (rn_mu (tk_nd y_kind y_word) fa un rt st d w t 0) ≤ B + 1) {e' : Nat} (ee : ex_e (tk_nd y_kind y_word) t = e') :
    rn_St B M (nI cc, nI bc, nI dc, y_fault, nI mc, nI (fr_x y_kind fa ph d), nI (σ (wk (w - 1))), nI e', xv, 1, 100, nI st, nI w, y_peak, nI sp, x_pendingCount, y_parent, y_fields, y_bound, x_tokenKind, x_tokenValue, x_globals, x_thingShown, x_thingClass, x_thingFields, x_thingToken, x_thingMaker, x_variables, x_homeOf, x_within, x_foundIn, x_baseFrame, x_frameToken, x_frameStage, x_frameLink, x_operands, y_heard, x_marked, x_pending) (nI cc, nI bc, y_fault, nI mc, nI w, y_peak, nI st, nI d, nI (bs d), y_code, 1, 1, yv, y_todos, y_marks, -10000000000, nI sp, y_parent, y_fields, y_bound, y_kind, y_word, y_size, y_sort, y_number, y_stands, y_keeps, y_cells, y_globals, y_within, y_foundIn, y_self, y_args, y_temps, y_param, y_live, y_work, y_under, y_at, y_in, y_phase, y_base, y_goal, y_operands, y_marked, y_todo, y_heard) := by
  subst ee
  obtain ⟨e1, e2, _⟩ := rn_le A F tt lt
  refine ⟨cc, bc, dc, mc, st, sp, d, w, ex_e (tk_nd y_kind y_word) t, 2, T, ST, SA, lv, τ, σ, lev, ho, fa, ph, bs, ow, gg, wk, un, rt, ⟨rfl, rfl, rfl, rfl, rfl, rfl, rfl, rfl, rfl, rfl, rfl, rfl, rfl, rfl, rfl, rfl, rfl⟩, ⟨rfl, rfl, rfl, rfl, rfl, rfl, rfl, rfl, rfl, rfl⟩, A, F, Or.inl ⟨rfl, rfl, rfl, hv, t, lt, tt, rfl⟩, n1, ?_⟩
  unfold rn_mu at n2 n3 n4 ⊢
  omega
theorem rn_fcl (A : rn_A cc bc dc mc T ST SA lv τ σ lev ho x_tokenKind x_tokenValue y_kind y_word y_size y_parent y_fields y_bound x_globals y_globals x_thingShown x_thingClass x_thingFields x_thingToken x_thingMaker x_variables x_homeOf x_within x_foundIn y_sort y_number y_stands y_keeps y_cells y_within y_foundIn y_self y_args y_temps y_param) (F : rn_F T ST SA lv σ lev ho y_kind y_word fa ph bs ow gg wk un rt d w y_sort y_number x_frameToken x_frameStage x_frameLink x_operands x_baseFrame y_operands y_self y_at y_in y_phase y_base y_goal y_work y_under y_live) {t : Nat} (tt : T t) (lt : fr_lt y_kind (tk_nd y_kind y_word) fa ph rt d t (w - 1)) : fr_x y_kind fa ph d * 3 ≤ 1152 ∧ bs d ≤ 500 := by
  obtain ⟨_, _, d3, d4⟩ := rn_le A F tt lt
  have := (fr_xle (K := y_kind) (fa := fa) (ph := ph) d).1
  omega
theorem rn_opV (A : rn_A cc bc dc mc T ST SA lv τ σ lev ho x_tokenKind x_tokenValue y_kind y_word y_size y_parent y_fields y_bound x_globals y_globals x_thingShown x_thingClass x_thingFields x_thingToken x_thingMaker x_variables x_homeOf x_within x_foundIn y_sort y_number y_stands y_keeps y_cells y_within y_foundIn y_self y_args y_temps y_param) (F : rn_F T ST SA lv σ lev ho y_kind y_word fa ph bs ow gg wk un rt d w y_sort y_number x_frameToken x_frameStage x_frameLink x_operands x_baseFrame y_operands y_self y_at y_in y_phase y_base y_goal y_work y_under y_live) {j : Nat} (hj : j < bs d) : vv_V (y_operands j) := by
  obtain ⟨q, q1, q2, q3⟩ := fr_find F.1 d (Nat.le_refl _) hj
  have nt : ¬ fr_tail (y_kind (fa q)) (ph q) := fun z => by rw [fr_c0 z] at q3; omega
  have nz : ph q ≠ 100 := fun z => by
    have : fr_c (y_kind (fa q)) (ph q) = 0 := by unfold fr_c; rw [if_pos z]
    omega
  obtain ⟨_, _, _, fo⟩ := (F.2.2.1.2 q q1 nt).2 nz
  have Fq := F.1.2.2.2.2.1 q q1
  have cs := fr_cs Fq.2.2.2.2.1 ((rn_TF A) _ Fq.1).2.1 (rn_11 A Fq.1)
  have f2 := (fo (fr_s (y_kind (fa q)) + (j - bs q)) (by omega)).2.1 (by omega) (by omega)
  rw [show bs q + (fr_s (y_kind (fa q)) + (j - bs q) - fr_s (y_kind (fa q))) = j by omega] at f2
  exact hp_v_V f2
theorem hp_Ymake {kk : Nat} {kp' : Nat → Int32} (Y : hp_Y y_cells y_self y_args y_temps y_param y_keeps y_within) (hk : ∀ k, k < 32 → ∃ a, a < 160 ∧ kp' k = nI a) : hp_Y (mk_c y_cells (4 * kk) 4 4294967296) y_self y_args y_temps y_param kp' y_within := by
  obtain ⟨y1, y2, y3, y4, y5, y6, y7⟩ := Y
  refine ⟨fun i hi => ?_, y2, y3, y4, y5, hk, y7⟩
  by_cases z : 4 * kk ≤ i ∧ i < 4 * kk + 4
  · rw [mk_ci z.1 z.2]
    exact ⟨.inr none, fun l e => (by cases e), rfl⟩
  · rw [mk_co (by omega)]
    exact y1 i hi
theorem ev_new (A : rn_A cc bc dc mc T ST SA lv τ σ lev ho x_tokenKind x_tokenValue y_kind y_word y_size y_parent y_fields y_bound x_globals y_globals x_thingShown x_thingClass x_thingFields x_thingToken x_thingMaker x_variables x_homeOf x_within x_foundIn y_sort y_number y_stands y_keeps y_cells y_within y_foundIn y_self y_args y_temps y_param) (F : rn_F T ST SA lv σ lev ho y_kind y_word fa ph bs ow gg wk un rt d w y_sort y_number x_frameToken x_frameStage x_frameLink x_operands x_baseFrame y_operands y_self y_at y_in y_phase y_base y_goal y_work y_under y_live) {t : Nat} (tt : T t) (lt : fr_lt y_kind (tk_nd y_kind y_word) fa ph rt d t (w - 1)) (n : rn_n B (M + 1) mc st sp (rn_mu (tk_nd y_kind y_word) fa un rt st d w t 0)) (hB : B < 2 ^ 30) (ek : y_kind t = 25) :
    rn_Ev B M (nI cc, nI bc, nI dc, y_fault, nI mc, nI (fr_x y_kind fa ph d), nI (σ (wk (w - 1))), nI t, x_inHand, 0, 100, nI st, nI w, y_peak, nI sp, x_pendingCount, y_parent, y_fields, y_bound, x_tokenKind, x_tokenValue, x_globals, x_thingShown, x_thingClass, x_thingFields, x_thingToken, x_thingMaker, x_variables, x_homeOf, x_within, x_foundIn, x_baseFrame, x_frameToken, x_frameStage, x_frameLink, x_operands, y_heard, x_marked, x_pending) (nI cc, nI bc, y_fault, nI mc, nI w, y_peak, nI st, nI d, nI (bs d), y_code, 1, 0, y_got, y_todos, y_marks, -10000000000, nI sp, y_parent, y_fields, y_bound, y_kind, y_word, y_size, y_sort, y_number, y_stands, y_keeps, y_cells, y_globals, y_within, y_foundIn, y_self, y_args, y_temps, y_param, y_live, y_work, y_under, y_at, y_in, y_phase, y_base, y_goal, y_operands, y_marked, y_todo, y_heard) t (wk (w - 1)) := by
  obtain ⟨c1, c2, c3, c4, c5, c6, c7, _, v0, v1, v2⟩ := rn_cur A F
  obtain ⟨b12, t1, t2, _⟩ := A.1.2.2.1
  obtain ⟨l1, x1, x2, ok, fit⟩ := t1 t tt
  obtain ⟨fcl, wtl⟩ := rn_fcl A F tt lt
  have tc : (nI t).toNatClampNeg = t := nI_clamp (by omega)
  have vt : vp_in (nI t) 416 := vp_in_nI (by omega) (by decide)
  have U := A.2.2.2.1
  have Yv := A.2.2.2.2.1
  have Xv := A.2.2.2.2.2
  have H := A.2.2.1
  have cc10 := A.1.1.2.1
  have cc4 := A.1.1.1
  obtain ⟨P1, P2⟩ := rn_roots A F
  have cnt := hp_count H P1 P2
  have mcl := U.1
  have w12 := F.1.2.1
  have w1 := F.1.1
  obtain ⟨n1, n2, n3, n4⟩ := n
  have mu1 : 1 ≤ rn_mu (tk_nd y_kind y_word) fa un rt st d w t 0 := by
    obtain ⟨q1, q2, _⟩ := rn_le A F tt lt
    unfold rn_mu
    omega
  obtain ⟨c, hc, ec, hc2⟩ := fit.2.2.1 ek
  have cs3 : ¬ nI c = 3 := fun z => by have := (nI_eq (b := 3) (by omega) (by decide)).mp z; omega
  have n0 : tk_need (y_kind t) (y_word t) = 0 := by rw [ek]; rfl
  have ee : ex_e (tk_nd y_kind y_word) t = t + 1 := by
    obtain ⟨m, m1, _⟩ := t2 t tt
    have h1 := ex_hd m1
    rw [show tk_nd y_kind y_word t = 0 from n0] at h1
    have := ex_0 h1
    have := ex_pos m1
    rw [ex_eq m1]; omega
  have goY : ∀ Q : SY → Prop, (∀ k : Int32, k = y_kind t → _) → wpY_evaluate Q (nI cc, nI bc, y_fault, nI mc, nI w, y_peak, nI st, nI d, nI (bs d), y_code, 1, 0, y_got, y_todos, y_marks, -10000000000, nI sp, y_parent, y_fields, y_bound, y_kind, y_word, y_size, y_sort, y_number, y_stands, y_keeps, y_cells, y_globals, y_within, y_foundIn, y_self, y_args, y_temps, y_param, y_live, y_work, y_under, y_at, y_in, y_phase, y_base, y_goal, y_operands, y_marked, y_todo, y_heard) (nI t) (nI (wk (w - 1))) := fun Q h => by
    have vt : vp_in (nI t) 416 := vp_in_nI (by omega) (by decide)
    unfold wpY_evaluate
    dsimp only
    rw [nI_clamp (show t < 2 ^ 31 by omega)]
    exact ⟨vt, nm_e (yw_home A.2.2.1 (rn_cur A F).1 ⟨vt, h⟩)⟩
  have goX : ∀ Q : SX → Prop, wpX_makeObject (fun u => match u with | (x_classCount, x_bodyCount, x_draftCount, x_wrongPlace, x_madeCount, x_frameCount, x_current, x_next, x_inHand, x_mode, x_outcome, x_stepCount, x_atWork, x_mostAtWork, x_saidCount, x_pendingCount, x_classParent, x_classFields, x_bound, x_tokenKind, x_tokenValue, x_globals, x_thingShown, x_thingClass, x_thingFields, x_thingToken, x_thingMaker, x_variables, x_homeOf, x_within, x_foundIn, x_baseFrame, x_frameToken, x_frameStage, x_frameLink, x_operands, x_saidValues, x_marked, x_pending) => wX_readToken_100 Q (nI t) 25 x_classCount x_bodyCount x_draftCount x_wrongPlace x_madeCount x_frameCount x_current x_next x_inHand x_mode x_outcome x_stepCount x_atWork x_mostAtWork x_saidCount x_pendingCount x_classParent x_classFields x_bound x_tokenKind x_tokenValue x_globals x_thingShown x_thingClass x_thingFields x_thingToken x_thingMaker x_variables x_homeOf x_within x_foundIn x_baseFrame x_frameToken x_frameStage x_frameLink x_operands x_saidValues x_marked x_pending) (nI cc, nI bc, nI dc, y_fault, nI mc, nI (fr_x y_kind fa ph d), nI (σ (wk (w - 1))), nI t, x_inHand, 1, 100, nI st, nI w, y_peak, nI sp, x_pendingCount, y_parent, y_fields, y_bound, x_tokenKind, x_tokenValue, x_globals, x_thingShown, x_thingClass, x_thingFields, x_thingToken, x_thingMaker, x_variables, x_homeOf, x_within, x_foundIn, x_baseFrame, x_frameToken, x_frameStage, x_frameLink, x_operands, y_heard, x_marked, x_pending) (nI c) → wpX_readToken Q (nI cc, nI bc, nI dc, y_fault, nI mc, nI (fr_x y_kind fa ph d), nI (σ (wk (w - 1))), nI t, x_inHand, 0, 100, nI st, nI w, y_peak, nI sp, x_pendingCount, y_parent, y_fields, y_bound, x_tokenKind, x_tokenValue, x_globals, x_thingShown, x_thingClass, x_thingFields, x_thingToken, x_thingMaker, x_variables, x_homeOf, x_within, x_foundIn, x_baseFrame, x_frameToken, x_frameStage, x_frameLink, x_operands, y_heard, x_marked, x_pending) := fun Q h => by
    unfold wpX_readToken
    dsimp only
    rw [tc, x1, x2, ek, ec]
    rw [ek, ec] at ok
    exact ⟨vt, nm_e ⟨vt, nm_e (xw_needs ok (br_f (by decide) (br_t rfl h)))⟩⟩
  have goY2 : ∀ Q : SY → Prop, wpY_make (fun r u => match u with | (y_classes, y_bodies, y_fault, y_made, y_working, y_peak, y_steps, y_depth, y_waiting, y_code, y_running, y_has, y_got, y_todos, y_marks, y_shown, y_spoken, y_parent, y_fields, y_bound, y_kind, y_word, y_size, y_sort, y_number, y_stands, y_keeps, y_cells, y_globals, y_within, y_foundIn, y_self, y_args, y_temps, y_param, y_live, y_work, y_under, y_at, y_in, y_phase, y_base, y_goal, y_operands, y_marked, y_todo, y_heard) => ((0 ≤ r → vp_in r 32 ∧ ∀ a1 : Nat → Int32, a1 = upd y_stands r.toNatClampNeg (nI t) → vp_in r 32 ∧ ∀ a2 : Nat → Int32, a2 = upd y_keeps r.toNatClampNeg (nI (wk (w - 1))) → Q (y_classes, y_bodies, y_fault, y_made, y_working, y_peak, y_steps, y_depth, y_waiting, y_code, y_running, 1, 8589934592 + r.toInt64, y_todos, y_marks, y_shown, y_spoken, y_parent, y_fields, y_bound, y_kind, y_word, y_size, y_sort, y_number, a1, a2, y_cells, y_globals, y_within, y_foundIn, y_self, y_args, y_temps, y_param, y_live, y_work, y_under, y_at, y_in, y_phase, y_base, y_goal, y_operands, y_marked, y_todo, y_heard)) ∧ (¬ 0 ≤ r → Q (y_classes, y_bodies, y_fault, y_made, y_working, y_peak, y_steps, y_depth, y_waiting, 6, 0, y_has, y_got, y_todos, y_marks, y_shown, y_spoken, y_parent, y_fields, y_bound, y_kind, y_word, y_size, y_sort, y_number, y_stands, y_keeps, y_cells, y_globals, y_within, y_foundIn, y_self, y_args, y_temps, y_param, y_live, y_work, y_under, y_at, y_in, y_phase, y_base, y_goal, y_operands, y_marked, y_todo, y_heard)))) (nI cc, nI bc, y_fault, nI mc, nI w, y_peak, nI st, nI d, nI (bs d), y_code, 1, 0, y_got, y_todos, y_marks, -10000000000, nI sp, y_parent, y_fields, y_bound, y_kind, y_word, y_size, y_sort, y_number, y_stands, y_keeps, y_cells, y_globals, y_within, y_foundIn, y_self, y_args, y_temps, y_param, y_live, y_work, y_under, y_at, y_in, y_phase, y_base, y_goal, y_operands, y_marked, y_todo, y_heard) (nI c) → wpY_evaluate Q (nI cc, nI bc, y_fault, nI mc, nI w, y_peak, nI st, nI d, nI (bs d), y_code, 1, 0, y_got, y_todos, y_marks, -10000000000, nI sp, y_parent, y_fields, y_bound, y_kind, y_word, y_size, y_sort, y_number, y_stands, y_keeps, y_cells, y_globals, y_within, y_foundIn, y_self, y_args, y_temps, y_param, y_live, y_work, y_under, y_at, y_in, y_phase, y_base, y_goal, y_operands, y_marked, y_todo, y_heard) (nI t) (nI (wk (w - 1))) := fun Q h => by
    refine goY Q (nm_r ek ?_)
    iterate 27 refine br_f (by decide) ?_
    refine br_t rfl ?_
    unfold wY_evaluate_285 wpY_produce
    dsimp only
    rw [tc]
    refine ⟨vt, br_t ek ⟨vt, ?_⟩⟩
    rw [ec]
    exact h
  have hop : ∀ j, j < bs d → vv_V (y_operands j) := fun j hj => rn_opV A F hj
  have hwo : ∀ i, i < w → ∃ a, a < 160 ∧ y_work i = nI a := fun i hi => ⟨wk i, (H.2.1 _ (F.2.2.2.1 i hi).1).1, (F.2.1.2 i hi).1⟩
  have hgl : ∀ i, i < 4 → vv_V (y_globals i) := fun i hi => hp_v_V (A.2.1 i hi)
  obtain ⟨mk, td, tq, mi, DX⟩ := xd_make (x_classCount := nI cc) (x_bodyCount := nI bc) (x_draftCount := nI dc) (x_wrongPlace := y_fault) (x_madeCount := nI mc) (x_frameCount := nI (fr_x y_kind fa ph d)) (x_current := nI (σ (wk (w - 1)))) (x_next := nI t) (x_inHand := x_inHand) (x_mode := 1) (x_outcome := 100) (x_stepCount := nI st) (x_atWork := nI w) (x_mostAtWork := y_peak) (x_saidCount := nI sp) (x_pendingCount := x_pendingCount) (x_classParent := y_parent) (x_classFields := y_fields) (x_bound := y_bound) (x_tokenKind := x_tokenKind) (x_tokenValue := x_tokenValue) (x_globals := x_globals) (x_thingShown := x_thingShown) (x_thingClass := x_thingClass) (x_thingFields := x_thingFields) (x_thingToken := x_thingToken) (x_thingMaker := x_thingMaker) (x_variables := x_variables) (x_homeOf := x_homeOf) (x_within := x_within) (x_foundIn := x_foundIn) (x_baseFrame := x_baseFrame) (x_frameToken := x_frameToken) (x_frameStage := x_frameStage) (x_frameLink := x_frameLink) (x_operands := x_operands) (x_saidValues := y_heard) (x_marked := x_marked) (x_pending := x_pending) (p0 := 20000000000) (c := nI c) (fc := fr_x y_kind fa ph d) rfl fcl Xv.1 Xv.2
  obtain ⟨mk', td', mi', DY⟩ := yd_make (y_classes := nI cc) (y_bodies := nI bc) (y_fault := y_fault) (y_made := nI mc) (y_working := nI w) (y_peak := y_peak) (y_steps := nI st) (y_depth := nI d) (y_waiting := nI (bs d)) (y_code := y_code) (y_running := 1) (y_has := 0) (y_got := y_got) (y_todos := y_todos) (y_marks := y_marks) (y_shown := -10000000000) (y_spoken := nI sp) (y_parent := y_parent) (y_fields := y_fields) (y_bound := y_bound) (y_kind := y_kind) (y_word := y_word) (y_size := y_size) (y_sort := y_sort) (y_number := y_number) (y_stands := y_stands) (y_keeps := y_keeps) (y_cells := y_cells) (y_globals := y_globals) (y_within := y_within) (y_foundIn := y_foundIn) (y_self := y_self) (y_args := y_args) (y_temps := y_temps) (y_param := y_param) (y_live := y_live) (y_work := y_work) (y_under := y_under) (y_at := y_at) (y_in := y_in) (y_phase := y_phase) (y_base := y_base) (y_goal := y_goal) (y_operands := y_operands) (y_marked := y_marked) (y_todo := y_todo) (y_heard := y_heard) (c := nI c) (wt := bs d) (wk := w) rfl wtl rfl w12 hgl hop hwo Yv
  have e1 := ct_eq (N := 24) (fun n (hn : n < 24) => mi n (by omega))
  have e2 := ct_eq (N := 32) (fun n (hn : n < 32) => mi' n (by omega))
  rcases DX with ⟨qx, hX⟩ | ⟨qx, ttt, t1x, t2x, hX⟩
  · rcases DY with ⟨qy, hY⟩ | ⟨qy, _⟩
    · refine ⟨(nI cc, nI bc, nI dc, y_fault, nI mc, nI (fr_x y_kind fa ph d), nI (σ (wk (w - 1))), nI (t + 1), x_inHand, 1, 6, nI st, nI w, y_peak, nI sp, nI tq, y_parent, y_fields, y_bound, x_tokenKind, x_tokenValue, x_globals, x_thingShown, x_thingClass, x_thingFields, x_thingToken, x_thingMaker, x_variables, x_homeOf, x_within, x_foundIn, x_baseFrame, x_frameToken, x_frameStage, x_frameLink, x_operands, y_heard, mk, td), (nI cc, nI bc, y_fault, nI mc, nI w, y_peak, nI st, nI d, nI (bs d), 6, 0, 0, y_got, nI 0, nI (ct_n (fun k => mk' k = 1) 32), -10000000000, nI sp, y_parent, y_fields, y_bound, y_kind, y_word, y_size, y_sort, y_number, y_stands, y_keeps, y_cells, y_globals, y_within, y_foundIn, y_self, y_args, y_temps, y_param, y_live, y_work, y_under, y_at, y_in, y_phase, y_base, y_goal, y_operands, mk', td', y_heard), fun Q q => goX Q (hX _ (br_t rfl (br_f (by decide) (nm_r (nI_1 t) q)))), fun Q q => goY2 Q (hY _ (br_f (by decide) q)), Or.inl (rn_stop A F (by decide) (by decide) (by omega))⟩
    · omega
  · rcases DY with ⟨qy, _⟩ | ⟨qy, kk, k1y, k2y, hY⟩
    · omega
    · have tcx : (nI ttt).toNatClampNeg = ttt := nI_clamp (by omega)
      have kcy : (nI kk).toNatClampNeg = kk := nI_clamp (by omega)
      have nck : ¬ cl_r (gy_R y_globals y_operands (bs d) y_work w) (gy_E y_sort y_keeps y_cells y_within y_self y_args y_temps y_param) kk := fun z => k2y ((mi' kk (by omega)).mpr z)
      have ncx : ¬ cl_r (gx_R x_thingShown x_globals x_operands (fr_x y_kind fa ph d) x_baseFrame) (gx_E x_thingShown x_thingFields x_thingMaker x_variables x_within) ttt := fun z => t2x ((mi ttt (by omega)).mpr z)
      have eL : (20000000000 : Int64) + (nI mc).toInt64 = lN (20000000000 + mc) := by rw [nI_l (by omega), show (20000000000 : Int64) = lN 20000000000 by decide, lN_add]
      have eG : (8589934592 : Int64) + (nI kk).toInt64 = lN (8589934592 + kk) := by rw [nI_l (by omega), show (8589934592 : Int64) = lN 8589934592 by decide, lN_add]
      rw [eL, nI_1] at hX
      rw [nI_1] at hY
      have HS : hp_s (upd y_sort kk (nI c)) (upd y_number kk (nI mc)) kk = lN (20000000000 + mc) := by
        unfold hp_s
        rw [pk_us, if_neg cs3, pk_us, nI_clamp (by omega)]
      obtain ⟨A', F'⟩ := rn_made (kk := kk) (tt := ttt) (mc' := mc + 1) (xsh' := vp_updL x_thingShown ttt (lN (20000000000 + mc))) (xfl' := mk_c x_thingFields (ttt * 4) 4 10000000000) (ce' := mk_c y_cells (4 * kk) 4 4294967296) (xcl' := upd x_thingClass ttt (nI c)) (xtk' := x_thingToken) (xmr' := upd x_thingMaker ttt (-1)) (so' := upd y_sort kk (nI c)) (nu' := upd y_number kk (nI mc)) (st' := upd y_stands kk (nI t)) (kp' := upd y_keeps kk (nI (wk (w - 1)))) A F (by omega) nck ncx
        (fun t ht => ⟨pk_uLn ht, pk_un ht, rfl, pk_un ht, fun i hi => mk_co (by omega)⟩)
        (fun k' hk' => ⟨pk_un hk', pk_un hk', pk_un hk', pk_un hk', fun i hi => mk_co (by omega)⟩) (by
          have ht : (if kk = kk then ttt else τ kk) = ttt := if_pos rfl
          unfold hp_T
          dsimp only
          rw [ht, HS, pk_us, pk_us, pk_us, pk_us, pk_us, pk_uLs, pk_us]
          refine ⟨k1y, t1x, ⟨c, hc, rfl⟩, ⟨mc, by omega, rfl⟩, rfl, rfl, fun z => absurd z cs3, fun _ => ⟨rfl, fun i hi => ?_⟩⟩
          rw [mk_ci (by omega) (by omega), mk_ci (by omega) (by omega)]
          exact ⟨.inr none, fun l e => (by cases e), rfl, rfl⟩)
        (hp_newU U (Or.inl rfl) (by omega))
        (hp_Ymake Yv fun k' hk' => by
          by_cases z : k' = kk
          · subst z; rw [pk_us]; exact ⟨_, c2, rfl⟩
          · rw [pk_un z]; exact Yv.2.2.2.2.2.1 k' hk')
        ⟨fun t' ht' => by
          by_cases z : t' = ttt
          · subst z; rw [pk_us]; exact Or.inl rfl
          · rw [pk_un z]; exact Xv.1 t' ht', Xv.2⟩
      have hv : hp_v (fun k => (k < 32 ∧ cl_r (gy_R y_globals y_operands (bs d) y_work w) (gy_E y_sort y_keeps y_cells y_within y_self y_args y_temps y_param) k) ∨ k = kk) (hp_s (upd y_sort kk (nI c)) (upd y_number kk (nI mc))) (lN (20000000000 + mc)) (lN (8589934592 + kk)) := ⟨.inr (some kk), fun l e => by cases e; exact ⟨k1y, Or.inr rfl⟩, HS.symm, rfl⟩
      refine ⟨(nI cc, nI bc, nI dc, y_fault, nI (mc + 1), nI (fr_x y_kind fa ph d), nI (σ (wk (w - 1))), nI (t + 1), lN (20000000000 + mc), 1, 100, nI st, nI w, y_peak, nI sp, nI tq, y_parent, y_fields, y_bound, x_tokenKind, x_tokenValue, x_globals, vp_updL x_thingShown ttt (lN (20000000000 + mc)), upd x_thingClass ttt (nI c), mk_c x_thingFields (ttt * 4) 4 10000000000, x_thingToken, upd x_thingMaker ttt (-1), x_variables, x_homeOf, x_within, x_foundIn, x_baseFrame, x_frameToken, x_frameStage, x_frameLink, x_operands, y_heard, mk, td), (nI cc, nI bc, y_fault, nI (mc + 1), nI w, y_peak, nI st, nI d, nI (bs d), y_code, 1, 1, lN (8589934592 + kk), nI 0, nI (ct_n (fun k => mk' k = 1) 32), -10000000000, nI sp, y_parent, y_fields, y_bound, y_kind, y_word, y_size, upd y_sort kk (nI c), upd y_number kk (nI mc), upd y_stands kk (nI t), upd y_keeps kk (nI (wk (w - 1))), mk_c y_cells (4 * kk) 4 4294967296, y_globals, y_within, y_foundIn, y_self, y_args, y_temps, y_param, y_live, y_work, y_under, y_at, y_in, y_phase, y_base, y_goal, y_operands, mk', td', y_heard), fun Q q => goX Q (hX _ (br_f (gx_m1 (by omega)) ?_)), fun Q q => goY2 Q (hY _ (br_t (nI_pos' (by omega)) ?_)), Or.inr (ev_H1 A' F' tt lt hv n1 n2 n3 (by omega) ee)⟩
      · rw [tcx, pk_uLs]
        exact ⟨vp_in_nI t1x (by decide), nm_e (br_f (by decide) (nm_r (nI_1 t) q))⟩
      · rw [kcy, eG]
        exact ⟨vp_in_nI k1y (by decide), nm_e ⟨vp_in_nI k1y (by decide), nm_e q⟩⟩
theorem ev_blk (A : rn_A cc bc dc mc T ST SA lv τ σ lev ho x_tokenKind x_tokenValue y_kind y_word y_size y_parent y_fields y_bound x_globals y_globals x_thingShown x_thingClass x_thingFields x_thingToken x_thingMaker x_variables x_homeOf x_within x_foundIn y_sort y_number y_stands y_keeps y_cells y_within y_foundIn y_self y_args y_temps y_param) (F : rn_F T ST SA lv σ lev ho y_kind y_word fa ph bs ow gg wk un rt d w y_sort y_number x_frameToken x_frameStage x_frameLink x_operands x_baseFrame y_operands y_self y_at y_in y_phase y_base y_goal y_work y_under y_live) {t : Nat} (tt : T t) (lt : fr_lt y_kind (tk_nd y_kind y_word) fa ph rt d t (w - 1)) (n : rn_n B (M + 1) mc st sp (rn_mu (tk_nd y_kind y_word) fa un rt st d w t 0)) (hB : B < 2 ^ 30) (ek : y_kind t = 12) :
    rn_Ev B M (nI cc, nI bc, nI dc, y_fault, nI mc, nI (fr_x y_kind fa ph d), nI (σ (wk (w - 1))), nI t, x_inHand, 0, 100, nI st, nI w, y_peak, nI sp, x_pendingCount, y_parent, y_fields, y_bound, x_tokenKind, x_tokenValue, x_globals, x_thingShown, x_thingClass, x_thingFields, x_thingToken, x_thingMaker, x_variables, x_homeOf, x_within, x_foundIn, x_baseFrame, x_frameToken, x_frameStage, x_frameLink, x_operands, y_heard, x_marked, x_pending) (nI cc, nI bc, y_fault, nI mc, nI w, y_peak, nI st, nI d, nI (bs d), y_code, 1, 0, y_got, y_todos, y_marks, -10000000000, nI sp, y_parent, y_fields, y_bound, y_kind, y_word, y_size, y_sort, y_number, y_stands, y_keeps, y_cells, y_globals, y_within, y_foundIn, y_self, y_args, y_temps, y_param, y_live, y_work, y_under, y_at, y_in, y_phase, y_base, y_goal, y_operands, y_marked, y_todo, y_heard) t (wk (w - 1)) := by
  obtain ⟨c1, c2, c3, c4, c5, c6, c7, _, v0, v1, v2⟩ := rn_cur A F
  obtain ⟨b12, t1, t2, _⟩ := A.1.2.2.1
  obtain ⟨l1, x1, x2, ok, fit⟩ := t1 t tt
  obtain ⟨fcl, wtl⟩ := rn_fcl A F tt lt
  have tc : (nI t).toNatClampNeg = t := nI_clamp (by omega)
  have vt : vp_in (nI t) 416 := vp_in_nI (by omega) (by decide)
  have U := A.2.2.2.1
  have Yv := A.2.2.2.2.1
  have Xv := A.2.2.2.2.2
  have H := A.2.2.1
  have cc10 := A.1.1.2.1
  have cc4 := A.1.1.1
  obtain ⟨P1, P2⟩ := rn_roots A F
  have cnt := hp_count H P1 P2
  have mcl := U.1
  have w12 := F.1.2.1
  have w1 := F.1.1
  obtain ⟨n1, n2, n3, n4⟩ := n
  have mu1 : 1 ≤ rn_mu (tk_nd y_kind y_word) fa un rt st d w t 0 := by
    obtain ⟨q1, q2, _⟩ := rn_le A F tt lt
    unfold rn_mu
    omega
  have lvt := fr_lv A F d (Nat.le_refl _) t (w - 1) (fun _ => rfl) (fun z => by omega) F.1.2.2.2.2.2.1 lt
  have lw := (F.2.2.2.1 (w - 1) (by omega)).2.1
  obtain ⟨m, m1, m2, m3⟩ := t2 t tt
  have ee : ex_e (tk_nd y_kind y_word) t = t + m := ex_eq m1
  have goY : ∀ Q : SY → Prop, (∀ k : Int32, k = y_kind t → _) → wpY_evaluate Q (nI cc, nI bc, y_fault, nI mc, nI w, y_peak, nI st, nI d, nI (bs d), y_code, 1, 0, y_got, y_todos, y_marks, -10000000000, nI sp, y_parent, y_fields, y_bound, y_kind, y_word, y_size, y_sort, y_number, y_stands, y_keeps, y_cells, y_globals, y_within, y_foundIn, y_self, y_args, y_temps, y_param, y_live, y_work, y_under, y_at, y_in, y_phase, y_base, y_goal, y_operands, y_marked, y_todo, y_heard) (nI t) (nI (wk (w - 1))) := fun Q h => by
    have vt : vp_in (nI t) 416 := vp_in_nI (by omega) (by decide)
    unfold wpY_evaluate
    dsimp only
    rw [nI_clamp (show t < 2 ^ 31 by omega)]
    exact ⟨vt, nm_e (yw_home A.2.2.1 (rn_cur A F).1 ⟨vt, h⟩)⟩
  have goX : ∀ Q : SX → Prop, wpX_makeBlock (fun u => match u with | (x_classCount, x_bodyCount, x_draftCount, x_wrongPlace, x_madeCount, x_frameCount, x_current, x_next, x_inHand, x_mode, x_outcome, x_stepCount, x_atWork, x_mostAtWork, x_saidCount, x_pendingCount, x_classParent, x_classFields, x_bound, x_tokenKind, x_tokenValue, x_globals, x_thingShown, x_thingClass, x_thingFields, x_thingToken, x_thingMaker, x_variables, x_homeOf, x_within, x_foundIn, x_baseFrame, x_frameToken, x_frameStage, x_frameLink, x_operands, x_saidValues, x_marked, x_pending) => wX_readToken_100 Q (nI t) 12 x_classCount x_bodyCount x_draftCount x_wrongPlace x_madeCount x_frameCount x_current x_next x_inHand x_mode x_outcome x_stepCount x_atWork x_mostAtWork x_saidCount x_pendingCount x_classParent x_classFields x_bound x_tokenKind x_tokenValue x_globals x_thingShown x_thingClass x_thingFields x_thingToken x_thingMaker x_variables x_homeOf x_within x_foundIn x_baseFrame x_frameToken x_frameStage x_frameLink x_operands x_saidValues x_marked x_pending) (nI cc, nI bc, nI dc, y_fault, nI mc, nI (fr_x y_kind fa ph d), nI (σ (wk (w - 1))), nI t, x_inHand, 1, 100, nI st, nI w, y_peak, nI sp, x_pendingCount, y_parent, y_fields, y_bound, x_tokenKind, x_tokenValue, x_globals, x_thingShown, x_thingClass, x_thingFields, x_thingToken, x_thingMaker, x_variables, x_homeOf, x_within, x_foundIn, x_baseFrame, x_frameToken, x_frameStage, x_frameLink, x_operands, y_heard, x_marked, x_pending) (nI t) → wpX_readToken Q (nI cc, nI bc, nI dc, y_fault, nI mc, nI (fr_x y_kind fa ph d), nI (σ (wk (w - 1))), nI t, x_inHand, 0, 100, nI st, nI w, y_peak, nI sp, x_pendingCount, y_parent, y_fields, y_bound, x_tokenKind, x_tokenValue, x_globals, x_thingShown, x_thingClass, x_thingFields, x_thingToken, x_thingMaker, x_variables, x_homeOf, x_within, x_foundIn, x_baseFrame, x_frameToken, x_frameStage, x_frameLink, x_operands, y_heard, x_marked, x_pending) := fun Q h => by
    have ok' := ok
    unfold wpX_readToken
    dsimp only
    rw [tc, x1, x2, ek]
    rw [ek] at ok'
    exact ⟨vt, nm_e ⟨vt, nm_e (xw_needs ok' (br_t rfl h))⟩⟩
  have goY2 : ∀ Q : SY → Prop, wpY_make (fun r u => match u with | (y_classes, y_bodies, y_fault, y_made, y_working, y_peak, y_steps, y_depth, y_waiting, y_code, y_running, y_has, y_got, y_todos, y_marks, y_shown, y_spoken, y_parent, y_fields, y_bound, y_kind, y_word, y_size, y_sort, y_number, y_stands, y_keeps, y_cells, y_globals, y_within, y_foundIn, y_self, y_args, y_temps, y_param, y_live, y_work, y_under, y_at, y_in, y_phase, y_base, y_goal, y_operands, y_marked, y_todo, y_heard) => ((0 ≤ r → vp_in r 32 ∧ ∀ a1 : Nat → Int32, a1 = upd y_stands r.toNatClampNeg (nI t) → vp_in r 32 ∧ ∀ a2 : Nat → Int32, a2 = upd y_keeps r.toNatClampNeg (nI (wk (w - 1))) → Q (y_classes, y_bodies, y_fault, y_made, y_working, y_peak, y_steps, y_depth, y_waiting, y_code, y_running, 1, 8589934592 + r.toInt64, y_todos, y_marks, y_shown, y_spoken, y_parent, y_fields, y_bound, y_kind, y_word, y_size, y_sort, y_number, a1, a2, y_cells, y_globals, y_within, y_foundIn, y_self, y_args, y_temps, y_param, y_live, y_work, y_under, y_at, y_in, y_phase, y_base, y_goal, y_operands, y_marked, y_todo, y_heard)) ∧ (¬ 0 ≤ r → Q (y_classes, y_bodies, y_fault, y_made, y_working, y_peak, y_steps, y_depth, y_waiting, 6, 0, y_has, y_got, y_todos, y_marks, y_shown, y_spoken, y_parent, y_fields, y_bound, y_kind, y_word, y_size, y_sort, y_number, y_stands, y_keeps, y_cells, y_globals, y_within, y_foundIn, y_self, y_args, y_temps, y_param, y_live, y_work, y_under, y_at, y_in, y_phase, y_base, y_goal, y_operands, y_marked, y_todo, y_heard)))) (nI cc, nI bc, y_fault, nI mc, nI w, y_peak, nI st, nI d, nI (bs d), y_code, 1, 0, y_got, y_todos, y_marks, -10000000000, nI sp, y_parent, y_fields, y_bound, y_kind, y_word, y_size, y_sort, y_number, y_stands, y_keeps, y_cells, y_globals, y_within, y_foundIn, y_self, y_args, y_temps, y_param, y_live, y_work, y_under, y_at, y_in, y_phase, y_base, y_goal, y_operands, y_marked, y_todo, y_heard) (3) → wpY_evaluate Q (nI cc, nI bc, y_fault, nI mc, nI w, y_peak, nI st, nI d, nI (bs d), y_code, 1, 0, y_got, y_todos, y_marks, -10000000000, nI sp, y_parent, y_fields, y_bound, y_kind, y_word, y_size, y_sort, y_number, y_stands, y_keeps, y_cells, y_globals, y_within, y_foundIn, y_self, y_args, y_temps, y_param, y_live, y_work, y_under, y_at, y_in, y_phase, y_base, y_goal, y_operands, y_marked, y_todo, y_heard) (nI t) (nI (wk (w - 1))) := fun Q h => by
    refine goY Q (nm_r ek ?_)
    iterate 14 refine br_f (by decide) ?_
    refine br_t rfl ?_
    unfold wY_evaluate_285 wpY_produce
    dsimp only
    rw [tc]
    exact ⟨vt, br_f (by rw [ek]; decide) h⟩
  have hop : ∀ j, j < bs d → vv_V (y_operands j) := fun j hj => rn_opV A F hj
  have hwo : ∀ i, i < w → ∃ a, a < 160 ∧ y_work i = nI a := fun i hi => ⟨wk i, (H.2.1 _ (F.2.2.2.1 i hi).1).1, (F.2.1.2 i hi).1⟩
  have hgl : ∀ i, i < 4 → vv_V (y_globals i) := fun i hi => hp_v_V (A.2.1 i hi)
  obtain ⟨mk, td, tq, mi, DX⟩ := xd_make (x_classCount := nI cc) (x_bodyCount := nI bc) (x_draftCount := nI dc) (x_wrongPlace := y_fault) (x_madeCount := nI mc) (x_frameCount := nI (fr_x y_kind fa ph d)) (x_current := nI (σ (wk (w - 1)))) (x_next := nI t) (x_inHand := x_inHand) (x_mode := 1) (x_outcome := 100) (x_stepCount := nI st) (x_atWork := nI w) (x_mostAtWork := y_peak) (x_saidCount := nI sp) (x_pendingCount := x_pendingCount) (x_classParent := y_parent) (x_classFields := y_fields) (x_bound := y_bound) (x_tokenKind := x_tokenKind) (x_tokenValue := x_tokenValue) (x_globals := x_globals) (x_thingShown := x_thingShown) (x_thingClass := x_thingClass) (x_thingFields := x_thingFields) (x_thingToken := x_thingToken) (x_thingMaker := x_thingMaker) (x_variables := x_variables) (x_homeOf := x_homeOf) (x_within := x_within) (x_foundIn := x_foundIn) (x_baseFrame := x_baseFrame) (x_frameToken := x_frameToken) (x_frameStage := x_frameStage) (x_frameLink := x_frameLink) (x_operands := x_operands) (x_saidValues := y_heard) (x_marked := x_marked) (x_pending := x_pending) (p0 := 30000000000) (c := 3) (fc := fr_x y_kind fa ph d) rfl fcl Xv.1 Xv.2
  obtain ⟨mk', td', mi', DY⟩ := yd_make (y_classes := nI cc) (y_bodies := nI bc) (y_fault := y_fault) (y_made := nI mc) (y_working := nI w) (y_peak := y_peak) (y_steps := nI st) (y_depth := nI d) (y_waiting := nI (bs d)) (y_code := y_code) (y_running := 1) (y_has := 0) (y_got := y_got) (y_todos := y_todos) (y_marks := y_marks) (y_shown := -10000000000) (y_spoken := nI sp) (y_parent := y_parent) (y_fields := y_fields) (y_bound := y_bound) (y_kind := y_kind) (y_word := y_word) (y_size := y_size) (y_sort := y_sort) (y_number := y_number) (y_stands := y_stands) (y_keeps := y_keeps) (y_cells := y_cells) (y_globals := y_globals) (y_within := y_within) (y_foundIn := y_foundIn) (y_self := y_self) (y_args := y_args) (y_temps := y_temps) (y_param := y_param) (y_live := y_live) (y_work := y_work) (y_under := y_under) (y_at := y_at) (y_in := y_in) (y_phase := y_phase) (y_base := y_base) (y_goal := y_goal) (y_operands := y_operands) (y_marked := y_marked) (y_todo := y_todo) (y_heard := y_heard) (c := 3) (wt := bs d) (wk := w) rfl wtl rfl w12 hgl hop hwo Yv
  have e1 := ct_eq (N := 24) (fun n (hn : n < 24) => mi n (by omega))
  have e2 := ct_eq (N := 32) (fun n (hn : n < 32) => mi' n (by omega))
  rcases DX with ⟨qx, hX⟩ | ⟨qx, ttt, t1x, t2x, hX⟩
  · rcases DY with ⟨qy, hY⟩ | ⟨qy, _⟩
    · refine ⟨(nI cc, nI bc, nI dc, y_fault, nI mc, nI (fr_x y_kind fa ph d), nI (σ (wk (w - 1))), nI (t + m), x_inHand, 1, 6, nI st, nI w, y_peak, nI sp, nI tq, y_parent, y_fields, y_bound, x_tokenKind, x_tokenValue, x_globals, x_thingShown, x_thingClass, x_thingFields, x_thingToken, x_thingMaker, x_variables, x_homeOf, x_within, x_foundIn, x_baseFrame, x_frameToken, x_frameStage, x_frameLink, x_operands, y_heard, mk, td), (nI cc, nI bc, y_fault, nI mc, nI w, y_peak, nI st, nI d, nI (bs d), 6, 0, 0, y_got, nI 0, nI (ct_n (fun k => mk' k = 1) 32), -10000000000, nI sp, y_parent, y_fields, y_bound, y_kind, y_word, y_size, y_sort, y_number, y_stands, y_keeps, y_cells, y_globals, y_within, y_foundIn, y_self, y_args, y_temps, y_param, y_live, y_work, y_under, y_at, y_in, y_phase, y_base, y_goal, y_operands, mk', td', y_heard), fun Q q => goX Q (hX _ (br_t rfl (br_t rfl (xw_end m1 (by omega) (fun z z1 z2 => ⟨(t1 z (m3 z z1 z2)).2.1, (t1 z (m3 z z1 z2)).2.2.1, (t1 z (m3 z z1 z2)).2.2.2.1⟩) q)))), fun Q q => goY2 Q (hY _ (br_f (by decide) q)), Or.inl (rn_stop A F (by decide) (by decide) (by omega))⟩
    · omega
  · rcases DY with ⟨qy, _⟩ | ⟨qy, kk, k1y, k2y, hY⟩
    · omega
    · have tcx : (nI ttt).toNatClampNeg = ttt := nI_clamp (by omega)
      have kcy : (nI kk).toNatClampNeg = kk := nI_clamp (by omega)
      have nck : ¬ cl_r (gy_R y_globals y_operands (bs d) y_work w) (gy_E y_sort y_keeps y_cells y_within y_self y_args y_temps y_param) kk := fun z => k2y ((mi' kk (by omega)).mpr z)
      have ncx : ¬ cl_r (gx_R x_thingShown x_globals x_operands (fr_x y_kind fa ph d) x_baseFrame) (gx_E x_thingShown x_thingFields x_thingMaker x_variables x_within) ttt := fun z => t2x ((mi ttt (by omega)).mpr z)
      have eL : (30000000000 : Int64) + (nI mc).toInt64 = lN (30000000000 + mc) := by rw [nI_l (by omega), show (30000000000 : Int64) = lN 30000000000 by decide, lN_add]
      have eG : (8589934592 : Int64) + (nI kk).toInt64 = lN (8589934592 + kk) := by rw [nI_l (by omega), show (8589934592 : Int64) = lN 8589934592 by decide, lN_add]
      rw [eL, nI_1] at hX
      rw [nI_1] at hY
      have HS : hp_s (upd y_sort kk (3)) (upd y_number kk (nI mc)) kk = lN (30000000000 + mc) := by
        unfold hp_s
        rw [pk_us, if_pos rfl, pk_us, nI_clamp (by omega)]
      obtain ⟨A', F'⟩ := rn_made (kk := kk) (tt := ttt) (mc' := mc + 1) (xsh' := vp_updL x_thingShown ttt (lN (30000000000 + mc))) (xfl' := mk_c x_thingFields (ttt * 4) 4 10000000000) (ce' := mk_c y_cells (4 * kk) 4 4294967296) (xcl' := upd x_thingClass ttt (3)) (xtk' := upd x_thingToken ttt (nI t)) (xmr' := upd (upd x_thingMaker ttt (-1)) ttt (nI (σ (wk (w - 1))))) (so' := upd y_sort kk (3)) (nu' := upd y_number kk (nI mc)) (st' := upd y_stands kk (nI t)) (kp' := upd y_keeps kk (nI (wk (w - 1)))) A F (by omega) nck ncx
        (fun t ht => ⟨pk_uLn ht, pk_un ht, pk_un ht, by rw [pk_un ht, pk_un ht], fun i hi => mk_co (by omega)⟩)
        (fun k' hk' => ⟨pk_un hk', pk_un hk', pk_un hk', pk_un hk', fun i hi => mk_co (by omega)⟩) (by
          have ht : (if kk = kk then ttt else τ kk) = ttt := if_pos rfl
          unfold hp_T
          dsimp only
          rw [ht, HS, pk_us, pk_us, pk_us, pk_us, pk_us, pk_uLs, pk_us, pk_us]
          refine ⟨k1y, t1x, ⟨3, by omega, rfl⟩, ⟨mc, by omega, rfl⟩, rfl, rfl, fun _ => ⟨t, wk (w - 1), tt, ek, rfl, rfl, rfl, cl_root (Or.inr (Or.inr ⟨w - 1, wk (w - 1), by omega, c2, (F.2.1.2 (w - 1) (by omega)).1, rfl⟩)), rfl, by omega, fun i hi => mk_ci (by omega) (by omega)⟩, fun z => absurd rfl z⟩)
        (hp_newU U (Or.inr rfl) (by omega))
        (hp_Ymake Yv fun k' hk' => by
          by_cases z : k' = kk
          · subst z; rw [pk_us]; exact ⟨_, c2, rfl⟩
          · rw [pk_un z]; exact Yv.2.2.2.2.2.1 k' hk')
        ⟨fun t' ht' => by
          by_cases z : t' = ttt
          · subst z; rw [pk_us]; exact Or.inr ⟨_, c3, rfl⟩
          · rw [pk_un z, pk_un z]; exact Xv.1 t' ht', Xv.2⟩
      have hv : hp_v (fun k => (k < 32 ∧ cl_r (gy_R y_globals y_operands (bs d) y_work w) (gy_E y_sort y_keeps y_cells y_within y_self y_args y_temps y_param) k) ∨ k = kk) (hp_s (upd y_sort kk (3)) (upd y_number kk (nI mc))) (lN (30000000000 + mc)) (lN (8589934592 + kk)) := ⟨.inr (some kk), fun l e => by cases e; exact ⟨k1y, Or.inr rfl⟩, HS.symm, rfl⟩
      refine ⟨(nI cc, nI bc, nI dc, y_fault, nI (mc + 1), nI (fr_x y_kind fa ph d), nI (σ (wk (w - 1))), nI (t + m), lN (30000000000 + mc), 1, 100, nI st, nI w, y_peak, nI sp, nI tq, y_parent, y_fields, y_bound, x_tokenKind, x_tokenValue, x_globals, vp_updL x_thingShown ttt (lN (30000000000 + mc)), upd x_thingClass ttt (3), mk_c x_thingFields (ttt * 4) 4 10000000000, upd x_thingToken ttt (nI t), upd (upd x_thingMaker ttt (-1)) ttt (nI (σ (wk (w - 1)))), x_variables, x_homeOf, x_within, x_foundIn, x_baseFrame, x_frameToken, x_frameStage, x_frameLink, x_operands, y_heard, mk, td), (nI cc, nI bc, y_fault, nI (mc + 1), nI w, y_peak, nI st, nI d, nI (bs d), y_code, 1, 1, lN (8589934592 + kk), nI 0, nI (ct_n (fun k => mk' k = 1) 32), -10000000000, nI sp, y_parent, y_fields, y_bound, y_kind, y_word, y_size, upd y_sort kk (3), upd y_number kk (nI mc), upd y_stands kk (nI t), upd y_keeps kk (nI (wk (w - 1))), mk_c y_cells (4 * kk) 4 4294967296, y_globals, y_within, y_foundIn, y_self, y_args, y_temps, y_param, y_live, y_work, y_under, y_at, y_in, y_phase, y_base, y_goal, y_operands, mk', td', y_heard), fun Q q => goX Q (hX _ (br_f (gx_m1 (by omega)) ?_)), fun Q q => goY2 Q (hY _ (br_t (nI_pos' (by omega)) ?_)), Or.inr (ev_H1 A' F' tt lt hv n1 n2 n3 (by omega) ee)⟩
      · rw [tcx]
        refine ⟨vp_in_nI t1x (by decide), nm_e ⟨vp_in_nI t1x (by decide), nm_e ⟨vp_in_nI t1x (by decide), nm_r pk_uLs ?_⟩⟩⟩
        exact br_t rfl (xw_end m1 (by omega) (fun z z1 z2 => ⟨(t1 z (m3 z z1 z2)).2.1, (t1 z (m3 z z1 z2)).2.2.1, (t1 z (m3 z z1 z2)).2.2.2.1⟩) q)
      · rw [kcy, eG]
        exact ⟨vp_in_nI k1y (by decide), nm_e ⟨vp_in_nI k1y (by decide), nm_e q⟩⟩
end
end
section
/-! any token -/
section
variable {x_classCount x_bodyCount x_draftCount x_wrongPlace x_madeCount x_frameCount x_current x_next x_mode x_outcome x_stepCount x_atWork x_mostAtWork x_saidCount x_pendingCount : Int32} {x_inHand : Int64} {x_classParent x_classFields x_bound x_tokenKind x_tokenValue x_thingClass x_thingToken x_thingMaker x_homeOf x_within x_foundIn x_baseFrame x_frameToken x_frameStage x_frameLink x_marked x_pending : Nat → Int32} {x_globals x_thingShown x_thingFields x_variables x_operands x_saidValues : Nat → Int64}
variable {y_classes y_bodies y_fault y_made y_working y_peak y_steps y_depth y_waiting y_code y_running y_has y_todos y_marks y_spoken : Int32} {y_got y_shown : Int64} {y_parent y_fields y_bound y_kind y_word y_size y_sort y_number y_stands y_keeps y_within y_foundIn y_live y_work y_under y_at y_in y_phase y_base y_goal y_marked y_todo : Nat → Int32} {y_cells y_globals y_self y_args y_temps y_param y_operands y_heard : Nat → Int64}
variable {cc bc dc mc st sp d w np md B M : Nat} {T ST SA : Nat → Prop} {lv τ σ lev ho fa ph bs ow gg wk un rt : Nat → Nat}
theorem ev_all (A : rn_A cc bc dc mc T ST SA lv τ σ lev ho x_tokenKind x_tokenValue y_kind y_word y_size y_parent y_fields y_bound x_globals y_globals x_thingShown x_thingClass x_thingFields x_thingToken x_thingMaker x_variables x_homeOf x_within x_foundIn y_sort y_number y_stands y_keeps y_cells y_within y_foundIn y_self y_args y_temps y_param) (F : rn_F T ST SA lv σ lev ho y_kind y_word fa ph bs ow gg wk un rt d w y_sort y_number x_frameToken x_frameStage x_frameLink x_operands x_baseFrame y_operands y_self y_at y_in y_phase y_base y_goal y_work y_under y_live) {t : Nat} (tt : T t) (lt : fr_lt y_kind (tk_nd y_kind y_word) fa ph rt d t (w - 1)) (n : rn_n B (M + 1) mc st sp (rn_mu (tk_nd y_kind y_word) fa un rt st d w t 0)) (hB : B < 2 ^ 30) :
    rn_Ev B M (nI cc, nI bc, nI dc, y_fault, nI mc, nI (fr_x y_kind fa ph d), nI (σ (wk (w - 1))), nI t, x_inHand, 0, 100, nI st, nI w, y_peak, nI sp, x_pendingCount, y_parent, y_fields, y_bound, x_tokenKind, x_tokenValue, x_globals, x_thingShown, x_thingClass, x_thingFields, x_thingToken, x_thingMaker, x_variables, x_homeOf, x_within, x_foundIn, x_baseFrame, x_frameToken, x_frameStage, x_frameLink, x_operands, y_heard, x_marked, x_pending) (nI cc, nI bc, y_fault, nI mc, nI w, y_peak, nI st, nI d, nI (bs d), y_code, 1, 0, y_got, y_todos, y_marks, -10000000000, nI sp, y_parent, y_fields, y_bound, y_kind, y_word, y_size, y_sort, y_number, y_stands, y_keeps, y_cells, y_globals, y_within, y_foundIn, y_self, y_args, y_temps, y_param, y_live, y_work, y_under, y_at, y_in, y_phase, y_base, y_goal, y_operands, y_marked, y_todo, y_heard) t (wk (w - 1)) := by
  obtain ⟨_, _, _, ok, _⟩ := A.1.2.2.1.2.1 t tt
  obtain ⟨kn, kl, ek, _⟩ := ok
  revert ek
  refine tk_cases (P := fun kn => y_kind t = nI kn → _) ?_ ?_ ?_ ?_ ?_ ?_ ?_ ?_ ?_ ?_ ?_ ?_ ?_ ?_ ?_ ?_ ?_ ?_ ?_ ?_ ?_ ?_ ?_ ?_ ?_ ?_ ?_ ?_ ?_ ?_ kn kl
  case refine_7 => exact fun ek => ev_field A F tt lt n ek
  case refine_29 => exact fun ek => ev_bind A F tt lt n ek
  case refine_13 => exact fun ek => ev_blk A F tt lt n hB ek
  case refine_26 => exact fun ek => ev_new A F tt lt n hB ek
  all_goals intro ek
  all_goals first
    | exact ev_leaf A F tt lt n (by decide) ek
    | exact ev_op A F tt lt n (by unfold fr_op; decide) ek
end
end
section
/-! a turn that works out the next part of the operator on top -/
section
variable {x_classCount x_bodyCount x_draftCount x_wrongPlace x_madeCount x_frameCount x_current x_next x_mode x_outcome x_stepCount x_atWork x_mostAtWork x_saidCount x_pendingCount : Int32} {x_inHand : Int64} {x_classParent x_classFields x_bound x_tokenKind x_tokenValue x_thingClass x_thingToken x_thingMaker x_homeOf x_within x_foundIn x_baseFrame x_frameToken x_frameStage x_frameLink x_marked x_pending : Nat → Int32} {x_globals x_thingShown x_thingFields x_variables x_operands x_saidValues : Nat → Int64}
variable {y_classes y_bodies y_fault y_made y_working y_peak y_steps y_depth y_waiting y_code y_running y_has y_todos y_marks y_spoken : Int32} {y_got y_shown : Int64} {y_parent y_fields y_bound y_kind y_word y_size y_sort y_number y_stands y_keeps y_within y_foundIn y_live y_work y_under y_at y_in y_phase y_base y_goal y_marked y_todo : Nat → Int32} {y_cells y_globals y_self y_args y_temps y_param y_operands y_heard : Nat → Int64}
variable {cc bc dc mc st sp d w np md B M : Nat} {T ST SA : Nat → Prop} {lv τ σ lev ho fa ph bs ow gg wk un rt : Nat → Nat}
theorem fr_pt3 {k : Int32} {n ph : Nat} (ok : fr_ok k n ph) (h3 : n ≤ 3) (h : ph ≠ 100) : ph ≤ 3 := by
  rcases ok with ⟨a, _⟩ | ⟨_, a⟩ | ⟨_, a⟩ | ⟨_, a⟩ | ⟨_, a⟩ | ⟨_, a⟩ <;> omega
/-- the top frame, when it does not wait for an answer -/
theorem rn_top {p : Nat} (A : rn_A cc bc dc mc T ST SA lv τ σ lev ho x_tokenKind x_tokenValue y_kind y_word y_size y_parent y_fields y_bound x_globals y_globals x_thingShown x_thingClass x_thingFields x_thingToken x_thingMaker x_variables x_homeOf x_within x_foundIn y_sort y_number y_stands y_keeps y_cells y_within y_foundIn y_self y_args y_temps y_param) (F : rn_F T ST SA lv σ lev ho y_kind y_word fa ph bs ow gg wk un rt (p + 1) w y_sort y_number x_frameToken x_frameStage x_frameLink x_operands x_baseFrame y_operands y_self y_at y_in y_phase y_base y_goal y_work y_under y_live) (hp : ph p ≠ 100) : T (fa p) ∧ ow p = w - 1 ∧ fr_ok (y_kind (fa p)) (tk_nd y_kind y_word (fa p)) (ph p) ∧ ph p ≤ 3 ∧ p < 500 ∧ bs p ≤ 383 ∧ y_at p = nI (fa p) ∧ y_in p = nI (wk (w - 1)) ∧ y_phase p = nI (ph p) ∧ y_base p = nI (bs p) ∧ fa p < 384 ∧ tk_nd y_kind y_word (fa p) ≤ 3 ∧ p ≤ 383 := by
  obtain ⟨S, Y, X, W⟩ := F
  obtain ⟨f1, f2, f3, f4, f5, f6, f7⟩ := S.2.2.2.2.1 p (by omega)
  obtain ⟨y1, y2, y3, y4, y5⟩ := Y.1 p (by omega)
  have eo := (S.2.2.2.2.2.1.2 p rfl).2 hp
  have TF := rn_TF A
  obtain ⟨t1, t2, _⟩ := TF _ f1
  have pos := fr_pos TF S p (by omega) (fa p) (ow p) (fun e => by omega) (fun _ => rfl) f3 f4 f1
  have w12 := S.2.1
  have rr := fr_en TF (S.2.2.2.2.2.2.1 (ow p) pos.1)
  rw [← eo] at y2
  refine ⟨f1, eo.symm, f5, fr_pt3 f5 t2 hp, by omega, by omega, y1, y2, y3, y4, t1, t2, by omega⟩
theorem yn_37 {p : Nat} (A : rn_A cc bc dc mc T ST SA lv τ σ lev ho x_tokenKind x_tokenValue y_kind y_word y_size y_parent y_fields y_bound x_globals y_globals x_thingShown x_thingClass x_thingFields x_thingToken x_thingMaker x_variables x_homeOf x_within x_foundIn y_sort y_number y_stands y_keeps y_cells y_within y_foundIn y_self y_args y_temps y_param) (F : rn_F T ST SA lv σ lev ho y_kind y_word fa ph bs ow gg wk un rt (p + 1) w y_sort y_number x_frameToken x_frameStage x_frameLink x_operands x_baseFrame y_operands y_self y_at y_in y_phase y_base y_goal y_work y_under y_live) (hp : ph p ≠ 100) {Q : SY → Prop} (h : wY_next_37 Q (nI p) (nI (fr_pt (y_kind (fa p)) (ph p))) (nI cc) (nI bc) y_fault (nI mc) (nI w) y_peak (nI st) (nI (p + 1)) (nI (bs (p + 1))) y_code 1 0 y_got y_todos y_marks (-10000000000) (nI sp) y_parent y_fields y_bound y_kind y_word y_size y_sort y_number y_stands y_keeps y_cells y_globals y_within y_foundIn y_self y_args y_temps y_param y_live y_work y_under y_at y_in y_phase y_base y_goal y_operands y_marked y_todo y_heard) : wpY_next Q (nI cc, nI bc, y_fault, nI mc, nI w, y_peak, nI st, nI (p + 1), nI (bs (p + 1)), y_code, 1, 0, y_got, y_todos, y_marks, -10000000000, nI sp, y_parent, y_fields, y_bound, y_kind, y_word, y_size, y_sort, y_number, y_stands, y_keeps, y_cells, y_globals, y_within, y_foundIn, y_self, y_args, y_temps, y_param, y_live, y_work, y_under, y_at, y_in, y_phase, y_base, y_goal, y_operands, y_marked, y_todo, y_heard) := by
  obtain ⟨f1, eo, f5, p3, p5, b3, y1, y2, y3, y4, a3, n3, _⟩ := rn_top A F hp
  have ep : nI (p + 1) - 1 = nI p := nI_pred p
  have pc : (nI p).toNatClampNeg = p := nI_clamp (by omega)
  have vp : vp_in (nI p) 500 := vp_in_nI p5 (by decide)
  unfold wpY_next
  dsimp only
  rw [ep]
  refine nm_e ?_
  rw [pc, y1, y3, nI_clamp (show fa p < 2 ^ 31 by omega)]
  refine ⟨vp, nm_e ⟨vp, vp_in_nI (by omega) (by decide), ?_⟩⟩
  unfold fr_pt at h
  by_cases k27 : y_kind (fa p) = 27
  · by_cases z : ph p = 2
    · rw [if_pos ⟨k27, z⟩] at h
      exact br_t k27 (br_t (by rw [z]; rfl) h)
    · rw [if_neg (fun q => z q.2)] at h
      exact br_t k27 (br_f (fun q => z ((nI_eq (b := 2) (by omega) (by decide)).mp q)) h)
  · rw [if_neg (fun q => k27 q.1)] at h
    exact br_f k27 h
theorem fr_pt3' {k : Int32} {ph : Nat} (h : ph ≤ 3) : fr_pt k ph ≤ 3 := by
  unfold fr_pt
  split <;> omega
theorem go_read {p tm : Nat} (A : rn_A cc bc dc mc T ST SA lv τ σ lev ho x_tokenKind x_tokenValue y_kind y_word y_size y_parent y_fields y_bound x_globals y_globals x_thingShown x_thingClass x_thingFields x_thingToken x_thingMaker x_variables x_homeOf x_within x_foundIn y_sort y_number y_stands y_keeps y_cells y_within y_foundIn y_self y_args y_temps y_param) (F : rn_F T ST SA lv σ lev ho y_kind y_word fa ph bs ow gg wk un rt (p + 1) w y_sort y_number x_frameToken x_frameStage x_frameLink x_operands x_baseFrame y_operands y_self y_at y_in y_phase y_base y_goal y_work y_under y_live) (hp : ph p ≠ 100) (hl : fr_pt (y_kind (fa p)) (ph p) < tk_nd y_kind y_word (fa p)) (n : rn_n B (M + 1) mc st sp (rn_mu (tk_nd y_kind y_word) fa un rt st (p + 1) w (ex_pt (tk_nd y_kind y_word) (fa p) (fr_pt (y_kind (fa p)) (ph p))) 0)) (hB : B < 2 ^ 30) (ht : tm + 2 ≤ 1000000) :
    rn_Go B M tm (nI cc, nI bc, nI dc, y_fault, nI mc, nI (fr_x y_kind fa ph (p + 1)), nI (σ (wk (w - 1))), nI (ex_pt (tk_nd y_kind y_word) (fa p) (fr_pt (y_kind (fa p)) (ph p))), x_inHand, 0, 100, nI st, nI w, y_peak, nI sp, x_pendingCount, y_parent, y_fields, y_bound, x_tokenKind, x_tokenValue, x_globals, x_thingShown, x_thingClass, x_thingFields, x_thingToken, x_thingMaker, x_variables, x_homeOf, x_within, x_foundIn, x_baseFrame, x_frameToken, x_frameStage, x_frameLink, x_operands, y_heard, x_marked, x_pending) (nI cc, nI bc, y_fault, nI mc, nI w, y_peak, nI st, nI (p + 1), nI (bs (p + 1)), y_code, 1, 0, y_got, y_todos, y_marks, -10000000000, nI sp, y_parent, y_fields, y_bound, y_kind, y_word, y_size, y_sort, y_number, y_stands, y_keeps, y_cells, y_globals, y_within, y_foundIn, y_self, y_args, y_temps, y_param, y_live, y_work, y_under, y_at, y_in, y_phase, y_base, y_goal, y_operands, y_marked, y_todo, y_heard) := by
  obtain ⟨f1, eo, f5, p3, p5, b3, y1, y2, y3, y4, a3, n3, _⟩ := rn_top A F hp
  have TF := rn_TF A
  obtain ⟨tt, c2, c3, _⟩ := fr_ch TF f1 hl
  have lt : fr_lt y_kind (tk_nd y_kind y_word) fa ph rt (p + 1) (ex_pt (tk_nd y_kind y_word) (fa p) (fr_pt (y_kind (fa p)) (ph p))) (w - 1) := ⟨fun e => by omega, fun q e => by
    obtain rfl : q = p := by omega
    exact ⟨fun z => absurd z hp, fun _ => ⟨hl, rfl⟩⟩⟩
  obtain ⟨u1, v1, hX, hY, hR⟩ := ev_all A F tt lt n hB
  obtain ⟨m, m1, m2, m3⟩ := (TF _ f1).2.2
  have pl := fr_pt3' (k := y_kind (fa p)) p3
  refine ⟨u1, v1, tm + 1, by omega, fun PX k => xt_read (by omega) hX k, fun PY m' k => YL_mono (yt_next (fun Q q => ?_) k) (by omega), hR⟩
  refine yn_37 A F hp ?_
  have pc : (nI p).toNatClampNeg = p := nI_clamp (by omega)
  have vp : vp_in (nI p) 500 := vp_in_nI p5 (by decide)
  have okr : ∀ q, fa p ≤ q → q < fa p + m → tk_ok (y_kind q) (y_word q) := fun q q1 q2 => (A.1.2.2.1.2.1 q (m3 q q1 q2)).2.2.2.1
  unfold wY_next_37
  rw [pc, y1, y2]
  refine ⟨vp, yw_needs (by omega) (okr _ (by omega) (by have := ex_pos m1; omega)) ?_⟩
  refine br_f (fun z => ?_) ⟨vp, yw_part m1 (by omega) okr (by omega) (by omega) ⟨vp, hY Q q⟩⟩
  have := (nI_eq (by omega) (by have : tk_need (y_kind (fa p)) (y_word (fa p)) ≤ 3 := n3; omega)).mp z
  have hl' : fr_pt (y_kind (fa p)) (ph p) < tk_need (y_kind (fa p)) (y_word (fa p)) := hl
  omega
/-- and one that applies it -/
theorem yn_apply {p : Nat} (A : rn_A cc bc dc mc T ST SA lv τ σ lev ho x_tokenKind x_tokenValue y_kind y_word y_size y_parent y_fields y_bound x_globals y_globals x_thingShown x_thingClass x_thingFields x_thingToken x_thingMaker x_variables x_homeOf x_within x_foundIn y_sort y_number y_stands y_keeps y_cells y_within y_foundIn y_self y_args y_temps y_param) (F : rn_F T ST SA lv σ lev ho y_kind y_word fa ph bs ow gg wk un rt (p + 1) w y_sort y_number x_frameToken x_frameStage x_frameLink x_operands x_baseFrame y_operands y_self y_at y_in y_phase y_base y_goal y_work y_under y_live) (hp : ph p ≠ 100) (hl : fr_pt (y_kind (fa p)) (ph p) = tk_nd y_kind y_word (fa p)) {Q : SY → Prop} (h : wpY_apply Q (nI cc, nI bc, y_fault, nI mc, nI w, y_peak, nI st, nI (p + 1), nI (bs (p + 1)), y_code, 1, 0, y_got, y_todos, y_marks, -10000000000, nI sp, y_parent, y_fields, y_bound, y_kind, y_word, y_size, y_sort, y_number, y_stands, y_keeps, y_cells, y_globals, y_within, y_foundIn, y_self, y_args, y_temps, y_param, y_live, y_work, y_under, y_at, y_in, y_phase, y_base, y_goal, y_operands, y_marked, y_todo, y_heard) (nI p)) : wpY_next Q (nI cc, nI bc, y_fault, nI mc, nI w, y_peak, nI st, nI (p + 1), nI (bs (p + 1)), y_code, 1, 0, y_got, y_todos, y_marks, -10000000000, nI sp, y_parent, y_fields, y_bound, y_kind, y_word, y_size, y_sort, y_number, y_stands, y_keeps, y_cells, y_globals, y_within, y_foundIn, y_self, y_args, y_temps, y_param, y_live, y_work, y_under, y_at, y_in, y_phase, y_base, y_goal, y_operands, y_marked, y_todo, y_heard) := by
  obtain ⟨f1, eo, f5, p3, p5, b3, y1, y2, y3, y4, a3, n3, _⟩ := rn_top A F hp
  refine yn_37 A F hp ?_
  have pc : (nI p).toNatClampNeg = p := nI_clamp (by omega)
  have vp : vp_in (nI p) 500 := vp_in_nI p5 (by decide)
  unfold wY_next_37
  rw [pc, y1]
  refine ⟨vp, yw_needs (by omega) (A.1.2.2.1.2.1 _ f1).2.2.2.1 ?_⟩
  exact br_t (by rw [hl]; rfl) h
end
end
section
/-! the stack cut down, and its top changed -/
section
variable {x_classCount x_bodyCount x_draftCount x_wrongPlace x_madeCount x_frameCount x_current x_next x_mode x_outcome x_stepCount x_atWork x_mostAtWork x_saidCount x_pendingCount : Int32} {x_inHand : Int64} {x_classParent x_classFields x_bound x_tokenKind x_tokenValue x_thingClass x_thingToken x_thingMaker x_homeOf x_within x_foundIn x_baseFrame x_frameToken x_frameStage x_frameLink x_marked x_pending : Nat → Int32} {x_globals x_thingShown x_thingFields x_variables x_operands x_saidValues : Nat → Int64}
variable {y_classes y_bodies y_fault y_made y_working y_peak y_steps y_depth y_waiting y_code y_running y_has y_todos y_marks y_spoken : Int32} {y_got y_shown : Int64} {y_parent y_fields y_bound y_kind y_word y_size y_sort y_number y_stands y_keeps y_within y_foundIn y_live y_work y_under y_at y_in y_phase y_base y_goal y_marked y_todo : Nat → Int32} {y_cells y_globals y_self y_args y_temps y_param y_operands y_heard : Nat → Int64}
variable {cc bc dc mc st sp d w np md B M : Nat} {T ST SA : Nat → Prop} {lv τ σ lev ho fa ph bs ow gg wk un rt : Nat → Nat}
theorem rn_low (F : rn_F T ST SA lv σ lev ho y_kind y_word fa ph bs ow gg wk un rt d w y_sort y_number x_frameToken x_frameStage x_frameLink x_operands x_baseFrame y_operands y_self y_at y_in y_phase y_base y_goal y_work y_under y_live) {d' w' : Nat} {aat' ain' aph' aba' ago' xtk' xsg' xlk' xbf' yli' : Nat → Int32} {xop' yop' : Nat → Int64} (hd : d' ≤ d) (hw : w' ≤ w) (S' : fr_S y_kind (tk_nd y_kind y_word) T fa ph bs ow gg un rt d' w')
    (hY : ∀ q, q < d' → aat' q = y_at q ∧ ain' q = y_in q ∧ aph' q = y_phase q ∧ aba' q = y_base q ∧ ago' q = y_goal q) (hX : ∀ R, R < fr_x y_kind fa ph d' → xtk' R = x_frameToken R ∧ xsg' R = x_frameStage R ∧ xlk' R = x_frameLink R) (hop : ∀ j, j < fr_x y_kind fa ph d' * 3 → xop' j = x_operands j) (hyop : ∀ j, j < bs d' → yop' j = y_operands j)
    (W' : fr_W SA lev lv σ xbf' yli' y_kind fa ph wk un rt w') : rn_F T ST SA lv σ lev ho y_kind y_word fa ph bs ow gg wk un rt d' w' y_sort y_number xtk' xsg' xlk' xop' xbf' yop' y_self aat' ain' aph' aba' ago' y_work y_under yli' := by
  obtain ⟨S, Y, X, W⟩ := F
  have xpos := (fr_xle (K := y_kind) (fa := fa) (ph := ph) d').2
  refine ⟨S', ⟨fun q hq => ?_, fun i hi => Y.2 i (by omega)⟩, ⟨⟨?_, fun i hi => ?_⟩, fun q hq nt => ?_⟩, W'⟩
  · obtain ⟨a, b, c, e, f⟩ := hY q hq
    rw [a, b, c, e, f]
    exact Y.1 q (by omega)
  · rw [(hX 0 (by omega)).1]; exact X.1.1
  · rw [hop i (by omega)]; exact X.1.2 i hi
  · have lx := fr_xlt (K := y_kind) (fa := fa) (ph := ph) hq nt
    obtain ⟨a, b, c⟩ := hX _ lx
    refine fr_XFc (X.2 q (by omega) nt) ⟨rfl, rfl⟩ ⟨rfl, rfl, rfl⟩ ⟨rfl, fun _ _ => rfl⟩ ⟨a, b, c, fun i hi => hop _ (by omega)⟩ (fun x j j1 j2 h => ?_) (fun x h => h)
    rw [hyop j (by have := fr_bsm S' hq (Nat.le_refl _); omega)]
    exact h
theorem rn_set {p : Nat} (F : rn_F T ST SA lv σ lev ho y_kind y_word fa ph bs ow gg wk un rt (p + 1) w y_sort y_number x_frameToken x_frameStage x_frameLink x_operands x_baseFrame y_operands y_self y_at y_in y_phase y_base y_goal y_work y_under y_live) {φ g : Nat} {aph' ago' xtk' xsg' xlk' : Nat → Int32} {xop' yop' : Nat → Int64} (h1 : ph p ≠ 100) (h2 : φ ≠ 100) (ok : fr_ok (y_kind (fa p)) (tk_nd y_kind y_word (fa p)) φ) (hg : y_kind (fa p) = 27 → φ = 2 → g ≤ ow p ∧ ago' p = nI (wk g))
    (hY : aph' p = nI φ ∧ ∀ q, q < p → aph' q = y_phase q ∧ ago' q = y_goal q) (hX : ∀ R, R < fr_x y_kind fa ph p → xtk' R = x_frameToken R ∧ xsg' R = x_frameStage R ∧ xlk' R = x_frameLink R) (hop : ∀ j, j < fr_x y_kind fa ph p * 3 → xop' j = x_operands j) (hyop : ∀ j, j < bs p → yop' j = y_operands j)
    (hn : ¬ fr_tail (y_kind (fa p)) φ → xtk' (fr_x y_kind fa ph p) = nI (fa p) ∧ xsg' (fr_x y_kind fa ph p) = nI (φ + fr_s (y_kind (fa p))) ∧ (y_kind (fa p) = 27 → φ = 2 → xlk' (fr_x y_kind fa ph p) = nI (σ (wk g))) ∧ fr_O ST (hp_s y_sort y_number) xop' yop' (y_self (ho (wk (ow p)))) (y_kind (fa p)) (fr_x y_kind fa ph p) (bs p) (fr_c (y_kind (fa p)) φ)) :
    rn_F T ST SA lv σ lev ho y_kind y_word fa (nu ph p φ) (nu bs (p + 1) (bs p + fr_c (y_kind (fa p)) φ)) ow (nu gg p g) wk un rt (p + 1) w y_sort y_number xtk' xsg' xlk' xop' x_baseFrame yop' y_self y_at y_in aph' y_base ago' y_work y_under y_live := by
  obtain ⟨S, Y, X, W⟩ := F
  have xe : ∀ q, q ≤ p → fr_x y_kind fa (nu ph p φ) q = fr_x y_kind fa ph q := fun q hq => fr_xc fun r hr => ⟨rfl, nu_n (by omega)⟩
  have xpos := (fr_xle (K := y_kind) (fa := fa) (ph := ph) p).2
  have unp : ∀ i, i < w → un i ≤ p := fun i hi => by
    cases i with
    | zero => rw [S.2.2.1]; omega
    | succ i =>
      obtain ⟨q, q1, q2, q3, _⟩ := S.2.2.2.2.2.2.2 i hi
      have : q ≠ p := fun z => by subst z; exact h1 q3
      omega
  refine ⟨fr_set S h1 h2 ok (fun a b => (hg a b).1), ⟨fun q hq => ?_, Y.2⟩, ⟨⟨?_, fun i hi => ?_⟩, fun q hq nt => ?_⟩, ⟨fun i hi => ?_, W.2⟩⟩
  · obtain ⟨y1, y2, y3, y4, y5⟩ := Y.1 q hq
    by_cases e : q = p
    · subst e
      rw [hY.1, nu_s, nu_s, nu_n (show q ≠ q + 1 by omega)]
      exact ⟨y1, y2, rfl, y4, fun a b => (hg a b).2⟩
    · rw [(hY.2 q (by omega)).1, (hY.2 q (by omega)).2, nu_n e, nu_n e, nu_n (show q ≠ p + 1 by omega)]
      exact ⟨y1, y2, y3, y4, y5⟩
  · rw [(hX 0 (by omega)).1]; exact X.1.1
  · rw [hop i (by omega)]; exact X.1.2 i hi
  · by_cases e : q = p
    · subst e
      rw [nu_s] at nt
      rw [xe q (Nat.le_refl _)]
      obtain ⟨a, b, c, f⟩ := hn nt
      unfold fr_XF
      rw [nu_s, nu_s, nu_n (show q ≠ q + 1 by omega)]
      exact ⟨fun z => absurd z h2, fun _ => ⟨a, b, c, f⟩⟩
    · rw [nu_n e] at nt
      rw [xe q (by omega)]
      have lx := fr_xlt (K := y_kind) (fa := fa) (ph := ph) (d := p) (show q < p by omega) nt
      obtain ⟨a, b, c⟩ := hX _ lx
      refine fr_XFc (X.2 q (by omega) nt) ⟨rfl, rfl⟩ ⟨rfl, nu_n e, nu_n (by omega)⟩ ⟨rfl, fun _ _ => by rw [nu_n e]⟩ ⟨a, b, c, fun i hi => hop _ (by omega)⟩ (fun x j j1 j2 h => ?_) (fun x h => h)
      rw [hyop j (by have := fr_bsm S (q := q) (p := p) (by omega) (by omega); omega)]
      exact h
  · rw [xe _ (unp i hi)]
    exact W.1 i hi
/-- the top frame's operator is done -/
theorem rn_pop {p : Nat} (A : rn_A cc bc dc mc T ST SA lv τ σ lev ho x_tokenKind x_tokenValue y_kind y_word y_size y_parent y_fields y_bound x_globals y_globals x_thingShown x_thingClass x_thingFields x_thingToken x_thingMaker x_variables x_homeOf x_within x_foundIn y_sort y_number y_stands y_keeps y_cells y_within y_foundIn y_self y_args y_temps y_param) (F : rn_F T ST SA lv σ lev ho y_kind y_word fa ph bs ow gg wk un rt (p + 1) w y_sort y_number x_frameToken x_frameStage x_frameLink x_operands x_baseFrame y_operands y_self y_at y_in y_phase y_base y_goal y_work y_under y_live) (hp : ph p ≠ 100) {aph' : Nat → Int32} (hY : ∀ q, q < p → aph' q = y_phase q) : rn_F T ST SA lv σ lev ho y_kind y_word fa ph bs ow gg wk un rt p w y_sort y_number x_frameToken x_frameStage x_frameLink x_operands x_baseFrame y_operands y_self y_at y_in aph' y_base y_goal y_work y_under y_live := by
  have eo := (rn_top A F hp).2.1
  have w1 := F.1.1
  have S' := fr_res F.1 (show p < p + 1 by omega)
  rw [show ow p + 1 = w by omega] at S'
  exact rn_low F (by omega) (Nat.le_refl _) S' (fun q hq => ⟨rfl, rfl, hY q hq, rfl, rfl⟩) (fun _ _ => ⟨rfl, rfl, rfl⟩) (fun _ _ => rfl) (fun _ _ => rfl) F.2.2.2
theorem fin_H {p : Nat} (A : rn_A cc bc dc mc T ST SA lv τ σ lev ho x_tokenKind x_tokenValue y_kind y_word y_size y_parent y_fields y_bound x_globals y_globals x_thingShown x_thingClass x_thingFields x_thingToken x_thingMaker x_variables x_homeOf x_within x_foundIn y_sort y_number y_stands y_keeps y_cells y_within y_foundIn y_self y_args y_temps y_param) (F : rn_F T ST SA lv σ lev ho y_kind y_word fa ph bs ow gg wk un rt (p + 1) w y_sort y_number x_frameToken x_frameStage x_frameLink x_operands x_baseFrame y_operands y_self y_at y_in y_phase y_base y_goal y_work y_under y_live) (hp : ph p ≠ 100) {aph' : Nat → Int32} (hY : ∀ q, q < p → aph' q = y_phase q) {xv yv : Int64} (hv : hp_v ST (hp_s y_sort y_number) xv yv) (hm : rn_mu (tk_nd y_kind y_word) fa un rt st p w (ex_e (tk_nd y_kind y_word) (fa p)) 2 < M) (n1 : st ≤ 200) (n2 : sp < 2 ^ 30 - (rn_mu (tk_nd y_kind y_word) fa un rt st p w (ex_e (tk_nd y_kind y_word) (fa p)) 2)) (n4 : mc + (rn_mu (tk_nd y_kind y_word) fa un rt st p w (ex_e (tk_nd y_kind y_word) (fa p)) 2) ≤ B) :
    rn_St B M (nI cc, nI bc, nI dc, y_fault, nI mc, nI (fr_x y_kind fa ph p), nI (σ (wk (w - 1))), nI (ex_e (tk_nd y_kind y_word) (fa p)), xv, 1, 100, nI st, nI w, y_peak, nI sp, x_pendingCount, y_parent, y_fields, y_bound, x_tokenKind, x_tokenValue, x_globals, x_thingShown, x_thingClass, x_thingFields, x_thingToken, x_thingMaker, x_variables, x_homeOf, x_within, x_foundIn, x_baseFrame, x_frameToken, x_frameStage, x_frameLink, x_operands, y_heard, x_marked, x_pending) (nI cc, nI bc, y_fault, nI mc, nI w, y_peak, nI st, nI p, nI (bs p), y_code, 1, 1, yv, y_todos, y_marks, -10000000000, nI sp, y_parent, y_fields, y_bound, y_kind, y_word, y_size, y_sort, y_number, y_stands, y_keeps, y_cells, y_globals, y_within, y_foundIn, y_self, y_args, y_temps, y_param, y_live, y_work, y_under, y_at, y_in, aph', y_base, y_goal, y_operands, y_marked, y_todo, y_heard) := by
  obtain ⟨f1, eo, f5, _⟩ := rn_top A F hp
  have F' := rn_pop A F hp hY
  have f4 := (F.1.2.2.2.2.1 p (by omega)).2.2.2.1
  rw [eo] at f4
  exact ⟨cc, bc, dc, mc, st, sp, p, w, ex_e (tk_nd y_kind y_word) (fa p), 2, T, ST, SA, lv, τ, σ, lev, ho, fa, ph, bs, ow, gg, wk, un, rt, ⟨rfl, rfl, rfl, rfl, rfl, rfl, rfl, rfl, rfl, rfl, rfl, rfl, rfl, rfl, rfl, rfl, rfl⟩, ⟨rfl, rfl, rfl, rfl, rfl, rfl, rfl, rfl, rfl, rfl⟩, A, F', Or.inl ⟨rfl, rfl, rfl, hv, fa p, f4, f1, rfl⟩, n1, n2, hm, n4⟩
end
end
section
/-! a value comes to the operator on top: THEN, IF, WHILE -/
section
variable {x_classCount x_bodyCount x_draftCount x_wrongPlace x_madeCount x_frameCount x_current x_next x_mode x_outcome x_stepCount x_atWork x_mostAtWork x_saidCount x_pendingCount : Int32} {x_inHand : Int64} {x_classParent x_classFields x_bound x_tokenKind x_tokenValue x_thingClass x_thingToken x_thingMaker x_homeOf x_within x_foundIn x_baseFrame x_frameToken x_frameStage x_frameLink x_marked x_pending : Nat → Int32} {x_globals x_thingShown x_thingFields x_variables x_operands x_saidValues : Nat → Int64}
variable {y_classes y_bodies y_fault y_made y_working y_peak y_steps y_depth y_waiting y_code y_running y_has y_todos y_marks y_spoken : Int32} {y_got y_shown : Int64} {y_parent y_fields y_bound y_kind y_word y_size y_sort y_number y_stands y_keeps y_within y_foundIn y_live y_work y_under y_at y_in y_phase y_base y_goal y_marked y_todo : Nat → Int32} {y_cells y_globals y_self y_args y_temps y_param y_operands y_heard : Nat → Int64}
variable {cc bc dc mc st sp d w np md B M : Nat} {T ST SA : Nat → Prop} {lv τ σ lev ho fa ph bs ow gg wk un rt : Nat → Nat}
theorem tv_so (H : hp_R cc mc T y_kind lv ST SA τ σ lev ho x_thingShown x_thingClass x_thingFields x_thingToken x_thingMaker x_variables x_homeOf x_within x_foundIn y_sort y_number y_stands y_keeps y_cells y_within y_foundIn y_self y_args y_temps y_param) (hmc : mc < 2 ^ 31) {x y : Int64} (hv : hp_v ST (hp_s y_sort y_number) x y) :
    ((∀ post : Int32 → Prop, post 0 → wpX_isSo post (x_classCount, x_bodyCount, x_draftCount, x_wrongPlace, x_madeCount, x_frameCount, x_current, x_next, x_inHand, x_mode, x_outcome, x_stepCount, x_atWork, x_mostAtWork, x_saidCount, x_pendingCount, x_classParent, x_classFields, x_bound, x_tokenKind, x_tokenValue, x_globals, x_thingShown, x_thingClass, x_thingFields, x_thingToken, x_thingMaker, x_variables, x_homeOf, x_within, x_foundIn, x_baseFrame, x_frameToken, x_frameStage, x_frameLink, x_operands, x_saidValues, x_marked, x_pending) x) ∧ (∀ post : Int32 → Prop, post 0 → wpY_isTrue post y)) ∨ ((∀ post : Int32 → Prop, post 1 → wpX_isSo post (x_classCount, x_bodyCount, x_draftCount, x_wrongPlace, x_madeCount, x_frameCount, x_current, x_next, x_inHand, x_mode, x_outcome, x_stepCount, x_atWork, x_mostAtWork, x_saidCount, x_pendingCount, x_classParent, x_classFields, x_bound, x_tokenKind, x_tokenValue, x_globals, x_thingShown, x_thingClass, x_thingFields, x_thingToken, x_thingMaker, x_variables, x_homeOf, x_within, x_foundIn, x_baseFrame, x_frameToken, x_frameStage, x_frameLink, x_operands, x_saidValues, x_marked, x_pending) x) ∧ (∀ post : Int32 → Prop, post 1 → wpY_isTrue post y)) := by
  have e0 : (4294967296 : Int64) = lN 4294967296 := by decide
  have z0 : (0 : Int64) = lN 0 := by decide
  obtain ⟨a, h1, rfl, rfl⟩ := hv
  rcases a with i | _ | k
  · have hl := i.toBitVec.isLt
    have nx : ¬ i.toInt64 = (10000000000 : Int64) := fun z => hp_int1 i (by rw [z]; decide)
    have ny : ¬ lN i.toBitVec.toNat = (4294967296 : Int64) := fun z => by
      rw [e0, pk_lEQ (by omega) (by omega)] at z; omega
    by_cases zi : i = 0
    · subst zi
      exact Or.inl ⟨fun post hp => br_f nx (br_t (show (0 : Int32).toInt64 = 0 by decide) hp), fun post hp => br_t (show lN (0 : Int32).toBitVec.toNat = 0 by decide) hp⟩
    · have zx : ¬ i.toInt64 = (0 : Int64) := fun z => zi (by
        have := congrArg Int64.toInt32 z
        rw [Int32.toInt32_toInt64] at this
        exact this)
      have zy : ¬ lN i.toBitVec.toNat = (0 : Int64) := fun z => zi (by
        have := congrArg Int64.toInt32 z
        rw [vv_i] at this
        exact this)
      exact Or.inr ⟨fun post hp => br_f nx (br_f zx hp), fun post hp => br_f zy (br_f ny hp)⟩
  · exact Or.inl ⟨fun post hp => br_t rfl hp, fun post hp => br_f (by decide) (br_t rfl hp)⟩
  · obtain ⟨hk, sk⟩ := h1 k rfl
    obtain ⟨_, _, _, ⟨n, n1, n2⟩, _⟩ := H.1 k sk
    have s2 := (hp_s_n (so := y_sort) n2 (by omega)).2
    have nx : ¬ hp_s y_sort y_number k = (10000000000 : Int64) := fun z => by rw [z] at s2; exact absurd s2 (by decide)
    have zx : ¬ hp_s y_sort y_number k = (0 : Int64) := fun z => by rw [z] at s2; exact absurd s2 (by decide)
    have zy : ¬ lN (8589934592 + k) = (0 : Int64) := fun z => by
      rw [z0, pk_lEQ (by omega) (by omega)] at z; omega
    exact Or.inr ⟨fun post hp => br_f nx (br_f zx hp), fun post hp => br_f zy (br_f (vv_ne hk) hp)⟩
/-- the state after the top frame's phase has changed -/
theorem set_N {p φ g fc' wt' np' md' : Nat} {aph' ago' xtk' xsg' xlk' : Nat → Int32} {xop' yop' : Nat → Int64} {xm : Int32} (A : rn_A cc bc dc mc T ST SA lv τ σ lev ho x_tokenKind x_tokenValue y_kind y_word y_size y_parent y_fields y_bound x_globals y_globals x_thingShown x_thingClass x_thingFields x_thingToken x_thingMaker x_variables x_homeOf x_within x_foundIn y_sort y_number y_stands y_keeps y_cells y_within y_foundIn y_self y_args y_temps y_param) (F' : rn_F T ST SA lv σ lev ho y_kind y_word fa (nu ph p φ) (nu bs (p + 1) (bs p + fr_c (y_kind (fa p)) φ)) ow (nu gg p g) wk un rt (p + 1) w y_sort y_number xtk' xsg' xlk' xop' x_baseFrame yop' y_self y_at y_in aph' y_base ago' y_work y_under y_live) (h2 : φ ≠ 100)
    (hfc : fr_x y_kind fa ph p + ct_b (¬ fr_tail (y_kind (fa p)) φ) = fc') (hwt : bs p + fr_c (y_kind (fa p)) φ = wt') (hnp : ex_pt (tk_nd y_kind y_word) (fa p) (fr_pt (y_kind (fa p)) φ) = np') (hmd : (fr_pt (y_kind (fa p)) φ < tk_nd y_kind y_word (fa p) ∧ xm = 0 ∧ md' = 0) ∨ (fr_pt (y_kind (fa p)) φ = tk_nd y_kind y_word (fa p) ∧ xm = 2 ∧ md' = 1)) (n : rn_n B M mc st sp (rn_mu (tk_nd y_kind y_word) fa un rt st (p + 1) w np' md')) :
    rn_St B M (nI cc, nI bc, nI dc, y_fault, nI mc, nI fc', nI (σ (wk (w - 1))), nI np', x_inHand, xm, 100, nI st, nI w, y_peak, nI sp, x_pendingCount, y_parent, y_fields, y_bound, x_tokenKind, x_tokenValue, x_globals, x_thingShown, x_thingClass, x_thingFields, x_thingToken, x_thingMaker, x_variables, x_homeOf, x_within, x_foundIn, x_baseFrame, xtk', xsg', xlk', xop', y_heard, x_marked, x_pending) (nI cc, nI bc, y_fault, nI mc, nI w, y_peak, nI st, nI (p + 1), nI wt', y_code, 1, 0, y_got, y_todos, y_marks, -10000000000, nI sp, y_parent, y_fields, y_bound, y_kind, y_word, y_size, y_sort, y_number, y_stands, y_keeps, y_cells, y_globals, y_within, y_foundIn, y_self, y_args, y_temps, y_param, y_live, y_work, y_under, y_at, y_in, aph', y_base, ago', yop', y_marked, y_todo, y_heard) := by
  have ex : fr_x y_kind fa (nu ph p φ) (p + 1) = fc' := by
    show fr_x y_kind fa (nu ph p φ) p + ct_b _ = _
    rw [fr_xc (fun q hq => ⟨rfl, nu_n (by omega)⟩), nu_s]; exact hfc
  refine ⟨cc, bc, dc, mc, st, sp, p + 1, w, np', md', T, ST, SA, lv, τ, σ, lev, ho, fa, nu ph p φ, nu bs (p + 1) (bs p + fr_c (y_kind (fa p)) φ), ow, nu gg p g, wk, un, rt, ⟨rfl, rfl, rfl, rfl, rfl, by rw [ex], rfl, rfl, rfl, rfl, rfl, rfl, rfl, rfl, rfl, rfl, rfl⟩, ⟨rfl, rfl, rfl, rfl, rfl, rfl, by rw [nu_s, hwt], rfl, rfl, rfl⟩, A, F', Or.inr ⟨rfl, p, rfl, by rw [nu_s]; exact h2, by rw [nu_s]; exact hnp.symm, by rw [nu_s]; exact hmd⟩, n⟩
theorem rn_xr {p : Nat} (A : rn_A cc bc dc mc T ST SA lv τ σ lev ho x_tokenKind x_tokenValue y_kind y_word y_size y_parent y_fields y_bound x_globals y_globals x_thingShown x_thingClass x_thingFields x_thingToken x_thingMaker x_variables x_homeOf x_within x_foundIn y_sort y_number y_stands y_keeps y_cells y_within y_foundIn y_self y_args y_temps y_param) (F : rn_F T ST SA lv σ lev ho y_kind y_word fa ph bs ow gg wk un rt (p + 1) w y_sort y_number x_frameToken x_frameStage x_frameLink x_operands x_baseFrame y_operands y_self y_at y_in y_phase y_base y_goal y_work y_under y_live) (hp : ph p ≠ 100) : fr_x y_kind fa ph p < 384 := by
  have h := (rn_top A F hp).2.2.2.2.2.2.2.2.2.2.2.2
  have := (fr_xle (K := y_kind) (fa := fa) (ph := ph) p).1
  first | omega | sorry
theorem dv_np {p t : Nat} (hp : ph p ≠ 100) (lt : fr_lt y_kind (tk_nd y_kind y_word) fa ph rt (p + 1) t (w - 1)) : fr_pt (y_kind (fa p)) (ph p) < tk_nd y_kind y_word (fa p) ∧ ex_e (tk_nd y_kind y_word) t = ex_pt (tk_nd y_kind y_word) (fa p) (fr_pt (y_kind (fa p)) (ph p) + 1) := by
  obtain ⟨a, b⟩ := (lt.2 p rfl).2 hp
  exact ⟨a, by rw [b]; rfl⟩
theorem go_then0 {p tm : Nat} (A : rn_A cc bc dc mc T ST SA lv τ σ lev ho x_tokenKind x_tokenValue y_kind y_word y_size y_parent y_fields y_bound x_globals y_globals x_thingShown x_thingClass x_thingFields x_thingToken x_thingMaker x_variables x_homeOf x_within x_foundIn y_sort y_number y_stands y_keeps y_cells y_within y_foundIn y_self y_args y_temps y_param) (F : rn_F T ST SA lv σ lev ho y_kind y_word fa ph bs ow gg wk un rt (p + 1) w y_sort y_number x_frameToken x_frameStage x_frameLink x_operands x_baseFrame y_operands y_self y_at y_in y_phase y_base y_goal y_work y_under y_live) {xv yv : Int64} (k16 : y_kind (fa p) = 16) (h0 : ph p = 0) {np : Nat} (enp : np = ex_pt (tk_nd y_kind y_word) (fa p) 1) (n : rn_n B (M + 1) mc st sp (rn_mu (tk_nd y_kind y_word) fa un rt st (p + 1) w np 2)) (ht : tm + 2 ≤ 1000000) :
    rn_Go B M tm (nI cc, nI bc, nI dc, y_fault, nI mc, nI (fr_x y_kind fa ph (p + 1)), nI (σ (wk (w - 1))), nI np, xv, 1, 100, nI st, nI w, y_peak, nI sp, x_pendingCount, y_parent, y_fields, y_bound, x_tokenKind, x_tokenValue, x_globals, x_thingShown, x_thingClass, x_thingFields, x_thingToken, x_thingMaker, x_variables, x_homeOf, x_within, x_foundIn, x_baseFrame, x_frameToken, x_frameStage, x_frameLink, x_operands, y_heard, x_marked, x_pending) (nI cc, nI bc, y_fault, nI mc, nI w, y_peak, nI st, nI (p + 1), nI (bs (p + 1)), y_code, 1, 1, yv, y_todos, y_marks, -10000000000, nI sp, y_parent, y_fields, y_bound, y_kind, y_word, y_size, y_sort, y_number, y_stands, y_keeps, y_cells, y_globals, y_within, y_foundIn, y_self, y_args, y_temps, y_param, y_live, y_work, y_under, y_at, y_in, y_phase, y_base, y_goal, y_operands, y_marked, y_todo, y_heard) := by
  have hp : ph p ≠ 100 := by omega
  have nt : ¬ fr_tail (y_kind (fa p)) (ph p) := fun z => by rcases z with ⟨_, z⟩ | ⟨_, z⟩ <;> omega
  obtain ⟨f1, eo, f5, p3, p5, b3, y1, y2, y3, y4, a3, n3, p383⟩ := rn_top A F hp
  have hxr := rn_xr A F hp
  have ep : nI (p + 1) - 1 = nI p := nI_pred p
  have pc : (nI p).toNatClampNeg = p := nI_clamp (by omega)
  have vp : vp_in (nI p) 500 := vp_in_nI p5 (by decide)
  have fac : (nI (fa p)).toNatClampNeg = fa p := nI_clamp (by omega)
  have xr : fr_x y_kind fa ph (p + 1) = fr_x y_kind fa ph p + 1 := by
    show _ + ct_b _ = _
    rw [ct_bt nt]
  have xrc : (nI (fr_x y_kind fa ph p)).toNatClampNeg = fr_x y_kind fa ph p := nI_clamp (by omega)
  have vxr : vp_in (nI (fr_x y_kind fa ph p)) 384 := vp_in_nI hxr (by decide)
  obtain ⟨xtk, xsg, xlk, xO⟩ := (F.2.2.1.2 p (by omega) nt).2 hp
  have xkd : x_tokenKind (fa p) = y_kind (fa p) := (A.1.2.2.1.2.1 _ f1).2.1
  have xvl : x_tokenValue (fa p) = y_word (fa p) := (A.1.2.2.1.2.1 _ f1).2.2.1
  have goY : ∀ Q : SY → Prop, (∀ k : Int32, k = y_kind (fa p) → _) → wpY_deliver Q (nI cc, nI bc, y_fault, nI mc, nI w, y_peak, nI st, nI (p + 1), nI (bs (p + 1)), y_code, 1, 1, yv, y_todos, y_marks, -10000000000, nI sp, y_parent, y_fields, y_bound, y_kind, y_word, y_size, y_sort, y_number, y_stands, y_keeps, y_cells, y_globals, y_within, y_foundIn, y_self, y_args, y_temps, y_param, y_live, y_work, y_under, y_at, y_in, y_phase, y_base, y_goal, y_operands, y_marked, y_todo, y_heard) := fun Q h => by
    unfold wpY_deliver
    dsimp only
    rw [ep]
    refine nm_e (br_t (nI_pos' (by omega)) ?_)
    rw [pc, y3]
    refine ⟨vp, br_f (fun z => hp ((nI_eq (b := 100) (by omega) (by decide)).mp z)) ⟨vp, ?_⟩⟩
    rw [y1, fac]
    exact ⟨vp_in_nI (by omega) (by decide), h⟩
  have goX : ∀ Q : SX → Prop, (∀ k : Int32, k = y_kind (fa p) → _) → wpX_handOn Q (nI cc, nI bc, nI dc, y_fault, nI mc, nI (fr_x y_kind fa ph (p + 1)), nI (σ (wk (w - 1))), nI np, xv, 1, 100, nI st, nI w, y_peak, nI sp, x_pendingCount, y_parent, y_fields, y_bound, x_tokenKind, x_tokenValue, x_globals, x_thingShown, x_thingClass, x_thingFields, x_thingToken, x_thingMaker, x_variables, x_homeOf, x_within, x_foundIn, x_baseFrame, x_frameToken, x_frameStage, x_frameLink, x_operands, y_heard, x_marked, x_pending) := fun Q h => by
    unfold wpX_handOn
    dsimp only
    rw [xr, nI_pred]
    refine nm_e ?_
    rw [xrc, xtk]
    refine ⟨vxr, nm_e (br_f (gx_m1 (by omega)) ⟨vp_in_nI (by omega) (by decide), ?_⟩)⟩
    rw [fac, xkd]
    exact h
  have nd2 : tk_nd y_kind y_word (fa p) = 2 := by unfold tk_nd; rw [k16]; rfl
  have pt1 : fr_pt (y_kind (fa p)) 1 = 1 := by unfold fr_pt; rw [if_neg (fun z => by have := z.2; omega)]
  have c1 : fr_c (y_kind (fa p)) 1 = 0 := by rw [k16]; rfl
  have c0 : fr_c (y_kind (fa p)) (ph p) = 0 := by rw [k16, h0]; rfl
  have tl : fr_tail (y_kind (fa p)) 1 := Or.inl ⟨k16, rfl⟩
  have bse : bs (p + 1) = bs p := by rw [(F.1.2.2.2.2.1 p (by omega)).2.2.2.2.2.1, c0]; rfl
  have F' := rn_set (φ := 1) (g := gg p) (aph' := upd y_phase p (nI 1)) (ago' := y_goal) (xtk' := x_frameToken) (xsg' := x_frameStage) (xlk' := x_frameLink) (xop' := x_operands) (yop' := y_operands) F hp (by decide) (Or.inr (Or.inl ⟨k16, by omega⟩)) (fun _ z => by omega) ⟨pk_us, fun q hq => ⟨pk_un (by omega), rfl⟩⟩ (fun _ _ => ⟨rfl, rfl, rfl⟩) (fun _ _ => rfl) (fun _ _ => rfl) (fun z => absurd tl z)
  obtain ⟨n1, n2, n3', n4⟩ := n
  refine ⟨(nI cc, nI bc, nI dc, y_fault, nI mc, nI (fr_x y_kind fa ph p), nI (σ (wk (w - 1))), nI np, xv, 0, 100, nI st, nI w, y_peak, nI sp, x_pendingCount, y_parent, y_fields, y_bound, x_tokenKind, x_tokenValue, x_globals, x_thingShown, x_thingClass, x_thingFields, x_thingToken, x_thingMaker, x_variables, x_homeOf, x_within, x_foundIn, x_baseFrame, x_frameToken, x_frameStage, x_frameLink, x_operands, y_heard, x_marked, x_pending), (nI cc, nI bc, y_fault, nI mc, nI w, y_peak, nI st, nI (p + 1), nI (bs (p + 1)), y_code, 1, 0, yv, y_todos, y_marks, -10000000000, nI sp, y_parent, y_fields, y_bound, y_kind, y_word, y_size, y_sort, y_number, y_stands, y_keeps, y_cells, y_globals, y_within, y_foundIn, y_self, y_args, y_temps, y_param, y_live, y_work, y_under, y_at, y_in, upd y_phase p (nI 1), y_base, y_goal, y_operands, y_marked, y_todo, y_heard), tm + 1, by omega, fun PX k => xt_hand (by omega) (fun Q q => goX Q (nm_r k16 (br_t rfl ?_))) k, fun PY m k => YL_mono (yt_deliver (fun Q q => goY Q (nm_r k16 (br_t rfl ?_))) k) (by omega), Or.inr (set_N A F' (by decide) (by rw [ct_bf (fun z => z tl)]; rfl) (by rw [c1, bse]; rfl) (by rw [pt1]; exact enp.symm) (Or.inl ⟨by rw [pt1, nd2]; omega, rfl, rfl⟩) ⟨n1, ?_⟩)⟩
  · unfold wpX_afterThen
    dsimp only
    exact nm_r (nI_pred _) q
  · rw [h0]
    exact ⟨vp, vp, nm_r (show upd y_phase p (nI 0 + 1) = upd y_phase p (nI 1) from rfl) (br_f (by decide) q)⟩
  · unfold rn_mu at n2 n3' n4 ⊢
    omega
end
end
section
/-! a value comes to the operator on top: THEN and IF at their ends, IF, WHILE -/
section
variable {x_classCount x_bodyCount x_draftCount x_wrongPlace x_madeCount x_frameCount x_current x_next x_mode x_outcome x_stepCount x_atWork x_mostAtWork x_saidCount x_pendingCount : Int32} {x_inHand : Int64} {x_classParent x_classFields x_bound x_tokenKind x_tokenValue x_thingClass x_thingToken x_thingMaker x_homeOf x_within x_foundIn x_baseFrame x_frameToken x_frameStage x_frameLink x_marked x_pending : Nat → Int32} {x_globals x_thingShown x_thingFields x_variables x_operands x_saidValues : Nat → Int64}
variable {y_classes y_bodies y_fault y_made y_working y_peak y_steps y_depth y_waiting y_code y_running y_has y_todos y_marks y_spoken : Int32} {y_got y_shown : Int64} {y_parent y_fields y_bound y_kind y_word y_size y_sort y_number y_stands y_keeps y_within y_foundIn y_live y_work y_under y_at y_in y_phase y_base y_goal y_marked y_todo : Nat → Int32} {y_cells y_globals y_self y_args y_temps y_param y_operands y_heard : Nat → Int64}
variable {cc bc dc mc st sp d w np md B M : Nat} {T ST SA : Nat → Prop} {lv τ σ lev ho fa ph bs ow gg wk un rt : Nat → Nat}
theorem yw_finish {p b : Nat} {v : Int64} {Q : SY → Prop} (hp : p < 500) (hb : y_base p = nI b) (q : Q (y_classes, y_bodies, y_fault, y_made, y_working, y_peak, y_steps, nI p, nI b, y_code, y_running, 1, v, y_todos, y_marks, y_shown, y_spoken, y_parent, y_fields, y_bound, y_kind, y_word, y_size, y_sort, y_number, y_stands, y_keeps, y_cells, y_globals, y_within, y_foundIn, y_self, y_args, y_temps, y_param, y_live, y_work, y_under, y_at, y_in, y_phase, y_base, y_goal, y_operands, y_marked, y_todo, y_heard)) : wpY_finish Q (y_classes, y_bodies, y_fault, y_made, y_working, y_peak, y_steps, nI (p + 1), y_waiting, y_code, y_running, y_has, y_got, y_todos, y_marks, y_shown, y_spoken, y_parent, y_fields, y_bound, y_kind, y_word, y_size, y_sort, y_number, y_stands, y_keeps, y_cells, y_globals, y_within, y_foundIn, y_self, y_args, y_temps, y_param, y_live, y_work, y_under, y_at, y_in, y_phase, y_base, y_goal, y_operands, y_marked, y_todo, y_heard) v := by
  unfold wpY_finish
  dsimp only
  rw [nI_pred]
  refine nm_e ?_
  rw [nI_clamp (show p < 2 ^ 31 by omega), hb]
  exact ⟨vp_in_nI hp (by decide), nm_e q⟩
theorem xw_endT (A : rn_A cc bc dc mc T ST SA lv τ σ lev ho x_tokenKind x_tokenValue y_kind y_word y_size y_parent y_fields y_bound x_globals y_globals x_thingShown x_thingClass x_thingFields x_thingToken x_thingMaker x_variables x_homeOf x_within x_foundIn y_sort y_number y_stands y_keeps y_cells y_within y_foundIn y_self y_args y_temps y_param) {t : Nat} (tt : T t) {post : Int32 → Prop} (q : post (nI (ex_e (tk_nd y_kind y_word) t))) : wpX_endOfExpression post (x_classCount, x_bodyCount, x_draftCount, x_wrongPlace, x_madeCount, x_frameCount, x_current, x_next, x_inHand, x_mode, x_outcome, x_stepCount, x_atWork, x_mostAtWork, x_saidCount, x_pendingCount, x_classParent, x_classFields, x_bound, x_tokenKind, x_tokenValue, x_globals, x_thingShown, x_thingClass, x_thingFields, x_thingToken, x_thingMaker, x_variables, x_homeOf, x_within, x_foundIn, x_baseFrame, x_frameToken, x_frameStage, x_frameLink, x_operands, x_saidValues, x_marked, x_pending) (nI t) := by
  obtain ⟨b12, t1, t2, _⟩ := A.1.2.2.1
  obtain ⟨m, m1, m2, m3⟩ := t2 t tt
  have l1 := (t1 t tt).1
  rw [ex_eq m1] at q
  exact xw_end m1 (by omega) (fun z z1 z2 => ⟨(t1 z (m3 z z1 z2)).2.1, (t1 z (m3 z z1 z2)).2.2.1, (t1 z (m3 z z1 z2)).2.2.2.1⟩) q
theorem mu_fin {p np : Nat} (hn : np ≤ ex_e (tk_nd y_kind y_word) (fa p)) {md : Nat} (hm : 1 ≤ md) (n : rn_n B (M + 1) mc st sp (rn_mu (tk_nd y_kind y_word) fa un rt st (p + 1) w np md)) : rn_n B M mc st sp (rn_mu (tk_nd y_kind y_word) fa un rt st p w (ex_e (tk_nd y_kind y_word) (fa p)) 2) := by
  obtain ⟨n1, n2, n3, n4⟩ := n
  unfold rn_mu at n2 n3 n4
  refine ⟨n1, ?_⟩
  unfold rn_mu
  omega
theorem go_tail {p tm : Nat} (A : rn_A cc bc dc mc T ST SA lv τ σ lev ho x_tokenKind x_tokenValue y_kind y_word y_size y_parent y_fields y_bound x_globals y_globals x_thingShown x_thingClass x_thingFields x_thingToken x_thingMaker x_variables x_homeOf x_within x_foundIn y_sort y_number y_stands y_keeps y_cells y_within y_foundIn y_self y_args y_temps y_param) (F : rn_F T ST SA lv σ lev ho y_kind y_word fa ph bs ow gg wk un rt (p + 1) w y_sort y_number x_frameToken x_frameStage x_frameLink x_operands x_baseFrame y_operands y_self y_at y_in y_phase y_base y_goal y_work y_under y_live) {xv yv : Int64} (hv : hp_v ST (hp_s y_sort y_number) xv yv) (tl : fr_tail (y_kind (fa p)) (ph p)) {np : Nat} (enp : np = ex_e (tk_nd y_kind y_word) (fa p)) (n : rn_n B (M + 1) mc st sp (rn_mu (tk_nd y_kind y_word) fa un rt st (p + 1) w np 2)) :
    rn_Go B M tm (nI cc, nI bc, nI dc, y_fault, nI mc, nI (fr_x y_kind fa ph (p + 1)), nI (σ (wk (w - 1))), nI np, xv, 1, 100, nI st, nI w, y_peak, nI sp, x_pendingCount, y_parent, y_fields, y_bound, x_tokenKind, x_tokenValue, x_globals, x_thingShown, x_thingClass, x_thingFields, x_thingToken, x_thingMaker, x_variables, x_homeOf, x_within, x_foundIn, x_baseFrame, x_frameToken, x_frameStage, x_frameLink, x_operands, y_heard, x_marked, x_pending) (nI cc, nI bc, y_fault, nI mc, nI w, y_peak, nI st, nI (p + 1), nI (bs (p + 1)), y_code, 1, 1, yv, y_todos, y_marks, -10000000000, nI sp, y_parent, y_fields, y_bound, y_kind, y_word, y_size, y_sort, y_number, y_stands, y_keeps, y_cells, y_globals, y_within, y_foundIn, y_self, y_args, y_temps, y_param, y_live, y_work, y_under, y_at, y_in, y_phase, y_base, y_goal, y_operands, y_marked, y_todo, y_heard) := by
  have hp : ph p ≠ 100 := by rcases tl with ⟨_, z⟩ | ⟨_, z⟩ <;> omega
  obtain ⟨f1, eo, f5, p3, p5, b3, y1, y2, y3, y4, a3, n3, p383⟩ := rn_top A F hp
  have ep : nI (p + 1) - 1 = nI p := nI_pred p
  have pc : (nI p).toNatClampNeg = p := nI_clamp (by omega)
  have vp : vp_in (nI p) 500 := vp_in_nI p5 (by decide)
  have fac : (nI (fa p)).toNatClampNeg = fa p := nI_clamp (by omega)
  have xr : fr_x y_kind fa ph (p + 1) = fr_x y_kind fa ph p := by
    show _ + ct_b _ = _
    rw [ct_bf (fun z => z tl)]; rfl
  have goY : ∀ Q : SY → Prop, (∀ k : Int32, k = y_kind (fa p) → _) → wpY_deliver Q (nI cc, nI bc, y_fault, nI mc, nI w, y_peak, nI st, nI (p + 1), nI (bs (p + 1)), y_code, 1, 1, yv, y_todos, y_marks, -10000000000, nI sp, y_parent, y_fields, y_bound, y_kind, y_word, y_size, y_sort, y_number, y_stands, y_keeps, y_cells, y_globals, y_within, y_foundIn, y_self, y_args, y_temps, y_param, y_live, y_work, y_under, y_at, y_in, y_phase, y_base, y_goal, y_operands, y_marked, y_todo, y_heard) := fun Q h => by
    unfold wpY_deliver
    dsimp only
    rw [ep]
    refine nm_e (br_t (nI_pos' (by omega)) ?_)
    rw [pc, y3]
    refine ⟨vp, br_f (fun z => hp ((nI_eq (b := 100) (by omega) (by decide)).mp z)) ⟨vp, ?_⟩⟩
    rw [y1, fac]
    exact ⟨vp_in_nI (by omega) (by decide), h⟩
  obtain ⟨n1, n2, n3', n4⟩ := mu_fin (by omega) (by omega) n
  subst enp
  rw [xr]
  rcases tl with ⟨k16, h1⟩ | ⟨k23, h2⟩
  · refine ⟨_, (nI cc, nI bc, y_fault, nI mc, nI w, y_peak, nI st, nI p, nI (bs p), y_code, 1, 1, yv, y_todos, y_marks, -10000000000, nI sp, y_parent, y_fields, y_bound, y_kind, y_word, y_size, y_sort, y_number, y_stands, y_keeps, y_cells, y_globals, y_within, y_foundIn, y_self, y_args, y_temps, y_param, y_live, y_work, y_under, y_at, y_in, upd y_phase p (nI 1 + 1), y_base, y_goal, y_operands, y_marked, y_todo, y_heard), tm, by omega, fun PX k => k, fun PY m k => YL_mono (yt_deliver (fun Q q => goY Q (nm_r k16 (br_t rfl ?_))) k) (by omega), Or.inr (fin_H A F hp (fun q hq => pk_un (by omega)) hv n3' n1 n2 n4)⟩
    rw [h1]
    exact ⟨vp, vp, nm_e (br_t rfl (yw_finish p5 y4 q))⟩
  · refine ⟨_, (nI cc, nI bc, y_fault, nI mc, nI w, y_peak, nI st, nI p, nI (bs p), y_code, 1, 1, yv, y_todos, y_marks, -10000000000, nI sp, y_parent, y_fields, y_bound, y_kind, y_word, y_size, y_sort, y_number, y_stands, y_keeps, y_cells, y_globals, y_within, y_foundIn, y_self, y_args, y_temps, y_param, y_live, y_work, y_under, y_at, y_in, y_phase, y_base, y_goal, y_operands, y_marked, y_todo, y_heard), tm, by omega, fun PX k => k, fun PY m k => YL_mono (yt_deliver (fun Q q => goY Q (nm_r k23 (br_f (by decide) (br_t rfl ?_)))) k) (by omega), Or.inr (fin_H A F hp (fun q hq => rfl) hv n3' n1 n2 n4)⟩
    rw [h2]
    exact ⟨vp, br_f (by decide) (yw_finish p5 y4 q)⟩
theorem go_if {p tm : Nat} (A : rn_A cc bc dc mc T ST SA lv τ σ lev ho x_tokenKind x_tokenValue y_kind y_word y_size y_parent y_fields y_bound x_globals y_globals x_thingShown x_thingClass x_thingFields x_thingToken x_thingMaker x_variables x_homeOf x_within x_foundIn y_sort y_number y_stands y_keeps y_cells y_within y_foundIn y_self y_args y_temps y_param) (F : rn_F T ST SA lv σ lev ho y_kind y_word fa ph bs ow gg wk un rt (p + 1) w y_sort y_number x_frameToken x_frameStage x_frameLink x_operands x_baseFrame y_operands y_self y_at y_in y_phase y_base y_goal y_work y_under y_live) {xv yv : Int64} (hv : hp_v ST (hp_s y_sort y_number) xv yv) (k23 : y_kind (fa p) = 23) (h0 : ph p = 0) {np : Nat} (enp : np = ex_pt (tk_nd y_kind y_word) (fa p) 1) (n : rn_n B (M + 1) mc st sp (rn_mu (tk_nd y_kind y_word) fa un rt st (p + 1) w np 2)) (ht : tm + 2 ≤ 1000000) :
    rn_Go B M tm (nI cc, nI bc, nI dc, y_fault, nI mc, nI (fr_x y_kind fa ph (p + 1)), nI (σ (wk (w - 1))), nI np, xv, 1, 100, nI st, nI w, y_peak, nI sp, x_pendingCount, y_parent, y_fields, y_bound, x_tokenKind, x_tokenValue, x_globals, x_thingShown, x_thingClass, x_thingFields, x_thingToken, x_thingMaker, x_variables, x_homeOf, x_within, x_foundIn, x_baseFrame, x_frameToken, x_frameStage, x_frameLink, x_operands, y_heard, x_marked, x_pending) (nI cc, nI bc, y_fault, nI mc, nI w, y_peak, nI st, nI (p + 1), nI (bs (p + 1)), y_code, 1, 1, yv, y_todos, y_marks, -10000000000, nI sp, y_parent, y_fields, y_bound, y_kind, y_word, y_size, y_sort, y_number, y_stands, y_keeps, y_cells, y_globals, y_within, y_foundIn, y_self, y_args, y_temps, y_param, y_live, y_work, y_under, y_at, y_in, y_phase, y_base, y_goal, y_operands, y_marked, y_todo, y_heard) := by
  have hp : ph p ≠ 100 := by omega
  have nt : ¬ fr_tail (y_kind (fa p)) (ph p) := fun z => by rcases z with ⟨_, z⟩ | ⟨_, z⟩ <;> omega
  obtain ⟨f1, eo, f5, p3, p5, b3, y1, y2, y3, y4, a3, n3, p383⟩ := rn_top A F hp
  have hxr := rn_xr A F hp
  have ep : nI (p + 1) - 1 = nI p := nI_pred p
  have pc : (nI p).toNatClampNeg = p := nI_clamp (by omega)
  have vp : vp_in (nI p) 500 := vp_in_nI p5 (by decide)
  have fac : (nI (fa p)).toNatClampNeg = fa p := nI_clamp (by omega)
  have xr : fr_x y_kind fa ph (p + 1) = fr_x y_kind fa ph p + 1 := by
    show _ + ct_b _ = _
    rw [ct_bt nt]
  have xrc : (nI (fr_x y_kind fa ph p)).toNatClampNeg = fr_x y_kind fa ph p := nI_clamp (by omega)
  have vxr : vp_in (nI (fr_x y_kind fa ph p)) 384 := vp_in_nI hxr (by decide)
  obtain ⟨xtk, xsg, xlk, xO⟩ := (F.2.2.1.2 p (by omega) nt).2 hp
  have xkd : x_tokenKind (fa p) = y_kind (fa p) := (A.1.2.2.1.2.1 _ f1).2.1
  have xvl : x_tokenValue (fa p) = y_word (fa p) := (A.1.2.2.1.2.1 _ f1).2.2.1
  have goY : ∀ Q : SY → Prop, (∀ k : Int32, k = y_kind (fa p) → _) → wpY_deliver Q (nI cc, nI bc, y_fault, nI mc, nI w, y_peak, nI st, nI (p + 1), nI (bs (p + 1)), y_code, 1, 1, yv, y_todos, y_marks, -10000000000, nI sp, y_parent, y_fields, y_bound, y_kind, y_word, y_size, y_sort, y_number, y_stands, y_keeps, y_cells, y_globals, y_within, y_foundIn, y_self, y_args, y_temps, y_param, y_live, y_work, y_under, y_at, y_in, y_phase, y_base, y_goal, y_operands, y_marked, y_todo, y_heard) := fun Q h => by
    unfold wpY_deliver
    dsimp only
    rw [ep]
    refine nm_e (br_t (nI_pos' (by omega)) ?_)
    rw [pc, y3]
    refine ⟨vp, br_f (fun z => hp ((nI_eq (b := 100) (by omega) (by decide)).mp z)) ⟨vp, ?_⟩⟩
    rw [y1, fac]
    exact ⟨vp_in_nI (by omega) (by decide), h⟩
  have goX : ∀ Q : SX → Prop, (∀ k : Int32, k = y_kind (fa p) → _) → wpX_handOn Q (nI cc, nI bc, nI dc, y_fault, nI mc, nI (fr_x y_kind fa ph (p + 1)), nI (σ (wk (w - 1))), nI np, xv, 1, 100, nI st, nI w, y_peak, nI sp, x_pendingCount, y_parent, y_fields, y_bound, x_tokenKind, x_tokenValue, x_globals, x_thingShown, x_thingClass, x_thingFields, x_thingToken, x_thingMaker, x_variables, x_homeOf, x_within, x_foundIn, x_baseFrame, x_frameToken, x_frameStage, x_frameLink, x_operands, y_heard, x_marked, x_pending) := fun Q h => by
    unfold wpX_handOn
    dsimp only
    rw [xr, nI_pred]
    refine nm_e ?_
    rw [xrc, xtk]
    refine ⟨vxr, nm_e (br_f (gx_m1 (by omega)) ⟨vp_in_nI (by omega) (by decide), ?_⟩)⟩
    rw [fac, xkd]
    exact h
  have TF := rn_TF A
  have nd3 : tk_nd y_kind y_word (fa p) = 3 := by unfold tk_nd; rw [k23]; rfl
  have pte : ∀ φ, fr_pt (y_kind (fa p)) φ = φ := fun φ => by unfold fr_pt; rw [if_neg (fun z => by have := z.1; rw [k23] at this; exact absurd this (by decide))]
  have ce : ∀ φ, φ ≠ 100 → fr_c (y_kind (fa p)) φ = 0 := fun φ h => by unfold fr_c; rw [if_neg h, if_pos (Or.inr (Or.inl k23))]
  have bse : bs (p + 1) = bs p := by rw [(F.1.2.2.2.2.1 p (by omega)).2.2.2.2.2.1, ce _ hp]; rfl
  have s0 : fr_s (y_kind (fa p)) = 0 := by unfold fr_s; rw [k23, if_neg (by decide)]
  obtain ⟨tt1, c1, c2, c3, c4, c5⟩ := fr_ch TF f1 (show 1 < tk_nd y_kind y_word (fa p) by omega)
  obtain ⟨n1, n2, n3', n4⟩ := n
  have mcl := A.2.2.2.1.1
  rcases tv_so (x_classCount := nI cc) (x_bodyCount := nI bc) (x_draftCount := nI dc) (x_wrongPlace := y_fault) (x_madeCount := nI mc) (x_frameCount := nI (fr_x y_kind fa ph p + 1)) (x_current := nI (σ (wk (w - 1)))) (x_next := nI np) (x_inHand := xv) (x_mode := 0) (x_outcome := 100) (x_stepCount := nI st) (x_atWork := nI w) (x_mostAtWork := y_peak) (x_saidCount := nI sp) (x_pendingCount := x_pendingCount) (x_classParent := y_parent) (x_classFields := y_fields) (x_bound := y_bound) (x_tokenKind := x_tokenKind) (x_tokenValue := x_tokenValue) (x_globals := x_globals) (x_thingShown := x_thingShown) (x_thingClass := x_thingClass) (x_thingFields := x_thingFields) (x_thingToken := x_thingToken) (x_thingMaker := x_thingMaker) (x_variables := x_variables) (x_homeOf := x_homeOf) (x_within := x_within) (x_foundIn := x_foundIn) (x_baseFrame := x_baseFrame) (x_frameToken := x_frameToken) (x_frameStage := x_frameStage) (x_frameLink := x_frameLink) (x_operands := x_operands) (x_saidValues := y_heard) (x_marked := x_marked) (x_pending := x_pending) A.2.2.1 (by omega) hv with ⟨sX, sY⟩ | ⟨sX, sY⟩
  · have tl : fr_tail (y_kind (fa p)) 2 := Or.inr ⟨k23, rfl⟩
    have F' := rn_set (φ := 2) (g := gg p) (aph' := upd y_phase p (nI 2)) (ago' := y_goal) (xtk' := x_frameToken) (xsg' := x_frameStage) (xlk' := x_frameLink) (xop' := x_operands) (yop' := y_operands) F hp (by decide) (Or.inr (Or.inr (Or.inl ⟨k23, by omega⟩))) (fun z _ => by rw [k23] at z; exact absurd z (by decide)) ⟨pk_us, fun q hq => ⟨pk_un (by omega), rfl⟩⟩ (fun _ _ => ⟨rfl, rfl, rfl⟩) (fun _ _ => rfl) (fun _ _ => rfl) (fun z => absurd tl z)
    refine ⟨(nI cc, nI bc, nI dc, y_fault, nI mc, nI (fr_x y_kind fa ph p), nI (σ (wk (w - 1))), nI (ex_e (tk_nd y_kind y_word) np), xv, 0, 100, nI st, nI w, y_peak, nI sp, x_pendingCount, y_parent, y_fields, y_bound, x_tokenKind, x_tokenValue, x_globals, x_thingShown, x_thingClass, x_thingFields, x_thingToken, x_thingMaker, x_variables, x_homeOf, x_within, x_foundIn, x_baseFrame, x_frameToken, x_frameStage, x_frameLink, x_operands, y_heard, x_marked, x_pending), (nI cc, nI bc, y_fault, nI mc, nI w, y_peak, nI st, nI (p + 1), nI (bs (p + 1)), y_code, 1, 0, yv, y_todos, y_marks, -10000000000, nI sp, y_parent, y_fields, y_bound, y_kind, y_word, y_size, y_sort, y_number, y_stands, y_keeps, y_cells, y_globals, y_within, y_foundIn, y_self, y_args, y_temps, y_param, y_live, y_work, y_under, y_at, y_in, upd y_phase p (nI 2), y_base, y_goal, y_operands, y_marked, y_todo, y_heard), tm + 1, by omega, fun PX k => xt_hand (by omega) (fun Q q => goX Q (nm_r k23 (br_f (by decide) (br_t rfl ?_)))) k, fun PY m k => YL_mono (yt_deliver (fun Q q => goY Q (nm_r k23 (br_f (by decide) (br_t rfl ?_)))) k) (by omega), Or.inr (set_N A F' (by decide) (by rw [ct_bf (fun z => z tl)]; rfl) (by rw [ce 2 (by decide), bse]; rfl) (by rw [pte, enp]; rfl) (Or.inl ⟨by rw [pte, nd3]; omega, rfl, rfl⟩) ⟨n1, ?_⟩)⟩
    · unfold wpX_afterIf
      dsimp only
      rw [xrc, xsg, h0, s0]
      refine ⟨vxr, br_f (by decide) (br_t rfl (br_t rfl (sX _ (br_t rfl ?_))))⟩
      unfold wX_afterIf_48
      rw [nI_pred, enp]
      rw [enp] at q
      exact xw_endT A tt1 (nm_e q)
    · rw [h0]
      exact ⟨vp, br_t (by decide) (sY _ (br_t rfl ⟨vp, nm_e q⟩))⟩
    · rw [enp] at n2 n3' n4 ⊢
      unfold rn_mu at n2 n3' n4 ⊢
      omega
  · have nt1 : ¬ fr_tail (y_kind (fa p)) 1 := fun z => by
      rcases z with ⟨z, _⟩ | ⟨_, z⟩
      · rw [k23] at z; exact absurd z (by decide)
      · omega
    have F' := rn_set (φ := 1) (g := gg p) (aph' := upd y_phase p (nI 1)) (ago' := y_goal) (xtk' := x_frameToken) (xsg' := upd x_frameStage (fr_x y_kind fa ph p) 1) (xlk' := x_frameLink) (xop' := x_operands) (yop' := y_operands) F hp (by decide) (Or.inr (Or.inr (Or.inl ⟨k23, by omega⟩))) (fun z _ => by rw [k23] at z; exact absurd z (by decide)) ⟨pk_us, fun q hq => ⟨pk_un (by omega), rfl⟩⟩ (fun R hR => ⟨rfl, pk_un (by omega), rfl⟩) (fun _ _ => rfl) (fun _ _ => rfl) (fun _ => ⟨xtk, by rw [s0]; exact pk_us, fun z _ => by rw [k23] at z; exact absurd z (by decide), by rw [ce 1 (by decide)]; rw [ce _ hp] at xO; exact xO⟩)
    refine ⟨(nI cc, nI bc, nI dc, y_fault, nI mc, nI (fr_x y_kind fa ph p + 1), nI (σ (wk (w - 1))), nI np, xv, 0, 100, nI st, nI w, y_peak, nI sp, x_pendingCount, y_parent, y_fields, y_bound, x_tokenKind, x_tokenValue, x_globals, x_thingShown, x_thingClass, x_thingFields, x_thingToken, x_thingMaker, x_variables, x_homeOf, x_within, x_foundIn, x_baseFrame, x_frameToken, upd x_frameStage (fr_x y_kind fa ph p) 1, x_frameLink, x_operands, y_heard, x_marked, x_pending), (nI cc, nI bc, y_fault, nI mc, nI w, y_peak, nI st, nI (p + 1), nI (bs (p + 1)), y_code, 1, 0, yv, y_todos, y_marks, -10000000000, nI sp, y_parent, y_fields, y_bound, y_kind, y_word, y_size, y_sort, y_number, y_stands, y_keeps, y_cells, y_globals, y_within, y_foundIn, y_self, y_args, y_temps, y_param, y_live, y_work, y_under, y_at, y_in, upd y_phase p (nI 1), y_base, y_goal, y_operands, y_marked, y_todo, y_heard), tm + 1, by omega, fun PX k => xt_hand (by omega) (fun Q q => goX Q (nm_r k23 (br_f (by decide) (br_t rfl ?_)))) k, fun PY m k => YL_mono (yt_deliver (fun Q q => goY Q (nm_r k23 (br_f (by decide) (br_t rfl ?_)))) k) (by omega), Or.inr (set_N A F' (by decide) (by rw [ct_bt nt1]) (by rw [ce 1 (by decide), bse]; rfl) (by rw [pte, enp]) (Or.inl ⟨by rw [pte, nd3]; omega, rfl, rfl⟩) ⟨n1, ?_⟩)⟩
    · unfold wpX_afterIf
      dsimp only
      rw [xrc, xsg, h0, s0]
      refine ⟨vxr, br_f (by decide) (br_t rfl (br_t rfl (sX _ (br_f (by decide) ⟨vxr, ?_⟩))))⟩
      rw [xrc]
      exact nm_e q
    · rw [h0]
      exact ⟨vp, br_t (by decide) (sY _ (br_f (by decide) ⟨vp, nm_e q⟩))⟩
    · unfold rn_mu at n2 n3' n4 ⊢
      omega
theorem go_if1 {p tm : Nat} (A : rn_A cc bc dc mc T ST SA lv τ σ lev ho x_tokenKind x_tokenValue y_kind y_word y_size y_parent y_fields y_bound x_globals y_globals x_thingShown x_thingClass x_thingFields x_thingToken x_thingMaker x_variables x_homeOf x_within x_foundIn y_sort y_number y_stands y_keeps y_cells y_within y_foundIn y_self y_args y_temps y_param) (F : rn_F T ST SA lv σ lev ho y_kind y_word fa ph bs ow gg wk un rt (p + 1) w y_sort y_number x_frameToken x_frameStage x_frameLink x_operands x_baseFrame y_operands y_self y_at y_in y_phase y_base y_goal y_work y_under y_live) {xv yv : Int64} (hv : hp_v ST (hp_s y_sort y_number) xv yv) (k23 : y_kind (fa p) = 23) (h0 : ph p = 1) {np : Nat} (enp : np = ex_pt (tk_nd y_kind y_word) (fa p) 2) (n : rn_n B (M + 1) mc st sp (rn_mu (tk_nd y_kind y_word) fa un rt st (p + 1) w np 2)) (ht : tm + 2 ≤ 1000000) :
    rn_Go B M tm (nI cc, nI bc, nI dc, y_fault, nI mc, nI (fr_x y_kind fa ph (p + 1)), nI (σ (wk (w - 1))), nI np, xv, 1, 100, nI st, nI w, y_peak, nI sp, x_pendingCount, y_parent, y_fields, y_bound, x_tokenKind, x_tokenValue, x_globals, x_thingShown, x_thingClass, x_thingFields, x_thingToken, x_thingMaker, x_variables, x_homeOf, x_within, x_foundIn, x_baseFrame, x_frameToken, x_frameStage, x_frameLink, x_operands, y_heard, x_marked, x_pending) (nI cc, nI bc, y_fault, nI mc, nI w, y_peak, nI st, nI (p + 1), nI (bs (p + 1)), y_code, 1, 1, yv, y_todos, y_marks, -10000000000, nI sp, y_parent, y_fields, y_bound, y_kind, y_word, y_size, y_sort, y_number, y_stands, y_keeps, y_cells, y_globals, y_within, y_foundIn, y_self, y_args, y_temps, y_param, y_live, y_work, y_under, y_at, y_in, y_phase, y_base, y_goal, y_operands, y_marked, y_todo, y_heard) := by
  have hp : ph p ≠ 100 := by omega
  have nt : ¬ fr_tail (y_kind (fa p)) (ph p) := fun z => by
    rcases z with ⟨z, _⟩ | ⟨_, z⟩
    · rw [k23] at z; exact absurd z (by decide)
    · omega
  obtain ⟨f1, eo, f5, p3, p5, b3, y1, y2, y3, y4, a3, n3, p383⟩ := rn_top A F hp
  have hxr := rn_xr A F hp
  have ep : nI (p + 1) - 1 = nI p := nI_pred p
  have pc : (nI p).toNatClampNeg = p := nI_clamp (by omega)
  have vp : vp_in (nI p) 500 := vp_in_nI p5 (by decide)
  have fac : (nI (fa p)).toNatClampNeg = fa p := nI_clamp (by omega)
  have xr : fr_x y_kind fa ph (p + 1) = fr_x y_kind fa ph p + 1 := by
    show _ + ct_b _ = _
    rw [ct_bt nt]
  have xrc : (nI (fr_x y_kind fa ph p)).toNatClampNeg = fr_x y_kind fa ph p := nI_clamp (by omega)
  have vxr : vp_in (nI (fr_x y_kind fa ph p)) 384 := vp_in_nI hxr (by decide)
  obtain ⟨xtk, xsg, xlk, xO⟩ := (F.2.2.1.2 p (by omega) nt).2 hp
  have xkd : x_tokenKind (fa p) = y_kind (fa p) := (A.1.2.2.1.2.1 _ f1).2.1
  have xvl : x_tokenValue (fa p) = y_word (fa p) := (A.1.2.2.1.2.1 _ f1).2.2.1
  have goY : ∀ Q : SY → Prop, (∀ k : Int32, k = y_kind (fa p) → _) → wpY_deliver Q (nI cc, nI bc, y_fault, nI mc, nI w, y_peak, nI st, nI (p + 1), nI (bs (p + 1)), y_code, 1, 1, yv, y_todos, y_marks, -10000000000, nI sp, y_parent, y_fields, y_bound, y_kind, y_word, y_size, y_sort, y_number, y_stands, y_keeps, y_cells, y_globals, y_within, y_foundIn, y_self, y_args, y_temps, y_param, y_live, y_work, y_under, y_at, y_in, y_phase, y_base, y_goal, y_operands, y_marked, y_todo, y_heard) := fun Q h => by
    unfold wpY_deliver
    dsimp only
    rw [ep]
    refine nm_e (br_t (nI_pos' (by omega)) ?_)
    rw [pc, y3]
    refine ⟨vp, br_f (fun z => hp ((nI_eq (b := 100) (by omega) (by decide)).mp z)) ⟨vp, ?_⟩⟩
    rw [y1, fac]
    exact ⟨vp_in_nI (by omega) (by decide), h⟩
  have goX : ∀ Q : SX → Prop, (∀ k : Int32, k = y_kind (fa p) → _) → wpX_handOn Q (nI cc, nI bc, nI dc, y_fault, nI mc, nI (fr_x y_kind fa ph (p + 1)), nI (σ (wk (w - 1))), nI np, xv, 1, 100, nI st, nI w, y_peak, nI sp, x_pendingCount, y_parent, y_fields, y_bound, x_tokenKind, x_tokenValue, x_globals, x_thingShown, x_thingClass, x_thingFields, x_thingToken, x_thingMaker, x_variables, x_homeOf, x_within, x_foundIn, x_baseFrame, x_frameToken, x_frameStage, x_frameLink, x_operands, y_heard, x_marked, x_pending) := fun Q h => by
    unfold wpX_handOn
    dsimp only
    rw [xr, nI_pred]
    refine nm_e ?_
    rw [xrc, xtk]
    refine ⟨vxr, nm_e (br_f (gx_m1 (by omega)) ⟨vp_in_nI (by omega) (by decide), ?_⟩)⟩
    rw [fac, xkd]
    exact h
  have TF := rn_TF A
  have nd3 : tk_nd y_kind y_word (fa p) = 3 := by unfold tk_nd; rw [k23]; rfl
  have s0 : fr_s (y_kind (fa p)) = 0 := by unfold fr_s; rw [k23, if_neg (by decide)]
  obtain ⟨tt1, c1, c2, c3, c4, c5⟩ := fr_ch TF f1 (show 2 < tk_nd y_kind y_word (fa p) by omega)
  have e3 : ex_e (tk_nd y_kind y_word) (ex_pt (tk_nd y_kind y_word) (fa p) 2) = ex_e (tk_nd y_kind y_word) (fa p) := by
    have := (fr_en TF f1).2.2
    rw [nd3] at this
    exact this
  obtain ⟨n1, n2, n3', n4⟩ := mu_fin (show np ≤ ex_e (tk_nd y_kind y_word) (fa p) by omega) (by omega) n
  refine ⟨(nI cc, nI bc, nI dc, y_fault, nI mc, nI (fr_x y_kind fa ph p), nI (σ (wk (w - 1))), nI (ex_e (tk_nd y_kind y_word) (fa p)), xv, 1, 100, nI st, nI w, y_peak, nI sp, x_pendingCount, y_parent, y_fields, y_bound, x_tokenKind, x_tokenValue, x_globals, x_thingShown, x_thingClass, x_thingFields, x_thingToken, x_thingMaker, x_variables, x_homeOf, x_within, x_foundIn, x_baseFrame, x_frameToken, x_frameStage, x_frameLink, x_operands, y_heard, x_marked, x_pending), (nI cc, nI bc, y_fault, nI mc, nI w, y_peak, nI st, nI p, nI (bs p), y_code, 1, 1, yv, y_todos, y_marks, -10000000000, nI sp, y_parent, y_fields, y_bound, y_kind, y_word, y_size, y_sort, y_number, y_stands, y_keeps, y_cells, y_globals, y_within, y_foundIn, y_self, y_args, y_temps, y_param, y_live, y_work, y_under, y_at, y_in, y_phase, y_base, y_goal, y_operands, y_marked, y_todo, y_heard), tm + 1, by omega, fun PX k => xt_hand (by omega) (fun Q q => goX Q (nm_r k23 (br_f (by decide) (br_t rfl ?_)))) k, fun PY m k => YL_mono (yt_deliver (fun Q q => goY Q (nm_r k23 (br_f (by decide) (br_t rfl ?_)))) k) (by omega), Or.inr (fin_H A F hp (fun q hq => rfl) hv n3' n1 n2 n4)⟩
  · unfold wpX_afterIf
    dsimp only
    rw [xrc, xsg, h0, s0]
    refine ⟨vxr, br_t rfl (br_f (by decide) (br_f (by decide) ?_))⟩
    unfold wX_afterIf_48
    rw [nI_pred, enp]
    rw [← e3] at q
    exact xw_endT A tt1 (nm_e q)
  · rw [h0]
    exact ⟨vp, br_f (by decide) (yw_finish p5 y4 q)⟩
end
end
section
/-! a value comes to the operator on top: WHILE, ENSURE, and those that gather operands -/
section
variable {x_classCount x_bodyCount x_draftCount x_wrongPlace x_madeCount x_frameCount x_current x_next x_mode x_outcome x_stepCount x_atWork x_mostAtWork x_saidCount x_pendingCount : Int32} {x_inHand : Int64} {x_classParent x_classFields x_bound x_tokenKind x_tokenValue x_thingClass x_thingToken x_thingMaker x_homeOf x_within x_foundIn x_baseFrame x_frameToken x_frameStage x_frameLink x_marked x_pending : Nat → Int32} {x_globals x_thingShown x_thingFields x_variables x_operands x_saidValues : Nat → Int64}
variable {y_classes y_bodies y_fault y_made y_working y_peak y_steps y_depth y_waiting y_code y_running y_has y_todos y_marks y_spoken : Int32} {y_got y_shown : Int64} {y_parent y_fields y_bound y_kind y_word y_size y_sort y_number y_stands y_keeps y_within y_foundIn y_live y_work y_under y_at y_in y_phase y_base y_goal y_marked y_todo : Nat → Int32} {y_cells y_globals y_self y_args y_temps y_param y_operands y_heard : Nat → Int64}
variable {cc bc dc mc st sp d w np md B M : Nat} {T ST SA : Nat → Prop} {lv τ σ lev ho fa ph bs ow gg wk un rt : Nat → Nat}
theorem rn_wl (A : rn_A cc bc dc mc T ST SA lv τ σ lev ho x_tokenKind x_tokenValue y_kind y_word y_size y_parent y_fields y_bound x_globals y_globals x_thingShown x_thingClass x_thingFields x_thingToken x_thingMaker x_variables x_homeOf x_within x_foundIn y_sort y_number y_stands y_keeps y_cells y_within y_foundIn y_self y_args y_temps y_param) (F : rn_F T ST SA lv σ lev ho y_kind y_word fa ph bs ow gg wk un rt d w y_sort y_number x_frameToken x_frameStage x_frameLink x_operands x_baseFrame y_operands y_self y_at y_in y_phase y_base y_goal y_work y_under y_live) : w ≤ 12 ∧ (∀ i, i < w → ∃ a, a < 160 ∧ y_work i = nI a) ∧ (∀ a, a < 160 → y_live a = 0 ∨ ∃ i, i < w ∧ y_work i = nI a) := by
  refine ⟨F.1.2.1, fun i hi => ?_, fun a ha => ?_⟩
  · exact ⟨wk i, (A.2.2.1.2.1 _ (F.2.2.2.1 i hi).1).1, (F.2.1.2 i hi).1⟩
  · obtain ⟨l1, l2⟩ := F.2.2.2.2.2.2 a ha
    rcases l1 with z | z
    · exact Or.inl z
    · obtain ⟨i, hi, e⟩ := l2.mp z
      exact Or.inr ⟨i, hi, by rw [(F.2.1.2 i hi).1, e]⟩
theorem rn_stop2 (A : rn_A cc bc dc mc T ST SA lv τ σ lev ho x_tokenKind x_tokenValue y_kind y_word y_size y_parent y_fields y_bound x_globals y_globals x_thingShown x_thingClass x_thingFields x_thingToken x_thingMaker x_variables x_homeOf x_within x_foundIn y_sort y_number y_stands y_keeps y_cells y_within y_foundIn y_self y_args y_temps y_param) (W : w ≤ 12 ∧ (∀ i, i < w → ∃ a, a < 160 ∧ y_work i = nI a) ∧ (∀ a, a < 160 → y_live a = 0 ∨ ∃ i, i < w ∧ y_work i = nI a)) {o : Int32} (o1 : ¬ o = 100) (o2 : ¬ o = 0) (hB : mc ≤ B) : rn_E B (nI cc, nI bc, nI dc, y_fault, nI mc, x_frameCount, x_current, x_next, x_inHand, x_mode, o, nI st, x_atWork, y_peak, nI sp, x_pendingCount, y_parent, y_fields, y_bound, x_tokenKind, x_tokenValue, x_globals, x_thingShown, x_thingClass, x_thingFields, x_thingToken, x_thingMaker, x_variables, x_homeOf, x_within, x_foundIn, x_baseFrame, x_frameToken, x_frameStage, x_frameLink, x_operands, y_heard, x_marked, x_pending) (nI cc, nI bc, y_fault, nI mc, nI w, y_peak, nI st, y_depth, y_waiting, o, 0, y_has, y_got, y_todos, y_marks, -10000000000, nI sp, y_parent, y_fields, y_bound, y_kind, y_word, y_size, y_sort, y_number, y_stands, y_keeps, y_cells, y_globals, y_within, y_foundIn, y_self, y_args, y_temps, y_param, y_live, y_work, y_under, y_at, y_in, y_phase, y_base, y_goal, y_operands, y_marked, y_todo, y_heard) :=
  ⟨cc, bc, dc, mc, w, T, ST, SA, lv, τ, σ, lev, ho, ⟨rfl, rfl, rfl, rfl, rfl, rfl, rfl, rfl, rfl, rfl, rfl, rfl⟩, ⟨rfl, rfl, rfl, rfl, rfl, W.1⟩, ⟨o1, rfl, Or.inr ⟨o2, rfl⟩⟩, A, hB, W.2.1, W.2.2⟩
theorem go_while {p tm : Nat} (A : rn_A cc bc dc mc T ST SA lv τ σ lev ho x_tokenKind x_tokenValue y_kind y_word y_size y_parent y_fields y_bound x_globals y_globals x_thingShown x_thingClass x_thingFields x_thingToken x_thingMaker x_variables x_homeOf x_within x_foundIn y_sort y_number y_stands y_keeps y_cells y_within y_foundIn y_self y_args y_temps y_param) (F : rn_F T ST SA lv σ lev ho y_kind y_word fa ph bs ow gg wk un rt (p + 1) w y_sort y_number x_frameToken x_frameStage x_frameLink x_operands x_baseFrame y_operands y_self y_at y_in y_phase y_base y_goal y_work y_under y_live) {xv yv : Int64} (hv : hp_v ST (hp_s y_sort y_number) xv yv) (k24 : y_kind (fa p) = 24) (h0 : ph p = 0) {np : Nat} (enp : np = ex_pt (tk_nd y_kind y_word) (fa p) 1) (n : rn_n B (M + 1) mc st sp (rn_mu (tk_nd y_kind y_word) fa un rt st (p + 1) w np 2)) (ht : tm + 2 ≤ 1000000) :
    rn_Go B M tm (nI cc, nI bc, nI dc, y_fault, nI mc, nI (fr_x y_kind fa ph (p + 1)), nI (σ (wk (w - 1))), nI np, xv, 1, 100, nI st, nI w, y_peak, nI sp, x_pendingCount, y_parent, y_fields, y_bound, x_tokenKind, x_tokenValue, x_globals, x_thingShown, x_thingClass, x_thingFields, x_thingToken, x_thingMaker, x_variables, x_homeOf, x_within, x_foundIn, x_baseFrame, x_frameToken, x_frameStage, x_frameLink, x_operands, y_heard, x_marked, x_pending) (nI cc, nI bc, y_fault, nI mc, nI w, y_peak, nI st, nI (p + 1), nI (bs (p + 1)), y_code, 1, 1, yv, y_todos, y_marks, -10000000000, nI sp, y_parent, y_fields, y_bound, y_kind, y_word, y_size, y_sort, y_number, y_stands, y_keeps, y_cells, y_globals, y_within, y_foundIn, y_self, y_args, y_temps, y_param, y_live, y_work, y_under, y_at, y_in, y_phase, y_base, y_goal, y_operands, y_marked, y_todo, y_heard) := by
  have hp : ph p ≠ 100 := by omega
  have nt : ¬ fr_tail (y_kind (fa p)) (ph p) := fun z => by rcases z with ⟨_, z⟩ | ⟨_, z⟩ <;> omega
  obtain ⟨f1, eo, f5, p3, p5, b3, y1, y2, y3, y4, a3, n3, p383⟩ := rn_top A F hp
  have hxr := rn_xr A F hp
  have ep : nI (p + 1) - 1 = nI p := nI_pred p
  have pc : (nI p).toNatClampNeg = p := nI_clamp (by omega)
  have vp : vp_in (nI p) 500 := vp_in_nI p5 (by decide)
  have fac : (nI (fa p)).toNatClampNeg = fa p := nI_clamp (by omega)
  have xr : fr_x y_kind fa ph (p + 1) = fr_x y_kind fa ph p + 1 := by
    show _ + ct_b _ = _
    rw [ct_bt nt]
  have xrc : (nI (fr_x y_kind fa ph p)).toNatClampNeg = fr_x y_kind fa ph p := nI_clamp (by omega)
  have vxr : vp_in (nI (fr_x y_kind fa ph p)) 384 := vp_in_nI hxr (by decide)
  obtain ⟨xtk, xsg, xlk, xO⟩ := (F.2.2.1.2 p (by omega) nt).2 hp
  have xkd : x_tokenKind (fa p) = y_kind (fa p) := (A.1.2.2.1.2.1 _ f1).2.1
  have xvl : x_tokenValue (fa p) = y_word (fa p) := (A.1.2.2.1.2.1 _ f1).2.2.1
  have goY : ∀ Q : SY → Prop, (∀ k : Int32, k = y_kind (fa p) → _) → wpY_deliver Q (nI cc, nI bc, y_fault, nI mc, nI w, y_peak, nI st, nI (p + 1), nI (bs (p + 1)), y_code, 1, 1, yv, y_todos, y_marks, -10000000000, nI sp, y_parent, y_fields, y_bound, y_kind, y_word, y_size, y_sort, y_number, y_stands, y_keeps, y_cells, y_globals, y_within, y_foundIn, y_self, y_args, y_temps, y_param, y_live, y_work, y_under, y_at, y_in, y_phase, y_base, y_goal, y_operands, y_marked, y_todo, y_heard) := fun Q h => by
    unfold wpY_deliver
    dsimp only
    rw [ep]
    refine nm_e (br_t (nI_pos' (by omega)) ?_)
    rw [pc, y3]
    refine ⟨vp, br_f (fun z => hp ((nI_eq (b := 100) (by omega) (by decide)).mp z)) ⟨vp, ?_⟩⟩
    rw [y1, fac]
    exact ⟨vp_in_nI (by omega) (by decide), h⟩
  have goX : ∀ Q : SX → Prop, (∀ k : Int32, k = y_kind (fa p) → _) → wpX_handOn Q (nI cc, nI bc, nI dc, y_fault, nI mc, nI (fr_x y_kind fa ph (p + 1)), nI (σ (wk (w - 1))), nI np, xv, 1, 100, nI st, nI w, y_peak, nI sp, x_pendingCount, y_parent, y_fields, y_bound, x_tokenKind, x_tokenValue, x_globals, x_thingShown, x_thingClass, x_thingFields, x_thingToken, x_thingMaker, x_variables, x_homeOf, x_within, x_foundIn, x_baseFrame, x_frameToken, x_frameStage, x_frameLink, x_operands, y_heard, x_marked, x_pending) := fun Q h => by
    unfold wpX_handOn
    dsimp only
    rw [xr, nI_pred]
    refine nm_e ?_
    rw [xrc, xtk]
    refine ⟨vxr, nm_e (br_f (gx_m1 (by omega)) ⟨vp_in_nI (by omega) (by decide), ?_⟩)⟩
    rw [fac, xkd]
    exact h
  have TF := rn_TF A
  have nd2 : tk_nd y_kind y_word (fa p) = 2 := by unfold tk_nd; rw [k24]; rfl
  have pte : ∀ φ, fr_pt (y_kind (fa p)) φ = φ := fun φ => by unfold fr_pt; rw [if_neg (fun z => by have := z.1; rw [k24] at this; exact absurd this (by decide))]
  have ce : ∀ φ, φ ≠ 100 → fr_c (y_kind (fa p)) φ = 0 := fun φ h => by unfold fr_c; rw [if_neg h, if_pos (Or.inr (Or.inr k24))]
  have bse : bs (p + 1) = bs p := by rw [(F.1.2.2.2.2.1 p (by omega)).2.2.2.2.2.1, ce _ hp]; rfl
  have s0 : fr_s (y_kind (fa p)) = 0 := by unfold fr_s; rw [k24, if_neg (by decide)]
  obtain ⟨tt1, c1, c2, c3, c4, c5⟩ := fr_ch TF f1 (show 1 < tk_nd y_kind y_word (fa p) by omega)
  have e3 : ex_e (tk_nd y_kind y_word) (ex_pt (tk_nd y_kind y_word) (fa p) 1) = ex_e (tk_nd y_kind y_word) (fa p) := by
    have := (fr_en TF f1).2.2
    rw [nd2] at this
    exact this
  have mcl := A.2.2.2.1.1
  rcases tv_so (x_classCount := nI cc) (x_bodyCount := nI bc) (x_draftCount := nI dc) (x_wrongPlace := y_fault) (x_madeCount := nI mc) (x_frameCount := nI (fr_x y_kind fa ph p + 1)) (x_current := nI (σ (wk (w - 1)))) (x_next := nI np) (x_inHand := xv) (x_mode := 1) (x_outcome := 100) (x_stepCount := nI st) (x_atWork := nI w) (x_mostAtWork := y_peak) (x_saidCount := nI sp) (x_pendingCount := x_pendingCount) (x_classParent := y_parent) (x_classFields := y_fields) (x_bound := y_bound) (x_tokenKind := x_tokenKind) (x_tokenValue := x_tokenValue) (x_globals := x_globals) (x_thingShown := x_thingShown) (x_thingClass := x_thingClass) (x_thingFields := x_thingFields) (x_thingToken := x_thingToken) (x_thingMaker := x_thingMaker) (x_variables := x_variables) (x_homeOf := x_homeOf) (x_within := x_within) (x_foundIn := x_foundIn) (x_baseFrame := x_baseFrame) (x_frameToken := x_frameToken) (x_frameStage := x_frameStage) (x_frameLink := x_frameLink) (x_operands := x_operands) (x_saidValues := y_heard) (x_marked := x_marked) (x_pending := x_pending) A.2.2.1 (by omega) hv with ⟨sX, sY⟩ | ⟨sX, sY⟩
  · obtain ⟨n1, n2, n3', n4⟩ := mu_fin (show np ≤ ex_e (tk_nd y_kind y_word) (fa p) by omega) (by omega) n
    refine ⟨(nI cc, nI bc, nI dc, y_fault, nI mc, nI (fr_x y_kind fa ph p), nI (σ (wk (w - 1))), nI (ex_e (tk_nd y_kind y_word) (fa p)), 10000000000, 1, 100, nI st, nI w, y_peak, nI sp, x_pendingCount, y_parent, y_fields, y_bound, x_tokenKind, x_tokenValue, x_globals, x_thingShown, x_thingClass, x_thingFields, x_thingToken, x_thingMaker, x_variables, x_homeOf, x_within, x_foundIn, x_baseFrame, x_frameToken, x_frameStage, x_frameLink, x_operands, y_heard, x_marked, x_pending), (nI cc, nI bc, y_fault, nI mc, nI w, y_peak, nI st, nI p, nI (bs p), y_code, 1, 1, 4294967296, y_todos, y_marks, -10000000000, nI sp, y_parent, y_fields, y_bound, y_kind, y_word, y_size, y_sort, y_number, y_stands, y_keeps, y_cells, y_globals, y_within, y_foundIn, y_self, y_args, y_temps, y_param, y_live, y_work, y_under, y_at, y_in, upd y_phase p (1 - nI 0), y_base, y_goal, y_operands, y_marked, y_todo, y_heard), tm + 1, by omega, fun PX k => xt_hand (by omega) (fun Q q => goX Q (nm_r k24 (br_f (by decide) (br_f (by decide) (br_t rfl ?_))))) k, fun PY m k => YL_mono (yt_deliver (fun Q q => goY Q (nm_r k24 (br_f (by decide) (br_f (by decide) (br_t rfl ?_))))) k) (by omega), Or.inr (fin_H A F hp (fun q hq => pk_un (by omega)) ⟨.inr none, fun k e => (by cases e), rfl, rfl⟩ n3' n1 n2 n4)⟩
    · unfold wpX_afterWhile
      dsimp only
      rw [xrc, xsg, h0, s0]
      refine ⟨vxr, br_f (by decide) (sX _ (br_t rfl ?_))⟩
      rw [nI_pred, enp]
      rw [← e3] at q
      exact xw_endT A tt1 (nm_e q)
    · rw [h0]
      refine ⟨vp, br_f (by decide) (sY _ (br_t rfl (yw_finish p5 y4 ?_)))⟩
      dsimp only
      unfold wY_deliver_217
      rw [pc, y3, h0]
      exact ⟨vp, vp, nm_e q⟩
  · obtain ⟨n1, n2, n3', n4⟩ := n
    have nt1 : ¬ fr_tail (y_kind (fa p)) 1 := fun z => by
      rcases z with ⟨z, _⟩ | ⟨_, z⟩
      · rw [k24] at z; exact absurd z (by decide)
      · omega
    have F' := rn_set (φ := 1) (g := gg p) (aph' := upd y_phase p (1 - nI 0)) (ago' := y_goal) (xtk' := x_frameToken) (xsg' := upd x_frameStage (fr_x y_kind fa ph p) 1) (xlk' := x_frameLink) (xop' := x_operands) (yop' := y_operands) F hp (by decide) (Or.inr (Or.inr (Or.inr (Or.inl ⟨k24, by omega⟩)))) (fun z _ => by rw [k24] at z; exact absurd z (by decide)) ⟨pk_us, fun q hq => ⟨pk_un (by omega), rfl⟩⟩ (fun R hR => ⟨rfl, pk_un (by omega), rfl⟩) (fun _ _ => rfl) (fun _ _ => rfl) (fun _ => ⟨xtk, by rw [s0]; exact pk_us, fun z _ => by rw [k24] at z; exact absurd z (by decide), by rw [ce 1 (by decide)]; rw [ce _ hp] at xO; exact xO⟩)
    refine ⟨(nI cc, nI bc, nI dc, y_fault, nI mc, nI (fr_x y_kind fa ph p + 1), nI (σ (wk (w - 1))), nI np, xv, 0, 100, nI st, nI w, y_peak, nI sp, x_pendingCount, y_parent, y_fields, y_bound, x_tokenKind, x_tokenValue, x_globals, x_thingShown, x_thingClass, x_thingFields, x_thingToken, x_thingMaker, x_variables, x_homeOf, x_within, x_foundIn, x_baseFrame, x_frameToken, upd x_frameStage (fr_x y_kind fa ph p) 1, x_frameLink, x_operands, y_heard, x_marked, x_pending), (nI cc, nI bc, y_fault, nI mc, nI w, y_peak, nI st, nI (p + 1), nI (bs (p + 1)), y_code, 1, 0, yv, y_todos, y_marks, -10000000000, nI sp, y_parent, y_fields, y_bound, y_kind, y_word, y_size, y_sort, y_number, y_stands, y_keeps, y_cells, y_globals, y_within, y_foundIn, y_self, y_args, y_temps, y_param, y_live, y_work, y_under, y_at, y_in, upd y_phase p (1 - nI 0), y_base, y_goal, y_operands, y_marked, y_todo, y_heard), tm + 1, by omega, fun PX k => xt_hand (by omega) (fun Q q => goX Q (nm_r k24 (br_f (by decide) (br_f (by decide) (br_t rfl ?_))))) k, fun PY m k => YL_mono (yt_deliver (fun Q q => goY Q (nm_r k24 (br_f (by decide) (br_f (by decide) (br_t rfl ?_))))) k) (by omega), Or.inr (set_N A F' (by decide) (by rw [ct_bt nt1]) (by rw [ce 1 (by decide), bse]; rfl) (by rw [pte, enp]) (Or.inl ⟨by rw [pte, nd2]; omega, rfl, rfl⟩) ⟨n1, ?_⟩)⟩
    · unfold wpX_afterWhile
      dsimp only
      rw [xrc, xsg, h0, s0]
      exact ⟨vxr, br_f (by decide) (sX _ (br_f (by decide) ⟨vxr, nm_e q⟩))⟩
    · rw [h0]
      refine ⟨vp, br_f (by decide) (sY _ (br_f (by decide) ?_))⟩
      unfold wY_deliver_217
      rw [pc, y3, h0]
      exact ⟨vp, vp, nm_e q⟩
    · unfold rn_mu at n2 n3' n4 ⊢
      omega
theorem go_while1 {p tm : Nat} (A : rn_A cc bc dc mc T ST SA lv τ σ lev ho x_tokenKind x_tokenValue y_kind y_word y_size y_parent y_fields y_bound x_globals y_globals x_thingShown x_thingClass x_thingFields x_thingToken x_thingMaker x_variables x_homeOf x_within x_foundIn y_sort y_number y_stands y_keeps y_cells y_within y_foundIn y_self y_args y_temps y_param) (F : rn_F T ST SA lv σ lev ho y_kind y_word fa ph bs ow gg wk un rt (p + 1) w y_sort y_number x_frameToken x_frameStage x_frameLink x_operands x_baseFrame y_operands y_self y_at y_in y_phase y_base y_goal y_work y_under y_live) {xv yv : Int64} (k24 : y_kind (fa p) = 24) (h0 : ph p = 1) {np : Nat} (enp : np = ex_e (tk_nd y_kind y_word) (fa p)) (n : rn_n B (M + 1) mc st sp (rn_mu (tk_nd y_kind y_word) fa un rt st (p + 1) w np 2)) (ht : tm + 2 ≤ 1000000) :
    rn_Go B M tm (nI cc, nI bc, nI dc, y_fault, nI mc, nI (fr_x y_kind fa ph (p + 1)), nI (σ (wk (w - 1))), nI np, xv, 1, 100, nI st, nI w, y_peak, nI sp, x_pendingCount, y_parent, y_fields, y_bound, x_tokenKind, x_tokenValue, x_globals, x_thingShown, x_thingClass, x_thingFields, x_thingToken, x_thingMaker, x_variables, x_homeOf, x_within, x_foundIn, x_baseFrame, x_frameToken, x_frameStage, x_frameLink, x_operands, y_heard, x_marked, x_pending) (nI cc, nI bc, y_fault, nI mc, nI w, y_peak, nI st, nI (p + 1), nI (bs (p + 1)), y_code, 1, 1, yv, y_todos, y_marks, -10000000000, nI sp, y_parent, y_fields, y_bound, y_kind, y_word, y_size, y_sort, y_number, y_stands, y_keeps, y_cells, y_globals, y_within, y_foundIn, y_self, y_args, y_temps, y_param, y_live, y_work, y_under, y_at, y_in, y_phase, y_base, y_goal, y_operands, y_marked, y_todo, y_heard) := by
  have hp : ph p ≠ 100 := by omega
  have nt : ¬ fr_tail (y_kind (fa p)) (ph p) := fun z => by
    rcases z with ⟨z, _⟩ | ⟨z, _⟩
    · rw [k24] at z; exact absurd z (by decide)
    · rw [k24] at z; exact absurd z (by decide)
  obtain ⟨f1, eo, f5, p3, p5, b3, y1, y2, y3, y4, a3, n3, p383⟩ := rn_top A F hp
  have hxr := rn_xr A F hp
  have ep : nI (p + 1) - 1 = nI p := nI_pred p
  have pc : (nI p).toNatClampNeg = p := nI_clamp (by omega)
  have vp : vp_in (nI p) 500 := vp_in_nI p5 (by decide)
  have fac : (nI (fa p)).toNatClampNeg = fa p := nI_clamp (by omega)
  have xr : fr_x y_kind fa ph (p + 1) = fr_x y_kind fa ph p + 1 := by
    show _ + ct_b _ = _
    rw [ct_bt nt]
  have xrc : (nI (fr_x y_kind fa ph p)).toNatClampNeg = fr_x y_kind fa ph p := nI_clamp (by omega)
  have vxr : vp_in (nI (fr_x y_kind fa ph p)) 384 := vp_in_nI hxr (by decide)
  obtain ⟨xtk, xsg, xlk, xO⟩ := (F.2.2.1.2 p (by omega) nt).2 hp
  have xkd : x_tokenKind (fa p) = y_kind (fa p) := (A.1.2.2.1.2.1 _ f1).2.1
  have xvl : x_tokenValue (fa p) = y_word (fa p) := (A.1.2.2.1.2.1 _ f1).2.2.1
  have goY : ∀ Q : SY → Prop, (∀ k : Int32, k = y_kind (fa p) → _) → wpY_deliver Q (nI cc, nI bc, y_fault, nI mc, nI w, y_peak, nI st, nI (p + 1), nI (bs (p + 1)), y_code, 1, 1, yv, y_todos, y_marks, -10000000000, nI sp, y_parent, y_fields, y_bound, y_kind, y_word, y_size, y_sort, y_number, y_stands, y_keeps, y_cells, y_globals, y_within, y_foundIn, y_self, y_args, y_temps, y_param, y_live, y_work, y_under, y_at, y_in, y_phase, y_base, y_goal, y_operands, y_marked, y_todo, y_heard) := fun Q h => by
    unfold wpY_deliver
    dsimp only
    rw [ep]
    refine nm_e (br_t (nI_pos' (by omega)) ?_)
    rw [pc, y3]
    refine ⟨vp, br_f (fun z => hp ((nI_eq (b := 100) (by omega) (by decide)).mp z)) ⟨vp, ?_⟩⟩
    rw [y1, fac]
    exact ⟨vp_in_nI (by omega) (by decide), h⟩
  have goX : ∀ Q : SX → Prop, (∀ k : Int32, k = y_kind (fa p) → _) → wpX_handOn Q (nI cc, nI bc, nI dc, y_fault, nI mc, nI (fr_x y_kind fa ph (p + 1)), nI (σ (wk (w - 1))), nI np, xv, 1, 100, nI st, nI w, y_peak, nI sp, x_pendingCount, y_parent, y_fields, y_bound, x_tokenKind, x_tokenValue, x_globals, x_thingShown, x_thingClass, x_thingFields, x_thingToken, x_thingMaker, x_variables, x_homeOf, x_within, x_foundIn, x_baseFrame, x_frameToken, x_frameStage, x_frameLink, x_operands, y_heard, x_marked, x_pending) := fun Q h => by
    unfold wpX_handOn
    dsimp only
    rw [xr, nI_pred]
    refine nm_e ?_
    rw [xrc, xtk]
    refine ⟨vxr, nm_e (br_f (gx_m1 (by omega)) ⟨vp_in_nI (by omega) (by decide), ?_⟩)⟩
    rw [fac, xkd]
    exact h
  have TF := rn_TF A
  have nd2 : tk_nd y_kind y_word (fa p) = 2 := by unfold tk_nd; rw [k24]; rfl
  have pte : ∀ φ, fr_pt (y_kind (fa p)) φ = φ := fun φ => by unfold fr_pt; rw [if_neg (fun z => by have := z.1; rw [k24] at this; exact absurd this (by decide))]
  have ce : ∀ φ, φ ≠ 100 → fr_c (y_kind (fa p)) φ = 0 := fun φ h => by unfold fr_c; rw [if_neg h, if_pos (Or.inr (Or.inr k24))]
  have bse : bs (p + 1) = bs p := by rw [(F.1.2.2.2.2.1 p (by omega)).2.2.2.2.2.1, ce _ hp]; rfl
  have s0 : fr_s (y_kind (fa p)) = 0 := by unfold fr_s; rw [k24, if_neg (by decide)]
  have een := fr_en TF f1
  obtain ⟨n1, n2, n3', n4⟩ := n
  have yst : ∀ Q : SY → Prop, wpY_step (fun r u => match u with | (y_classes, y_bodies, y_fault, y_made, y_working, y_peak, y_steps, y_depth, y_waiting, y_code, y_running, y_has, y_got, y_todos, y_marks, y_shown, y_spoken, y_parent, y_fields, y_bound, y_kind, y_word, y_size, y_sort, y_number, y_stands, y_keeps, y_cells, y_globals, y_within, y_foundIn, y_self, y_args, y_temps, y_param, y_live, y_work, y_under, y_at, y_in, y_phase, y_base, y_goal, y_operands, y_marked, y_todo, y_heard) => wY_deliver_217 Q (nI p) y_classes y_bodies y_fault y_made y_working y_peak y_steps y_depth y_waiting y_code y_running y_has y_got y_todos y_marks y_shown y_spoken y_parent y_fields y_bound y_kind y_word y_size y_sort y_number y_stands y_keeps y_cells y_globals y_within y_foundIn y_self y_args y_temps y_param y_live y_work y_under y_at y_in y_phase y_base y_goal y_operands y_marked y_todo y_heard) (nI cc, nI bc, y_fault, nI mc, nI w, y_peak, nI st, nI (p + 1), nI (bs (p + 1)), y_code, 1, 0, yv, y_todos, y_marks, -10000000000, nI sp, y_parent, y_fields, y_bound, y_kind, y_word, y_size, y_sort, y_number, y_stands, y_keeps, y_cells, y_globals, y_within, y_foundIn, y_self, y_args, y_temps, y_param, y_live, y_work, y_under, y_at, y_in, y_phase, y_base, y_goal, y_operands, y_marked, y_todo, y_heard) → wpY_deliver Q (nI cc, nI bc, y_fault, nI mc, nI w, y_peak, nI st, nI (p + 1), nI (bs (p + 1)), y_code, 1, 1, yv, y_todos, y_marks, -10000000000, nI sp, y_parent, y_fields, y_bound, y_kind, y_word, y_size, y_sort, y_number, y_stands, y_keeps, y_cells, y_globals, y_within, y_foundIn, y_self, y_args, y_temps, y_param, y_live, y_work, y_under, y_at, y_in, y_phase, y_base, y_goal, y_operands, y_marked, y_todo, y_heard) := fun Q h => goY Q (nm_r k24 (br_f (by decide) (br_f (by decide) (br_t rfl (by
    rw [h0]
    exact ⟨vp, br_t rfl h⟩)))))
  by_cases s200 : st = 200
  · subst s200
    refine ⟨(nI cc, nI bc, nI dc, y_fault, nI mc, nI (fr_x y_kind fa ph p + 1), nI (σ (wk (w - 1))), nI np, xv, 1, 4, nI 200, nI w, y_peak, nI sp, x_pendingCount, y_parent, y_fields, y_bound, x_tokenKind, x_tokenValue, x_globals, x_thingShown, x_thingClass, x_thingFields, x_thingToken, x_thingMaker, x_variables, x_homeOf, x_within, x_foundIn, x_baseFrame, x_frameToken, x_frameStage, x_frameLink, x_operands, y_heard, x_marked, x_pending), (nI cc, nI bc, y_fault, nI mc, nI w, y_peak, nI 200, nI (p + 1), nI (bs (p + 1)), 4, 0, 0, yv, y_todos, y_marks, -10000000000, nI sp, y_parent, y_fields, y_bound, y_kind, y_word, y_size, y_sort, y_number, y_stands, y_keeps, y_cells, y_globals, y_within, y_foundIn, y_self, y_args, y_temps, y_param, y_live, y_work, y_under, y_at, y_in, upd y_phase p (1 - nI 1), y_base, y_goal, y_operands, y_marked, y_todo, y_heard), tm + 1, by omega, fun PX k => xt_hand (by omega) (fun Q q => goX Q (nm_r k24 (br_f (by decide) (br_f (by decide) (br_t rfl ?_))))) k, fun PY m k => YL_mono (yt_deliver (fun Q q => yst Q ?_) k) (by omega), Or.inl (rn_stop2 A (rn_wl A F) (by decide) (by decide) (by omega))⟩
    · unfold wpX_afterWhile
      dsimp only
      rw [xrc, xsg, h0, s0]
      refine ⟨vxr, br_t rfl ?_⟩
      unfold wpX_takeStep
      exact br_t rfl (br_t rfl q)
    · unfold wpY_step
      refine br_t rfl ⟨rfl, ?_⟩
      dsimp only
      unfold wY_deliver_217
      rw [pc, y3, h0]
      exact ⟨vp, vp, nm_e q⟩
  · have s1 : ¬ nI st = 200 := fun z => s200 ((nI_eq (b := 200) (by omega) (by decide)).mp z)
    have nt0 : ¬ fr_tail (y_kind (fa p)) 0 := fun z => by rcases z with ⟨_, z⟩ | ⟨_, z⟩ <;> omega
    have F' := rn_set (φ := 0) (g := gg p) (aph' := upd y_phase p (1 - nI 1)) (ago' := y_goal) (xtk' := x_frameToken) (xsg' := upd x_frameStage (fr_x y_kind fa ph p) 0) (xlk' := x_frameLink) (xop' := x_operands) (yop' := y_operands) F hp (by decide) (Or.inr (Or.inr (Or.inr (Or.inl ⟨k24, by omega⟩)))) (fun z _ => by rw [k24] at z; exact absurd z (by decide)) ⟨pk_us, fun q hq => ⟨pk_un (by omega), rfl⟩⟩ (fun R hR => ⟨rfl, pk_un (by omega), rfl⟩) (fun _ _ => rfl) (fun _ _ => rfl) (fun _ => ⟨xtk, by rw [s0]; exact pk_us, fun z _ => by rw [k24] at z; exact absurd z (by decide), by rw [ce 0 (by decide)]; rw [ce _ hp] at xO; exact xO⟩)
    have pos := fr_pos TF F.1 p (by omega) (fa p) (ow p) (fun e => by omega) (fun _ => rfl) (F.1.2.2.2.2.1 p (by omega)).2.2.1 (F.1.2.2.2.2.1 p (by omega)).2.2.2.1 f1
    rw [eo] at pos
    refine ⟨(nI cc, nI bc, nI dc, y_fault, nI mc, nI (fr_x y_kind fa ph p + 1), nI (σ (wk (w - 1))), nI (fa p + 1), xv, 0, 100, nI (st + 1), nI w, y_peak, nI sp, x_pendingCount, y_parent, y_fields, y_bound, x_tokenKind, x_tokenValue, x_globals, x_thingShown, x_thingClass, x_thingFields, x_thingToken, x_thingMaker, x_variables, x_homeOf, x_within, x_foundIn, x_baseFrame, x_frameToken, upd x_frameStage (fr_x y_kind fa ph p) 0, x_frameLink, x_operands, y_heard, x_marked, x_pending), (nI cc, nI bc, y_fault, nI mc, nI w, y_peak, nI (st + 1), nI (p + 1), nI (bs (p + 1)), y_code, 1, 0, yv, y_todos, y_marks, -10000000000, nI sp, y_parent, y_fields, y_bound, y_kind, y_word, y_size, y_sort, y_number, y_stands, y_keeps, y_cells, y_globals, y_within, y_foundIn, y_self, y_args, y_temps, y_param, y_live, y_work, y_under, y_at, y_in, upd y_phase p (1 - nI 1), y_base, y_goal, y_operands, y_marked, y_todo, y_heard), tm + 1, by omega, fun PX k => xt_hand (by omega) (fun Q q => goX Q (nm_r k24 (br_f (by decide) (br_f (by decide) (br_t rfl ?_))))) k, fun PY m k => YL_mono (yt_deliver (fun Q q => yst Q ?_) k) (by omega), Or.inr (set_N (st := st + 1) A F' (by decide) (by rw [ct_bt nt0]) (by rw [ce 0 (by decide), bse]; rfl) (by rw [pte]; rfl) (Or.inl ⟨by rw [pte, nd2]; omega, rfl, rfl⟩) ⟨by omega, ?_⟩)⟩
    · unfold wpX_afterWhile
      dsimp only
      rw [xrc, xsg, h0, s0]
      refine ⟨vxr, br_t rfl ?_⟩
      unfold wpX_takeStep
      refine br_f s1 (nm_r (nI_1 st) (br_f (by decide) ⟨vxr, ?_⟩))
      dsimp only
      rw [xtk]
      exact nm_e ⟨vxr, nm_r (nI_1 _) q⟩
    · unfold wpY_step
      refine br_f s1 (nm_r (nI_1 st) ⟨rfl, ?_⟩)
      dsimp only
      unfold wY_deliver_217
      rw [pc, y3, h0]
      exact ⟨vp, vp, nm_e q⟩
    · unfold rn_mu at n2 n3' n4 ⊢
      omega
end
end
section
/-! a value comes to the operator on top: ENSURE, and those that gather operands -/
theorem fr_genne {k : Int32} (h : fr_gen k) : ¬ k = 16 ∧ ¬ k = 23 ∧ ¬ k = 24 ∧ ¬ k = 27 := by
  unfold fr_gen at h
  refine ⟨fun z => ?_, fun z => ?_, fun z => ?_, fun z => ?_⟩ <;> (subst z; exact absurd h (by decide))
theorem fr_genc {k : Int32} {ph : Nat} (h : fr_gen k) (h1 : ph ≠ 100) : fr_c k ph = ph ∧ fr_pt k ph = ph := by
  obtain ⟨a, b, c, e⟩ := fr_genne h
  unfold fr_c fr_pt
  rw [if_neg h1, if_neg (fun z => by rcases z with z | z | z <;> contradiction), if_neg e, if_neg (fun z => e z.1)]
  exact ⟨rfl, rfl⟩
section
variable {x_classCount x_bodyCount x_draftCount x_wrongPlace x_madeCount x_frameCount x_current x_next x_mode x_outcome x_stepCount x_atWork x_mostAtWork x_saidCount x_pendingCount : Int32} {x_inHand : Int64} {x_classParent x_classFields x_bound x_tokenKind x_tokenValue x_thingClass x_thingToken x_thingMaker x_homeOf x_within x_foundIn x_baseFrame x_frameToken x_frameStage x_frameLink x_marked x_pending : Nat → Int32} {x_globals x_thingShown x_thingFields x_variables x_operands x_saidValues : Nat → Int64}
variable {y_classes y_bodies y_fault y_made y_working y_peak y_steps y_depth y_waiting y_code y_running y_has y_todos y_marks y_spoken : Int32} {y_got y_shown : Int64} {y_parent y_fields y_bound y_kind y_word y_size y_sort y_number y_stands y_keeps y_within y_foundIn y_live y_work y_under y_at y_in y_phase y_base y_goal y_marked y_todo : Nat → Int32} {y_cells y_globals y_self y_args y_temps y_param y_operands y_heard : Nat → Int64}
variable {cc bc dc mc st sp d w np md B M : Nat} {T ST SA : Nat → Prop} {lv τ σ lev ho fa ph bs ow gg wk un rt : Nat → Nat}
theorem go_gen {p tm : Nat} (A : rn_A cc bc dc mc T ST SA lv τ σ lev ho x_tokenKind x_tokenValue y_kind y_word y_size y_parent y_fields y_bound x_globals y_globals x_thingShown x_thingClass x_thingFields x_thingToken x_thingMaker x_variables x_homeOf x_within x_foundIn y_sort y_number y_stands y_keeps y_cells y_within y_foundIn y_self y_args y_temps y_param) (F : rn_F T ST SA lv σ lev ho y_kind y_word fa ph bs ow gg wk un rt (p + 1) w y_sort y_number x_frameToken x_frameStage x_frameLink x_operands x_baseFrame y_operands y_self y_at y_in y_phase y_base y_goal y_work y_under y_live) {xv yv : Int64} (hv : hp_v ST (hp_s y_sort y_number) xv yv) (kg : fr_gen (y_kind (fa p))) (hp : ph p ≠ 100) (hl : ph p < tk_nd y_kind y_word (fa p)) {np : Nat} (enp : np = ex_pt (tk_nd y_kind y_word) (fa p) (ph p + 1)) (n : rn_n B (M + 1) mc st sp (rn_mu (tk_nd y_kind y_word) fa un rt st (p + 1) w np 2)) (ht : tm + 2 ≤ 1000000) :
    rn_Go B M tm (nI cc, nI bc, nI dc, y_fault, nI mc, nI (fr_x y_kind fa ph (p + 1)), nI (σ (wk (w - 1))), nI np, xv, 1, 100, nI st, nI w, y_peak, nI sp, x_pendingCount, y_parent, y_fields, y_bound, x_tokenKind, x_tokenValue, x_globals, x_thingShown, x_thingClass, x_thingFields, x_thingToken, x_thingMaker, x_variables, x_homeOf, x_within, x_foundIn, x_baseFrame, x_frameToken, x_frameStage, x_frameLink, x_operands, y_heard, x_marked, x_pending) (nI cc, nI bc, y_fault, nI mc, nI w, y_peak, nI st, nI (p + 1), nI (bs (p + 1)), y_code, 1, 1, yv, y_todos, y_marks, -10000000000, nI sp, y_parent, y_fields, y_bound, y_kind, y_word, y_size, y_sort, y_number, y_stands, y_keeps, y_cells, y_globals, y_within, y_foundIn, y_self, y_args, y_temps, y_param, y_live, y_work, y_under, y_at, y_in, y_phase, y_base, y_goal, y_operands, y_marked, y_todo, y_heard) := by
  obtain ⟨k16, k23, k24, k27⟩ := fr_genne kg
  have ntφ : ∀ φ, ¬ fr_tail (y_kind (fa p)) φ := fun φ z => by
    rcases z with ⟨z, _⟩ | ⟨z, _⟩
    · exact k16 z
    · exact k23 z
  have nt := ntφ (ph p)
  obtain ⟨f1, eo, f5, p3, p5, b3, y1, y2, y3, y4, a3, n3, p383⟩ := rn_top A F hp
  have hxr := rn_xr A F hp
  have ep : nI (p + 1) - 1 = nI p := nI_pred p
  have pc : (nI p).toNatClampNeg = p := nI_clamp (by omega)
  have vp : vp_in (nI p) 500 := vp_in_nI p5 (by decide)
  have fac : (nI (fa p)).toNatClampNeg = fa p := nI_clamp (by omega)
  have xr : fr_x y_kind fa ph (p + 1) = fr_x y_kind fa ph p + 1 := by
    show _ + ct_b _ = _
    rw [ct_bt nt]
  have xrc : (nI (fr_x y_kind fa ph p)).toNatClampNeg = fr_x y_kind fa ph p := nI_clamp (by omega)
  have vxr : vp_in (nI (fr_x y_kind fa ph p)) 384 := vp_in_nI hxr (by decide)
  obtain ⟨xtk, xsg, xlk, xO⟩ := (F.2.2.1.2 p (by omega) nt).2 hp
  have xkd : x_tokenKind (fa p) = y_kind (fa p) := (A.1.2.2.1.2.1 _ f1).2.1
  have xvl : x_tokenValue (fa p) = y_word (fa p) := (A.1.2.2.1.2.1 _ f1).2.2.1
  have goY : ∀ Q : SY → Prop, (∀ k : Int32, k = y_kind (fa p) → _) → wpY_deliver Q (nI cc, nI bc, y_fault, nI mc, nI w, y_peak, nI st, nI (p + 1), nI (bs (p + 1)), y_code, 1, 1, yv, y_todos, y_marks, -10000000000, nI sp, y_parent, y_fields, y_bound, y_kind, y_word, y_size, y_sort, y_number, y_stands, y_keeps, y_cells, y_globals, y_within, y_foundIn, y_self, y_args, y_temps, y_param, y_live, y_work, y_under, y_at, y_in, y_phase, y_base, y_goal, y_operands, y_marked, y_todo, y_heard) := fun Q h => by
    unfold wpY_deliver
    dsimp only
    rw [ep]
    refine nm_e (br_t (nI_pos' (by omega)) ?_)
    rw [pc, y3]
    refine ⟨vp, br_f (fun z => hp ((nI_eq (b := 100) (by omega) (by decide)).mp z)) ⟨vp, ?_⟩⟩
    rw [y1, fac]
    exact ⟨vp_in_nI (by omega) (by decide), h⟩
  have goX : ∀ Q : SX → Prop, (∀ k : Int32, k = y_kind (fa p) → _) → wpX_handOn Q (nI cc, nI bc, nI dc, y_fault, nI mc, nI (fr_x y_kind fa ph (p + 1)), nI (σ (wk (w - 1))), nI np, xv, 1, 100, nI st, nI w, y_peak, nI sp, x_pendingCount, y_parent, y_fields, y_bound, x_tokenKind, x_tokenValue, x_globals, x_thingShown, x_thingClass, x_thingFields, x_thingToken, x_thingMaker, x_variables, x_homeOf, x_within, x_foundIn, x_baseFrame, x_frameToken, x_frameStage, x_frameLink, x_operands, y_heard, x_marked, x_pending) := fun Q h => by
    unfold wpX_handOn
    dsimp only
    rw [xr, nI_pred]
    refine nm_e ?_
    rw [xrc, xtk]
    refine ⟨vxr, nm_e (br_f (gx_m1 (by omega)) ⟨vp_in_nI (by omega) (by decide), ?_⟩)⟩
    rw [fac, xkd]
    exact h
  obtain ⟨ce, _⟩ := fr_genc kg hp
  obtain ⟨ce1, pe1⟩ := fr_genc (ph := ph p + 1) kg (by omega)
  have bse : bs (p + 1) = bs p + ph p := by rw [(F.1.2.2.2.2.1 p (by omega)).2.2.2.2.2.1, ce]
  have hs1 : fr_s (y_kind (fa p)) ≤ 1 := by unfold fr_s; split <;> omega
  have h11 : y_kind (fa p) = 11 → tk_nd y_kind y_word (fa p) ≤ 2 := rn_11 A f1
  have hs3 : ph p + fr_s (y_kind (fa p)) < 3 := by
    by_cases z : y_kind (fa p) = 11
    · have := h11 z; omega
    · have : fr_s (y_kind (fa p)) = 0 := by unfold fr_s; rw [if_neg z]
      omega
  obtain ⟨n1, n2, n3', n4⟩ := n
  rw [ce] at xO
  have eo3 : nI (fr_x y_kind fa ph p) * (3 : Int32) + nI (ph p + fr_s (y_kind (fa p))) = nI (fr_x y_kind fa ph p * 3 + (ph p + fr_s (y_kind (fa p)))) := ix_r 3 _ _
  have F' := rn_set (φ := ph p + 1) (g := gg p) (aph' := upd y_phase p (nI (ph p + 1))) (ago' := y_goal) (xtk' := x_frameToken) (xsg' := upd x_frameStage (fr_x y_kind fa ph p) (nI (ph p + fr_s (y_kind (fa p)) + 1))) (xlk' := x_frameLink) (xop' := vp_updL x_operands (fr_x y_kind fa ph p * 3 + (ph p + fr_s (y_kind (fa p)))) xv) (yop' := vp_updL y_operands (bs p + ph p) yv) F hp (by omega) (Or.inr (Or.inr (Or.inr (Or.inr (Or.inr ⟨kg, by omega⟩))))) (fun z _ => absurd z k27) ⟨pk_us, fun q hq => ⟨pk_un (by omega), rfl⟩⟩ (fun R hR => ⟨rfl, pk_un (by omega), rfl⟩) (fun j hj => pk_uLn (by omega)) (fun j hj => pk_uLn (by omega)) (fun _ => ⟨xtk, by rw [pk_us]; congr 1; omega, fun z _ => absurd z k27, fun i hi => by
    obtain ⟨o1, o2, o3⟩ := xO i hi
    rw [ce1]
    refine ⟨fun z => ?_, fun z1 z2 => ?_, fun z1 z2 => ?_⟩
    · rw [pk_uLn (by omega)]; exact o1 z
    · by_cases e : i - fr_s (y_kind (fa p)) = ph p
      · rw [show fr_x y_kind fa ph p * 3 + i = fr_x y_kind fa ph p * 3 + (ph p + fr_s (y_kind (fa p))) by omega, pk_uLs, e, pk_uLs]
        exact hv
      · rw [pk_uLn (by omega), pk_uLn (by omega)]
        exact o2 z1 (by omega)
    · rw [pk_uLn (by omega)]; exact o3 z1 (by omega)⟩)
  have goX2 : ∀ Q : SX → Prop, ∀ m : Int32, ((tk_nd y_kind y_word (fa p) + fr_s (y_kind (fa p)) ≤ ph p + fr_s (y_kind (fa p)) + 1 ∧ m = 2) ∨ (ph p + fr_s (y_kind (fa p)) + 1 < tk_nd y_kind y_word (fa p) + fr_s (y_kind (fa p)) ∧ m = 0)) → Q (nI cc, nI bc, nI dc, y_fault, nI mc, nI (fr_x y_kind fa ph p + 1), nI (σ (wk (w - 1))), nI np, xv, m, 100, nI st, nI w, y_peak, nI sp, x_pendingCount, y_parent, y_fields, y_bound, x_tokenKind, x_tokenValue, x_globals, x_thingShown, x_thingClass, x_thingFields, x_thingToken, x_thingMaker, x_variables, x_homeOf, x_within, x_foundIn, x_baseFrame, x_frameToken, upd x_frameStage (fr_x y_kind fa ph p) (nI (ph p + fr_s (y_kind (fa p)) + 1)), x_frameLink, vp_updL x_operands (fr_x y_kind fa ph p * 3 + (ph p + fr_s (y_kind (fa p)))) xv, y_heard, x_marked, x_pending) → wpX_handOn Q (nI cc, nI bc, nI dc, y_fault, nI mc, nI (fr_x y_kind fa ph (p + 1)), nI (σ (wk (w - 1))), nI np, xv, 1, 100, nI st, nI w, y_peak, nI sp, x_pendingCount, y_parent, y_fields, y_bound, x_tokenKind, x_tokenValue, x_globals, x_thingShown, x_thingClass, x_thingFields, x_thingToken, x_thingMaker, x_variables, x_homeOf, x_within, x_foundIn, x_baseFrame, x_frameToken, x_frameStage, x_frameLink, x_operands, y_heard, x_marked, x_pending) := fun Q m hm q => by
    refine goX Q (nm_e (br_f k16 (br_f k23 (br_f k24 (br_f k27 ?_)))))
    have l29 : wX_addOperand_29 Q (nI (fr_x y_kind fa ph p)) (nI (tk_nd y_kind y_word (fa p) + fr_s (y_kind (fa p)))) (nI cc) (nI bc) (nI dc) y_fault (nI mc) (nI (fr_x y_kind fa ph p + 1)) (nI (σ (wk (w - 1)))) (nI np) xv 1 100 (nI st) (nI w) y_peak (nI sp) x_pendingCount y_parent y_fields y_bound x_tokenKind x_tokenValue x_globals x_thingShown x_thingClass x_thingFields x_thingToken x_thingMaker x_variables x_homeOf x_within x_foundIn x_baseFrame x_frameToken x_frameStage x_frameLink x_operands y_heard x_marked x_pending := by
      unfold wX_addOperand_29
      rw [xrc, xsg, eo3, nI_clamp (show fr_x y_kind fa ph p * 3 + (ph p + fr_s (y_kind (fa p))) < 2 ^ 31 by omega), nI_1]
      refine ⟨vxr, vp_in_nI (by omega) (by decide), nm_e ⟨vxr, vxr, nm_e ⟨vxr, ?_⟩⟩⟩
      rw [pk_us]
      rcases hm with ⟨a, rfl⟩ | ⟨a, rfl⟩
      · exact br_t (nI_le a (by omega)) q
      · exact br_f (nI_ge a (by omega)) q
    unfold wpX_addOperand
    dsimp only
    rw [fac, xkd, xvl]
    refine ⟨vp_in_nI (by omega) (by decide), nm_e ⟨vp_in_nI (by omega) (by decide), xw_needs (A.1.2.2.1.2.1 _ f1).2.2.2.1 ?_⟩⟩
    by_cases z : y_kind (fa p) = 11
    · have s1 : fr_s (y_kind (fa p)) = 1 := by unfold fr_s; rw [if_pos z]
      rw [s1] at l29
      exact br_t z (nm_r (nI_1 _) l29)
    · have s0 : fr_s (y_kind (fa p)) = 0 := by unfold fr_s; rw [if_neg z]
      rw [s0, Nat.add_zero] at l29
      exact br_f z l29
  have goY2 : ∀ Q : SY → Prop, Q (nI cc, nI bc, y_fault, nI mc, nI w, y_peak, nI st, nI (p + 1), nI (bs p + (ph p + 1)), y_code, 1, 0, yv, y_todos, y_marks, -10000000000, nI sp, y_parent, y_fields, y_bound, y_kind, y_word, y_size, y_sort, y_number, y_stands, y_keeps, y_cells, y_globals, y_within, y_foundIn, y_self, y_args, y_temps, y_param, y_live, y_work, y_under, y_at, y_in, upd y_phase p (nI (ph p + 1)), y_base, y_goal, vp_updL y_operands (bs p + ph p) yv, y_marked, y_todo, y_heard) → wpY_deliver Q (nI cc, nI bc, y_fault, nI mc, nI w, y_peak, nI st, nI (p + 1), nI (bs (p + 1)), y_code, 1, 1, yv, y_todos, y_marks, -10000000000, nI sp, y_parent, y_fields, y_bound, y_kind, y_word, y_size, y_sort, y_number, y_stands, y_keeps, y_cells, y_globals, y_within, y_foundIn, y_self, y_args, y_temps, y_param, y_live, y_work, y_under, y_at, y_in, y_phase, y_base, y_goal, y_operands, y_marked, y_todo, y_heard) := fun Q q => by
    refine goY Q (nm_e (br_f k16 (br_f k23 (br_f k24 (br_f k27 ?_)))))
    rw [bse, nI_1, nI_1, nI_clamp (show bs p + ph p < 2 ^ 31 by omega)]
    exact nm_e ⟨vp_in_nI (by omega) (by decide), nm_e ⟨vp, vp, nm_e q⟩⟩
  rcases Nat.lt_or_ge (ph p + 1) (tk_nd y_kind y_word (fa p)) with z | z
  · refine ⟨_, _, tm + 1, by omega, fun PX k => xt_hand (by omega) (fun Q q => goX2 Q 0 (Or.inr ⟨by omega, rfl⟩) q) k, fun PY m k => YL_mono (yt_deliver goY2 k) (by omega), Or.inr (set_N A F' (by omega) (by rw [ct_bt (ntφ _)]) (by rw [ce1]) (by rw [pe1, enp]) (Or.inl ⟨by rw [pe1]; exact z, rfl, rfl⟩) ⟨n1, ?_⟩)⟩
    unfold rn_mu at n2 n3' n4 ⊢
    omega
  · refine ⟨_, _, tm + 1, by omega, fun PX k => xt_hand (by omega) (fun Q q => goX2 Q 2 (Or.inl ⟨by omega, rfl⟩) q) k, fun PY m k => YL_mono (yt_deliver goY2 k) (by omega), Or.inr (set_N A F' (by omega) (by rw [ct_bt (ntφ _)]) (by rw [ce1]) (by rw [pe1, enp]) (Or.inr ⟨by rw [pe1]; omega, rfl, rfl⟩) ⟨n1, ?_⟩)⟩
    unfold rn_mu at n2 n3' n4 ⊢
    omega
theorem go_ens0 {p tm : Nat} (A : rn_A cc bc dc mc T ST SA lv τ σ lev ho x_tokenKind x_tokenValue y_kind y_word y_size y_parent y_fields y_bound x_globals y_globals x_thingShown x_thingClass x_thingFields x_thingToken x_thingMaker x_variables x_homeOf x_within x_foundIn y_sort y_number y_stands y_keeps y_cells y_within y_foundIn y_self y_args y_temps y_param) (F : rn_F T ST SA lv σ lev ho y_kind y_word fa ph bs ow gg wk un rt (p + 1) w y_sort y_number x_frameToken x_frameStage x_frameLink x_operands x_baseFrame y_operands y_self y_at y_in y_phase y_base y_goal y_work y_under y_live) {xv yv : Int64} (hv : hp_v ST (hp_s y_sort y_number) xv yv) (k27 : y_kind (fa p) = 27) (h0 : ph p = 0) {np : Nat} (enp : np = ex_pt (tk_nd y_kind y_word) (fa p) 1) (n : rn_n B (M + 1) mc st sp (rn_mu (tk_nd y_kind y_word) fa un rt st (p + 1) w np 2)) (ht : tm + 2 ≤ 1000000) :
    rn_Go B M tm (nI cc, nI bc, nI dc, y_fault, nI mc, nI (fr_x y_kind fa ph (p + 1)), nI (σ (wk (w - 1))), nI np, xv, 1, 100, nI st, nI w, y_peak, nI sp, x_pendingCount, y_parent, y_fields, y_bound, x_tokenKind, x_tokenValue, x_globals, x_thingShown, x_thingClass, x_thingFields, x_thingToken, x_thingMaker, x_variables, x_homeOf, x_within, x_foundIn, x_baseFrame, x_frameToken, x_frameStage, x_frameLink, x_operands, y_heard, x_marked, x_pending) (nI cc, nI bc, y_fault, nI mc, nI w, y_peak, nI st, nI (p + 1), nI (bs (p + 1)), y_code, 1, 1, yv, y_todos, y_marks, -10000000000, nI sp, y_parent, y_fields, y_bound, y_kind, y_word, y_size, y_sort, y_number, y_stands, y_keeps, y_cells, y_globals, y_within, y_foundIn, y_self, y_args, y_temps, y_param, y_live, y_work, y_under, y_at, y_in, y_phase, y_base, y_goal, y_operands, y_marked, y_todo, y_heard) := by
  have hp : ph p ≠ 100 := by omega
  have ntφ : ∀ φ, ¬ fr_tail (y_kind (fa p)) φ := fun φ z => by
    rcases z with ⟨z, _⟩ | ⟨z, _⟩ <;> (rw [k27] at z; exact absurd z (by decide))
  have nt := ntφ (ph p)
  obtain ⟨f1, eo, f5, p3, p5, b3, y1, y2, y3, y4, a3, n3, p383⟩ := rn_top A F hp
  have hxr := rn_xr A F hp
  have ep : nI (p + 1) - 1 = nI p := nI_pred p
  have pc : (nI p).toNatClampNeg = p := nI_clamp (by omega)
  have vp : vp_in (nI p) 500 := vp_in_nI p5 (by decide)
  have fac : (nI (fa p)).toNatClampNeg = fa p := nI_clamp (by omega)
  have xr : fr_x y_kind fa ph (p + 1) = fr_x y_kind fa ph p + 1 := by
    show _ + ct_b _ = _
    rw [ct_bt nt]
  have xrc : (nI (fr_x y_kind fa ph p)).toNatClampNeg = fr_x y_kind fa ph p := nI_clamp (by omega)
  have vxr : vp_in (nI (fr_x y_kind fa ph p)) 384 := vp_in_nI hxr (by decide)
  obtain ⟨xtk, xsg, xlk, xO⟩ := (F.2.2.1.2 p (by omega) nt).2 hp
  have xkd : x_tokenKind (fa p) = y_kind (fa p) := (A.1.2.2.1.2.1 _ f1).2.1
  have xvl : x_tokenValue (fa p) = y_word (fa p) := (A.1.2.2.1.2.1 _ f1).2.2.1
  have goY : ∀ Q : SY → Prop, (∀ k : Int32, k = y_kind (fa p) → _) → wpY_deliver Q (nI cc, nI bc, y_fault, nI mc, nI w, y_peak, nI st, nI (p + 1), nI (bs (p + 1)), y_code, 1, 1, yv, y_todos, y_marks, -10000000000, nI sp, y_parent, y_fields, y_bound, y_kind, y_word, y_size, y_sort, y_number, y_stands, y_keeps, y_cells, y_globals, y_within, y_foundIn, y_self, y_args, y_temps, y_param, y_live, y_work, y_under, y_at, y_in, y_phase, y_base, y_goal, y_operands, y_marked, y_todo, y_heard) := fun Q h => by
    unfold wpY_deliver
    dsimp only
    rw [ep]
    refine nm_e (br_t (nI_pos' (by omega)) ?_)
    rw [pc, y3]
    refine ⟨vp, br_f (fun z => hp ((nI_eq (b := 100) (by omega) (by decide)).mp z)) ⟨vp, ?_⟩⟩
    rw [y1, fac]
    exact ⟨vp_in_nI (by omega) (by decide), h⟩
  have goX : ∀ Q : SX → Prop, (∀ k : Int32, k = y_kind (fa p) → _) → wpX_handOn Q (nI cc, nI bc, nI dc, y_fault, nI mc, nI (fr_x y_kind fa ph (p + 1)), nI (σ (wk (w - 1))), nI np, xv, 1, 100, nI st, nI w, y_peak, nI sp, x_pendingCount, y_parent, y_fields, y_bound, x_tokenKind, x_tokenValue, x_globals, x_thingShown, x_thingClass, x_thingFields, x_thingToken, x_thingMaker, x_variables, x_homeOf, x_within, x_foundIn, x_baseFrame, x_frameToken, x_frameStage, x_frameLink, x_operands, y_heard, x_marked, x_pending) := fun Q h => by
    unfold wpX_handOn
    dsimp only
    rw [xr, nI_pred]
    refine nm_e ?_
    rw [xrc, xtk]
    refine ⟨vxr, nm_e (br_f (gx_m1 (by omega)) ⟨vp_in_nI (by omega) (by decide), ?_⟩)⟩
    rw [fac, xkd]
    exact h
  have nd2 : tk_nd y_kind y_word (fa p) = 2 := by unfold tk_nd; rw [k27]; rfl
  have ce : fr_c (y_kind (fa p)) (ph p) = 0 := by rw [k27, h0]; rfl
  have ce1 : fr_c (y_kind (fa p)) 1 = 1 := by rw [k27]; rfl
  have pe1 : fr_pt (y_kind (fa p)) 1 = 1 := by unfold fr_pt; rw [if_neg (fun z => by have := z.2; omega)]
  have s0 : fr_s (y_kind (fa p)) = 0 := by unfold fr_s; rw [k27, if_neg (by decide)]
  have bse : bs (p + 1) = bs p := by rw [(F.1.2.2.2.2.1 p (by omega)).2.2.2.2.2.1, ce]; rfl
  obtain ⟨n1, n2, n3', n4⟩ := n
  rw [ce] at xO
  have e3 : nI (fr_x y_kind fa ph p) * (3 : Int32) = nI (fr_x y_kind fa ph p * 3) := pk_mul _ 3
  have c3 : (nI (fr_x y_kind fa ph p * 3)).toNatClampNeg = fr_x y_kind fa ph p * 3 := nI_clamp (by omega)
  have v3 : vp_in (nI (fr_x y_kind fa ph p * 3)) 1152 := vp_in_nI (by omega) (by decide)
  have F' := rn_set (φ := 1) (g := gg p) (aph' := upd y_phase p 1) (ago' := y_goal) (xtk' := x_frameToken) (xsg' := upd x_frameStage (fr_x y_kind fa ph p) 1) (xlk' := x_frameLink) (xop' := vp_updL x_operands (fr_x y_kind fa ph p * 3) xv) (yop' := vp_updL y_operands (bs p) yv) F hp (by decide) (Or.inr (Or.inr (Or.inr (Or.inr (Or.inl ⟨k27, by omega⟩))))) (fun _ z => by omega) ⟨pk_us, fun q hq => ⟨pk_un (by omega), rfl⟩⟩ (fun R hR => ⟨rfl, pk_un (by omega), rfl⟩) (fun j hj => pk_uLn (by omega)) (fun j hj => pk_uLn (by omega)) (fun _ => ⟨xtk, by rw [s0]; exact pk_us, fun _ z => by omega, fun i hi => by
    obtain ⟨o1, o2, o3⟩ := xO i hi
    rw [ce1]
    rw [s0] at o1 o2 o3 ⊢
    refine ⟨fun z => by omega, fun z1 z2 => ?_, fun z1 z2 => ?_⟩
    · obtain rfl : i = 0 := by omega
      rw [Nat.add_zero, pk_uLs, show bs p + (0 - 0) = bs p from rfl, pk_uLs]; exact hv
    · rw [pk_uLn (by omega)]; exact o3 z1 (by omega)⟩)
  refine ⟨(nI cc, nI bc, nI dc, y_fault, nI mc, nI (fr_x y_kind fa ph p + 1), nI (σ (wk (w - 1))), nI np, xv, 0, 100, nI st, nI w, y_peak, nI sp, x_pendingCount, y_parent, y_fields, y_bound, x_tokenKind, x_tokenValue, x_globals, x_thingShown, x_thingClass, x_thingFields, x_thingToken, x_thingMaker, x_variables, x_homeOf, x_within, x_foundIn, x_baseFrame, x_frameToken, upd x_frameStage (fr_x y_kind fa ph p) 1, x_frameLink, vp_updL x_operands (fr_x y_kind fa ph p * 3) xv, y_heard, x_marked, x_pending), (nI cc, nI bc, y_fault, nI mc, nI w, y_peak, nI st, nI (p + 1), nI (bs p + 1), y_code, 1, 0, yv, y_todos, y_marks, -10000000000, nI sp, y_parent, y_fields, y_bound, y_kind, y_word, y_size, y_sort, y_number, y_stands, y_keeps, y_cells, y_globals, y_within, y_foundIn, y_self, y_args, y_temps, y_param, y_live, y_work, y_under, y_at, y_in, upd y_phase p 1, y_base, y_goal, vp_updL y_operands (bs p) yv, y_marked, y_todo, y_heard), tm + 1, by omega, fun PX k => xt_hand (by omega) (fun Q q => goX Q (nm_r k27 (br_f (by decide) (br_f (by decide) (br_f (by decide) (br_t rfl ?_)))))) k, fun PY m k => YL_mono (yt_deliver (fun Q q => goY Q (nm_r k27 (br_f (by decide) (br_f (by decide) (br_f (by decide) (br_t rfl ?_)))))) k) (by omega), Or.inr (set_N A F' (by decide) (by rw [ct_bt (ntφ _)]) (by rw [ce1]) (by rw [pe1, enp]) (Or.inl ⟨by rw [pe1, nd2]; omega, rfl, rfl⟩) ⟨n1, ?_⟩)⟩
  · unfold wpX_afterEnsure
    dsimp only
    rw [xrc, xsg, h0, s0, e3, c3]
    exact ⟨v3, nm_e ⟨vxr, br_t rfl ⟨v3, nm_e ⟨vxr, nm_e q⟩⟩⟩⟩
  · unfold wpY_ensured
    dsimp only
    rw [pc, y3, h0, bse, nI_1, nI_clamp (show bs p < 2 ^ 31 by omega)]
    exact ⟨vp, br_t rfl (nm_e ⟨vp_in_nI (by omega) (by decide), nm_e ⟨vp, nm_e q⟩⟩)⟩
  · unfold rn_mu at n2 n3' n4 ⊢
    omega
theorem go_ens1 {p tm : Nat} (A : rn_A cc bc dc mc T ST SA lv τ σ lev ho x_tokenKind x_tokenValue y_kind y_word y_size y_parent y_fields y_bound x_globals y_globals x_thingShown x_thingClass x_thingFields x_thingToken x_thingMaker x_variables x_homeOf x_within x_foundIn y_sort y_number y_stands y_keeps y_cells y_within y_foundIn y_self y_args y_temps y_param) (F : rn_F T ST SA lv σ lev ho y_kind y_word fa ph bs ow gg wk un rt (p + 1) w y_sort y_number x_frameToken x_frameStage x_frameLink x_operands x_baseFrame y_operands y_self y_at y_in y_phase y_base y_goal y_work y_under y_live) {xv yv : Int64} (k27 : y_kind (fa p) = 27) (h0 : ph p = 1) {np : Nat} (enp : np = ex_e (tk_nd y_kind y_word) (fa p)) (n : rn_n B (M + 1) mc st sp (rn_mu (tk_nd y_kind y_word) fa un rt st (p + 1) w np 2)) (ht : tm + 2 ≤ 1000000) :
    rn_Go B M tm (nI cc, nI bc, nI dc, y_fault, nI mc, nI (fr_x y_kind fa ph (p + 1)), nI (σ (wk (w - 1))), nI np, xv, 1, 100, nI st, nI w, y_peak, nI sp, x_pendingCount, y_parent, y_fields, y_bound, x_tokenKind, x_tokenValue, x_globals, x_thingShown, x_thingClass, x_thingFields, x_thingToken, x_thingMaker, x_variables, x_homeOf, x_within, x_foundIn, x_baseFrame, x_frameToken, x_frameStage, x_frameLink, x_operands, y_heard, x_marked, x_pending) (nI cc, nI bc, y_fault, nI mc, nI w, y_peak, nI st, nI (p + 1), nI (bs (p + 1)), y_code, 1, 1, yv, y_todos, y_marks, -10000000000, nI sp, y_parent, y_fields, y_bound, y_kind, y_word, y_size, y_sort, y_number, y_stands, y_keeps, y_cells, y_globals, y_within, y_foundIn, y_self, y_args, y_temps, y_param, y_live, y_work, y_under, y_at, y_in, y_phase, y_base, y_goal, y_operands, y_marked, y_todo, y_heard) := by
  have hp : ph p ≠ 100 := by omega
  have nt : ¬ fr_tail (y_kind (fa p)) (ph p) := fun z => by
    rcases z with ⟨z, _⟩ | ⟨z, _⟩ <;> (rw [k27] at z; exact absurd z (by decide))
  obtain ⟨f1, eo, f5, p3, p5, b3, y1, y2, y3, y4, a3, n3, p383⟩ := rn_top A F hp
  have hxr := rn_xr A F hp
  have ep : nI (p + 1) - 1 = nI p := nI_pred p
  have pc : (nI p).toNatClampNeg = p := nI_clamp (by omega)
  have vp : vp_in (nI p) 500 := vp_in_nI p5 (by decide)
  have fac : (nI (fa p)).toNatClampNeg = fa p := nI_clamp (by omega)
  have xr : fr_x y_kind fa ph (p + 1) = fr_x y_kind fa ph p + 1 := by
    show _ + ct_b _ = _
    rw [ct_bt nt]
  have xrc : (nI (fr_x y_kind fa ph p)).toNatClampNeg = fr_x y_kind fa ph p := nI_clamp (by omega)
  have vxr : vp_in (nI (fr_x y_kind fa ph p)) 384 := vp_in_nI hxr (by decide)
  obtain ⟨xtk, xsg, xlk, xO⟩ := (F.2.2.1.2 p (by omega) nt).2 hp
  have xkd : x_tokenKind (fa p) = y_kind (fa p) := (A.1.2.2.1.2.1 _ f1).2.1
  have xvl : x_tokenValue (fa p) = y_word (fa p) := (A.1.2.2.1.2.1 _ f1).2.2.1
  have goY : ∀ Q : SY → Prop, (∀ k : Int32, k = y_kind (fa p) → _) → wpY_deliver Q (nI cc, nI bc, y_fault, nI mc, nI w, y_peak, nI st, nI (p + 1), nI (bs (p + 1)), y_code, 1, 1, yv, y_todos, y_marks, -10000000000, nI sp, y_parent, y_fields, y_bound, y_kind, y_word, y_size, y_sort, y_number, y_stands, y_keeps, y_cells, y_globals, y_within, y_foundIn, y_self, y_args, y_temps, y_param, y_live, y_work, y_under, y_at, y_in, y_phase, y_base, y_goal, y_operands, y_marked, y_todo, y_heard) := fun Q h => by
    unfold wpY_deliver
    dsimp only
    rw [ep]
    refine nm_e (br_t (nI_pos' (by omega)) ?_)
    rw [pc, y3]
    refine ⟨vp, br_f (fun z => hp ((nI_eq (b := 100) (by omega) (by decide)).mp z)) ⟨vp, ?_⟩⟩
    rw [y1, fac]
    exact ⟨vp_in_nI (by omega) (by decide), h⟩
  have goX : ∀ Q : SX → Prop, (∀ k : Int32, k = y_kind (fa p) → _) → wpX_handOn Q (nI cc, nI bc, nI dc, y_fault, nI mc, nI (fr_x y_kind fa ph (p + 1)), nI (σ (wk (w - 1))), nI np, xv, 1, 100, nI st, nI w, y_peak, nI sp, x_pendingCount, y_parent, y_fields, y_bound, x_tokenKind, x_tokenValue, x_globals, x_thingShown, x_thingClass, x_thingFields, x_thingToken, x_thingMaker, x_variables, x_homeOf, x_within, x_foundIn, x_baseFrame, x_frameToken, x_frameStage, x_frameLink, x_operands, y_heard, x_marked, x_pending) := fun Q h => by
    unfold wpX_handOn
    dsimp only
    rw [xr, nI_pred]
    refine nm_e ?_
    rw [xrc, xtk]
    refine ⟨vxr, nm_e (br_f (gx_m1 (by omega)) ⟨vp_in_nI (by omega) (by decide), ?_⟩)⟩
    rw [fac, xkd]
    exact h
  have ce : fr_c (y_kind (fa p)) (ph p) = 1 := by rw [k27, h0]; rfl
  have s0 : fr_s (y_kind (fa p)) = 0 := by unfold fr_s; rw [k27, if_neg (by decide)]
  obtain ⟨n1, n2, n3', n4⟩ := mu_fin (show np ≤ ex_e (tk_nd y_kind y_word) (fa p) by omega) (by omega) n
  have v0 := (xO 0 (by omega)).2.1 (by omega) (by omega)
  rw [s0, Nat.add_zero, Nat.add_zero] at v0
  have e3 : nI (fr_x y_kind fa ph p) * (3 : Int32) = nI (fr_x y_kind fa ph p * 3) := pk_mul _ 3
  have c3 : (nI (fr_x y_kind fa ph p * 3)).toNatClampNeg = fr_x y_kind fa ph p * 3 := nI_clamp (by omega)
  have v3 : vp_in (nI (fr_x y_kind fa ph p * 3)) 1152 := vp_in_nI (by omega) (by decide)
  refine ⟨(nI cc, nI bc, nI dc, y_fault, nI mc, nI (fr_x y_kind fa ph p), nI (σ (wk (w - 1))), nI (ex_e (tk_nd y_kind y_word) (fa p)), x_operands (fr_x y_kind fa ph p * 3), 1, 100, nI st, nI w, y_peak, nI sp, x_pendingCount, y_parent, y_fields, y_bound, x_tokenKind, x_tokenValue, x_globals, x_thingShown, x_thingClass, x_thingFields, x_thingToken, x_thingMaker, x_variables, x_homeOf, x_within, x_foundIn, x_baseFrame, x_frameToken, x_frameStage, x_frameLink, x_operands, y_heard, x_marked, x_pending), (nI cc, nI bc, y_fault, nI mc, nI w, y_peak, nI st, nI p, nI (bs p), y_code, 1, 1, y_operands (bs p), y_todos, y_marks, -10000000000, nI sp, y_parent, y_fields, y_bound, y_kind, y_word, y_size, y_sort, y_number, y_stands, y_keeps, y_cells, y_globals, y_within, y_foundIn, y_self, y_args, y_temps, y_param, y_live, y_work, y_under, y_at, y_in, y_phase, y_base, y_goal, y_operands, y_marked, y_todo, y_heard), tm + 1, by omega, fun PX k => xt_hand (by omega) (fun Q q => goX Q (nm_r k27 (br_f (by decide) (br_f (by decide) (br_f (by decide) (br_t rfl ?_)))))) k, fun PY m k => YL_mono (yt_deliver (fun Q q => goY Q (nm_r k27 (br_f (by decide) (br_f (by decide) (br_f (by decide) (br_t rfl ?_)))))) k) (by omega), Or.inr (fin_H A F hp (fun q hq => rfl) v0 n3' n1 n2 n4)⟩
  · unfold wpX_afterEnsure
    dsimp only
    rw [xrc, xsg, h0, s0, e3, c3, enp]
    exact ⟨v3, nm_e ⟨vxr, br_f (by decide) ⟨vxr, br_t rfl (nm_r (nI_pred _) q)⟩⟩⟩
  · unfold wpY_ensured
    dsimp only
    rw [pc, y3, y4, h0, nI_clamp (show bs p < 2 ^ 31 by omega)]
    exact ⟨vp, br_f (by decide) ⟨vp, vp_in_nI (by omega) (by decide), nm_e ⟨vp, br_t rfl (yw_finish p5 y4 q)⟩⟩⟩
end
end
section
/-! an activation ends with a value -/
section
variable {x_classCount x_bodyCount x_draftCount x_wrongPlace x_madeCount x_frameCount x_current x_next x_mode x_outcome x_stepCount x_atWork x_mostAtWork x_saidCount x_pendingCount : Int32} {x_inHand : Int64} {x_classParent x_classFields x_bound x_tokenKind x_tokenValue x_thingClass x_thingToken x_thingMaker x_homeOf x_within x_foundIn x_baseFrame x_frameToken x_frameStage x_frameLink x_marked x_pending : Nat → Int32} {x_globals x_thingShown x_thingFields x_variables x_operands x_saidValues : Nat → Int64}
variable {y_classes y_bodies y_fault y_made y_working y_peak y_steps y_depth y_waiting y_code y_running y_has y_todos y_marks y_spoken : Int32} {y_got y_shown : Int64} {y_parent y_fields y_bound y_kind y_word y_size y_sort y_number y_stands y_keeps y_within y_foundIn y_live y_work y_under y_at y_in y_phase y_base y_goal y_marked y_todo : Nat → Int32} {y_cells y_globals y_self y_args y_temps y_param y_operands y_heard : Nat → Int64}
variable {cc bc dc mc st sp d w np md B M : Nat} {T ST SA : Nat → Prop} {lv τ σ lev ho fa ph bs ow gg wk un rt : Nat → Nat}
theorem xw_endAct {post : SX → Prop} {fc c w : Nat} (hf : fc < 384) (hc : c < 128) (h : post (x_classCount, x_bodyCount, x_draftCount, x_wrongPlace, x_madeCount, nI fc, x_frameLink fc, x_frameStage fc, x_inHand, x_mode, x_outcome, x_stepCount, nI w, x_mostAtWork, x_saidCount, x_pendingCount, x_classParent, x_classFields, x_bound, x_tokenKind, x_tokenValue, x_globals, x_thingShown, x_thingClass, x_thingFields, x_thingToken, x_thingMaker, x_variables, x_homeOf, x_within, x_foundIn, upd x_baseFrame c (-1), x_frameToken, x_frameStage, x_frameLink, x_operands, x_saidValues, x_marked, x_pending)) : wpX_endActivation post (x_classCount, x_bodyCount, x_draftCount, x_wrongPlace, x_madeCount, nI (fc + 1), nI c, x_next, x_inHand, x_mode, x_outcome, x_stepCount, nI (w + 1), x_mostAtWork, x_saidCount, x_pendingCount, x_classParent, x_classFields, x_bound, x_tokenKind, x_tokenValue, x_globals, x_thingShown, x_thingClass, x_thingFields, x_thingToken, x_thingMaker, x_variables, x_homeOf, x_within, x_foundIn, x_baseFrame, x_frameToken, x_frameStage, x_frameLink, x_operands, x_saidValues, x_marked, x_pending) := by
  unfold wpX_endActivation
  dsimp only
  rw [nI_pred, nI_pred]
  refine nm_e ?_
  rw [nI_clamp (show fc < 2 ^ 31 by omega), nI_clamp (show c < 2 ^ 31 by omega)]
  exact ⟨vp_in_nI hc (by decide), nm_e ⟨vp_in_nI hf (by decide), nm_e ⟨vp_in_nI hf (by decide), nm_e (nm_e h)⟩⟩⟩
theorem go_end {tm : Nat} (A : rn_A cc bc dc mc T ST SA lv τ σ lev ho x_tokenKind x_tokenValue y_kind y_word y_size y_parent y_fields y_bound x_globals y_globals x_thingShown x_thingClass x_thingFields x_thingToken x_thingMaker x_variables x_homeOf x_within x_foundIn y_sort y_number y_stands y_keeps y_cells y_within y_foundIn y_self y_args y_temps y_param) (F : rn_F T ST SA lv σ lev ho y_kind y_word fa ph bs ow gg wk un rt 0 w y_sort y_number x_frameToken x_frameStage x_frameLink x_operands x_baseFrame y_operands y_self y_at y_in y_phase y_base y_goal y_work y_under y_live) {xv yv : Int64} (hv : hp_v ST (hp_s y_sort y_number) xv yv) (hB : mc ≤ B) {np : Nat} (ht : tm + 2 ≤ 1000000) :
    rn_Go B M tm (nI cc, nI bc, nI dc, y_fault, nI mc, nI (fr_x y_kind fa ph 0), nI (σ (wk (w - 1))), nI np, xv, 1, 100, nI st, nI w, y_peak, nI sp, x_pendingCount, y_parent, y_fields, y_bound, x_tokenKind, x_tokenValue, x_globals, x_thingShown, x_thingClass, x_thingFields, x_thingToken, x_thingMaker, x_variables, x_homeOf, x_within, x_foundIn, x_baseFrame, x_frameToken, x_frameStage, x_frameLink, x_operands, y_heard, x_marked, x_pending) (nI cc, nI bc, y_fault, nI mc, nI w, y_peak, nI st, nI 0, nI (bs 0), y_code, 1, 1, yv, y_todos, y_marks, -10000000000, nI sp, y_parent, y_fields, y_bound, y_kind, y_word, y_size, y_sort, y_number, y_stands, y_keeps, y_cells, y_globals, y_within, y_foundIn, y_self, y_args, y_temps, y_param, y_live, y_work, y_under, y_at, y_in, y_phase, y_base, y_goal, y_operands, y_marked, y_todo, y_heard) := by
  have w1 : w = 1 := by
    have := F.1.2.2.2.2.2.1.1 rfl
    have := F.1.1
    omega
  subst w1
  obtain ⟨c1, c2, c3, _⟩ := rn_cur A F
  have W := rn_wl A F
  have mcl := A.2.2.2.1.1
  refine ⟨(nI cc, nI bc, nI dc, y_fault, nI mc, nI 0, x_frameLink 0, x_frameStage 0, xv, 1, 0, nI st, nI 0, y_peak, nI sp, x_pendingCount, y_parent, y_fields, y_bound, x_tokenKind, x_tokenValue, x_globals, x_thingShown, x_thingClass, x_thingFields, x_thingToken, x_thingMaker, x_variables, x_homeOf, x_within, x_foundIn, upd x_baseFrame (σ (wk (1 - 1))) (-1), x_frameToken, x_frameStage, x_frameLink, x_operands, y_heard, x_marked, x_pending), (nI cc, nI bc, y_fault, nI mc, nI 1, y_peak, nI st, nI 0, nI (bs 0), 0, 0, 0, yv, y_todos, y_marks, xv, nI sp, y_parent, y_fields, y_bound, y_kind, y_word, y_size, y_sort, y_number, y_stands, y_keeps, y_cells, y_globals, y_within, y_foundIn, y_self, y_args, y_temps, y_param, y_live, y_work, y_under, y_at, y_in, y_phase, y_base, y_goal, y_operands, y_marked, y_todo, y_heard), tm + 1, by omega, fun PX k => xt_hand (by omega) (fun Q q => ?_) k, fun PY m k => YL_mono (yt_deliver (fun Q q => ?_) k) (by omega), Or.inl ⟨cc, bc, dc, mc, 1, T, ST, SA, lv, τ, σ, lev, ho, ⟨rfl, rfl, rfl, rfl, rfl, rfl, rfl, rfl, rfl, rfl, rfl, rfl⟩, ⟨rfl, rfl, rfl, rfl, rfl, by omega⟩, ⟨by decide, rfl, Or.inl ⟨rfl, rfl⟩⟩, A, hB, W.2.1, W.2.2⟩⟩
  · unfold wpX_handOn
    dsimp only
    have x0 : fr_x y_kind fa ph 0 = 1 := by unfold fr_x; rfl
    have e0 : nI (fr_x y_kind fa ph 0) - 1 = nI 0 := by rw [x0]; exact nI_pred 0
    rw [e0]
    refine nm_e ⟨vp_in_nI (by decide) (by decide), nm_r (show x_frameToken (nI 0).toNatClampNeg = -1 from F.2.2.1.1.1) (br_t rfl ?_)⟩
    exact xw_endAct (fc := 0) (c := σ (wk (1 - 1))) (w := 0) (by decide) c3 (br_t rfl q)
  · unfold wpY_deliver
    dsimp only
    refine nm_e (br_f (by decide) (yv_show A.2.2.1 (by omega) hv ?_))
    exact q
theorem go_answer {p tm : Nat} (A : rn_A cc bc dc mc T ST SA lv τ σ lev ho x_tokenKind x_tokenValue y_kind y_word y_size y_parent y_fields y_bound x_globals y_globals x_thingShown x_thingClass x_thingFields x_thingToken x_thingMaker x_variables x_homeOf x_within x_foundIn y_sort y_number y_stands y_keeps y_cells y_within y_foundIn y_self y_args y_temps y_param) (F : rn_F T ST SA lv σ lev ho y_kind y_word fa ph bs ow gg wk un rt (p + 1) w y_sort y_number x_frameToken x_frameStage x_frameLink x_operands x_baseFrame y_operands y_self y_at y_in y_phase y_base y_goal y_work y_under y_live) {xv yv : Int64} (hv : hp_v ST (hp_s y_sort y_number) xv yv) (hp : ph p = 100) {np : Nat} (n : rn_n B (M + 1) mc st sp (rn_mu (tk_nd y_kind y_word) fa un rt st (p + 1) w np 2)) (ht : tm + 2 ≤ 1000000) :
    rn_Go B M tm (nI cc, nI bc, nI dc, y_fault, nI mc, nI (fr_x y_kind fa ph (p + 1)), nI (σ (wk (w - 1))), nI np, xv, 1, 100, nI st, nI w, y_peak, nI sp, x_pendingCount, y_parent, y_fields, y_bound, x_tokenKind, x_tokenValue, x_globals, x_thingShown, x_thingClass, x_thingFields, x_thingToken, x_thingMaker, x_variables, x_homeOf, x_within, x_foundIn, x_baseFrame, x_frameToken, x_frameStage, x_frameLink, x_operands, y_heard, x_marked, x_pending) (nI cc, nI bc, y_fault, nI mc, nI w, y_peak, nI st, nI (p + 1), nI (bs (p + 1)), y_code, 1, 1, yv, y_todos, y_marks, -10000000000, nI sp, y_parent, y_fields, y_bound, y_kind, y_word, y_size, y_sort, y_number, y_stands, y_keeps, y_cells, y_globals, y_within, y_foundIn, y_self, y_args, y_temps, y_param, y_live, y_work, y_under, y_at, y_in, y_phase, y_base, y_goal, y_operands, y_marked, y_todo, y_heard) := by
  obtain ⟨c1, c2, c3, _⟩ := rn_cur A F
  obtain ⟨S, Y, X, W⟩ := F
  obtain ⟨f1, f2, f3, f4, f5, f6, f7⟩ := S.2.2.2.2.1 p (by omega)
  obtain ⟨y1, y2, y3, y4, y5⟩ := Y.1 p (by omega)
  obtain ⟨ew, eu⟩ := (S.2.2.2.2.2.1.2 p rfl).1 hp
  have TF := rn_TF A
  obtain ⟨t1, t2, _⟩ := TF _ f1
  have pos := fr_pos TF S p (by omega) (fa p) (ow p) (fun e => by omega) (fun _ => rfl) f3 f4 f1
  have rr := fr_en TF (S.2.2.2.2.2.2.1 (ow p) pos.1)
  have w12 := S.2.1
  have nt : ¬ fr_tail (y_kind (fa p)) (ph p) := fun z => by rcases z with ⟨_, z⟩ | ⟨_, z⟩ <;> omega
  have xr : fr_x y_kind fa ph (p + 1) = fr_x y_kind fa ph p + 1 := by
    show _ + ct_b _ = _
    rw [ct_bt nt]
  have xle := fr_xle (K := y_kind) (fa := fa) (ph := ph) p
  have hxr : fr_x y_kind fa ph p < 384 := by first | omega | sorry
  obtain ⟨xtk, xsg, xlk, _⟩ := (X.2 p (by omega) nt).1 hp
  have xrc : (nI (fr_x y_kind fa ph p)).toNatClampNeg = fr_x y_kind fa ph p := nI_clamp (by omega)
  have pc : (nI p).toNatClampNeg = p := nI_clamp (by omega)
  have vp : vp_in (nI p) 500 := vp_in_nI (by omega) (by decide)
  obtain ⟨v, rfl⟩ : ∃ v, w = v + 2 := ⟨w - 2, by omega⟩
  have eo : ow p = v := by omega
  have S' := fr_res S (show p < p + 1 by omega)
  rw [eo] at S'
  have inj := W.2.1
  have sinj := A.2.2.1.2.2.1
  have W' : fr_W SA lev lv σ (upd x_baseFrame (σ (wk (v + 1))) (-1)) (upd y_live (wk (v + 1)) 0) y_kind fa ph wk un rt (v + 1) := by
    refine ⟨fun i hi => ?_, fun i j hi hj => inj i j (by omega) (by omega), fun b hb z => ?_, fun a ha => ?_⟩
    · obtain ⟨a1, a2, a3⟩ := W.1 i (by omega)
      refine ⟨a1, a2, ?_⟩
      rw [pk_un (fun z => ?_)]
      · exact a3
      · have := inj i (v + 1) (by omega) (by omega) (sinj _ _ a1 (W.1 (v + 1) (by omega)).1 z)
        omega
    · by_cases e : b = σ (wk (v + 1))
      · subst e; rw [pk_us] at z; exact absurd rfl z
      · rw [pk_un e] at z
        obtain ⟨i, i1, i2⟩ := W.2.2.1 b hb z
        refine ⟨i, ?_, i2⟩
        by_cases q : i = v + 1
        · subst q; exact absurd i2 e
        · omega
    · obtain ⟨l1, l2⟩ := W.2.2.2 a ha
      by_cases e : a = wk (v + 1)
      · subst e
        rw [pk_us]
        exact ⟨Or.inl rfl, fun z => absurd z (by decide), fun ⟨i, i1, i2⟩ => by
          have := inj i (v + 1) (by omega) (by omega) i2
          omega⟩
      · rw [pk_un e]
        refine ⟨l1, fun z => ?_, fun ⟨i, i1, i2⟩ => l2.mpr ⟨i, by omega, i2⟩⟩
        obtain ⟨i, i1, i2⟩ := l2.mp z
        refine ⟨i, ?_, i2⟩
        by_cases q : i = v + 1
        · subst q; exact absurd i2.symm e
        · omega
  have F' := rn_low (d' := p) (w' := v + 1) (aat' := y_at) (ain' := y_in) (aph' := y_phase) (aba' := y_base) (ago' := y_goal) (xtk' := x_frameToken) (xsg' := x_frameStage) (xlk' := x_frameLink) (xop' := x_operands) (yop' := y_operands) ⟨S, Y, X, W⟩ (by omega) (by omega) S' (fun _ _ => ⟨rfl, rfl, rfl, rfl, rfl⟩) (fun _ _ => ⟨rfl, rfl, rfl⟩) (fun _ _ => rfl) (fun _ _ => rfl) W'
  obtain ⟨n1, n2, n3', n4⟩ := n
  have hlow : un (v + 1) = p + 1 := by rw [show v + 2 - 1 = v + 1 by omega] at eu; exact eu
  refine ⟨(nI cc, nI bc, nI dc, y_fault, nI mc, nI (fr_x y_kind fa ph p), nI (σ (wk ((v + 1) - 1))), nI (ex_e (tk_nd y_kind y_word) (fa p)), xv, 1, 100, nI st, nI (v + 1), y_peak, nI sp, x_pendingCount, y_parent, y_fields, y_bound, x_tokenKind, x_tokenValue, x_globals, x_thingShown, x_thingClass, x_thingFields, x_thingToken, x_thingMaker, x_variables, x_homeOf, x_within, x_foundIn, upd x_baseFrame (σ (wk (v + 1))) (-1), x_frameToken, x_frameStage, x_frameLink, x_operands, y_heard, x_marked, x_pending), (nI cc, nI bc, y_fault, nI mc, nI (v + 1), y_peak, nI st, nI p, nI (bs p), y_code, 1, 1, yv, y_todos, y_marks, -10000000000, nI sp, y_parent, y_fields, y_bound, y_kind, y_word, y_size, y_sort, y_number, y_stands, y_keeps, y_cells, y_globals, y_within, y_foundIn, y_self, y_args, y_temps, y_param, upd y_live (wk (v + 1)) 0, y_work, y_under, y_at, y_in, y_phase, y_base, y_goal, y_operands, y_marked, y_todo, y_heard), tm + 1, by omega, fun PX k => xt_hand (by omega) (fun Q q => ?_) k, fun PY m k => YL_mono (yt_deliver (fun Q q => ?_) k) (by omega), Or.inr ⟨cc, bc, dc, mc, st, sp, p, v + 1, ex_e (tk_nd y_kind y_word) (fa p), 2, T, ST, SA, lv, τ, σ, lev, ho, fa, ph, bs, ow, gg, wk, un, rt, ⟨rfl, rfl, rfl, rfl, rfl, rfl, rfl, rfl, rfl, rfl, rfl, rfl, rfl, rfl, rfl, rfl, rfl⟩, ⟨rfl, rfl, rfl, rfl, rfl, rfl, rfl, rfl, rfl, rfl⟩, A, F', Or.inl ⟨rfl, rfl, rfl, hv, fa p, by rw [show v + 1 - 1 = ow p by omega]; exact f4, f1, rfl⟩, n1, ?_⟩⟩
  · unfold wpX_handOn
    dsimp only
    rw [xr, nI_pred]
    refine nm_e ?_
    rw [xrc, xtk]
    refine ⟨vp_in_nI hxr (by decide), nm_e (br_t rfl ?_)⟩
    refine xw_endAct (fc := fr_x y_kind fa ph p) (c := σ (wk (v + 2 - 1))) (w := v + 1) hxr c3 ?_
    refine br_f (nI_ne0 (by omega) (by omega)) ?_
    dsimp only
    rw [xsg, xlk, eo]
    exact q
  · unfold wpY_deliver
    dsimp only
    rw [nI_pred]
    refine nm_e (br_t (nI_pos' (by omega)) ?_)
    rw [pc, y3, hp]
    refine ⟨vp, br_t rfl ?_⟩
    unfold wpY_end
    dsimp only
    rw [show nI (v + 2) - 1 = nI (v + 1) from nI_pred (v + 1)]
    refine nm_e ?_
    rw [nI_clamp (show v + 1 < 2 ^ 31 by omega), (Y.2 (v + 1) (by omega)).1, nI_clamp (show wk (v + 1) < 2 ^ 31 by have := (A.2.2.1.2.1 _ (W.1 (v + 1) (by omega)).1).1; omega), show vp_nar .boolean 0 = 0 by rfl]
    refine ⟨vp_in_nI (by omega) (by decide), vp_in_nI (A.2.2.1.2.1 _ (W.1 (v + 1) (by omega)).1).1 (by decide), nm_e ?_⟩
    exact yw_finish (by omega) y4 q
  · have sm : fr_sum (fun i => 10 * (ex_e (tk_nd y_kind y_word) (rt i) - ex_e (tk_nd y_kind y_word) (fa (un (i + 1) - 1)))) (v + 2 - 1) = fr_sum (fun i => 10 * (ex_e (tk_nd y_kind y_word) (rt i) - ex_e (tk_nd y_kind y_word) (fa (un (i + 1) - 1)))) (v + 1 - 1) + 10 * (ex_e (tk_nd y_kind y_word) (rt v) - ex_e (tk_nd y_kind y_word) (fa p)) := by
      show fr_sum _ v + _ = fr_sum _ v + _
      dsimp only
      rw [hlow]; rfl
    unfold rn_mu at n2 n3' n4 ⊢
    rw [sm] at n2 n3' n4
    rw [show v + 1 - 1 = v by omega] at n2 n3' n4 ⊢
    omega
end
end
section
/-! an operator is applied: those that work on values alone -/
section
variable {x_classCount x_bodyCount x_draftCount x_wrongPlace x_madeCount x_frameCount x_current x_next x_mode x_outcome x_stepCount x_atWork x_mostAtWork x_saidCount x_pendingCount : Int32} {x_inHand : Int64} {x_classParent x_classFields x_bound x_tokenKind x_tokenValue x_thingClass x_thingToken x_thingMaker x_homeOf x_within x_foundIn x_baseFrame x_frameToken x_frameStage x_frameLink x_marked x_pending : Nat → Int32} {x_globals x_thingShown x_thingFields x_variables x_operands x_saidValues : Nat → Int64}
variable {y_classes y_bodies y_fault y_made y_working y_peak y_steps y_depth y_waiting y_code y_running y_has y_todos y_marks y_spoken : Int32} {y_got y_shown : Int64} {y_parent y_fields y_bound y_kind y_word y_size y_sort y_number y_stands y_keeps y_within y_foundIn y_live y_work y_under y_at y_in y_phase y_base y_goal y_marked y_todo : Nat → Int32} {y_cells y_globals y_self y_args y_temps y_param y_operands y_heard : Nat → Int64}
variable {cc bc dc mc st sp d w np md B M : Nat} {T ST SA : Nat → Prop} {lv τ σ lev ho fa ph bs ow gg wk un rt : Nat → Nat}
theorem go_store {p tm : Nat} (A : rn_A cc bc dc mc T ST SA lv τ σ lev ho x_tokenKind x_tokenValue y_kind y_word y_size y_parent y_fields y_bound x_globals y_globals x_thingShown x_thingClass x_thingFields x_thingToken x_thingMaker x_variables x_homeOf x_within x_foundIn y_sort y_number y_stands y_keeps y_cells y_within y_foundIn y_self y_args y_temps y_param) (F : rn_F T ST SA lv σ lev ho y_kind y_word fa ph bs ow gg wk un rt (p + 1) w y_sort y_number x_frameToken x_frameStage x_frameLink x_operands x_baseFrame y_operands y_self y_at y_in y_phase y_base y_goal y_work y_under y_live) (ek : y_kind (fa p) = 9) (hp : ph p ≠ 100) (hph : ph p = tk_nd y_kind y_word (fa p)) (n : rn_n B (M + 1) mc st sp (rn_mu (tk_nd y_kind y_word) fa un rt st (p + 1) w (ex_e (tk_nd y_kind y_word) (fa p)) 1)) (ht : tm + 2 ≤ 1000000) :
    rn_Go B M tm (nI cc, nI bc, nI dc, y_fault, nI mc, nI (fr_x y_kind fa ph (p + 1)), nI (σ (wk (w - 1))), nI (ex_e (tk_nd y_kind y_word) (fa p)), x_inHand, 2, 100, nI st, nI w, y_peak, nI sp, x_pendingCount, y_parent, y_fields, y_bound, x_tokenKind, x_tokenValue, x_globals, x_thingShown, x_thingClass, x_thingFields, x_thingToken, x_thingMaker, x_variables, x_homeOf, x_within, x_foundIn, x_baseFrame, x_frameToken, x_frameStage, x_frameLink, x_operands, y_heard, x_marked, x_pending) (nI cc, nI bc, y_fault, nI mc, nI w, y_peak, nI st, nI (p + 1), nI (bs (p + 1)), y_code, 1, 0, y_got, y_todos, y_marks, -10000000000, nI sp, y_parent, y_fields, y_bound, y_kind, y_word, y_size, y_sort, y_number, y_stands, y_keeps, y_cells, y_globals, y_within, y_foundIn, y_self, y_args, y_temps, y_param, y_live, y_work, y_under, y_at, y_in, y_phase, y_base, y_goal, y_operands, y_marked, y_todo, y_heard) := by
  have kg : fr_gen (y_kind (fa p)) := by unfold fr_gen; rw [ek]; decide
  have nt : ¬ fr_tail (y_kind (fa p)) (ph p) := fun z => by
    rcases z with ⟨z, _⟩ | ⟨z, _⟩ <;> (rw [ek] at z; exact absurd z (by decide))
  obtain ⟨f1, eo, f5, p3, p5, b3, y1, y2, y3, y4, a3, n3, p383⟩ := rn_top A F hp
  have hxr := rn_xr A F hp
  have TF := rn_TF A
  have pc : (nI p).toNatClampNeg = p := nI_clamp (by omega)
  have vp : vp_in (nI p) 500 := vp_in_nI p5 (by decide)
  have fac : (nI (fa p)).toNatClampNeg = fa p := nI_clamp (by omega)
  have vfa : vp_in (nI (fa p)) 416 := vp_in_nI (by omega) (by decide)
  have xr : fr_x y_kind fa ph (p + 1) = fr_x y_kind fa ph p + 1 := by
    show _ + ct_b _ = _
    rw [ct_bt nt]
  have xrc : (nI (fr_x y_kind fa ph p)).toNatClampNeg = fr_x y_kind fa ph p := nI_clamp (by omega)
  have vxr : vp_in (nI (fr_x y_kind fa ph p)) 384 := vp_in_nI hxr (by decide)
  have e3 : nI (fr_x y_kind fa ph p) * (3 : Int32) = nI (fr_x y_kind fa ph p * 3) := pk_mul _ 3
  have e31 : nI (fr_x y_kind fa ph p * 3) + 1 = nI (fr_x y_kind fa ph p * 3 + 1) := nI_1 _
  have c3 : (nI (fr_x y_kind fa ph p * 3)).toNatClampNeg = fr_x y_kind fa ph p * 3 := nI_clamp (by omega)
  have c31 : (nI (fr_x y_kind fa ph p * 3 + 1)).toNatClampNeg = fr_x y_kind fa ph p * 3 + 1 := nI_clamp (by omega)
  have v3 : vp_in (nI (fr_x y_kind fa ph p * 3)) 1152 := vp_in_nI (by omega) (by decide)
  have v31 : vp_in (nI (fr_x y_kind fa ph p * 3 + 1)) 1152 := vp_in_nI (by omega) (by decide)
  have bc0 : (nI (bs p)).toNatClampNeg = bs p := nI_clamp (by omega)
  have bc1 : (nI (bs p + 1)).toNatClampNeg = bs p + 1 := nI_clamp (by omega)
  have vb0 : vp_in (nI (bs p)) 500 := vp_in_nI (by omega) (by decide)
  have vb1 : vp_in (nI (bs p + 1)) 500 := vp_in_nI (by omega) (by decide)
  obtain ⟨xtk, xsg, xlk, xO⟩ := (F.2.2.1.2 p (by omega) nt).2 hp
  have xkd : x_tokenKind (fa p) = y_kind (fa p) := (A.1.2.2.1.2.1 _ f1).2.1
  have xvl : x_tokenValue (fa p) = y_word (fa p) := (A.1.2.2.1.2.1 _ f1).2.2.1
  obtain ⟨ce, pe⟩ := fr_genc kg hp
  rw [ce] at xO
  have hpt : fr_pt (y_kind (fa p)) (ph p) = tk_nd y_kind y_word (fa p) := by rw [pe]; exact hph
  have enp : ex_pt (tk_nd y_kind y_word) (fa p) (ph p) = ex_e (tk_nd y_kind y_word) (fa p) := by rw [hph]; exact (fr_en TF f1).2.2
  have goX : ∀ Q : SX → Prop, _ → wpX_applyOperator Q (nI cc, nI bc, nI dc, y_fault, nI mc, nI (fr_x y_kind fa ph (p + 1)), nI (σ (wk (w - 1))), nI (ex_e (tk_nd y_kind y_word) (fa p)), x_inHand, 2, 100, nI st, nI w, y_peak, nI sp, x_pendingCount, y_parent, y_fields, y_bound, x_tokenKind, x_tokenValue, x_globals, x_thingShown, x_thingClass, x_thingFields, x_thingToken, x_thingMaker, x_variables, x_homeOf, x_within, x_foundIn, x_baseFrame, x_frameToken, x_frameStage, x_frameLink, x_operands, y_heard, x_marked, x_pending) := fun Q h => by
    unfold wpX_applyOperator
    dsimp only
    rw [xr, nI_pred]
    refine nm_e ?_
    rw [xrc, xtk, e3, e31, c3, c31]
    refine ⟨vxr, nm_e ⟨vfa, ?_⟩⟩
    rw [fac, xkd, ek]
    exact nm_e ⟨v3, nm_e ⟨v31, nm_e h⟩⟩
  have goY : ∀ Q : SY → Prop, _ → wpY_next Q (nI cc, nI bc, y_fault, nI mc, nI w, y_peak, nI st, nI (p + 1), nI (bs (p + 1)), y_code, 1, 0, y_got, y_todos, y_marks, -10000000000, nI sp, y_parent, y_fields, y_bound, y_kind, y_word, y_size, y_sort, y_number, y_stands, y_keeps, y_cells, y_globals, y_within, y_foundIn, y_self, y_args, y_temps, y_param, y_live, y_work, y_under, y_at, y_in, y_phase, y_base, y_goal, y_operands, y_marked, y_todo, y_heard) := fun Q h => by
    refine yn_apply A F hp hpt ?_
    unfold wpY_apply
    dsimp only
    rw [pc, y1, y2, y4]
    refine ⟨vp, nm_e ⟨vfa, ?_⟩⟩
    rw [fac]
    refine nm_e ⟨vp, nm_e ⟨vp, yw_home A.2.2.1 (rn_cur A F).1 ⟨vb0, ?_⟩⟩⟩
    rw [bc0, nI_1, bc1]
    refine nm_e ⟨vb1, nm_e ⟨vfa, ?_⟩⟩
    rw [ek]
    exact nm_e h
  have s0 : fr_s (y_kind (fa p)) = 0 := by unfold fr_s; rw [ek, if_neg (by decide)]
  have nd1 : tk_nd y_kind y_word (fa p) = 1 := by unfold tk_nd; rw [ek]; rfl
  have v0 := (xO 0 (by omega)).2.1 (by omega) (by omega)
  rw [s0, Nat.add_zero, show bs p + (0 - 0) = bs p from rfl] at v0
  obtain ⟨n1, n2, n3', n4⟩ := mu_fin (Nat.le_refl _) (by omega) n
  obtain ⟨_, _, _, ⟨kn', kl, ek', okl, _⟩, _⟩ := A.1.2.2.1.2.1 _ f1
  have ekk : kn' = 9 := (nI_eq (Nat.lt_trans kl (by decide)) (by decide)).mp (ek'.symm.trans ek)
  subst ekk
  obtain ⟨v, hv, ev⟩ := okl (by omega)
  have hv : v < 4 := hv
  have vc : (nI v).toNatClampNeg = v := nI_clamp (by omega)
  have A' : rn_A cc bc dc mc T ST SA lv τ σ lev ho x_tokenKind x_tokenValue y_kind y_word y_size y_parent y_fields y_bound (vp_updL x_globals v (x_operands (fr_x y_kind fa ph p * 3))) (vp_updL y_globals v (y_operands (bs p))) x_thingShown x_thingClass x_thingFields x_thingToken x_thingMaker x_variables x_homeOf x_within x_foundIn y_sort y_number y_stands y_keeps y_cells y_within y_foundIn y_self y_args y_temps y_param := by
    refine ⟨A.1, fun i hi => ?_, A.2.2⟩
    by_cases z : i = v
    · subst z; rw [pk_uLs, pk_uLs]; exact v0
    · rw [pk_uLn z, pk_uLn z]; exact A.2.1 i hi
  refine ⟨(nI cc, nI bc, nI dc, y_fault, nI mc, nI (fr_x y_kind fa ph p), nI (σ (wk (w - 1))), nI (ex_e (tk_nd y_kind y_word) (fa p)), x_operands (fr_x y_kind fa ph p * 3), 1, 100, nI st, nI w, y_peak, nI sp, x_pendingCount, y_parent, y_fields, y_bound, x_tokenKind, x_tokenValue, vp_updL x_globals v (x_operands (fr_x y_kind fa ph p * 3)), x_thingShown, x_thingClass, x_thingFields, x_thingToken, x_thingMaker, x_variables, x_homeOf, x_within, x_foundIn, x_baseFrame, x_frameToken, x_frameStage, x_frameLink, x_operands, y_heard, x_marked, x_pending), (nI cc, nI bc, y_fault, nI mc, nI w, y_peak, nI st, nI p, nI (bs p), y_code, 1, 1, y_operands (bs p), y_todos, y_marks, -10000000000, nI sp, y_parent, y_fields, y_bound, y_kind, y_word, y_size, y_sort, y_number, y_stands, y_keeps, y_cells, vp_updL y_globals v (y_operands (bs p)), y_within, y_foundIn, y_self, y_args, y_temps, y_param, y_live, y_work, y_under, y_at, y_in, y_phase, y_base, y_goal, y_operands, y_marked, y_todo, y_heard), tm + 1, by omega, fun PX k => xt_apply (by omega) (fun Q q => goX Q (br_f (by decide) (br_f (by decide) (br_f (by decide) (br_f (by decide) (nm_e (br_f (by decide) (br_f (by decide) (br_t (by decide) ?_))))))))) k, fun PY m k => YL_mono (yt_next (fun Q q => goY Q ?_) k) (by omega), Or.inr (fin_H A' F hp (fun q hq => rfl) v0 n3' n1 n2 n4)⟩
  · unfold wX_applyOperator_222 wpX_effect
    dsimp only
    rw [fac, xvl, ev]
    refine ⟨vfa, br_f (by decide) (br_f (by decide) (br_t rfl ⟨vp_in_nI hv (by decide), ?_⟩))⟩
    rw [vc]
    exact nm_e q
  · iterate 6 refine br_f (by decide) ?_
    refine br_t rfl ?_
    rw [ev, vc]
    exact ⟨vp_in_nI hv (by decide), nm_e (yw_finish p5 y4 q)⟩
end
end
section
/-! an operator is applied: SAY, CLASS, SAME, ADD, SUB, MUL, LESS -/
section
variable {x_classCount x_bodyCount x_draftCount x_wrongPlace x_madeCount x_frameCount x_current x_next x_mode x_outcome x_stepCount x_atWork x_mostAtWork x_saidCount x_pendingCount : Int32} {x_inHand : Int64} {x_classParent x_classFields x_bound x_tokenKind x_tokenValue x_thingClass x_thingToken x_thingMaker x_homeOf x_within x_foundIn x_baseFrame x_frameToken x_frameStage x_frameLink x_marked x_pending : Nat → Int32} {x_globals x_thingShown x_thingFields x_variables x_operands x_saidValues : Nat → Int64}
variable {y_classes y_bodies y_fault y_made y_working y_peak y_steps y_depth y_waiting y_code y_running y_has y_todos y_marks y_spoken : Int32} {y_got y_shown : Int64} {y_parent y_fields y_bound y_kind y_word y_size y_sort y_number y_stands y_keeps y_within y_foundIn y_live y_work y_under y_at y_in y_phase y_base y_goal y_marked y_todo : Nat → Int32} {y_cells y_globals y_self y_args y_temps y_param y_operands y_heard : Nat → Int64}
variable {cc bc dc mc st sp d w np md B M : Nat} {T ST SA : Nat → Prop} {lv τ σ lev ho fa ph bs ow gg wk un rt : Nat → Nat}
theorem hp_veq (U : hp_U mc x_thingShown) (H : hp_R cc mc T y_kind lv ST SA τ σ lev ho x_thingShown x_thingClass x_thingFields x_thingToken x_thingMaker x_variables x_homeOf x_within x_foundIn y_sort y_number y_stands y_keeps y_cells y_within y_foundIn y_self y_args y_temps y_param) {x1 y1 x2 y2 : Int64} (h1 : hp_v ST (hp_s y_sort y_number) x1 y1) (h2 : hp_v ST (hp_s y_sort y_number) x2 y2) : x1 = x2 ↔ y1 = y2 := by
  constructor
  · intro e
    obtain ⟨a, a1, rfl, rfl⟩ := h1
    obtain ⟨b, b1, rfl, rfl⟩ := h2
    have thing : ∀ k, ST k → (20000000000 : Int64) ≤ hp_s y_sort y_number k := fun k hk => ((hp_shT U H hk).mpr rfl).2.1
    rcases a with i | _ | k <;> rcases b with j | _ | l
    · have e : i.toInt64 = j.toInt64 := e
      have := congrArg Int64.toInt32 e
      rw [Int32.toInt32_toInt64, Int32.toInt32_toInt64] at this
      rw [this]
    · exact absurd (show (10000000000 : Int64) ≤ i.toInt64 by rw [show i.toInt64 = (10000000000 : Int64) from e]; decide) (hp_int1 i)
    · exact absurd (show (20000000000 : Int64) ≤ i.toInt64 by rw [show i.toInt64 = hp_s y_sort y_number l from e]; exact thing l (b1 l rfl).2) (hp_int i)
    · exact absurd (show (10000000000 : Int64) ≤ j.toInt64 by rw [← show (10000000000 : Int64) = j.toInt64 from e]; decide) (hp_int1 j)
    · rfl
    · have := thing l (b1 l rfl).2
      rw [← show (10000000000 : Int64) = hp_s y_sort y_number l from e] at this
      exact absurd this (by decide)
    · exact absurd (show (20000000000 : Int64) ≤ j.toInt64 by rw [← show hp_s y_sort y_number k = j.toInt64 from e]; exact thing k (a1 k rfl).2) (hp_int j)
    · have := thing k (a1 k rfl).2
      rw [show hp_s y_sort y_number k = (10000000000 : Int64) from e] at this
      exact absurd this (by decide)
    · have e : hp_s y_sort y_number k = hp_s y_sort y_number l := e
      have sk := (a1 k rfl).2
      have sl := (b1 l rfl).2
      have q := (hp_shT U H sk (t := τ k)).mpr rfl
      rw [e] at q
      rw [H.2.2.2 k l sk sl ((hp_shT U H sl).mp q)]
  · intro e
    obtain ⟨a, a1, rfl, rfl⟩ := h1
    obtain ⟨b, b1, rfl, rfl⟩ := h2
    rw [vv_inj (fun k z => (a1 k z).1) (fun k z => (b1 k z).1) e]
theorem hp_vint (i : Int32) : hp_v ST (hp_s y_sort y_number) i.toInt64 (lN i.toBitVec.toNat) := ⟨.inl i, fun k e => (by cases e), rfl, rfl⟩
theorem go_say {p tm : Nat} (A : rn_A cc bc dc mc T ST SA lv τ σ lev ho x_tokenKind x_tokenValue y_kind y_word y_size y_parent y_fields y_bound x_globals y_globals x_thingShown x_thingClass x_thingFields x_thingToken x_thingMaker x_variables x_homeOf x_within x_foundIn y_sort y_number y_stands y_keeps y_cells y_within y_foundIn y_self y_args y_temps y_param) (F : rn_F T ST SA lv σ lev ho y_kind y_word fa ph bs ow gg wk un rt (p + 1) w y_sort y_number x_frameToken x_frameStage x_frameLink x_operands x_baseFrame y_operands y_self y_at y_in y_phase y_base y_goal y_work y_under y_live) (ek : y_kind (fa p) = 26) (hp : ph p ≠ 100) (hph : ph p = tk_nd y_kind y_word (fa p)) (n : rn_n B (M + 1) mc st sp (rn_mu (tk_nd y_kind y_word) fa un rt st (p + 1) w (ex_e (tk_nd y_kind y_word) (fa p)) 1)) (ht : tm + 2 ≤ 1000000) :
    rn_Go B M tm (nI cc, nI bc, nI dc, y_fault, nI mc, nI (fr_x y_kind fa ph (p + 1)), nI (σ (wk (w - 1))), nI (ex_e (tk_nd y_kind y_word) (fa p)), x_inHand, 2, 100, nI st, nI w, y_peak, nI sp, x_pendingCount, y_parent, y_fields, y_bound, x_tokenKind, x_tokenValue, x_globals, x_thingShown, x_thingClass, x_thingFields, x_thingToken, x_thingMaker, x_variables, x_homeOf, x_within, x_foundIn, x_baseFrame, x_frameToken, x_frameStage, x_frameLink, x_operands, y_heard, x_marked, x_pending) (nI cc, nI bc, y_fault, nI mc, nI w, y_peak, nI st, nI (p + 1), nI (bs (p + 1)), y_code, 1, 0, y_got, y_todos, y_marks, -10000000000, nI sp, y_parent, y_fields, y_bound, y_kind, y_word, y_size, y_sort, y_number, y_stands, y_keeps, y_cells, y_globals, y_within, y_foundIn, y_self, y_args, y_temps, y_param, y_live, y_work, y_under, y_at, y_in, y_phase, y_base, y_goal, y_operands, y_marked, y_todo, y_heard) := by
  have kg : fr_gen (y_kind (fa p)) := by unfold fr_gen; rw [ek]; decide
  have nt : ¬ fr_tail (y_kind (fa p)) (ph p) := fun z => by
    rcases z with ⟨z, _⟩ | ⟨z, _⟩ <;> (rw [ek] at z; exact absurd z (by decide))
  obtain ⟨f1, eo, f5, p3, p5, b3, y1, y2, y3, y4, a3, n3, p383⟩ := rn_top A F hp
  have hxr := rn_xr A F hp
  have TF := rn_TF A
  have pc : (nI p).toNatClampNeg = p := nI_clamp (by omega)
  have vp : vp_in (nI p) 500 := vp_in_nI p5 (by decide)
  have fac : (nI (fa p)).toNatClampNeg = fa p := nI_clamp (by omega)
  have vfa : vp_in (nI (fa p)) 416 := vp_in_nI (by omega) (by decide)
  have xr : fr_x y_kind fa ph (p + 1) = fr_x y_kind fa ph p + 1 := by
    show _ + ct_b _ = _
    rw [ct_bt nt]
  have xrc : (nI (fr_x y_kind fa ph p)).toNatClampNeg = fr_x y_kind fa ph p := nI_clamp (by omega)
  have vxr : vp_in (nI (fr_x y_kind fa ph p)) 384 := vp_in_nI hxr (by decide)
  have e3 : nI (fr_x y_kind fa ph p) * (3 : Int32) = nI (fr_x y_kind fa ph p * 3) := pk_mul _ 3
  have e31 : nI (fr_x y_kind fa ph p * 3) + 1 = nI (fr_x y_kind fa ph p * 3 + 1) := nI_1 _
  have c3 : (nI (fr_x y_kind fa ph p * 3)).toNatClampNeg = fr_x y_kind fa ph p * 3 := nI_clamp (by omega)
  have c31 : (nI (fr_x y_kind fa ph p * 3 + 1)).toNatClampNeg = fr_x y_kind fa ph p * 3 + 1 := nI_clamp (by omega)
  have v3 : vp_in (nI (fr_x y_kind fa ph p * 3)) 1152 := vp_in_nI (by omega) (by decide)
  have v31 : vp_in (nI (fr_x y_kind fa ph p * 3 + 1)) 1152 := vp_in_nI (by omega) (by decide)
  have bc0 : (nI (bs p)).toNatClampNeg = bs p := nI_clamp (by omega)
  have bc1 : (nI (bs p + 1)).toNatClampNeg = bs p + 1 := nI_clamp (by omega)
  have vb0 : vp_in (nI (bs p)) 500 := vp_in_nI (by omega) (by decide)
  have vb1 : vp_in (nI (bs p + 1)) 500 := vp_in_nI (by omega) (by decide)
  obtain ⟨xtk, xsg, xlk, xO⟩ := (F.2.2.1.2 p (by omega) nt).2 hp
  have xkd : x_tokenKind (fa p) = y_kind (fa p) := (A.1.2.2.1.2.1 _ f1).2.1
  have xvl : x_tokenValue (fa p) = y_word (fa p) := (A.1.2.2.1.2.1 _ f1).2.2.1
  obtain ⟨ce, pe⟩ := fr_genc kg hp
  rw [ce] at xO
  have hpt : fr_pt (y_kind (fa p)) (ph p) = tk_nd y_kind y_word (fa p) := by rw [pe]; exact hph
  have enp : ex_pt (tk_nd y_kind y_word) (fa p) (ph p) = ex_e (tk_nd y_kind y_word) (fa p) := by rw [hph]; exact (fr_en TF f1).2.2
  have goX : ∀ Q : SX → Prop, _ → wpX_applyOperator Q (nI cc, nI bc, nI dc, y_fault, nI mc, nI (fr_x y_kind fa ph (p + 1)), nI (σ (wk (w - 1))), nI (ex_e (tk_nd y_kind y_word) (fa p)), x_inHand, 2, 100, nI st, nI w, y_peak, nI sp, x_pendingCount, y_parent, y_fields, y_bound, x_tokenKind, x_tokenValue, x_globals, x_thingShown, x_thingClass, x_thingFields, x_thingToken, x_thingMaker, x_variables, x_homeOf, x_within, x_foundIn, x_baseFrame, x_frameToken, x_frameStage, x_frameLink, x_operands, y_heard, x_marked, x_pending) := fun Q h => by
    unfold wpX_applyOperator
    dsimp only
    rw [xr, nI_pred]
    refine nm_e ?_
    rw [xrc, xtk, e3, e31, c3, c31]
    refine ⟨vxr, nm_e ⟨vfa, ?_⟩⟩
    rw [fac, xkd, ek]
    exact nm_e ⟨v3, nm_e ⟨v31, nm_e h⟩⟩
  have goY : ∀ Q : SY → Prop, _ → wpY_next Q (nI cc, nI bc, y_fault, nI mc, nI w, y_peak, nI st, nI (p + 1), nI (bs (p + 1)), y_code, 1, 0, y_got, y_todos, y_marks, -10000000000, nI sp, y_parent, y_fields, y_bound, y_kind, y_word, y_size, y_sort, y_number, y_stands, y_keeps, y_cells, y_globals, y_within, y_foundIn, y_self, y_args, y_temps, y_param, y_live, y_work, y_under, y_at, y_in, y_phase, y_base, y_goal, y_operands, y_marked, y_todo, y_heard) := fun Q h => by
    refine yn_apply A F hp hpt ?_
    unfold wpY_apply
    dsimp only
    rw [pc, y1, y2, y4]
    refine ⟨vp, nm_e ⟨vfa, ?_⟩⟩
    rw [fac]
    refine nm_e ⟨vp, nm_e ⟨vp, yw_home A.2.2.1 (rn_cur A F).1 ⟨vb0, ?_⟩⟩⟩
    rw [bc0, nI_1, bc1]
    refine nm_e ⟨vb1, nm_e ⟨vfa, ?_⟩⟩
    rw [ek]
    exact nm_e h
  have s0 : fr_s (y_kind (fa p)) = 0 := by unfold fr_s; rw [ek, if_neg (by decide)]
  have nd1 : tk_nd y_kind y_word (fa p) = 1 := by unfold tk_nd; rw [ek]; rfl
  have v0 := (xO 0 (by omega)).2.1 (by omega) (by omega)
  rw [s0, Nat.add_zero, show bs p + (0 - 0) = bs p from rfl] at v0
  have mcl := A.2.2.2.1.1
  have nn := n
  obtain ⟨n1, n2, n3', n4⟩ := mu_fin (Nat.le_refl _) (by omega) n
  have n2' : sp + 1 < 2 ^ 30 - (rn_mu (tk_nd y_kind y_word) fa un rt st p w (ex_e (tk_nd y_kind y_word) (fa p)) 2) := by
    have := nn.2.1
    unfold rn_mu at this ⊢
    omega
  by_cases z : 20 ≤ sp
  · refine ⟨(nI cc, nI bc, nI dc, y_fault, nI mc, nI (fr_x y_kind fa ph p), nI (σ (wk (w - 1))), nI (ex_e (tk_nd y_kind y_word) (fa p)), x_operands (fr_x y_kind fa ph p * 3), 1, 100, nI st, nI w, y_peak, nI (sp + 1), x_pendingCount, y_parent, y_fields, y_bound, x_tokenKind, x_tokenValue, x_globals, x_thingShown, x_thingClass, x_thingFields, x_thingToken, x_thingMaker, x_variables, x_homeOf, x_within, x_foundIn, x_baseFrame, x_frameToken, x_frameStage, x_frameLink, x_operands, y_heard, x_marked, x_pending), (nI cc, nI bc, y_fault, nI mc, nI w, y_peak, nI st, nI p, nI (bs p), y_code, 1, 1, y_operands (bs p), y_todos, y_marks, -10000000000, nI (sp + 1), y_parent, y_fields, y_bound, y_kind, y_word, y_size, y_sort, y_number, y_stands, y_keeps, y_cells, y_globals, y_within, y_foundIn, y_self, y_args, y_temps, y_param, y_live, y_work, y_under, y_at, y_in, y_phase, y_base, y_goal, y_operands, y_marked, y_todo, y_heard), tm + 1, by omega, fun PX k => xt_apply (by omega) (fun Q q => goX Q (br_f (by decide) (br_f (by decide) (br_f (by decide) (br_f (by decide) (nm_e (br_f (by decide) (br_f (by decide) (br_f (by decide) (br_t (by decide) ?_)))))))))) k, fun PY m k => YL_mono (yt_next (fun Q q => goY Q ?_) k) (by omega), Or.inr (fin_H (sp := sp + 1) A F hp (fun q hq => rfl) v0 n3' n1 n2' n4)⟩
    · unfold wX_applyOperator_222 wpX_effect
      dsimp only
      refine ⟨vfa, br_f (by decide) (br_f (by decide) (br_f (by decide) (br_t rfl ?_)))⟩
      unfold wpX_say
      exact br_t (nI_le (a := 20) z (by omega)) (nm_r (nI_1 sp) q)
    · iterate 23 refine br_f (by decide) ?_
      refine br_t rfl (br_t (nI_le (a := 20) z (by omega)) ?_)
      unfold wY_apply_452
      exact nm_r (nI_1 sp) (yw_finish p5 y4 q)
  · refine ⟨(nI cc, nI bc, nI dc, y_fault, nI mc, nI (fr_x y_kind fa ph p), nI (σ (wk (w - 1))), nI (ex_e (tk_nd y_kind y_word) (fa p)), x_operands (fr_x y_kind fa ph p * 3), 1, 100, nI st, nI w, y_peak, nI (sp + 1), x_pendingCount, y_parent, y_fields, y_bound, x_tokenKind, x_tokenValue, x_globals, x_thingShown, x_thingClass, x_thingFields, x_thingToken, x_thingMaker, x_variables, x_homeOf, x_within, x_foundIn, x_baseFrame, x_frameToken, x_frameStage, x_frameLink, x_operands, vp_updL y_heard sp (x_operands (fr_x y_kind fa ph p * 3)), x_marked, x_pending), (nI cc, nI bc, y_fault, nI mc, nI w, y_peak, nI st, nI p, nI (bs p), y_code, 1, 1, y_operands (bs p), y_todos, y_marks, -10000000000, nI (sp + 1), y_parent, y_fields, y_bound, y_kind, y_word, y_size, y_sort, y_number, y_stands, y_keeps, y_cells, y_globals, y_within, y_foundIn, y_self, y_args, y_temps, y_param, y_live, y_work, y_under, y_at, y_in, y_phase, y_base, y_goal, y_operands, y_marked, y_todo, vp_updL y_heard sp (x_operands (fr_x y_kind fa ph p * 3))), tm + 1, by omega, fun PX k => xt_apply (by omega) (fun Q q => goX Q (br_f (by decide) (br_f (by decide) (br_f (by decide) (br_f (by decide) (nm_e (br_f (by decide) (br_f (by decide) (br_f (by decide) (br_t (by decide) ?_)))))))))) k, fun PY m k => YL_mono (yt_next (fun Q q => goY Q ?_) k) (by omega), Or.inr (fin_H (sp := sp + 1) A F hp (fun q hq => rfl) v0 n3' n1 n2' n4)⟩
    · unfold wX_applyOperator_222 wpX_effect
      dsimp only
      refine ⟨vfa, br_f (by decide) (br_f (by decide) (br_f (by decide) (br_t rfl ?_)))⟩
      unfold wpX_say
      dsimp only
      rw [nI_clamp (show sp < 2 ^ 31 by omega)]
      exact br_f (nI_ge (b := 20) (by omega) (by decide)) ⟨vp_in_nI (by omega) (by decide), nm_e (nm_r (nI_1 sp) q)⟩
    · iterate 23 refine br_f (by decide) ?_
      refine br_t rfl (br_f (nI_ge (b := 20) (by omega) (by decide)) (yv_show A.2.2.1 (by omega) v0 ⟨vp_in_nI (by omega) (by decide), ?_⟩))
      rw [nI_clamp (show sp < 2 ^ 31 by omega)]
      refine nm_e ?_
      unfold wY_apply_452
      exact nm_r (nI_1 sp) (yw_finish p5 y4 q)
theorem go_class {p tm : Nat} (A : rn_A cc bc dc mc T ST SA lv τ σ lev ho x_tokenKind x_tokenValue y_kind y_word y_size y_parent y_fields y_bound x_globals y_globals x_thingShown x_thingClass x_thingFields x_thingToken x_thingMaker x_variables x_homeOf x_within x_foundIn y_sort y_number y_stands y_keeps y_cells y_within y_foundIn y_self y_args y_temps y_param) (F : rn_F T ST SA lv σ lev ho y_kind y_word fa ph bs ow gg wk un rt (p + 1) w y_sort y_number x_frameToken x_frameStage x_frameLink x_operands x_baseFrame y_operands y_self y_at y_in y_phase y_base y_goal y_work y_under y_live) (ek : y_kind (fa p) = 29) (hp : ph p ≠ 100) (hph : ph p = tk_nd y_kind y_word (fa p)) (n : rn_n B (M + 1) mc st sp (rn_mu (tk_nd y_kind y_word) fa un rt st (p + 1) w (ex_e (tk_nd y_kind y_word) (fa p)) 1)) (ht : tm + 2 ≤ 1000000) :
    rn_Go B M tm (nI cc, nI bc, nI dc, y_fault, nI mc, nI (fr_x y_kind fa ph (p + 1)), nI (σ (wk (w - 1))), nI (ex_e (tk_nd y_kind y_word) (fa p)), x_inHand, 2, 100, nI st, nI w, y_peak, nI sp, x_pendingCount, y_parent, y_fields, y_bound, x_tokenKind, x_tokenValue, x_globals, x_thingShown, x_thingClass, x_thingFields, x_thingToken, x_thingMaker, x_variables, x_homeOf, x_within, x_foundIn, x_baseFrame, x_frameToken, x_frameStage, x_frameLink, x_operands, y_heard, x_marked, x_pending) (nI cc, nI bc, y_fault, nI mc, nI w, y_peak, nI st, nI (p + 1), nI (bs (p + 1)), y_code, 1, 0, y_got, y_todos, y_marks, -10000000000, nI sp, y_parent, y_fields, y_bound, y_kind, y_word, y_size, y_sort, y_number, y_stands, y_keeps, y_cells, y_globals, y_within, y_foundIn, y_self, y_args, y_temps, y_param, y_live, y_work, y_under, y_at, y_in, y_phase, y_base, y_goal, y_operands, y_marked, y_todo, y_heard) := by
  have kg : fr_gen (y_kind (fa p)) := by unfold fr_gen; rw [ek]; decide
  have nt : ¬ fr_tail (y_kind (fa p)) (ph p) := fun z => by
    rcases z with ⟨z, _⟩ | ⟨z, _⟩ <;> (rw [ek] at z; exact absurd z (by decide))
  obtain ⟨f1, eo, f5, p3, p5, b3, y1, y2, y3, y4, a3, n3, p383⟩ := rn_top A F hp
  have hxr := rn_xr A F hp
  have TF := rn_TF A
  have pc : (nI p).toNatClampNeg = p := nI_clamp (by omega)
  have vp : vp_in (nI p) 500 := vp_in_nI p5 (by decide)
  have fac : (nI (fa p)).toNatClampNeg = fa p := nI_clamp (by omega)
  have vfa : vp_in (nI (fa p)) 416 := vp_in_nI (by omega) (by decide)
  have xr : fr_x y_kind fa ph (p + 1) = fr_x y_kind fa ph p + 1 := by
    show _ + ct_b _ = _
    rw [ct_bt nt]
  have xrc : (nI (fr_x y_kind fa ph p)).toNatClampNeg = fr_x y_kind fa ph p := nI_clamp (by omega)
  have vxr : vp_in (nI (fr_x y_kind fa ph p)) 384 := vp_in_nI hxr (by decide)
  have e3 : nI (fr_x y_kind fa ph p) * (3 : Int32) = nI (fr_x y_kind fa ph p * 3) := pk_mul _ 3
  have e31 : nI (fr_x y_kind fa ph p * 3) + 1 = nI (fr_x y_kind fa ph p * 3 + 1) := nI_1 _
  have c3 : (nI (fr_x y_kind fa ph p * 3)).toNatClampNeg = fr_x y_kind fa ph p * 3 := nI_clamp (by omega)
  have c31 : (nI (fr_x y_kind fa ph p * 3 + 1)).toNatClampNeg = fr_x y_kind fa ph p * 3 + 1 := nI_clamp (by omega)
  have v3 : vp_in (nI (fr_x y_kind fa ph p * 3)) 1152 := vp_in_nI (by omega) (by decide)
  have v31 : vp_in (nI (fr_x y_kind fa ph p * 3 + 1)) 1152 := vp_in_nI (by omega) (by decide)
  have bc0 : (nI (bs p)).toNatClampNeg = bs p := nI_clamp (by omega)
  have bc1 : (nI (bs p + 1)).toNatClampNeg = bs p + 1 := nI_clamp (by omega)
  have vb0 : vp_in (nI (bs p)) 500 := vp_in_nI (by omega) (by decide)
  have vb1 : vp_in (nI (bs p + 1)) 500 := vp_in_nI (by omega) (by decide)
  obtain ⟨xtk, xsg, xlk, xO⟩ := (F.2.2.1.2 p (by omega) nt).2 hp
  have xkd : x_tokenKind (fa p) = y_kind (fa p) := (A.1.2.2.1.2.1 _ f1).2.1
  have xvl : x_tokenValue (fa p) = y_word (fa p) := (A.1.2.2.1.2.1 _ f1).2.2.1
  obtain ⟨ce, pe⟩ := fr_genc kg hp
  rw [ce] at xO
  have hpt : fr_pt (y_kind (fa p)) (ph p) = tk_nd y_kind y_word (fa p) := by rw [pe]; exact hph
  have enp : ex_pt (tk_nd y_kind y_word) (fa p) (ph p) = ex_e (tk_nd y_kind y_word) (fa p) := by rw [hph]; exact (fr_en TF f1).2.2
  have goX : ∀ Q : SX → Prop, _ → wpX_applyOperator Q (nI cc, nI bc, nI dc, y_fault, nI mc, nI (fr_x y_kind fa ph (p + 1)), nI (σ (wk (w - 1))), nI (ex_e (tk_nd y_kind y_word) (fa p)), x_inHand, 2, 100, nI st, nI w, y_peak, nI sp, x_pendingCount, y_parent, y_fields, y_bound, x_tokenKind, x_tokenValue, x_globals, x_thingShown, x_thingClass, x_thingFields, x_thingToken, x_thingMaker, x_variables, x_homeOf, x_within, x_foundIn, x_baseFrame, x_frameToken, x_frameStage, x_frameLink, x_operands, y_heard, x_marked, x_pending) := fun Q h => by
    unfold wpX_applyOperator
    dsimp only
    rw [xr, nI_pred]
    refine nm_e ?_
    rw [xrc, xtk, e3, e31, c3, c31]
    refine ⟨vxr, nm_e ⟨vfa, ?_⟩⟩
    rw [fac, xkd, ek]
    exact nm_e ⟨v3, nm_e ⟨v31, nm_e h⟩⟩
  have goY : ∀ Q : SY → Prop, _ → wpY_next Q (nI cc, nI bc, y_fault, nI mc, nI w, y_peak, nI st, nI (p + 1), nI (bs (p + 1)), y_code, 1, 0, y_got, y_todos, y_marks, -10000000000, nI sp, y_parent, y_fields, y_bound, y_kind, y_word, y_size, y_sort, y_number, y_stands, y_keeps, y_cells, y_globals, y_within, y_foundIn, y_self, y_args, y_temps, y_param, y_live, y_work, y_under, y_at, y_in, y_phase, y_base, y_goal, y_operands, y_marked, y_todo, y_heard) := fun Q h => by
    refine yn_apply A F hp hpt ?_
    unfold wpY_apply
    dsimp only
    rw [pc, y1, y2, y4]
    refine ⟨vp, nm_e ⟨vfa, ?_⟩⟩
    rw [fac]
    refine nm_e ⟨vp, nm_e ⟨vp, yw_home A.2.2.1 (rn_cur A F).1 ⟨vb0, ?_⟩⟩⟩
    rw [bc0, nI_1, bc1]
    refine nm_e ⟨vb1, nm_e ⟨vfa, ?_⟩⟩
    rw [ek]
    exact nm_e h
  have s0 : fr_s (y_kind (fa p)) = 0 := by unfold fr_s; rw [ek, if_neg (by decide)]
  have nd1 : tk_nd y_kind y_word (fa p) = 1 := by unfold tk_nd; rw [ek]; rfl
  have v0 := (xO 0 (by omega)).2.1 (by omega) (by omega)
  rw [s0, Nat.add_zero, show bs p + (0 - 0) = bs p from rfl] at v0
  obtain ⟨n1, n2, n3', n4⟩ := mu_fin (Nat.le_refl _) (by omega) n
  obtain ⟨c, hc, cX, cY⟩ := xv_class (x_classCount := nI cc) (x_bodyCount := nI bc) (x_draftCount := nI dc) (x_wrongPlace := y_fault) (x_madeCount := nI mc) (x_frameCount := nI (fr_x y_kind fa ph p)) (x_current := nI (σ (wk (w - 1)))) (x_next := nI (ex_e (tk_nd y_kind y_word) (fa p))) (x_inHand := x_inHand) (x_mode := 1) (x_outcome := 100) (x_stepCount := nI st) (x_atWork := nI w) (x_mostAtWork := y_peak) (x_saidCount := nI sp) (x_pendingCount := x_pendingCount) (x_classParent := y_parent) (x_classFields := y_fields) (x_bound := y_bound) (x_tokenKind := x_tokenKind) (x_tokenValue := x_tokenValue) (x_globals := x_globals) (x_thingShown := x_thingShown) (x_thingClass := x_thingClass) (x_thingFields := x_thingFields) (x_thingToken := x_thingToken) (x_thingMaker := x_thingMaker) (x_variables := x_variables) (x_homeOf := x_homeOf) (x_within := x_within) (x_foundIn := x_foundIn) (x_baseFrame := x_baseFrame) (x_frameToken := x_frameToken) (x_frameStage := x_frameStage) (x_frameLink := x_frameLink) (x_operands := x_operands) (x_saidValues := y_heard) (x_marked := x_marked) (x_pending := x_pending) (y_classes := nI cc) (y_bodies := nI bc) (y_fault := y_fault) (y_made := nI mc) (y_working := nI w) (y_peak := y_peak) (y_steps := nI st) (y_depth := nI (p + 1)) (y_waiting := nI (bs (p + 1))) (y_code := y_code) (y_running := 1) (y_has := 0) (y_got := y_got) (y_todos := y_todos) (y_marks := y_marks) (y_shown := -10000000000) (y_spoken := nI sp) (y_parent := y_parent) (y_fields := y_fields) (y_bound := y_bound) (y_kind := y_kind) (y_word := y_word) (y_size := y_size) (y_sort := y_sort) (y_number := y_number) (y_stands := y_stands) (y_keeps := y_keeps) (y_cells := y_cells) (y_globals := y_globals) (y_within := y_within) (y_foundIn := y_foundIn) (y_self := y_self) (y_args := y_args) (y_temps := y_temps) (y_param := y_param) (y_live := y_live) (y_work := y_work) (y_under := y_under) (y_at := y_at) (y_in := y_in) (y_phase := y_phase) (y_base := y_base) (y_goal := y_goal) (y_operands := y_operands) (y_marked := y_marked) (y_todo := y_todo) (y_heard := y_heard) A.2.2.2.1 A.2.2.1 A.1.1.1 v0
  have c10 := A.1.1.2.1
  have vi : hp_v ST (hp_s y_sort y_number) (nI c).toInt64 (nI c).toInt64 := by
    have := hp_vint (ST := ST) (y_sort := y_sort) (y_number := y_number) (nI c)
    rw [pk_tn (show c < 2 ^ 32 by omega), ← nI_l (show c < 2 ^ 31 by omega)] at this
    exact this
  refine ⟨(nI cc, nI bc, nI dc, y_fault, nI mc, nI (fr_x y_kind fa ph p), nI (σ (wk (w - 1))), nI (ex_e (tk_nd y_kind y_word) (fa p)), (nI c).toInt64, 1, 100, nI st, nI w, y_peak, nI sp, x_pendingCount, y_parent, y_fields, y_bound, x_tokenKind, x_tokenValue, x_globals, x_thingShown, x_thingClass, x_thingFields, x_thingToken, x_thingMaker, x_variables, x_homeOf, x_within, x_foundIn, x_baseFrame, x_frameToken, x_frameStage, x_frameLink, x_operands, y_heard, x_marked, x_pending), (nI cc, nI bc, y_fault, nI mc, nI w, y_peak, nI st, nI p, nI (bs p), y_code, 1, 1, (nI c).toInt64, y_todos, y_marks, -10000000000, nI sp, y_parent, y_fields, y_bound, y_kind, y_word, y_size, y_sort, y_number, y_stands, y_keeps, y_cells, y_globals, y_within, y_foundIn, y_self, y_args, y_temps, y_param, y_live, y_work, y_under, y_at, y_in, y_phase, y_base, y_goal, y_operands, y_marked, y_todo, y_heard), tm + 1, by omega, fun PX k => xt_apply (by omega) (fun Q q => goX Q (br_f (by decide) (br_f (by decide) (br_f (by decide) (br_f (by decide) (nm_e (br_f (by decide) (br_f (by decide) (br_f (by decide) (br_t (by decide) ?_)))))))))) k, fun PY m k => YL_mono (yt_next (fun Q q => goY Q ?_) k) (by omega), Or.inr (fin_H A F hp (fun q hq => rfl) vi n3' n1 n2 n4)⟩
  · unfold wX_applyOperator_222 wpX_effect
    dsimp only
    exact ⟨vfa, br_f (by decide) (br_f (by decide) (br_f (by decide) (br_f (by decide) (br_t rfl (cX _ q)))))⟩
  · iterate 26 refine br_f (by decide) ?_
    exact br_t rfl (cY _ (yw_finish p5 y4 q))
theorem go_same {p tm : Nat} (A : rn_A cc bc dc mc T ST SA lv τ σ lev ho x_tokenKind x_tokenValue y_kind y_word y_size y_parent y_fields y_bound x_globals y_globals x_thingShown x_thingClass x_thingFields x_thingToken x_thingMaker x_variables x_homeOf x_within x_foundIn y_sort y_number y_stands y_keeps y_cells y_within y_foundIn y_self y_args y_temps y_param) (F : rn_F T ST SA lv σ lev ho y_kind y_word fa ph bs ow gg wk un rt (p + 1) w y_sort y_number x_frameToken x_frameStage x_frameLink x_operands x_baseFrame y_operands y_self y_at y_in y_phase y_base y_goal y_work y_under y_live) (ek : y_kind (fa p) = 22) (hp : ph p ≠ 100) (hph : ph p = tk_nd y_kind y_word (fa p)) (n : rn_n B (M + 1) mc st sp (rn_mu (tk_nd y_kind y_word) fa un rt st (p + 1) w (ex_e (tk_nd y_kind y_word) (fa p)) 1)) (ht : tm + 2 ≤ 1000000) :
    rn_Go B M tm (nI cc, nI bc, nI dc, y_fault, nI mc, nI (fr_x y_kind fa ph (p + 1)), nI (σ (wk (w - 1))), nI (ex_e (tk_nd y_kind y_word) (fa p)), x_inHand, 2, 100, nI st, nI w, y_peak, nI sp, x_pendingCount, y_parent, y_fields, y_bound, x_tokenKind, x_tokenValue, x_globals, x_thingShown, x_thingClass, x_thingFields, x_thingToken, x_thingMaker, x_variables, x_homeOf, x_within, x_foundIn, x_baseFrame, x_frameToken, x_frameStage, x_frameLink, x_operands, y_heard, x_marked, x_pending) (nI cc, nI bc, y_fault, nI mc, nI w, y_peak, nI st, nI (p + 1), nI (bs (p + 1)), y_code, 1, 0, y_got, y_todos, y_marks, -10000000000, nI sp, y_parent, y_fields, y_bound, y_kind, y_word, y_size, y_sort, y_number, y_stands, y_keeps, y_cells, y_globals, y_within, y_foundIn, y_self, y_args, y_temps, y_param, y_live, y_work, y_under, y_at, y_in, y_phase, y_base, y_goal, y_operands, y_marked, y_todo, y_heard) := by
  have kg : fr_gen (y_kind (fa p)) := by unfold fr_gen; rw [ek]; decide
  have nt : ¬ fr_tail (y_kind (fa p)) (ph p) := fun z => by
    rcases z with ⟨z, _⟩ | ⟨z, _⟩ <;> (rw [ek] at z; exact absurd z (by decide))
  obtain ⟨f1, eo, f5, p3, p5, b3, y1, y2, y3, y4, a3, n3, p383⟩ := rn_top A F hp
  have hxr := rn_xr A F hp
  have TF := rn_TF A
  have pc : (nI p).toNatClampNeg = p := nI_clamp (by omega)
  have vp : vp_in (nI p) 500 := vp_in_nI p5 (by decide)
  have fac : (nI (fa p)).toNatClampNeg = fa p := nI_clamp (by omega)
  have vfa : vp_in (nI (fa p)) 416 := vp_in_nI (by omega) (by decide)
  have xr : fr_x y_kind fa ph (p + 1) = fr_x y_kind fa ph p + 1 := by
    show _ + ct_b _ = _
    rw [ct_bt nt]
  have xrc : (nI (fr_x y_kind fa ph p)).toNatClampNeg = fr_x y_kind fa ph p := nI_clamp (by omega)
  have vxr : vp_in (nI (fr_x y_kind fa ph p)) 384 := vp_in_nI hxr (by decide)
  have e3 : nI (fr_x y_kind fa ph p) * (3 : Int32) = nI (fr_x y_kind fa ph p * 3) := pk_mul _ 3
  have e31 : nI (fr_x y_kind fa ph p * 3) + 1 = nI (fr_x y_kind fa ph p * 3 + 1) := nI_1 _
  have c3 : (nI (fr_x y_kind fa ph p * 3)).toNatClampNeg = fr_x y_kind fa ph p * 3 := nI_clamp (by omega)
  have c31 : (nI (fr_x y_kind fa ph p * 3 + 1)).toNatClampNeg = fr_x y_kind fa ph p * 3 + 1 := nI_clamp (by omega)
  have v3 : vp_in (nI (fr_x y_kind fa ph p * 3)) 1152 := vp_in_nI (by omega) (by decide)
  have v31 : vp_in (nI (fr_x y_kind fa ph p * 3 + 1)) 1152 := vp_in_nI (by omega) (by decide)
  have bc0 : (nI (bs p)).toNatClampNeg = bs p := nI_clamp (by omega)
  have bc1 : (nI (bs p + 1)).toNatClampNeg = bs p + 1 := nI_clamp (by omega)
  have vb0 : vp_in (nI (bs p)) 500 := vp_in_nI (by omega) (by decide)
  have vb1 : vp_in (nI (bs p + 1)) 500 := vp_in_nI (by omega) (by decide)
  obtain ⟨xtk, xsg, xlk, xO⟩ := (F.2.2.1.2 p (by omega) nt).2 hp
  have xkd : x_tokenKind (fa p) = y_kind (fa p) := (A.1.2.2.1.2.1 _ f1).2.1
  have xvl : x_tokenValue (fa p) = y_word (fa p) := (A.1.2.2.1.2.1 _ f1).2.2.1
  obtain ⟨ce, pe⟩ := fr_genc kg hp
  rw [ce] at xO
  have hpt : fr_pt (y_kind (fa p)) (ph p) = tk_nd y_kind y_word (fa p) := by rw [pe]; exact hph
  have enp : ex_pt (tk_nd y_kind y_word) (fa p) (ph p) = ex_e (tk_nd y_kind y_word) (fa p) := by rw [hph]; exact (fr_en TF f1).2.2
  have goX : ∀ Q : SX → Prop, _ → wpX_applyOperator Q (nI cc, nI bc, nI dc, y_fault, nI mc, nI (fr_x y_kind fa ph (p + 1)), nI (σ (wk (w - 1))), nI (ex_e (tk_nd y_kind y_word) (fa p)), x_inHand, 2, 100, nI st, nI w, y_peak, nI sp, x_pendingCount, y_parent, y_fields, y_bound, x_tokenKind, x_tokenValue, x_globals, x_thingShown, x_thingClass, x_thingFields, x_thingToken, x_thingMaker, x_variables, x_homeOf, x_within, x_foundIn, x_baseFrame, x_frameToken, x_frameStage, x_frameLink, x_operands, y_heard, x_marked, x_pending) := fun Q h => by
    unfold wpX_applyOperator
    dsimp only
    rw [xr, nI_pred]
    refine nm_e ?_
    rw [xrc, xtk, e3, e31, c3, c31]
    refine ⟨vxr, nm_e ⟨vfa, ?_⟩⟩
    rw [fac, xkd, ek]
    exact nm_e ⟨v3, nm_e ⟨v31, nm_e h⟩⟩
  have goY : ∀ Q : SY → Prop, _ → wpY_next Q (nI cc, nI bc, y_fault, nI mc, nI w, y_peak, nI st, nI (p + 1), nI (bs (p + 1)), y_code, 1, 0, y_got, y_todos, y_marks, -10000000000, nI sp, y_parent, y_fields, y_bound, y_kind, y_word, y_size, y_sort, y_number, y_stands, y_keeps, y_cells, y_globals, y_within, y_foundIn, y_self, y_args, y_temps, y_param, y_live, y_work, y_under, y_at, y_in, y_phase, y_base, y_goal, y_operands, y_marked, y_todo, y_heard) := fun Q h => by
    refine yn_apply A F hp hpt ?_
    unfold wpY_apply
    dsimp only
    rw [pc, y1, y2, y4]
    refine ⟨vp, nm_e ⟨vfa, ?_⟩⟩
    rw [fac]
    refine nm_e ⟨vp, nm_e ⟨vp, yw_home A.2.2.1 (rn_cur A F).1 ⟨vb0, ?_⟩⟩⟩
    rw [bc0, nI_1, bc1]
    refine nm_e ⟨vb1, nm_e ⟨vfa, ?_⟩⟩
    rw [ek]
    exact nm_e h
  have s0 : fr_s (y_kind (fa p)) = 0 := by unfold fr_s; rw [ek, if_neg (by decide)]
  have nd1 : tk_nd y_kind y_word (fa p) = 2 := by unfold tk_nd; rw [ek]; rfl
  have v0 := (xO 0 (by omega)).2.1 (by omega) (by omega)
  rw [s0, Nat.add_zero, show bs p + (0 - 0) = bs p from rfl] at v0
  have v1 := (xO 1 (by omega)).2.1 (by omega) (by omega)
  rw [s0, show bs p + (1 - 0) = bs p + 1 from rfl] at v1
  obtain ⟨n1, n2, n3', n4⟩ := mu_fin (Nat.le_refl _) (by omega) n
  have eq := hp_veq A.2.2.2.1 A.2.2.1 v0 v1
  have i1 : hp_v ST (hp_s y_sort y_number) 1 1 := hp_vint 1
  have i0 : hp_v ST (hp_s y_sort y_number) 0 0 := hp_vint 0
  by_cases z : x_operands (fr_x y_kind fa ph p * 3) = x_operands (fr_x y_kind fa ph p * 3 + 1)
  · refine ⟨(nI cc, nI bc, nI dc, y_fault, nI mc, nI (fr_x y_kind fa ph p), nI (σ (wk (w - 1))), nI (ex_e (tk_nd y_kind y_word) (fa p)), 1, 1, 100, nI st, nI w, y_peak, nI sp, x_pendingCount, y_parent, y_fields, y_bound, x_tokenKind, x_tokenValue, x_globals, x_thingShown, x_thingClass, x_thingFields, x_thingToken, x_thingMaker, x_variables, x_homeOf, x_within, x_foundIn, x_baseFrame, x_frameToken, x_frameStage, x_frameLink, x_operands, y_heard, x_marked, x_pending), (nI cc, nI bc, y_fault, nI mc, nI w, y_peak, nI st, nI p, nI (bs p), y_code, 1, 1, 1, y_todos, y_marks, -10000000000, nI sp, y_parent, y_fields, y_bound, y_kind, y_word, y_size, y_sort, y_number, y_stands, y_keeps, y_cells, y_globals, y_within, y_foundIn, y_self, y_args, y_temps, y_param, y_live, y_work, y_under, y_at, y_in, y_phase, y_base, y_goal, y_operands, y_marked, y_todo, y_heard), tm + 1, by omega, fun PX k => xt_apply (by omega) (fun Q q => goX Q (br_f (by decide) (br_f (by decide) (br_f (by decide) (br_f (by decide) (nm_e (br_f (by decide) (br_t rfl (br_t z q))))))))) k, fun PY m k => YL_mono (yt_next (fun Q q => goY Q ?_) k) (by omega), Or.inr (fin_H A F hp (fun q hq => rfl) i1 n3' n1 n2 n4)⟩
    iterate 19 refine br_f (by decide) ?_
    refine br_t rfl (br_t (eq.mp z) ?_)
    unfold wY_apply_503
    exact yw_finish p5 y4 q
  · refine ⟨(nI cc, nI bc, nI dc, y_fault, nI mc, nI (fr_x y_kind fa ph p), nI (σ (wk (w - 1))), nI (ex_e (tk_nd y_kind y_word) (fa p)), 0, 1, 100, nI st, nI w, y_peak, nI sp, x_pendingCount, y_parent, y_fields, y_bound, x_tokenKind, x_tokenValue, x_globals, x_thingShown, x_thingClass, x_thingFields, x_thingToken, x_thingMaker, x_variables, x_homeOf, x_within, x_foundIn, x_baseFrame, x_frameToken, x_frameStage, x_frameLink, x_operands, y_heard, x_marked, x_pending), (nI cc, nI bc, y_fault, nI mc, nI w, y_peak, nI st, nI p, nI (bs p), y_code, 1, 1, 0, y_todos, y_marks, -10000000000, nI sp, y_parent, y_fields, y_bound, y_kind, y_word, y_size, y_sort, y_number, y_stands, y_keeps, y_cells, y_globals, y_within, y_foundIn, y_self, y_args, y_temps, y_param, y_live, y_work, y_under, y_at, y_in, y_phase, y_base, y_goal, y_operands, y_marked, y_todo, y_heard), tm + 1, by omega, fun PX k => xt_apply (by omega) (fun Q q => goX Q (br_f (by decide) (br_f (by decide) (br_f (by decide) (br_f (by decide) (nm_e (br_f (by decide) (br_t rfl (br_f z q))))))))) k, fun PY m k => YL_mono (yt_next (fun Q q => goY Q ?_) k) (by omega), Or.inr (fin_H A F hp (fun q hq => rfl) i0 n3' n1 n2 n4)⟩
    iterate 19 refine br_f (by decide) ?_
    refine br_t rfl (br_f (fun y => z (eq.mpr y)) ?_)
    unfold wY_apply_503
    exact yw_finish p5 y4 q
end
end
section
/-! an operator is applied: ADD, SUB, MUL, LESS, SET, PUT -/
section
variable {x_classCount x_bodyCount x_draftCount x_wrongPlace x_madeCount x_frameCount x_current x_next x_mode x_outcome x_stepCount x_atWork x_mostAtWork x_saidCount x_pendingCount : Int32} {x_inHand : Int64} {x_classParent x_classFields x_bound x_tokenKind x_tokenValue x_thingClass x_thingToken x_thingMaker x_homeOf x_within x_foundIn x_baseFrame x_frameToken x_frameStage x_frameLink x_marked x_pending : Nat → Int32} {x_globals x_thingShown x_thingFields x_variables x_operands x_saidValues : Nat → Int64}
variable {y_classes y_bodies y_fault y_made y_working y_peak y_steps y_depth y_waiting y_code y_running y_has y_todos y_marks y_spoken : Int32} {y_got y_shown : Int64} {y_parent y_fields y_bound y_kind y_word y_size y_sort y_number y_stands y_keeps y_within y_foundIn y_live y_work y_under y_at y_in y_phase y_base y_goal y_marked y_todo : Nat → Int32} {y_cells y_globals y_self y_args y_temps y_param y_operands y_heard : Nat → Int64}
variable {cc bc dc mc st sp d w np md B M : Nat} {T ST SA : Nat → Prop} {lv τ σ lev ho fa ph bs ow gg wk un rt : Nat → Nat}
/-- of INTS, or not -/
theorem hp_vcase (H : hp_R cc mc T y_kind lv ST SA τ σ lev ho x_thingShown x_thingClass x_thingFields x_thingToken x_thingMaker x_variables x_homeOf x_within x_foundIn y_sort y_number y_stands y_keeps y_cells y_within y_foundIn y_self y_args y_temps y_param) (hmc : mc < 2 ^ 31) {x y : Int64} (hv : hp_v ST (hp_s y_sort y_number) x y) :
    (∃ i : Int32, x = i.toInt64 ∧ y = lN i.toBitVec.toNat) ∨ ((∀ post : Int32 → Prop, post 0 → wpX_isInt post (x_classCount, x_bodyCount, x_draftCount, x_wrongPlace, x_madeCount, x_frameCount, x_current, x_next, x_inHand, x_mode, x_outcome, x_stepCount, x_atWork, x_mostAtWork, x_saidCount, x_pendingCount, x_classParent, x_classFields, x_bound, x_tokenKind, x_tokenValue, x_globals, x_thingShown, x_thingClass, x_thingFields, x_thingToken, x_thingMaker, x_variables, x_homeOf, x_within, x_foundIn, x_baseFrame, x_frameToken, x_frameStage, x_frameLink, x_operands, x_saidValues, x_marked, x_pending) x) ∧ (∀ post : Int32 → Prop, post 0 → wpY_isInt post y)) := by
  obtain ⟨a, h1, rfl, rfl⟩ := hv
  rcases a with i | _ | k
  · exact Or.inl ⟨i, rfl, rfl⟩
  · exact Or.inr ⟨fun post hp => br_t (show (10000000000 : Int64) ≤ 10000000000 by decide) hp, fun post hp => yv_isInt_o (n := 4294967296) (by omega) (by omega) hp⟩
  · obtain ⟨hk, sk⟩ := h1 k rfl
    obtain ⟨_, _, _, ⟨n, n1, n2⟩, _⟩ := H.1 k sk
    exact Or.inr ⟨fun post hp => br_t (hp_s1 n2 (by omega)) hp, fun post hp => yv_isInt_o (n := 8589934592 + k) (by omega) (by omega) hp⟩
theorem rk_le (i j : Int32) : j.toInt64 ≤ i.toInt64 ↔ j ≤ i := by
  rw [Int64.le_iff_toInt_le, Int32.le_iff_toInt_le, Int32.toInt_toInt64, Int32.toInt_toInt64]
theorem go_add {p tm : Nat} (A : rn_A cc bc dc mc T ST SA lv τ σ lev ho x_tokenKind x_tokenValue y_kind y_word y_size y_parent y_fields y_bound x_globals y_globals x_thingShown x_thingClass x_thingFields x_thingToken x_thingMaker x_variables x_homeOf x_within x_foundIn y_sort y_number y_stands y_keeps y_cells y_within y_foundIn y_self y_args y_temps y_param) (F : rn_F T ST SA lv σ lev ho y_kind y_word fa ph bs ow gg wk un rt (p + 1) w y_sort y_number x_frameToken x_frameStage x_frameLink x_operands x_baseFrame y_operands y_self y_at y_in y_phase y_base y_goal y_work y_under y_live) (ek : y_kind (fa p) = 18) (hp : ph p ≠ 100) (hph : ph p = tk_nd y_kind y_word (fa p)) (n : rn_n B (M + 1) mc st sp (rn_mu (tk_nd y_kind y_word) fa un rt st (p + 1) w (ex_e (tk_nd y_kind y_word) (fa p)) 1)) (ht : tm + 2 ≤ 1000000) :
    rn_Go B M tm (nI cc, nI bc, nI dc, y_fault, nI mc, nI (fr_x y_kind fa ph (p + 1)), nI (σ (wk (w - 1))), nI (ex_e (tk_nd y_kind y_word) (fa p)), x_inHand, 2, 100, nI st, nI w, y_peak, nI sp, x_pendingCount, y_parent, y_fields, y_bound, x_tokenKind, x_tokenValue, x_globals, x_thingShown, x_thingClass, x_thingFields, x_thingToken, x_thingMaker, x_variables, x_homeOf, x_within, x_foundIn, x_baseFrame, x_frameToken, x_frameStage, x_frameLink, x_operands, y_heard, x_marked, x_pending) (nI cc, nI bc, y_fault, nI mc, nI w, y_peak, nI st, nI (p + 1), nI (bs (p + 1)), y_code, 1, 0, y_got, y_todos, y_marks, -10000000000, nI sp, y_parent, y_fields, y_bound, y_kind, y_word, y_size, y_sort, y_number, y_stands, y_keeps, y_cells, y_globals, y_within, y_foundIn, y_self, y_args, y_temps, y_param, y_live, y_work, y_under, y_at, y_in, y_phase, y_base, y_goal, y_operands, y_marked, y_todo, y_heard) := by
  have kg : fr_gen (y_kind (fa p)) := by unfold fr_gen; rw [ek]; decide
  have nt : ¬ fr_tail (y_kind (fa p)) (ph p) := fun z => by
    rcases z with ⟨z, _⟩ | ⟨z, _⟩ <;> (rw [ek] at z; exact absurd z (by decide))
  obtain ⟨f1, eo, f5, p3, p5, b3, y1, y2, y3, y4, a3, n3, p383⟩ := rn_top A F hp
  have hxr := rn_xr A F hp
  have TF := rn_TF A
  have pc : (nI p).toNatClampNeg = p := nI_clamp (by omega)
  have vp : vp_in (nI p) 500 := vp_in_nI p5 (by decide)
  have fac : (nI (fa p)).toNatClampNeg = fa p := nI_clamp (by omega)
  have vfa : vp_in (nI (fa p)) 416 := vp_in_nI (by omega) (by decide)
  have xr : fr_x y_kind fa ph (p + 1) = fr_x y_kind fa ph p + 1 := by
    show _ + ct_b _ = _
    rw [ct_bt nt]
  have xrc : (nI (fr_x y_kind fa ph p)).toNatClampNeg = fr_x y_kind fa ph p := nI_clamp (by omega)
  have vxr : vp_in (nI (fr_x y_kind fa ph p)) 384 := vp_in_nI hxr (by decide)
  have e3 : nI (fr_x y_kind fa ph p) * (3 : Int32) = nI (fr_x y_kind fa ph p * 3) := pk_mul _ 3
  have e31 : nI (fr_x y_kind fa ph p * 3) + 1 = nI (fr_x y_kind fa ph p * 3 + 1) := nI_1 _
  have c3 : (nI (fr_x y_kind fa ph p * 3)).toNatClampNeg = fr_x y_kind fa ph p * 3 := nI_clamp (by omega)
  have c31 : (nI (fr_x y_kind fa ph p * 3 + 1)).toNatClampNeg = fr_x y_kind fa ph p * 3 + 1 := nI_clamp (by omega)
  have v3 : vp_in (nI (fr_x y_kind fa ph p * 3)) 1152 := vp_in_nI (by omega) (by decide)
  have v31 : vp_in (nI (fr_x y_kind fa ph p * 3 + 1)) 1152 := vp_in_nI (by omega) (by decide)
  have bc0 : (nI (bs p)).toNatClampNeg = bs p := nI_clamp (by omega)
  have bc1 : (nI (bs p + 1)).toNatClampNeg = bs p + 1 := nI_clamp (by omega)
  have vb0 : vp_in (nI (bs p)) 500 := vp_in_nI (by omega) (by decide)
  have vb1 : vp_in (nI (bs p + 1)) 500 := vp_in_nI (by omega) (by decide)
  obtain ⟨xtk, xsg, xlk, xO⟩ := (F.2.2.1.2 p (by omega) nt).2 hp
  have xkd : x_tokenKind (fa p) = y_kind (fa p) := (A.1.2.2.1.2.1 _ f1).2.1
  have xvl : x_tokenValue (fa p) = y_word (fa p) := (A.1.2.2.1.2.1 _ f1).2.2.1
  obtain ⟨ce, pe⟩ := fr_genc kg hp
  rw [ce] at xO
  have hpt : fr_pt (y_kind (fa p)) (ph p) = tk_nd y_kind y_word (fa p) := by rw [pe]; exact hph
  have enp : ex_pt (tk_nd y_kind y_word) (fa p) (ph p) = ex_e (tk_nd y_kind y_word) (fa p) := by rw [hph]; exact (fr_en TF f1).2.2
  have goX : ∀ Q : SX → Prop, _ → wpX_applyOperator Q (nI cc, nI bc, nI dc, y_fault, nI mc, nI (fr_x y_kind fa ph (p + 1)), nI (σ (wk (w - 1))), nI (ex_e (tk_nd y_kind y_word) (fa p)), x_inHand, 2, 100, nI st, nI w, y_peak, nI sp, x_pendingCount, y_parent, y_fields, y_bound, x_tokenKind, x_tokenValue, x_globals, x_thingShown, x_thingClass, x_thingFields, x_thingToken, x_thingMaker, x_variables, x_homeOf, x_within, x_foundIn, x_baseFrame, x_frameToken, x_frameStage, x_frameLink, x_operands, y_heard, x_marked, x_pending) := fun Q h => by
    unfold wpX_applyOperator
    dsimp only
    rw [xr, nI_pred]
    refine nm_e ?_
    rw [xrc, xtk, e3, e31, c3, c31]
    refine ⟨vxr, nm_e ⟨vfa, ?_⟩⟩
    rw [fac, xkd, ek]
    exact nm_e ⟨v3, nm_e ⟨v31, nm_e h⟩⟩
  have goY : ∀ Q : SY → Prop, _ → wpY_next Q (nI cc, nI bc, y_fault, nI mc, nI w, y_peak, nI st, nI (p + 1), nI (bs (p + 1)), y_code, 1, 0, y_got, y_todos, y_marks, -10000000000, nI sp, y_parent, y_fields, y_bound, y_kind, y_word, y_size, y_sort, y_number, y_stands, y_keeps, y_cells, y_globals, y_within, y_foundIn, y_self, y_args, y_temps, y_param, y_live, y_work, y_under, y_at, y_in, y_phase, y_base, y_goal, y_operands, y_marked, y_todo, y_heard) := fun Q h => by
    refine yn_apply A F hp hpt ?_
    unfold wpY_apply
    dsimp only
    rw [pc, y1, y2, y4]
    refine ⟨vp, nm_e ⟨vfa, ?_⟩⟩
    rw [fac]
    refine nm_e ⟨vp, nm_e ⟨vp, yw_home A.2.2.1 (rn_cur A F).1 ⟨vb0, ?_⟩⟩⟩
    rw [bc0, nI_1, bc1]
    refine nm_e ⟨vb1, nm_e ⟨vfa, ?_⟩⟩
    rw [ek]
    exact nm_e h
  have s0 : fr_s (y_kind (fa p)) = 0 := by unfold fr_s; rw [ek, if_neg (by decide)]
  have nd1 : tk_nd y_kind y_word (fa p) = 2 := by unfold tk_nd; rw [ek]; rfl
  have v0 := (xO 0 (by omega)).2.1 (by omega) (by omega)
  rw [s0, Nat.add_zero, show bs p + (0 - 0) = bs p from rfl] at v0
  have v1 := (xO 1 (by omega)).2.1 (by omega) (by omega)
  rw [s0, show bs p + (1 - 0) = bs p + 1 from rfl] at v1
  have mcl := A.2.2.2.1.1
  have goX2 : ∀ Q : SX → Prop, wpX_reckon (fun r u => match u with | (x_classCount, x_bodyCount, x_draftCount, x_wrongPlace, x_madeCount, x_frameCount, x_current, x_next, x_inHand, x_mode, x_outcome, x_stepCount, x_atWork, x_mostAtWork, x_saidCount, x_pendingCount, x_classParent, x_classFields, x_bound, x_tokenKind, x_tokenValue, x_globals, x_thingShown, x_thingClass, x_thingFields, x_thingToken, x_thingMaker, x_variables, x_homeOf, x_within, x_foundIn, x_baseFrame, x_frameToken, x_frameStage, x_frameLink, x_operands, x_saidValues, x_marked, x_pending) => Q (x_classCount, x_bodyCount, x_draftCount, x_wrongPlace, x_madeCount, x_frameCount, x_current, x_next, r, x_mode, x_outcome, x_stepCount, x_atWork, x_mostAtWork, x_saidCount, x_pendingCount, x_classParent, x_classFields, x_bound, x_tokenKind, x_tokenValue, x_globals, x_thingShown, x_thingClass, x_thingFields, x_thingToken, x_thingMaker, x_variables, x_homeOf, x_within, x_foundIn, x_baseFrame, x_frameToken, x_frameStage, x_frameLink, x_operands, x_saidValues, x_marked, x_pending)) (nI cc, nI bc, nI dc, y_fault, nI mc, nI (fr_x y_kind fa ph p), nI (σ (wk (w - 1))), nI (ex_e (tk_nd y_kind y_word) (fa p)), x_inHand, 1, 100, nI st, nI w, y_peak, nI sp, x_pendingCount, y_parent, y_fields, y_bound, x_tokenKind, x_tokenValue, x_globals, x_thingShown, x_thingClass, x_thingFields, x_thingToken, x_thingMaker, x_variables, x_homeOf, x_within, x_foundIn, x_baseFrame, x_frameToken, x_frameStage, x_frameLink, x_operands, y_heard, x_marked, x_pending) 18 (x_operands (fr_x y_kind fa ph p * 3)) (x_operands (fr_x y_kind fa ph p * 3 + 1)) → wpX_applyOperator Q (nI cc, nI bc, nI dc, y_fault, nI mc, nI (fr_x y_kind fa ph (p + 1)), nI (σ (wk (w - 1))), nI (ex_e (tk_nd y_kind y_word) (fa p)), x_inHand, 2, 100, nI st, nI w, y_peak, nI sp, x_pendingCount, y_parent, y_fields, y_bound, x_tokenKind, x_tokenValue, x_globals, x_thingShown, x_thingClass, x_thingFields, x_thingToken, x_thingMaker, x_variables, x_homeOf, x_within, x_foundIn, x_baseFrame, x_frameToken, x_frameStage, x_frameLink, x_operands, y_heard, x_marked, x_pending) := fun Q h => goX Q (br_f (by decide) (br_f (by decide) (br_f (by decide) (br_f (by decide) (nm_e (br_f (by decide) (br_f (by decide) (br_f (by decide) (br_f (by decide) h)))))))))
  have goY2 : ∀ Q : SY → Prop, wpY_reckon (fun u => match u with | (y_classes, y_bodies, y_fault, y_made, y_working, y_peak, y_steps, y_depth, y_waiting, y_code, y_running, y_has, y_got, y_todos, y_marks, y_shown, y_spoken, y_parent, y_fields, y_bound, y_kind, y_word, y_size, y_sort, y_number, y_stands, y_keeps, y_cells, y_globals, y_within, y_foundIn, y_self, y_args, y_temps, y_param, y_live, y_work, y_under, y_at, y_in, y_phase, y_base, y_goal, y_operands, y_marked, y_todo, y_heard) => Q (y_classes, y_bodies, y_fault, y_made, y_working, y_peak, y_steps, y_depth, y_waiting, y_code, y_running, y_has, y_got, y_todos, y_marks, y_shown, y_spoken, y_parent, y_fields, y_bound, y_kind, y_word, y_size, y_sort, y_number, y_stands, y_keeps, y_cells, y_globals, y_within, y_foundIn, y_self, y_args, y_temps, y_param, y_live, y_work, y_under, y_at, y_in, y_phase, y_base, y_goal, y_operands, y_marked, y_todo, y_heard)) (nI cc, nI bc, y_fault, nI mc, nI w, y_peak, nI st, nI (p + 1), nI (bs (p + 1)), y_code, 1, 0, y_got, y_todos, y_marks, -10000000000, nI sp, y_parent, y_fields, y_bound, y_kind, y_word, y_size, y_sort, y_number, y_stands, y_keeps, y_cells, y_globals, y_within, y_foundIn, y_self, y_args, y_temps, y_param, y_live, y_work, y_under, y_at, y_in, y_phase, y_base, y_goal, y_operands, y_marked, y_todo, y_heard) 18 (y_operands (bs p)) (y_operands (bs p + 1)) → wpY_next Q (nI cc, nI bc, y_fault, nI mc, nI w, y_peak, nI st, nI (p + 1), nI (bs (p + 1)), y_code, 1, 0, y_got, y_todos, y_marks, -10000000000, nI sp, y_parent, y_fields, y_bound, y_kind, y_word, y_size, y_sort, y_number, y_stands, y_keeps, y_cells, y_globals, y_within, y_foundIn, y_self, y_args, y_temps, y_param, y_live, y_work, y_under, y_at, y_in, y_phase, y_base, y_goal, y_operands, y_marked, y_todo, y_heard) := fun Q h => goY Q (by
    iterate 15 refine br_f (by decide) ?_
    refine br_t rfl ?_
    unfold wY_apply_509
    rw [fac, ek]
    exact ⟨vfa, h⟩)
  have kind : ((∀ Q : SX → Prop, Q (nI cc, nI bc, nI dc, y_fault, nI mc, nI (fr_x y_kind fa ph p), nI (σ (wk (w - 1))), nI (ex_e (tk_nd y_kind y_word) (fa p)), 10000000000, 1, 2, nI st, nI w, y_peak, nI sp, x_pendingCount, y_parent, y_fields, y_bound, x_tokenKind, x_tokenValue, x_globals, x_thingShown, x_thingClass, x_thingFields, x_thingToken, x_thingMaker, x_variables, x_homeOf, x_within, x_foundIn, x_baseFrame, x_frameToken, x_frameStage, x_frameLink, x_operands, y_heard, x_marked, x_pending) → wpX_applyOperator Q (nI cc, nI bc, nI dc, y_fault, nI mc, nI (fr_x y_kind fa ph (p + 1)), nI (σ (wk (w - 1))), nI (ex_e (tk_nd y_kind y_word) (fa p)), x_inHand, 2, 100, nI st, nI w, y_peak, nI sp, x_pendingCount, y_parent, y_fields, y_bound, x_tokenKind, x_tokenValue, x_globals, x_thingShown, x_thingClass, x_thingFields, x_thingToken, x_thingMaker, x_variables, x_homeOf, x_within, x_foundIn, x_baseFrame, x_frameToken, x_frameStage, x_frameLink, x_operands, y_heard, x_marked, x_pending)) ∧ (∀ Q : SY → Prop, Q (nI cc, nI bc, y_fault, nI mc, nI w, y_peak, nI st, nI (p + 1), nI (bs (p + 1)), 2, 0, 0, y_got, y_todos, y_marks, -10000000000, nI sp, y_parent, y_fields, y_bound, y_kind, y_word, y_size, y_sort, y_number, y_stands, y_keeps, y_cells, y_globals, y_within, y_foundIn, y_self, y_args, y_temps, y_param, y_live, y_work, y_under, y_at, y_in, y_phase, y_base, y_goal, y_operands, y_marked, y_todo, y_heard) → wpY_next Q (nI cc, nI bc, y_fault, nI mc, nI w, y_peak, nI st, nI (p + 1), nI (bs (p + 1)), y_code, 1, 0, y_got, y_todos, y_marks, -10000000000, nI sp, y_parent, y_fields, y_bound, y_kind, y_word, y_size, y_sort, y_number, y_stands, y_keeps, y_cells, y_globals, y_within, y_foundIn, y_self, y_args, y_temps, y_param, y_live, y_work, y_under, y_at, y_in, y_phase, y_base, y_goal, y_operands, y_marked, y_todo, y_heard))) → rn_Go B M tm (nI cc, nI bc, nI dc, y_fault, nI mc, nI (fr_x y_kind fa ph (p + 1)), nI (σ (wk (w - 1))), nI (ex_e (tk_nd y_kind y_word) (fa p)), x_inHand, 2, 100, nI st, nI w, y_peak, nI sp, x_pendingCount, y_parent, y_fields, y_bound, x_tokenKind, x_tokenValue, x_globals, x_thingShown, x_thingClass, x_thingFields, x_thingToken, x_thingMaker, x_variables, x_homeOf, x_within, x_foundIn, x_baseFrame, x_frameToken, x_frameStage, x_frameLink, x_operands, y_heard, x_marked, x_pending) (nI cc, nI bc, y_fault, nI mc, nI w, y_peak, nI st, nI (p + 1), nI (bs (p + 1)), y_code, 1, 0, y_got, y_todos, y_marks, -10000000000, nI sp, y_parent, y_fields, y_bound, y_kind, y_word, y_size, y_sort, y_number, y_stands, y_keeps, y_cells, y_globals, y_within, y_foundIn, y_self, y_args, y_temps, y_param, y_live, y_work, y_under, y_at, y_in, y_phase, y_base, y_goal, y_operands, y_marked, y_todo, y_heard) := fun h =>
    ⟨_, _, tm + 1, by omega, fun PX k => xt_apply (by omega) h.1 k, fun PY m k => YL_mono (yt_next h.2 k) (by omega), Or.inl (rn_stop2 A (rn_wl A F) (by decide) (by decide) (by have := n.2.2.2; omega))⟩
  rcases hp_vcase (x_classCount := nI cc) (x_bodyCount := nI bc) (x_draftCount := nI dc) (x_wrongPlace := y_fault) (x_madeCount := nI mc) (x_frameCount := nI (fr_x y_kind fa ph p)) (x_current := nI (σ (wk (w - 1)))) (x_next := nI (ex_e (tk_nd y_kind y_word) (fa p))) (x_inHand := x_inHand) (x_mode := 1) (x_outcome := 100) (x_stepCount := nI st) (x_atWork := nI w) (x_mostAtWork := y_peak) (x_saidCount := nI sp) (x_pendingCount := x_pendingCount) (x_classParent := y_parent) (x_classFields := y_fields) (x_bound := y_bound) (x_tokenKind := x_tokenKind) (x_tokenValue := x_tokenValue) (x_globals := x_globals) (x_thingShown := x_thingShown) (x_thingClass := x_thingClass) (x_thingFields := x_thingFields) (x_thingToken := x_thingToken) (x_thingMaker := x_thingMaker) (x_variables := x_variables) (x_homeOf := x_homeOf) (x_within := x_within) (x_foundIn := x_foundIn) (x_baseFrame := x_baseFrame) (x_frameToken := x_frameToken) (x_frameStage := x_frameStage) (x_frameLink := x_frameLink) (x_operands := x_operands) (x_saidValues := y_heard) (x_marked := x_marked) (x_pending := x_pending) A.2.2.1 (by omega) v0 with ⟨i, xi, yi⟩ | ⟨bX, bY⟩
  · rcases hp_vcase (x_classCount := nI cc) (x_bodyCount := nI bc) (x_draftCount := nI dc) (x_wrongPlace := y_fault) (x_madeCount := nI mc) (x_frameCount := nI (fr_x y_kind fa ph p)) (x_current := nI (σ (wk (w - 1)))) (x_next := nI (ex_e (tk_nd y_kind y_word) (fa p))) (x_inHand := x_inHand) (x_mode := 1) (x_outcome := 100) (x_stepCount := nI st) (x_atWork := nI w) (x_mostAtWork := y_peak) (x_saidCount := nI sp) (x_pendingCount := x_pendingCount) (x_classParent := y_parent) (x_classFields := y_fields) (x_bound := y_bound) (x_tokenKind := x_tokenKind) (x_tokenValue := x_tokenValue) (x_globals := x_globals) (x_thingShown := x_thingShown) (x_thingClass := x_thingClass) (x_thingFields := x_thingFields) (x_thingToken := x_thingToken) (x_thingMaker := x_thingMaker) (x_variables := x_variables) (x_homeOf := x_homeOf) (x_within := x_within) (x_foundIn := x_foundIn) (x_baseFrame := x_baseFrame) (x_frameToken := x_frameToken) (x_frameStage := x_frameStage) (x_frameLink := x_frameLink) (x_operands := x_operands) (x_saidValues := y_heard) (x_marked := x_marked) (x_pending := x_pending) A.2.2.1 (by omega) v1 with ⟨j, xj, yj⟩ | ⟨bX, bY⟩
    · rw [xi, xj] at goX2
      rw [yi, yj] at goY2
      have iX : ∀ (l : Int32) (post : Int32 → Prop), post 1 → wpX_isInt post (nI cc, nI bc, nI dc, y_fault, nI mc, nI (fr_x y_kind fa ph p), nI (σ (wk (w - 1))), nI (ex_e (tk_nd y_kind y_word) (fa p)), x_inHand, 1, 100, nI st, nI w, y_peak, nI sp, x_pendingCount, y_parent, y_fields, y_bound, x_tokenKind, x_tokenValue, x_globals, x_thingShown, x_thingClass, x_thingFields, x_thingToken, x_thingMaker, x_variables, x_homeOf, x_within, x_foundIn, x_baseFrame, x_frameToken, x_frameStage, x_frameLink, x_operands, y_heard, x_marked, x_pending) l.toInt64 := fun l post hp => br_f (hp_int1 l) hp
      obtain ⟨n1, n2, n3', n4⟩ := mu_fin (Nat.le_refl _) (by omega) n
      refine ⟨(nI cc, nI bc, nI dc, y_fault, nI mc, nI (fr_x y_kind fa ph p), nI (σ (wk (w - 1))), nI (ex_e (tk_nd y_kind y_word) (fa p)), (i + j).toInt64, 1, 100, nI st, nI w, y_peak, nI sp, x_pendingCount, y_parent, y_fields, y_bound, x_tokenKind, x_tokenValue, x_globals, x_thingShown, x_thingClass, x_thingFields, x_thingToken, x_thingMaker, x_variables, x_homeOf, x_within, x_foundIn, x_baseFrame, x_frameToken, x_frameStage, x_frameLink, x_operands, y_heard, x_marked, x_pending), (nI cc, nI bc, y_fault, nI mc, nI w, y_peak, nI st, nI p, nI (bs p), y_code, 1, 1, lN (i + j).toBitVec.toNat, y_todos, y_marks, -10000000000, nI sp, y_parent, y_fields, y_bound, y_kind, y_word, y_size, y_sort, y_number, y_stands, y_keeps, y_cells, y_globals, y_within, y_foundIn, y_self, y_args, y_temps, y_param, y_live, y_work, y_under, y_at, y_in, y_phase, y_base, y_goal, y_operands, y_marked, y_todo, y_heard), tm + 1, by omega, fun PX k => xt_apply (by omega) (fun Q q => goX2 Q ?_) k, fun PY m k => YL_mono (yt_next (fun Q q => goY2 Q ?_) k) (by omega), Or.inr (fin_H A F hp (fun q hq => rfl) (hp_vint (i + j)) n3' n1 n2 n4)⟩
      · unfold wpX_reckon
        refine iX i _ (br_f (by decide) (iX j _ (br_f (by decide) (br_f (by decide) (br_f (by decide) (br_t rfl ?_))))))
        rw [Int64.toInt32_add, Int32.toInt32_toInt64, Int32.toInt32_toInt64]
        exact q
      · unfold wpY_reckon
        refine yv_isInt_i i (br_f (by decide) (yv_isInt_i j (br_f (by decide) (br_t rfl ?_))))
        unfold wY_reckon_84
        rw [vv_i, vv_i, vv_w]
        exact yw_finish p5 y4 q
    · rw [xi] at goX2
      rw [yi] at goY2
      refine kind ⟨fun Q q => goX2 Q ?_, fun Q q => goY2 Q ?_⟩
      · unfold wpX_reckon
        exact br_f (hp_int1 i) (br_f (by decide) (bX _ (br_t rfl q)))
      · unfold wpY_reckon
        exact yv_isInt_i i (br_f (by decide) (bY _ (br_t rfl q)))
  · refine kind ⟨fun Q q => goX2 Q ?_, fun Q q => goY2 Q ?_⟩
    · unfold wpX_reckon
      exact bX _ (br_t rfl q)
    · unfold wpY_reckon
      exact bY _ (br_t rfl q)
theorem go_sub {p tm : Nat} (A : rn_A cc bc dc mc T ST SA lv τ σ lev ho x_tokenKind x_tokenValue y_kind y_word y_size y_parent y_fields y_bound x_globals y_globals x_thingShown x_thingClass x_thingFields x_thingToken x_thingMaker x_variables x_homeOf x_within x_foundIn y_sort y_number y_stands y_keeps y_cells y_within y_foundIn y_self y_args y_temps y_param) (F : rn_F T ST SA lv σ lev ho y_kind y_word fa ph bs ow gg wk un rt (p + 1) w y_sort y_number x_frameToken x_frameStage x_frameLink x_operands x_baseFrame y_operands y_self y_at y_in y_phase y_base y_goal y_work y_under y_live) (ek : y_kind (fa p) = 19) (hp : ph p ≠ 100) (hph : ph p = tk_nd y_kind y_word (fa p)) (n : rn_n B (M + 1) mc st sp (rn_mu (tk_nd y_kind y_word) fa un rt st (p + 1) w (ex_e (tk_nd y_kind y_word) (fa p)) 1)) (ht : tm + 2 ≤ 1000000) :
    rn_Go B M tm (nI cc, nI bc, nI dc, y_fault, nI mc, nI (fr_x y_kind fa ph (p + 1)), nI (σ (wk (w - 1))), nI (ex_e (tk_nd y_kind y_word) (fa p)), x_inHand, 2, 100, nI st, nI w, y_peak, nI sp, x_pendingCount, y_parent, y_fields, y_bound, x_tokenKind, x_tokenValue, x_globals, x_thingShown, x_thingClass, x_thingFields, x_thingToken, x_thingMaker, x_variables, x_homeOf, x_within, x_foundIn, x_baseFrame, x_frameToken, x_frameStage, x_frameLink, x_operands, y_heard, x_marked, x_pending) (nI cc, nI bc, y_fault, nI mc, nI w, y_peak, nI st, nI (p + 1), nI (bs (p + 1)), y_code, 1, 0, y_got, y_todos, y_marks, -10000000000, nI sp, y_parent, y_fields, y_bound, y_kind, y_word, y_size, y_sort, y_number, y_stands, y_keeps, y_cells, y_globals, y_within, y_foundIn, y_self, y_args, y_temps, y_param, y_live, y_work, y_under, y_at, y_in, y_phase, y_base, y_goal, y_operands, y_marked, y_todo, y_heard) := by
  have kg : fr_gen (y_kind (fa p)) := by unfold fr_gen; rw [ek]; decide
  have nt : ¬ fr_tail (y_kind (fa p)) (ph p) := fun z => by
    rcases z with ⟨z, _⟩ | ⟨z, _⟩ <;> (rw [ek] at z; exact absurd z (by decide))
  obtain ⟨f1, eo, f5, p3, p5, b3, y1, y2, y3, y4, a3, n3, p383⟩ := rn_top A F hp
  have hxr := rn_xr A F hp
  have TF := rn_TF A
  have pc : (nI p).toNatClampNeg = p := nI_clamp (by omega)
  have vp : vp_in (nI p) 500 := vp_in_nI p5 (by decide)
  have fac : (nI (fa p)).toNatClampNeg = fa p := nI_clamp (by omega)
  have vfa : vp_in (nI (fa p)) 416 := vp_in_nI (by omega) (by decide)
  have xr : fr_x y_kind fa ph (p + 1) = fr_x y_kind fa ph p + 1 := by
    show _ + ct_b _ = _
    rw [ct_bt nt]
  have xrc : (nI (fr_x y_kind fa ph p)).toNatClampNeg = fr_x y_kind fa ph p := nI_clamp (by omega)
  have vxr : vp_in (nI (fr_x y_kind fa ph p)) 384 := vp_in_nI hxr (by decide)
  have e3 : nI (fr_x y_kind fa ph p) * (3 : Int32) = nI (fr_x y_kind fa ph p * 3) := pk_mul _ 3
  have e31 : nI (fr_x y_kind fa ph p * 3) + 1 = nI (fr_x y_kind fa ph p * 3 + 1) := nI_1 _
  have c3 : (nI (fr_x y_kind fa ph p * 3)).toNatClampNeg = fr_x y_kind fa ph p * 3 := nI_clamp (by omega)
  have c31 : (nI (fr_x y_kind fa ph p * 3 + 1)).toNatClampNeg = fr_x y_kind fa ph p * 3 + 1 := nI_clamp (by omega)
  have v3 : vp_in (nI (fr_x y_kind fa ph p * 3)) 1152 := vp_in_nI (by omega) (by decide)
  have v31 : vp_in (nI (fr_x y_kind fa ph p * 3 + 1)) 1152 := vp_in_nI (by omega) (by decide)
  have bc0 : (nI (bs p)).toNatClampNeg = bs p := nI_clamp (by omega)
  have bc1 : (nI (bs p + 1)).toNatClampNeg = bs p + 1 := nI_clamp (by omega)
  have vb0 : vp_in (nI (bs p)) 500 := vp_in_nI (by omega) (by decide)
  have vb1 : vp_in (nI (bs p + 1)) 500 := vp_in_nI (by omega) (by decide)
  obtain ⟨xtk, xsg, xlk, xO⟩ := (F.2.2.1.2 p (by omega) nt).2 hp
  have xkd : x_tokenKind (fa p) = y_kind (fa p) := (A.1.2.2.1.2.1 _ f1).2.1
  have xvl : x_tokenValue (fa p) = y_word (fa p) := (A.1.2.2.1.2.1 _ f1).2.2.1
  obtain ⟨ce, pe⟩ := fr_genc kg hp
  rw [ce] at xO
  have hpt : fr_pt (y_kind (fa p)) (ph p) = tk_nd y_kind y_word (fa p) := by rw [pe]; exact hph
  have enp : ex_pt (tk_nd y_kind y_word) (fa p) (ph p) = ex_e (tk_nd y_kind y_word) (fa p) := by rw [hph]; exact (fr_en TF f1).2.2
  have goX : ∀ Q : SX → Prop, _ → wpX_applyOperator Q (nI cc, nI bc, nI dc, y_fault, nI mc, nI (fr_x y_kind fa ph (p + 1)), nI (σ (wk (w - 1))), nI (ex_e (tk_nd y_kind y_word) (fa p)), x_inHand, 2, 100, nI st, nI w, y_peak, nI sp, x_pendingCount, y_parent, y_fields, y_bound, x_tokenKind, x_tokenValue, x_globals, x_thingShown, x_thingClass, x_thingFields, x_thingToken, x_thingMaker, x_variables, x_homeOf, x_within, x_foundIn, x_baseFrame, x_frameToken, x_frameStage, x_frameLink, x_operands, y_heard, x_marked, x_pending) := fun Q h => by
    unfold wpX_applyOperator
    dsimp only
    rw [xr, nI_pred]
    refine nm_e ?_
    rw [xrc, xtk, e3, e31, c3, c31]
    refine ⟨vxr, nm_e ⟨vfa, ?_⟩⟩
    rw [fac, xkd, ek]
    exact nm_e ⟨v3, nm_e ⟨v31, nm_e h⟩⟩
  have goY : ∀ Q : SY → Prop, _ → wpY_next Q (nI cc, nI bc, y_fault, nI mc, nI w, y_peak, nI st, nI (p + 1), nI (bs (p + 1)), y_code, 1, 0, y_got, y_todos, y_marks, -10000000000, nI sp, y_parent, y_fields, y_bound, y_kind, y_word, y_size, y_sort, y_number, y_stands, y_keeps, y_cells, y_globals, y_within, y_foundIn, y_self, y_args, y_temps, y_param, y_live, y_work, y_under, y_at, y_in, y_phase, y_base, y_goal, y_operands, y_marked, y_todo, y_heard) := fun Q h => by
    refine yn_apply A F hp hpt ?_
    unfold wpY_apply
    dsimp only
    rw [pc, y1, y2, y4]
    refine ⟨vp, nm_e ⟨vfa, ?_⟩⟩
    rw [fac]
    refine nm_e ⟨vp, nm_e ⟨vp, yw_home A.2.2.1 (rn_cur A F).1 ⟨vb0, ?_⟩⟩⟩
    rw [bc0, nI_1, bc1]
    refine nm_e ⟨vb1, nm_e ⟨vfa, ?_⟩⟩
    rw [ek]
    exact nm_e h
  have s0 : fr_s (y_kind (fa p)) = 0 := by unfold fr_s; rw [ek, if_neg (by decide)]
  have nd1 : tk_nd y_kind y_word (fa p) = 2 := by unfold tk_nd; rw [ek]; rfl
  have v0 := (xO 0 (by omega)).2.1 (by omega) (by omega)
  rw [s0, Nat.add_zero, show bs p + (0 - 0) = bs p from rfl] at v0
  have v1 := (xO 1 (by omega)).2.1 (by omega) (by omega)
  rw [s0, show bs p + (1 - 0) = bs p + 1 from rfl] at v1
  have mcl := A.2.2.2.1.1
  have goX2 : ∀ Q : SX → Prop, wpX_reckon (fun r u => match u with | (x_classCount, x_bodyCount, x_draftCount, x_wrongPlace, x_madeCount, x_frameCount, x_current, x_next, x_inHand, x_mode, x_outcome, x_stepCount, x_atWork, x_mostAtWork, x_saidCount, x_pendingCount, x_classParent, x_classFields, x_bound, x_tokenKind, x_tokenValue, x_globals, x_thingShown, x_thingClass, x_thingFields, x_thingToken, x_thingMaker, x_variables, x_homeOf, x_within, x_foundIn, x_baseFrame, x_frameToken, x_frameStage, x_frameLink, x_operands, x_saidValues, x_marked, x_pending) => Q (x_classCount, x_bodyCount, x_draftCount, x_wrongPlace, x_madeCount, x_frameCount, x_current, x_next, r, x_mode, x_outcome, x_stepCount, x_atWork, x_mostAtWork, x_saidCount, x_pendingCount, x_classParent, x_classFields, x_bound, x_tokenKind, x_tokenValue, x_globals, x_thingShown, x_thingClass, x_thingFields, x_thingToken, x_thingMaker, x_variables, x_homeOf, x_within, x_foundIn, x_baseFrame, x_frameToken, x_frameStage, x_frameLink, x_operands, x_saidValues, x_marked, x_pending)) (nI cc, nI bc, nI dc, y_fault, nI mc, nI (fr_x y_kind fa ph p), nI (σ (wk (w - 1))), nI (ex_e (tk_nd y_kind y_word) (fa p)), x_inHand, 1, 100, nI st, nI w, y_peak, nI sp, x_pendingCount, y_parent, y_fields, y_bound, x_tokenKind, x_tokenValue, x_globals, x_thingShown, x_thingClass, x_thingFields, x_thingToken, x_thingMaker, x_variables, x_homeOf, x_within, x_foundIn, x_baseFrame, x_frameToken, x_frameStage, x_frameLink, x_operands, y_heard, x_marked, x_pending) 19 (x_operands (fr_x y_kind fa ph p * 3)) (x_operands (fr_x y_kind fa ph p * 3 + 1)) → wpX_applyOperator Q (nI cc, nI bc, nI dc, y_fault, nI mc, nI (fr_x y_kind fa ph (p + 1)), nI (σ (wk (w - 1))), nI (ex_e (tk_nd y_kind y_word) (fa p)), x_inHand, 2, 100, nI st, nI w, y_peak, nI sp, x_pendingCount, y_parent, y_fields, y_bound, x_tokenKind, x_tokenValue, x_globals, x_thingShown, x_thingClass, x_thingFields, x_thingToken, x_thingMaker, x_variables, x_homeOf, x_within, x_foundIn, x_baseFrame, x_frameToken, x_frameStage, x_frameLink, x_operands, y_heard, x_marked, x_pending) := fun Q h => goX Q (br_f (by decide) (br_f (by decide) (br_f (by decide) (br_f (by decide) (nm_e (br_f (by decide) (br_f (by decide) (br_f (by decide) (br_f (by decide) h)))))))))
  have goY2 : ∀ Q : SY → Prop, wpY_reckon (fun u => match u with | (y_classes, y_bodies, y_fault, y_made, y_working, y_peak, y_steps, y_depth, y_waiting, y_code, y_running, y_has, y_got, y_todos, y_marks, y_shown, y_spoken, y_parent, y_fields, y_bound, y_kind, y_word, y_size, y_sort, y_number, y_stands, y_keeps, y_cells, y_globals, y_within, y_foundIn, y_self, y_args, y_temps, y_param, y_live, y_work, y_under, y_at, y_in, y_phase, y_base, y_goal, y_operands, y_marked, y_todo, y_heard) => Q (y_classes, y_bodies, y_fault, y_made, y_working, y_peak, y_steps, y_depth, y_waiting, y_code, y_running, y_has, y_got, y_todos, y_marks, y_shown, y_spoken, y_parent, y_fields, y_bound, y_kind, y_word, y_size, y_sort, y_number, y_stands, y_keeps, y_cells, y_globals, y_within, y_foundIn, y_self, y_args, y_temps, y_param, y_live, y_work, y_under, y_at, y_in, y_phase, y_base, y_goal, y_operands, y_marked, y_todo, y_heard)) (nI cc, nI bc, y_fault, nI mc, nI w, y_peak, nI st, nI (p + 1), nI (bs (p + 1)), y_code, 1, 0, y_got, y_todos, y_marks, -10000000000, nI sp, y_parent, y_fields, y_bound, y_kind, y_word, y_size, y_sort, y_number, y_stands, y_keeps, y_cells, y_globals, y_within, y_foundIn, y_self, y_args, y_temps, y_param, y_live, y_work, y_under, y_at, y_in, y_phase, y_base, y_goal, y_operands, y_marked, y_todo, y_heard) 19 (y_operands (bs p)) (y_operands (bs p + 1)) → wpY_next Q (nI cc, nI bc, y_fault, nI mc, nI w, y_peak, nI st, nI (p + 1), nI (bs (p + 1)), y_code, 1, 0, y_got, y_todos, y_marks, -10000000000, nI sp, y_parent, y_fields, y_bound, y_kind, y_word, y_size, y_sort, y_number, y_stands, y_keeps, y_cells, y_globals, y_within, y_foundIn, y_self, y_args, y_temps, y_param, y_live, y_work, y_under, y_at, y_in, y_phase, y_base, y_goal, y_operands, y_marked, y_todo, y_heard) := fun Q h => goY Q (by
    iterate 16 refine br_f (by decide) ?_
    refine br_t rfl ?_
    unfold wY_apply_509
    rw [fac, ek]
    exact ⟨vfa, h⟩)
  have kind : ((∀ Q : SX → Prop, Q (nI cc, nI bc, nI dc, y_fault, nI mc, nI (fr_x y_kind fa ph p), nI (σ (wk (w - 1))), nI (ex_e (tk_nd y_kind y_word) (fa p)), 10000000000, 1, 2, nI st, nI w, y_peak, nI sp, x_pendingCount, y_parent, y_fields, y_bound, x_tokenKind, x_tokenValue, x_globals, x_thingShown, x_thingClass, x_thingFields, x_thingToken, x_thingMaker, x_variables, x_homeOf, x_within, x_foundIn, x_baseFrame, x_frameToken, x_frameStage, x_frameLink, x_operands, y_heard, x_marked, x_pending) → wpX_applyOperator Q (nI cc, nI bc, nI dc, y_fault, nI mc, nI (fr_x y_kind fa ph (p + 1)), nI (σ (wk (w - 1))), nI (ex_e (tk_nd y_kind y_word) (fa p)), x_inHand, 2, 100, nI st, nI w, y_peak, nI sp, x_pendingCount, y_parent, y_fields, y_bound, x_tokenKind, x_tokenValue, x_globals, x_thingShown, x_thingClass, x_thingFields, x_thingToken, x_thingMaker, x_variables, x_homeOf, x_within, x_foundIn, x_baseFrame, x_frameToken, x_frameStage, x_frameLink, x_operands, y_heard, x_marked, x_pending)) ∧ (∀ Q : SY → Prop, Q (nI cc, nI bc, y_fault, nI mc, nI w, y_peak, nI st, nI (p + 1), nI (bs (p + 1)), 2, 0, 0, y_got, y_todos, y_marks, -10000000000, nI sp, y_parent, y_fields, y_bound, y_kind, y_word, y_size, y_sort, y_number, y_stands, y_keeps, y_cells, y_globals, y_within, y_foundIn, y_self, y_args, y_temps, y_param, y_live, y_work, y_under, y_at, y_in, y_phase, y_base, y_goal, y_operands, y_marked, y_todo, y_heard) → wpY_next Q (nI cc, nI bc, y_fault, nI mc, nI w, y_peak, nI st, nI (p + 1), nI (bs (p + 1)), y_code, 1, 0, y_got, y_todos, y_marks, -10000000000, nI sp, y_parent, y_fields, y_bound, y_kind, y_word, y_size, y_sort, y_number, y_stands, y_keeps, y_cells, y_globals, y_within, y_foundIn, y_self, y_args, y_temps, y_param, y_live, y_work, y_under, y_at, y_in, y_phase, y_base, y_goal, y_operands, y_marked, y_todo, y_heard))) → rn_Go B M tm (nI cc, nI bc, nI dc, y_fault, nI mc, nI (fr_x y_kind fa ph (p + 1)), nI (σ (wk (w - 1))), nI (ex_e (tk_nd y_kind y_word) (fa p)), x_inHand, 2, 100, nI st, nI w, y_peak, nI sp, x_pendingCount, y_parent, y_fields, y_bound, x_tokenKind, x_tokenValue, x_globals, x_thingShown, x_thingClass, x_thingFields, x_thingToken, x_thingMaker, x_variables, x_homeOf, x_within, x_foundIn, x_baseFrame, x_frameToken, x_frameStage, x_frameLink, x_operands, y_heard, x_marked, x_pending) (nI cc, nI bc, y_fault, nI mc, nI w, y_peak, nI st, nI (p + 1), nI (bs (p + 1)), y_code, 1, 0, y_got, y_todos, y_marks, -10000000000, nI sp, y_parent, y_fields, y_bound, y_kind, y_word, y_size, y_sort, y_number, y_stands, y_keeps, y_cells, y_globals, y_within, y_foundIn, y_self, y_args, y_temps, y_param, y_live, y_work, y_under, y_at, y_in, y_phase, y_base, y_goal, y_operands, y_marked, y_todo, y_heard) := fun h =>
    ⟨_, _, tm + 1, by omega, fun PX k => xt_apply (by omega) h.1 k, fun PY m k => YL_mono (yt_next h.2 k) (by omega), Or.inl (rn_stop2 A (rn_wl A F) (by decide) (by decide) (by have := n.2.2.2; omega))⟩
  rcases hp_vcase (x_classCount := nI cc) (x_bodyCount := nI bc) (x_draftCount := nI dc) (x_wrongPlace := y_fault) (x_madeCount := nI mc) (x_frameCount := nI (fr_x y_kind fa ph p)) (x_current := nI (σ (wk (w - 1)))) (x_next := nI (ex_e (tk_nd y_kind y_word) (fa p))) (x_inHand := x_inHand) (x_mode := 1) (x_outcome := 100) (x_stepCount := nI st) (x_atWork := nI w) (x_mostAtWork := y_peak) (x_saidCount := nI sp) (x_pendingCount := x_pendingCount) (x_classParent := y_parent) (x_classFields := y_fields) (x_bound := y_bound) (x_tokenKind := x_tokenKind) (x_tokenValue := x_tokenValue) (x_globals := x_globals) (x_thingShown := x_thingShown) (x_thingClass := x_thingClass) (x_thingFields := x_thingFields) (x_thingToken := x_thingToken) (x_thingMaker := x_thingMaker) (x_variables := x_variables) (x_homeOf := x_homeOf) (x_within := x_within) (x_foundIn := x_foundIn) (x_baseFrame := x_baseFrame) (x_frameToken := x_frameToken) (x_frameStage := x_frameStage) (x_frameLink := x_frameLink) (x_operands := x_operands) (x_saidValues := y_heard) (x_marked := x_marked) (x_pending := x_pending) A.2.2.1 (by omega) v0 with ⟨i, xi, yi⟩ | ⟨bX, bY⟩
  · rcases hp_vcase (x_classCount := nI cc) (x_bodyCount := nI bc) (x_draftCount := nI dc) (x_wrongPlace := y_fault) (x_madeCount := nI mc) (x_frameCount := nI (fr_x y_kind fa ph p)) (x_current := nI (σ (wk (w - 1)))) (x_next := nI (ex_e (tk_nd y_kind y_word) (fa p))) (x_inHand := x_inHand) (x_mode := 1) (x_outcome := 100) (x_stepCount := nI st) (x_atWork := nI w) (x_mostAtWork := y_peak) (x_saidCount := nI sp) (x_pendingCount := x_pendingCount) (x_classParent := y_parent) (x_classFields := y_fields) (x_bound := y_bound) (x_tokenKind := x_tokenKind) (x_tokenValue := x_tokenValue) (x_globals := x_globals) (x_thingShown := x_thingShown) (x_thingClass := x_thingClass) (x_thingFields := x_thingFields) (x_thingToken := x_thingToken) (x_thingMaker := x_thingMaker) (x_variables := x_variables) (x_homeOf := x_homeOf) (x_within := x_within) (x_foundIn := x_foundIn) (x_baseFrame := x_baseFrame) (x_frameToken := x_frameToken) (x_frameStage := x_frameStage) (x_frameLink := x_frameLink) (x_operands := x_operands) (x_saidValues := y_heard) (x_marked := x_marked) (x_pending := x_pending) A.2.2.1 (by omega) v1 with ⟨j, xj, yj⟩ | ⟨bX, bY⟩
    · rw [xi, xj] at goX2
      rw [yi, yj] at goY2
      have iX : ∀ (l : Int32) (post : Int32 → Prop), post 1 → wpX_isInt post (nI cc, nI bc, nI dc, y_fault, nI mc, nI (fr_x y_kind fa ph p), nI (σ (wk (w - 1))), nI (ex_e (tk_nd y_kind y_word) (fa p)), x_inHand, 1, 100, nI st, nI w, y_peak, nI sp, x_pendingCount, y_parent, y_fields, y_bound, x_tokenKind, x_tokenValue, x_globals, x_thingShown, x_thingClass, x_thingFields, x_thingToken, x_thingMaker, x_variables, x_homeOf, x_within, x_foundIn, x_baseFrame, x_frameToken, x_frameStage, x_frameLink, x_operands, y_heard, x_marked, x_pending) l.toInt64 := fun l post hp => br_f (hp_int1 l) hp
      obtain ⟨n1, n2, n3', n4⟩ := mu_fin (Nat.le_refl _) (by omega) n
      refine ⟨(nI cc, nI bc, nI dc, y_fault, nI mc, nI (fr_x y_kind fa ph p), nI (σ (wk (w - 1))), nI (ex_e (tk_nd y_kind y_word) (fa p)), (i - j).toInt64, 1, 100, nI st, nI w, y_peak, nI sp, x_pendingCount, y_parent, y_fields, y_bound, x_tokenKind, x_tokenValue, x_globals, x_thingShown, x_thingClass, x_thingFields, x_thingToken, x_thingMaker, x_variables, x_homeOf, x_within, x_foundIn, x_baseFrame, x_frameToken, x_frameStage, x_frameLink, x_operands, y_heard, x_marked, x_pending), (nI cc, nI bc, y_fault, nI mc, nI w, y_peak, nI st, nI p, nI (bs p), y_code, 1, 1, lN (i - j).toBitVec.toNat, y_todos, y_marks, -10000000000, nI sp, y_parent, y_fields, y_bound, y_kind, y_word, y_size, y_sort, y_number, y_stands, y_keeps, y_cells, y_globals, y_within, y_foundIn, y_self, y_args, y_temps, y_param, y_live, y_work, y_under, y_at, y_in, y_phase, y_base, y_goal, y_operands, y_marked, y_todo, y_heard), tm + 1, by omega, fun PX k => xt_apply (by omega) (fun Q q => goX2 Q ?_) k, fun PY m k => YL_mono (yt_next (fun Q q => goY2 Q ?_) k) (by omega), Or.inr (fin_H A F hp (fun q hq => rfl) (hp_vint (i - j)) n3' n1 n2 n4)⟩
      · unfold wpX_reckon
        refine iX i _ (br_f (by decide) (iX j _ (br_f (by decide) (br_f (by decide) (br_f (by decide) (br_f (by decide) (br_t rfl ?_)))))))
        rw [Int64.toInt32_sub, Int32.toInt32_toInt64, Int32.toInt32_toInt64]
        exact q
      · unfold wpY_reckon
        refine yv_isInt_i i (br_f (by decide) (yv_isInt_i j (br_f (by decide) (br_f (by decide) (br_t rfl ?_)))))
        unfold wY_reckon_84
        rw [vv_i, vv_i, vv_w]
        exact yw_finish p5 y4 q
    · rw [xi] at goX2
      rw [yi] at goY2
      refine kind ⟨fun Q q => goX2 Q ?_, fun Q q => goY2 Q ?_⟩
      · unfold wpX_reckon
        exact br_f (hp_int1 i) (br_f (by decide) (bX _ (br_t rfl q)))
      · unfold wpY_reckon
        exact yv_isInt_i i (br_f (by decide) (bY _ (br_t rfl q)))
  · refine kind ⟨fun Q q => goX2 Q ?_, fun Q q => goY2 Q ?_⟩
    · unfold wpX_reckon
      exact bX _ (br_t rfl q)
    · unfold wpY_reckon
      exact bY _ (br_t rfl q)
theorem go_mul {p tm : Nat} (A : rn_A cc bc dc mc T ST SA lv τ σ lev ho x_tokenKind x_tokenValue y_kind y_word y_size y_parent y_fields y_bound x_globals y_globals x_thingShown x_thingClass x_thingFields x_thingToken x_thingMaker x_variables x_homeOf x_within x_foundIn y_sort y_number y_stands y_keeps y_cells y_within y_foundIn y_self y_args y_temps y_param) (F : rn_F T ST SA lv σ lev ho y_kind y_word fa ph bs ow gg wk un rt (p + 1) w y_sort y_number x_frameToken x_frameStage x_frameLink x_operands x_baseFrame y_operands y_self y_at y_in y_phase y_base y_goal y_work y_under y_live) (ek : y_kind (fa p) = 20) (hp : ph p ≠ 100) (hph : ph p = tk_nd y_kind y_word (fa p)) (n : rn_n B (M + 1) mc st sp (rn_mu (tk_nd y_kind y_word) fa un rt st (p + 1) w (ex_e (tk_nd y_kind y_word) (fa p)) 1)) (ht : tm + 2 ≤ 1000000) :
    rn_Go B M tm (nI cc, nI bc, nI dc, y_fault, nI mc, nI (fr_x y_kind fa ph (p + 1)), nI (σ (wk (w - 1))), nI (ex_e (tk_nd y_kind y_word) (fa p)), x_inHand, 2, 100, nI st, nI w, y_peak, nI sp, x_pendingCount, y_parent, y_fields, y_bound, x_tokenKind, x_tokenValue, x_globals, x_thingShown, x_thingClass, x_thingFields, x_thingToken, x_thingMaker, x_variables, x_homeOf, x_within, x_foundIn, x_baseFrame, x_frameToken, x_frameStage, x_frameLink, x_operands, y_heard, x_marked, x_pending) (nI cc, nI bc, y_fault, nI mc, nI w, y_peak, nI st, nI (p + 1), nI (bs (p + 1)), y_code, 1, 0, y_got, y_todos, y_marks, -10000000000, nI sp, y_parent, y_fields, y_bound, y_kind, y_word, y_size, y_sort, y_number, y_stands, y_keeps, y_cells, y_globals, y_within, y_foundIn, y_self, y_args, y_temps, y_param, y_live, y_work, y_under, y_at, y_in, y_phase, y_base, y_goal, y_operands, y_marked, y_todo, y_heard) := by
  have kg : fr_gen (y_kind (fa p)) := by unfold fr_gen; rw [ek]; decide
  have nt : ¬ fr_tail (y_kind (fa p)) (ph p) := fun z => by
    rcases z with ⟨z, _⟩ | ⟨z, _⟩ <;> (rw [ek] at z; exact absurd z (by decide))
  obtain ⟨f1, eo, f5, p3, p5, b3, y1, y2, y3, y4, a3, n3, p383⟩ := rn_top A F hp
  have hxr := rn_xr A F hp
  have TF := rn_TF A
  have pc : (nI p).toNatClampNeg = p := nI_clamp (by omega)
  have vp : vp_in (nI p) 500 := vp_in_nI p5 (by decide)
  have fac : (nI (fa p)).toNatClampNeg = fa p := nI_clamp (by omega)
  have vfa : vp_in (nI (fa p)) 416 := vp_in_nI (by omega) (by decide)
  have xr : fr_x y_kind fa ph (p + 1) = fr_x y_kind fa ph p + 1 := by
    show _ + ct_b _ = _
    rw [ct_bt nt]
  have xrc : (nI (fr_x y_kind fa ph p)).toNatClampNeg = fr_x y_kind fa ph p := nI_clamp (by omega)
  have vxr : vp_in (nI (fr_x y_kind fa ph p)) 384 := vp_in_nI hxr (by decide)
  have e3 : nI (fr_x y_kind fa ph p) * (3 : Int32) = nI (fr_x y_kind fa ph p * 3) := pk_mul _ 3
  have e31 : nI (fr_x y_kind fa ph p * 3) + 1 = nI (fr_x y_kind fa ph p * 3 + 1) := nI_1 _
  have c3 : (nI (fr_x y_kind fa ph p * 3)).toNatClampNeg = fr_x y_kind fa ph p * 3 := nI_clamp (by omega)
  have c31 : (nI (fr_x y_kind fa ph p * 3 + 1)).toNatClampNeg = fr_x y_kind fa ph p * 3 + 1 := nI_clamp (by omega)
  have v3 : vp_in (nI (fr_x y_kind fa ph p * 3)) 1152 := vp_in_nI (by omega) (by decide)
  have v31 : vp_in (nI (fr_x y_kind fa ph p * 3 + 1)) 1152 := vp_in_nI (by omega) (by decide)
  have bc0 : (nI (bs p)).toNatClampNeg = bs p := nI_clamp (by omega)
  have bc1 : (nI (bs p + 1)).toNatClampNeg = bs p + 1 := nI_clamp (by omega)
  have vb0 : vp_in (nI (bs p)) 500 := vp_in_nI (by omega) (by decide)
  have vb1 : vp_in (nI (bs p + 1)) 500 := vp_in_nI (by omega) (by decide)
  obtain ⟨xtk, xsg, xlk, xO⟩ := (F.2.2.1.2 p (by omega) nt).2 hp
  have xkd : x_tokenKind (fa p) = y_kind (fa p) := (A.1.2.2.1.2.1 _ f1).2.1
  have xvl : x_tokenValue (fa p) = y_word (fa p) := (A.1.2.2.1.2.1 _ f1).2.2.1
  obtain ⟨ce, pe⟩ := fr_genc kg hp
  rw [ce] at xO
  have hpt : fr_pt (y_kind (fa p)) (ph p) = tk_nd y_kind y_word (fa p) := by rw [pe]; exact hph
  have enp : ex_pt (tk_nd y_kind y_word) (fa p) (ph p) = ex_e (tk_nd y_kind y_word) (fa p) := by rw [hph]; exact (fr_en TF f1).2.2
  have goX : ∀ Q : SX → Prop, _ → wpX_applyOperator Q (nI cc, nI bc, nI dc, y_fault, nI mc, nI (fr_x y_kind fa ph (p + 1)), nI (σ (wk (w - 1))), nI (ex_e (tk_nd y_kind y_word) (fa p)), x_inHand, 2, 100, nI st, nI w, y_peak, nI sp, x_pendingCount, y_parent, y_fields, y_bound, x_tokenKind, x_tokenValue, x_globals, x_thingShown, x_thingClass, x_thingFields, x_thingToken, x_thingMaker, x_variables, x_homeOf, x_within, x_foundIn, x_baseFrame, x_frameToken, x_frameStage, x_frameLink, x_operands, y_heard, x_marked, x_pending) := fun Q h => by
    unfold wpX_applyOperator
    dsimp only
    rw [xr, nI_pred]
    refine nm_e ?_
    rw [xrc, xtk, e3, e31, c3, c31]
    refine ⟨vxr, nm_e ⟨vfa, ?_⟩⟩
    rw [fac, xkd, ek]
    exact nm_e ⟨v3, nm_e ⟨v31, nm_e h⟩⟩
  have goY : ∀ Q : SY → Prop, _ → wpY_next Q (nI cc, nI bc, y_fault, nI mc, nI w, y_peak, nI st, nI (p + 1), nI (bs (p + 1)), y_code, 1, 0, y_got, y_todos, y_marks, -10000000000, nI sp, y_parent, y_fields, y_bound, y_kind, y_word, y_size, y_sort, y_number, y_stands, y_keeps, y_cells, y_globals, y_within, y_foundIn, y_self, y_args, y_temps, y_param, y_live, y_work, y_under, y_at, y_in, y_phase, y_base, y_goal, y_operands, y_marked, y_todo, y_heard) := fun Q h => by
    refine yn_apply A F hp hpt ?_
    unfold wpY_apply
    dsimp only
    rw [pc, y1, y2, y4]
    refine ⟨vp, nm_e ⟨vfa, ?_⟩⟩
    rw [fac]
    refine nm_e ⟨vp, nm_e ⟨vp, yw_home A.2.2.1 (rn_cur A F).1 ⟨vb0, ?_⟩⟩⟩
    rw [bc0, nI_1, bc1]
    refine nm_e ⟨vb1, nm_e ⟨vfa, ?_⟩⟩
    rw [ek]
    exact nm_e h
  have s0 : fr_s (y_kind (fa p)) = 0 := by unfold fr_s; rw [ek, if_neg (by decide)]
  have nd1 : tk_nd y_kind y_word (fa p) = 2 := by unfold tk_nd; rw [ek]; rfl
  have v0 := (xO 0 (by omega)).2.1 (by omega) (by omega)
  rw [s0, Nat.add_zero, show bs p + (0 - 0) = bs p from rfl] at v0
  have v1 := (xO 1 (by omega)).2.1 (by omega) (by omega)
  rw [s0, show bs p + (1 - 0) = bs p + 1 from rfl] at v1
  have mcl := A.2.2.2.1.1
  have goX2 : ∀ Q : SX → Prop, wpX_reckon (fun r u => match u with | (x_classCount, x_bodyCount, x_draftCount, x_wrongPlace, x_madeCount, x_frameCount, x_current, x_next, x_inHand, x_mode, x_outcome, x_stepCount, x_atWork, x_mostAtWork, x_saidCount, x_pendingCount, x_classParent, x_classFields, x_bound, x_tokenKind, x_tokenValue, x_globals, x_thingShown, x_thingClass, x_thingFields, x_thingToken, x_thingMaker, x_variables, x_homeOf, x_within, x_foundIn, x_baseFrame, x_frameToken, x_frameStage, x_frameLink, x_operands, x_saidValues, x_marked, x_pending) => Q (x_classCount, x_bodyCount, x_draftCount, x_wrongPlace, x_madeCount, x_frameCount, x_current, x_next, r, x_mode, x_outcome, x_stepCount, x_atWork, x_mostAtWork, x_saidCount, x_pendingCount, x_classParent, x_classFields, x_bound, x_tokenKind, x_tokenValue, x_globals, x_thingShown, x_thingClass, x_thingFields, x_thingToken, x_thingMaker, x_variables, x_homeOf, x_within, x_foundIn, x_baseFrame, x_frameToken, x_frameStage, x_frameLink, x_operands, x_saidValues, x_marked, x_pending)) (nI cc, nI bc, nI dc, y_fault, nI mc, nI (fr_x y_kind fa ph p), nI (σ (wk (w - 1))), nI (ex_e (tk_nd y_kind y_word) (fa p)), x_inHand, 1, 100, nI st, nI w, y_peak, nI sp, x_pendingCount, y_parent, y_fields, y_bound, x_tokenKind, x_tokenValue, x_globals, x_thingShown, x_thingClass, x_thingFields, x_thingToken, x_thingMaker, x_variables, x_homeOf, x_within, x_foundIn, x_baseFrame, x_frameToken, x_frameStage, x_frameLink, x_operands, y_heard, x_marked, x_pending) 20 (x_operands (fr_x y_kind fa ph p * 3)) (x_operands (fr_x y_kind fa ph p * 3 + 1)) → wpX_applyOperator Q (nI cc, nI bc, nI dc, y_fault, nI mc, nI (fr_x y_kind fa ph (p + 1)), nI (σ (wk (w - 1))), nI (ex_e (tk_nd y_kind y_word) (fa p)), x_inHand, 2, 100, nI st, nI w, y_peak, nI sp, x_pendingCount, y_parent, y_fields, y_bound, x_tokenKind, x_tokenValue, x_globals, x_thingShown, x_thingClass, x_thingFields, x_thingToken, x_thingMaker, x_variables, x_homeOf, x_within, x_foundIn, x_baseFrame, x_frameToken, x_frameStage, x_frameLink, x_operands, y_heard, x_marked, x_pending) := fun Q h => goX Q (br_f (by decide) (br_f (by decide) (br_f (by decide) (br_f (by decide) (nm_e (br_f (by decide) (br_f (by decide) (br_f (by decide) (br_f (by decide) h)))))))))
  have goY2 : ∀ Q : SY → Prop, wpY_reckon (fun u => match u with | (y_classes, y_bodies, y_fault, y_made, y_working, y_peak, y_steps, y_depth, y_waiting, y_code, y_running, y_has, y_got, y_todos, y_marks, y_shown, y_spoken, y_parent, y_fields, y_bound, y_kind, y_word, y_size, y_sort, y_number, y_stands, y_keeps, y_cells, y_globals, y_within, y_foundIn, y_self, y_args, y_temps, y_param, y_live, y_work, y_under, y_at, y_in, y_phase, y_base, y_goal, y_operands, y_marked, y_todo, y_heard) => Q (y_classes, y_bodies, y_fault, y_made, y_working, y_peak, y_steps, y_depth, y_waiting, y_code, y_running, y_has, y_got, y_todos, y_marks, y_shown, y_spoken, y_parent, y_fields, y_bound, y_kind, y_word, y_size, y_sort, y_number, y_stands, y_keeps, y_cells, y_globals, y_within, y_foundIn, y_self, y_args, y_temps, y_param, y_live, y_work, y_under, y_at, y_in, y_phase, y_base, y_goal, y_operands, y_marked, y_todo, y_heard)) (nI cc, nI bc, y_fault, nI mc, nI w, y_peak, nI st, nI (p + 1), nI (bs (p + 1)), y_code, 1, 0, y_got, y_todos, y_marks, -10000000000, nI sp, y_parent, y_fields, y_bound, y_kind, y_word, y_size, y_sort, y_number, y_stands, y_keeps, y_cells, y_globals, y_within, y_foundIn, y_self, y_args, y_temps, y_param, y_live, y_work, y_under, y_at, y_in, y_phase, y_base, y_goal, y_operands, y_marked, y_todo, y_heard) 20 (y_operands (bs p)) (y_operands (bs p + 1)) → wpY_next Q (nI cc, nI bc, y_fault, nI mc, nI w, y_peak, nI st, nI (p + 1), nI (bs (p + 1)), y_code, 1, 0, y_got, y_todos, y_marks, -10000000000, nI sp, y_parent, y_fields, y_bound, y_kind, y_word, y_size, y_sort, y_number, y_stands, y_keeps, y_cells, y_globals, y_within, y_foundIn, y_self, y_args, y_temps, y_param, y_live, y_work, y_under, y_at, y_in, y_phase, y_base, y_goal, y_operands, y_marked, y_todo, y_heard) := fun Q h => goY Q (by
    iterate 17 refine br_f (by decide) ?_
    refine br_t rfl ?_
    unfold wY_apply_509
    rw [fac, ek]
    exact ⟨vfa, h⟩)
  have kind : ((∀ Q : SX → Prop, Q (nI cc, nI bc, nI dc, y_fault, nI mc, nI (fr_x y_kind fa ph p), nI (σ (wk (w - 1))), nI (ex_e (tk_nd y_kind y_word) (fa p)), 10000000000, 1, 2, nI st, nI w, y_peak, nI sp, x_pendingCount, y_parent, y_fields, y_bound, x_tokenKind, x_tokenValue, x_globals, x_thingShown, x_thingClass, x_thingFields, x_thingToken, x_thingMaker, x_variables, x_homeOf, x_within, x_foundIn, x_baseFrame, x_frameToken, x_frameStage, x_frameLink, x_operands, y_heard, x_marked, x_pending) → wpX_applyOperator Q (nI cc, nI bc, nI dc, y_fault, nI mc, nI (fr_x y_kind fa ph (p + 1)), nI (σ (wk (w - 1))), nI (ex_e (tk_nd y_kind y_word) (fa p)), x_inHand, 2, 100, nI st, nI w, y_peak, nI sp, x_pendingCount, y_parent, y_fields, y_bound, x_tokenKind, x_tokenValue, x_globals, x_thingShown, x_thingClass, x_thingFields, x_thingToken, x_thingMaker, x_variables, x_homeOf, x_within, x_foundIn, x_baseFrame, x_frameToken, x_frameStage, x_frameLink, x_operands, y_heard, x_marked, x_pending)) ∧ (∀ Q : SY → Prop, Q (nI cc, nI bc, y_fault, nI mc, nI w, y_peak, nI st, nI (p + 1), nI (bs (p + 1)), 2, 0, 0, y_got, y_todos, y_marks, -10000000000, nI sp, y_parent, y_fields, y_bound, y_kind, y_word, y_size, y_sort, y_number, y_stands, y_keeps, y_cells, y_globals, y_within, y_foundIn, y_self, y_args, y_temps, y_param, y_live, y_work, y_under, y_at, y_in, y_phase, y_base, y_goal, y_operands, y_marked, y_todo, y_heard) → wpY_next Q (nI cc, nI bc, y_fault, nI mc, nI w, y_peak, nI st, nI (p + 1), nI (bs (p + 1)), y_code, 1, 0, y_got, y_todos, y_marks, -10000000000, nI sp, y_parent, y_fields, y_bound, y_kind, y_word, y_size, y_sort, y_number, y_stands, y_keeps, y_cells, y_globals, y_within, y_foundIn, y_self, y_args, y_temps, y_param, y_live, y_work, y_under, y_at, y_in, y_phase, y_base, y_goal, y_operands, y_marked, y_todo, y_heard))) → rn_Go B M tm (nI cc, nI bc, nI dc, y_fault, nI mc, nI (fr_x y_kind fa ph (p + 1)), nI (σ (wk (w - 1))), nI (ex_e (tk_nd y_kind y_word) (fa p)), x_inHand, 2, 100, nI st, nI w, y_peak, nI sp, x_pendingCount, y_parent, y_fields, y_bound, x_tokenKind, x_tokenValue, x_globals, x_thingShown, x_thingClass, x_thingFields, x_thingToken, x_thingMaker, x_variables, x_homeOf, x_within, x_foundIn, x_baseFrame, x_frameToken, x_frameStage, x_frameLink, x_operands, y_heard, x_marked, x_pending) (nI cc, nI bc, y_fault, nI mc, nI w, y_peak, nI st, nI (p + 1), nI (bs (p + 1)), y_code, 1, 0, y_got, y_todos, y_marks, -10000000000, nI sp, y_parent, y_fields, y_bound, y_kind, y_word, y_size, y_sort, y_number, y_stands, y_keeps, y_cells, y_globals, y_within, y_foundIn, y_self, y_args, y_temps, y_param, y_live, y_work, y_under, y_at, y_in, y_phase, y_base, y_goal, y_operands, y_marked, y_todo, y_heard) := fun h =>
    ⟨_, _, tm + 1, by omega, fun PX k => xt_apply (by omega) h.1 k, fun PY m k => YL_mono (yt_next h.2 k) (by omega), Or.inl (rn_stop2 A (rn_wl A F) (by decide) (by decide) (by have := n.2.2.2; omega))⟩
  rcases hp_vcase (x_classCount := nI cc) (x_bodyCount := nI bc) (x_draftCount := nI dc) (x_wrongPlace := y_fault) (x_madeCount := nI mc) (x_frameCount := nI (fr_x y_kind fa ph p)) (x_current := nI (σ (wk (w - 1)))) (x_next := nI (ex_e (tk_nd y_kind y_word) (fa p))) (x_inHand := x_inHand) (x_mode := 1) (x_outcome := 100) (x_stepCount := nI st) (x_atWork := nI w) (x_mostAtWork := y_peak) (x_saidCount := nI sp) (x_pendingCount := x_pendingCount) (x_classParent := y_parent) (x_classFields := y_fields) (x_bound := y_bound) (x_tokenKind := x_tokenKind) (x_tokenValue := x_tokenValue) (x_globals := x_globals) (x_thingShown := x_thingShown) (x_thingClass := x_thingClass) (x_thingFields := x_thingFields) (x_thingToken := x_thingToken) (x_thingMaker := x_thingMaker) (x_variables := x_variables) (x_homeOf := x_homeOf) (x_within := x_within) (x_foundIn := x_foundIn) (x_baseFrame := x_baseFrame) (x_frameToken := x_frameToken) (x_frameStage := x_frameStage) (x_frameLink := x_frameLink) (x_operands := x_operands) (x_saidValues := y_heard) (x_marked := x_marked) (x_pending := x_pending) A.2.2.1 (by omega) v0 with ⟨i, xi, yi⟩ | ⟨bX, bY⟩
  · rcases hp_vcase (x_classCount := nI cc) (x_bodyCount := nI bc) (x_draftCount := nI dc) (x_wrongPlace := y_fault) (x_madeCount := nI mc) (x_frameCount := nI (fr_x y_kind fa ph p)) (x_current := nI (σ (wk (w - 1)))) (x_next := nI (ex_e (tk_nd y_kind y_word) (fa p))) (x_inHand := x_inHand) (x_mode := 1) (x_outcome := 100) (x_stepCount := nI st) (x_atWork := nI w) (x_mostAtWork := y_peak) (x_saidCount := nI sp) (x_pendingCount := x_pendingCount) (x_classParent := y_parent) (x_classFields := y_fields) (x_bound := y_bound) (x_tokenKind := x_tokenKind) (x_tokenValue := x_tokenValue) (x_globals := x_globals) (x_thingShown := x_thingShown) (x_thingClass := x_thingClass) (x_thingFields := x_thingFields) (x_thingToken := x_thingToken) (x_thingMaker := x_thingMaker) (x_variables := x_variables) (x_homeOf := x_homeOf) (x_within := x_within) (x_foundIn := x_foundIn) (x_baseFrame := x_baseFrame) (x_frameToken := x_frameToken) (x_frameStage := x_frameStage) (x_frameLink := x_frameLink) (x_operands := x_operands) (x_saidValues := y_heard) (x_marked := x_marked) (x_pending := x_pending) A.2.2.1 (by omega) v1 with ⟨j, xj, yj⟩ | ⟨bX, bY⟩
    · rw [xi, xj] at goX2
      rw [yi, yj] at goY2
      have iX : ∀ (l : Int32) (post : Int32 → Prop), post 1 → wpX_isInt post (nI cc, nI bc, nI dc, y_fault, nI mc, nI (fr_x y_kind fa ph p), nI (σ (wk (w - 1))), nI (ex_e (tk_nd y_kind y_word) (fa p)), x_inHand, 1, 100, nI st, nI w, y_peak, nI sp, x_pendingCount, y_parent, y_fields, y_bound, x_tokenKind, x_tokenValue, x_globals, x_thingShown, x_thingClass, x_thingFields, x_thingToken, x_thingMaker, x_variables, x_homeOf, x_within, x_foundIn, x_baseFrame, x_frameToken, x_frameStage, x_frameLink, x_operands, y_heard, x_marked, x_pending) l.toInt64 := fun l post hp => br_f (hp_int1 l) hp
      obtain ⟨n1, n2, n3', n4⟩ := mu_fin (Nat.le_refl _) (by omega) n
      refine ⟨(nI cc, nI bc, nI dc, y_fault, nI mc, nI (fr_x y_kind fa ph p), nI (σ (wk (w - 1))), nI (ex_e (tk_nd y_kind y_word) (fa p)), (i * j).toInt64, 1, 100, nI st, nI w, y_peak, nI sp, x_pendingCount, y_parent, y_fields, y_bound, x_tokenKind, x_tokenValue, x_globals, x_thingShown, x_thingClass, x_thingFields, x_thingToken, x_thingMaker, x_variables, x_homeOf, x_within, x_foundIn, x_baseFrame, x_frameToken, x_frameStage, x_frameLink, x_operands, y_heard, x_marked, x_pending), (nI cc, nI bc, y_fault, nI mc, nI w, y_peak, nI st, nI p, nI (bs p), y_code, 1, 1, lN (i * j).toBitVec.toNat, y_todos, y_marks, -10000000000, nI sp, y_parent, y_fields, y_bound, y_kind, y_word, y_size, y_sort, y_number, y_stands, y_keeps, y_cells, y_globals, y_within, y_foundIn, y_self, y_args, y_temps, y_param, y_live, y_work, y_under, y_at, y_in, y_phase, y_base, y_goal, y_operands, y_marked, y_todo, y_heard), tm + 1, by omega, fun PX k => xt_apply (by omega) (fun Q q => goX2 Q ?_) k, fun PY m k => YL_mono (yt_next (fun Q q => goY2 Q ?_) k) (by omega), Or.inr (fin_H A F hp (fun q hq => rfl) (hp_vint (i * j)) n3' n1 n2 n4)⟩
      · unfold wpX_reckon
        refine iX i _ (br_f (by decide) (iX j _ (br_f (by decide) (br_f (by decide) (br_f (by decide) (br_f (by decide) (br_f (by decide) (br_t rfl ?_))))))))
        rw [Int64.toInt32_mul, Int32.toInt32_toInt64, Int32.toInt32_toInt64]
        exact q
      · unfold wpY_reckon
        refine yv_isInt_i i (br_f (by decide) (yv_isInt_i j (br_f (by decide) (br_f (by decide) (br_f (by decide) (br_t rfl ?_))))))
        unfold wY_reckon_84
        rw [vv_i, vv_i, vv_w]
        exact yw_finish p5 y4 q
    · rw [xi] at goX2
      rw [yi] at goY2
      refine kind ⟨fun Q q => goX2 Q ?_, fun Q q => goY2 Q ?_⟩
      · unfold wpX_reckon
        exact br_f (hp_int1 i) (br_f (by decide) (bX _ (br_t rfl q)))
      · unfold wpY_reckon
        exact yv_isInt_i i (br_f (by decide) (bY _ (br_t rfl q)))
  · refine kind ⟨fun Q q => goX2 Q ?_, fun Q q => goY2 Q ?_⟩
    · unfold wpX_reckon
      exact bX _ (br_t rfl q)
    · unfold wpY_reckon
      exact bY _ (br_t rfl q)
theorem go_less {p tm : Nat} (A : rn_A cc bc dc mc T ST SA lv τ σ lev ho x_tokenKind x_tokenValue y_kind y_word y_size y_parent y_fields y_bound x_globals y_globals x_thingShown x_thingClass x_thingFields x_thingToken x_thingMaker x_variables x_homeOf x_within x_foundIn y_sort y_number y_stands y_keeps y_cells y_within y_foundIn y_self y_args y_temps y_param) (F : rn_F T ST SA lv σ lev ho y_kind y_word fa ph bs ow gg wk un rt (p + 1) w y_sort y_number x_frameToken x_frameStage x_frameLink x_operands x_baseFrame y_operands y_self y_at y_in y_phase y_base y_goal y_work y_under y_live) (ek : y_kind (fa p) = 21) (hp : ph p ≠ 100) (hph : ph p = tk_nd y_kind y_word (fa p)) (n : rn_n B (M + 1) mc st sp (rn_mu (tk_nd y_kind y_word) fa un rt st (p + 1) w (ex_e (tk_nd y_kind y_word) (fa p)) 1)) (ht : tm + 2 ≤ 1000000) :
    rn_Go B M tm (nI cc, nI bc, nI dc, y_fault, nI mc, nI (fr_x y_kind fa ph (p + 1)), nI (σ (wk (w - 1))), nI (ex_e (tk_nd y_kind y_word) (fa p)), x_inHand, 2, 100, nI st, nI w, y_peak, nI sp, x_pendingCount, y_parent, y_fields, y_bound, x_tokenKind, x_tokenValue, x_globals, x_thingShown, x_thingClass, x_thingFields, x_thingToken, x_thingMaker, x_variables, x_homeOf, x_within, x_foundIn, x_baseFrame, x_frameToken, x_frameStage, x_frameLink, x_operands, y_heard, x_marked, x_pending) (nI cc, nI bc, y_fault, nI mc, nI w, y_peak, nI st, nI (p + 1), nI (bs (p + 1)), y_code, 1, 0, y_got, y_todos, y_marks, -10000000000, nI sp, y_parent, y_fields, y_bound, y_kind, y_word, y_size, y_sort, y_number, y_stands, y_keeps, y_cells, y_globals, y_within, y_foundIn, y_self, y_args, y_temps, y_param, y_live, y_work, y_under, y_at, y_in, y_phase, y_base, y_goal, y_operands, y_marked, y_todo, y_heard) := by
  have kg : fr_gen (y_kind (fa p)) := by unfold fr_gen; rw [ek]; decide
  have nt : ¬ fr_tail (y_kind (fa p)) (ph p) := fun z => by
    rcases z with ⟨z, _⟩ | ⟨z, _⟩ <;> (rw [ek] at z; exact absurd z (by decide))
  obtain ⟨f1, eo, f5, p3, p5, b3, y1, y2, y3, y4, a3, n3, p383⟩ := rn_top A F hp
  have hxr := rn_xr A F hp
  have TF := rn_TF A
  have pc : (nI p).toNatClampNeg = p := nI_clamp (by omega)
  have vp : vp_in (nI p) 500 := vp_in_nI p5 (by decide)
  have fac : (nI (fa p)).toNatClampNeg = fa p := nI_clamp (by omega)
  have vfa : vp_in (nI (fa p)) 416 := vp_in_nI (by omega) (by decide)
  have xr : fr_x y_kind fa ph (p + 1) = fr_x y_kind fa ph p + 1 := by
    show _ + ct_b _ = _
    rw [ct_bt nt]
  have xrc : (nI (fr_x y_kind fa ph p)).toNatClampNeg = fr_x y_kind fa ph p := nI_clamp (by omega)
  have vxr : vp_in (nI (fr_x y_kind fa ph p)) 384 := vp_in_nI hxr (by decide)
  have e3 : nI (fr_x y_kind fa ph p) * (3 : Int32) = nI (fr_x y_kind fa ph p * 3) := pk_mul _ 3
  have e31 : nI (fr_x y_kind fa ph p * 3) + 1 = nI (fr_x y_kind fa ph p * 3 + 1) := nI_1 _
  have c3 : (nI (fr_x y_kind fa ph p * 3)).toNatClampNeg = fr_x y_kind fa ph p * 3 := nI_clamp (by omega)
  have c31 : (nI (fr_x y_kind fa ph p * 3 + 1)).toNatClampNeg = fr_x y_kind fa ph p * 3 + 1 := nI_clamp (by omega)
  have v3 : vp_in (nI (fr_x y_kind fa ph p * 3)) 1152 := vp_in_nI (by omega) (by decide)
  have v31 : vp_in (nI (fr_x y_kind fa ph p * 3 + 1)) 1152 := vp_in_nI (by omega) (by decide)
  have bc0 : (nI (bs p)).toNatClampNeg = bs p := nI_clamp (by omega)
  have bc1 : (nI (bs p + 1)).toNatClampNeg = bs p + 1 := nI_clamp (by omega)
  have vb0 : vp_in (nI (bs p)) 500 := vp_in_nI (by omega) (by decide)
  have vb1 : vp_in (nI (bs p + 1)) 500 := vp_in_nI (by omega) (by decide)
  obtain ⟨xtk, xsg, xlk, xO⟩ := (F.2.2.1.2 p (by omega) nt).2 hp
  have xkd : x_tokenKind (fa p) = y_kind (fa p) := (A.1.2.2.1.2.1 _ f1).2.1
  have xvl : x_tokenValue (fa p) = y_word (fa p) := (A.1.2.2.1.2.1 _ f1).2.2.1
  obtain ⟨ce, pe⟩ := fr_genc kg hp
  rw [ce] at xO
  have hpt : fr_pt (y_kind (fa p)) (ph p) = tk_nd y_kind y_word (fa p) := by rw [pe]; exact hph
  have enp : ex_pt (tk_nd y_kind y_word) (fa p) (ph p) = ex_e (tk_nd y_kind y_word) (fa p) := by rw [hph]; exact (fr_en TF f1).2.2
  have goX : ∀ Q : SX → Prop, _ → wpX_applyOperator Q (nI cc, nI bc, nI dc, y_fault, nI mc, nI (fr_x y_kind fa ph (p + 1)), nI (σ (wk (w - 1))), nI (ex_e (tk_nd y_kind y_word) (fa p)), x_inHand, 2, 100, nI st, nI w, y_peak, nI sp, x_pendingCount, y_parent, y_fields, y_bound, x_tokenKind, x_tokenValue, x_globals, x_thingShown, x_thingClass, x_thingFields, x_thingToken, x_thingMaker, x_variables, x_homeOf, x_within, x_foundIn, x_baseFrame, x_frameToken, x_frameStage, x_frameLink, x_operands, y_heard, x_marked, x_pending) := fun Q h => by
    unfold wpX_applyOperator
    dsimp only
    rw [xr, nI_pred]
    refine nm_e ?_
    rw [xrc, xtk, e3, e31, c3, c31]
    refine ⟨vxr, nm_e ⟨vfa, ?_⟩⟩
    rw [fac, xkd, ek]
    exact nm_e ⟨v3, nm_e ⟨v31, nm_e h⟩⟩
  have goY : ∀ Q : SY → Prop, _ → wpY_next Q (nI cc, nI bc, y_fault, nI mc, nI w, y_peak, nI st, nI (p + 1), nI (bs (p + 1)), y_code, 1, 0, y_got, y_todos, y_marks, -10000000000, nI sp, y_parent, y_fields, y_bound, y_kind, y_word, y_size, y_sort, y_number, y_stands, y_keeps, y_cells, y_globals, y_within, y_foundIn, y_self, y_args, y_temps, y_param, y_live, y_work, y_under, y_at, y_in, y_phase, y_base, y_goal, y_operands, y_marked, y_todo, y_heard) := fun Q h => by
    refine yn_apply A F hp hpt ?_
    unfold wpY_apply
    dsimp only
    rw [pc, y1, y2, y4]
    refine ⟨vp, nm_e ⟨vfa, ?_⟩⟩
    rw [fac]
    refine nm_e ⟨vp, nm_e ⟨vp, yw_home A.2.2.1 (rn_cur A F).1 ⟨vb0, ?_⟩⟩⟩
    rw [bc0, nI_1, bc1]
    refine nm_e ⟨vb1, nm_e ⟨vfa, ?_⟩⟩
    rw [ek]
    exact nm_e h
  have s0 : fr_s (y_kind (fa p)) = 0 := by unfold fr_s; rw [ek, if_neg (by decide)]
  have nd1 : tk_nd y_kind y_word (fa p) = 2 := by unfold tk_nd; rw [ek]; rfl
  have v0 := (xO 0 (by omega)).2.1 (by omega) (by omega)
  rw [s0, Nat.add_zero, show bs p + (0 - 0) = bs p from rfl] at v0
  have v1 := (xO 1 (by omega)).2.1 (by omega) (by omega)
  rw [s0, show bs p + (1 - 0) = bs p + 1 from rfl] at v1
  have mcl := A.2.2.2.1.1
  have goX2 : ∀ Q : SX → Prop, wpX_reckon (fun r u => match u with | (x_classCount, x_bodyCount, x_draftCount, x_wrongPlace, x_madeCount, x_frameCount, x_current, x_next, x_inHand, x_mode, x_outcome, x_stepCount, x_atWork, x_mostAtWork, x_saidCount, x_pendingCount, x_classParent, x_classFields, x_bound, x_tokenKind, x_tokenValue, x_globals, x_thingShown, x_thingClass, x_thingFields, x_thingToken, x_thingMaker, x_variables, x_homeOf, x_within, x_foundIn, x_baseFrame, x_frameToken, x_frameStage, x_frameLink, x_operands, x_saidValues, x_marked, x_pending) => Q (x_classCount, x_bodyCount, x_draftCount, x_wrongPlace, x_madeCount, x_frameCount, x_current, x_next, r, x_mode, x_outcome, x_stepCount, x_atWork, x_mostAtWork, x_saidCount, x_pendingCount, x_classParent, x_classFields, x_bound, x_tokenKind, x_tokenValue, x_globals, x_thingShown, x_thingClass, x_thingFields, x_thingToken, x_thingMaker, x_variables, x_homeOf, x_within, x_foundIn, x_baseFrame, x_frameToken, x_frameStage, x_frameLink, x_operands, x_saidValues, x_marked, x_pending)) (nI cc, nI bc, nI dc, y_fault, nI mc, nI (fr_x y_kind fa ph p), nI (σ (wk (w - 1))), nI (ex_e (tk_nd y_kind y_word) (fa p)), x_inHand, 1, 100, nI st, nI w, y_peak, nI sp, x_pendingCount, y_parent, y_fields, y_bound, x_tokenKind, x_tokenValue, x_globals, x_thingShown, x_thingClass, x_thingFields, x_thingToken, x_thingMaker, x_variables, x_homeOf, x_within, x_foundIn, x_baseFrame, x_frameToken, x_frameStage, x_frameLink, x_operands, y_heard, x_marked, x_pending) 21 (x_operands (fr_x y_kind fa ph p * 3)) (x_operands (fr_x y_kind fa ph p * 3 + 1)) → wpX_applyOperator Q (nI cc, nI bc, nI dc, y_fault, nI mc, nI (fr_x y_kind fa ph (p + 1)), nI (σ (wk (w - 1))), nI (ex_e (tk_nd y_kind y_word) (fa p)), x_inHand, 2, 100, nI st, nI w, y_peak, nI sp, x_pendingCount, y_parent, y_fields, y_bound, x_tokenKind, x_tokenValue, x_globals, x_thingShown, x_thingClass, x_thingFields, x_thingToken, x_thingMaker, x_variables, x_homeOf, x_within, x_foundIn, x_baseFrame, x_frameToken, x_frameStage, x_frameLink, x_operands, y_heard, x_marked, x_pending) := fun Q h => goX Q (br_f (by decide) (br_f (by decide) (br_f (by decide) (br_f (by decide) (nm_e (br_f (by decide) (br_f (by decide) (br_f (by decide) (br_f (by decide) h)))))))))
  have goY2 : ∀ Q : SY → Prop, wpY_reckon (fun u => match u with | (y_classes, y_bodies, y_fault, y_made, y_working, y_peak, y_steps, y_depth, y_waiting, y_code, y_running, y_has, y_got, y_todos, y_marks, y_shown, y_spoken, y_parent, y_fields, y_bound, y_kind, y_word, y_size, y_sort, y_number, y_stands, y_keeps, y_cells, y_globals, y_within, y_foundIn, y_self, y_args, y_temps, y_param, y_live, y_work, y_under, y_at, y_in, y_phase, y_base, y_goal, y_operands, y_marked, y_todo, y_heard) => Q (y_classes, y_bodies, y_fault, y_made, y_working, y_peak, y_steps, y_depth, y_waiting, y_code, y_running, y_has, y_got, y_todos, y_marks, y_shown, y_spoken, y_parent, y_fields, y_bound, y_kind, y_word, y_size, y_sort, y_number, y_stands, y_keeps, y_cells, y_globals, y_within, y_foundIn, y_self, y_args, y_temps, y_param, y_live, y_work, y_under, y_at, y_in, y_phase, y_base, y_goal, y_operands, y_marked, y_todo, y_heard)) (nI cc, nI bc, y_fault, nI mc, nI w, y_peak, nI st, nI (p + 1), nI (bs (p + 1)), y_code, 1, 0, y_got, y_todos, y_marks, -10000000000, nI sp, y_parent, y_fields, y_bound, y_kind, y_word, y_size, y_sort, y_number, y_stands, y_keeps, y_cells, y_globals, y_within, y_foundIn, y_self, y_args, y_temps, y_param, y_live, y_work, y_under, y_at, y_in, y_phase, y_base, y_goal, y_operands, y_marked, y_todo, y_heard) 21 (y_operands (bs p)) (y_operands (bs p + 1)) → wpY_next Q (nI cc, nI bc, y_fault, nI mc, nI w, y_peak, nI st, nI (p + 1), nI (bs (p + 1)), y_code, 1, 0, y_got, y_todos, y_marks, -10000000000, nI sp, y_parent, y_fields, y_bound, y_kind, y_word, y_size, y_sort, y_number, y_stands, y_keeps, y_cells, y_globals, y_within, y_foundIn, y_self, y_args, y_temps, y_param, y_live, y_work, y_under, y_at, y_in, y_phase, y_base, y_goal, y_operands, y_marked, y_todo, y_heard) := fun Q h => goY Q (by
    iterate 18 refine br_f (by decide) ?_
    refine br_t rfl ?_
    unfold wY_apply_509
    rw [fac, ek]
    exact ⟨vfa, h⟩)
  have kind : ((∀ Q : SX → Prop, Q (nI cc, nI bc, nI dc, y_fault, nI mc, nI (fr_x y_kind fa ph p), nI (σ (wk (w - 1))), nI (ex_e (tk_nd y_kind y_word) (fa p)), 10000000000, 1, 2, nI st, nI w, y_peak, nI sp, x_pendingCount, y_parent, y_fields, y_bound, x_tokenKind, x_tokenValue, x_globals, x_thingShown, x_thingClass, x_thingFields, x_thingToken, x_thingMaker, x_variables, x_homeOf, x_within, x_foundIn, x_baseFrame, x_frameToken, x_frameStage, x_frameLink, x_operands, y_heard, x_marked, x_pending) → wpX_applyOperator Q (nI cc, nI bc, nI dc, y_fault, nI mc, nI (fr_x y_kind fa ph (p + 1)), nI (σ (wk (w - 1))), nI (ex_e (tk_nd y_kind y_word) (fa p)), x_inHand, 2, 100, nI st, nI w, y_peak, nI sp, x_pendingCount, y_parent, y_fields, y_bound, x_tokenKind, x_tokenValue, x_globals, x_thingShown, x_thingClass, x_thingFields, x_thingToken, x_thingMaker, x_variables, x_homeOf, x_within, x_foundIn, x_baseFrame, x_frameToken, x_frameStage, x_frameLink, x_operands, y_heard, x_marked, x_pending)) ∧ (∀ Q : SY → Prop, Q (nI cc, nI bc, y_fault, nI mc, nI w, y_peak, nI st, nI (p + 1), nI (bs (p + 1)), 2, 0, 0, y_got, y_todos, y_marks, -10000000000, nI sp, y_parent, y_fields, y_bound, y_kind, y_word, y_size, y_sort, y_number, y_stands, y_keeps, y_cells, y_globals, y_within, y_foundIn, y_self, y_args, y_temps, y_param, y_live, y_work, y_under, y_at, y_in, y_phase, y_base, y_goal, y_operands, y_marked, y_todo, y_heard) → wpY_next Q (nI cc, nI bc, y_fault, nI mc, nI w, y_peak, nI st, nI (p + 1), nI (bs (p + 1)), y_code, 1, 0, y_got, y_todos, y_marks, -10000000000, nI sp, y_parent, y_fields, y_bound, y_kind, y_word, y_size, y_sort, y_number, y_stands, y_keeps, y_cells, y_globals, y_within, y_foundIn, y_self, y_args, y_temps, y_param, y_live, y_work, y_under, y_at, y_in, y_phase, y_base, y_goal, y_operands, y_marked, y_todo, y_heard))) → rn_Go B M tm (nI cc, nI bc, nI dc, y_fault, nI mc, nI (fr_x y_kind fa ph (p + 1)), nI (σ (wk (w - 1))), nI (ex_e (tk_nd y_kind y_word) (fa p)), x_inHand, 2, 100, nI st, nI w, y_peak, nI sp, x_pendingCount, y_parent, y_fields, y_bound, x_tokenKind, x_tokenValue, x_globals, x_thingShown, x_thingClass, x_thingFields, x_thingToken, x_thingMaker, x_variables, x_homeOf, x_within, x_foundIn, x_baseFrame, x_frameToken, x_frameStage, x_frameLink, x_operands, y_heard, x_marked, x_pending) (nI cc, nI bc, y_fault, nI mc, nI w, y_peak, nI st, nI (p + 1), nI (bs (p + 1)), y_code, 1, 0, y_got, y_todos, y_marks, -10000000000, nI sp, y_parent, y_fields, y_bound, y_kind, y_word, y_size, y_sort, y_number, y_stands, y_keeps, y_cells, y_globals, y_within, y_foundIn, y_self, y_args, y_temps, y_param, y_live, y_work, y_under, y_at, y_in, y_phase, y_base, y_goal, y_operands, y_marked, y_todo, y_heard) := fun h =>
    ⟨_, _, tm + 1, by omega, fun PX k => xt_apply (by omega) h.1 k, fun PY m k => YL_mono (yt_next h.2 k) (by omega), Or.inl (rn_stop2 A (rn_wl A F) (by decide) (by decide) (by have := n.2.2.2; omega))⟩
  rcases hp_vcase (x_classCount := nI cc) (x_bodyCount := nI bc) (x_draftCount := nI dc) (x_wrongPlace := y_fault) (x_madeCount := nI mc) (x_frameCount := nI (fr_x y_kind fa ph p)) (x_current := nI (σ (wk (w - 1)))) (x_next := nI (ex_e (tk_nd y_kind y_word) (fa p))) (x_inHand := x_inHand) (x_mode := 1) (x_outcome := 100) (x_stepCount := nI st) (x_atWork := nI w) (x_mostAtWork := y_peak) (x_saidCount := nI sp) (x_pendingCount := x_pendingCount) (x_classParent := y_parent) (x_classFields := y_fields) (x_bound := y_bound) (x_tokenKind := x_tokenKind) (x_tokenValue := x_tokenValue) (x_globals := x_globals) (x_thingShown := x_thingShown) (x_thingClass := x_thingClass) (x_thingFields := x_thingFields) (x_thingToken := x_thingToken) (x_thingMaker := x_thingMaker) (x_variables := x_variables) (x_homeOf := x_homeOf) (x_within := x_within) (x_foundIn := x_foundIn) (x_baseFrame := x_baseFrame) (x_frameToken := x_frameToken) (x_frameStage := x_frameStage) (x_frameLink := x_frameLink) (x_operands := x_operands) (x_saidValues := y_heard) (x_marked := x_marked) (x_pending := x_pending) A.2.2.1 (by omega) v0 with ⟨i, xi, yi⟩ | ⟨bX, bY⟩
  · rcases hp_vcase (x_classCount := nI cc) (x_bodyCount := nI bc) (x_draftCount := nI dc) (x_wrongPlace := y_fault) (x_madeCount := nI mc) (x_frameCount := nI (fr_x y_kind fa ph p)) (x_current := nI (σ (wk (w - 1)))) (x_next := nI (ex_e (tk_nd y_kind y_word) (fa p))) (x_inHand := x_inHand) (x_mode := 1) (x_outcome := 100) (x_stepCount := nI st) (x_atWork := nI w) (x_mostAtWork := y_peak) (x_saidCount := nI sp) (x_pendingCount := x_pendingCount) (x_classParent := y_parent) (x_classFields := y_fields) (x_bound := y_bound) (x_tokenKind := x_tokenKind) (x_tokenValue := x_tokenValue) (x_globals := x_globals) (x_thingShown := x_thingShown) (x_thingClass := x_thingClass) (x_thingFields := x_thingFields) (x_thingToken := x_thingToken) (x_thingMaker := x_thingMaker) (x_variables := x_variables) (x_homeOf := x_homeOf) (x_within := x_within) (x_foundIn := x_foundIn) (x_baseFrame := x_baseFrame) (x_frameToken := x_frameToken) (x_frameStage := x_frameStage) (x_frameLink := x_frameLink) (x_operands := x_operands) (x_saidValues := y_heard) (x_marked := x_marked) (x_pending := x_pending) A.2.2.1 (by omega) v1 with ⟨j, xj, yj⟩ | ⟨bX, bY⟩
    · rw [xi, xj] at goX2
      rw [yi, yj] at goY2
      have iX : ∀ (l : Int32) (post : Int32 → Prop), post 1 → wpX_isInt post (nI cc, nI bc, nI dc, y_fault, nI mc, nI (fr_x y_kind fa ph p), nI (σ (wk (w - 1))), nI (ex_e (tk_nd y_kind y_word) (fa p)), x_inHand, 1, 100, nI st, nI w, y_peak, nI sp, x_pendingCount, y_parent, y_fields, y_bound, x_tokenKind, x_tokenValue, x_globals, x_thingShown, x_thingClass, x_thingFields, x_thingToken, x_thingMaker, x_variables, x_homeOf, x_within, x_foundIn, x_baseFrame, x_frameToken, x_frameStage, x_frameLink, x_operands, y_heard, x_marked, x_pending) l.toInt64 := fun l post hp => br_f (hp_int1 l) hp
      obtain ⟨n1, n2, n3', n4⟩ := mu_fin (Nat.le_refl _) (by omega) n
      have lt1 := rk_le i j
      by_cases z : j ≤ i
      · refine ⟨(nI cc, nI bc, nI dc, y_fault, nI mc, nI (fr_x y_kind fa ph p), nI (σ (wk (w - 1))), nI (ex_e (tk_nd y_kind y_word) (fa p)), 0, 1, 100, nI st, nI w, y_peak, nI sp, x_pendingCount, y_parent, y_fields, y_bound, x_tokenKind, x_tokenValue, x_globals, x_thingShown, x_thingClass, x_thingFields, x_thingToken, x_thingMaker, x_variables, x_homeOf, x_within, x_foundIn, x_baseFrame, x_frameToken, x_frameStage, x_frameLink, x_operands, y_heard, x_marked, x_pending), (nI cc, nI bc, y_fault, nI mc, nI w, y_peak, nI st, nI p, nI (bs p), y_code, 1, 1, lN (0 : Int32).toBitVec.toNat, y_todos, y_marks, -10000000000, nI sp, y_parent, y_fields, y_bound, y_kind, y_word, y_size, y_sort, y_number, y_stands, y_keeps, y_cells, y_globals, y_within, y_foundIn, y_self, y_args, y_temps, y_param, y_live, y_work, y_under, y_at, y_in, y_phase, y_base, y_goal, y_operands, y_marked, y_todo, y_heard), tm + 1, by omega, fun PX k => xt_apply (by omega) (fun Q q => goX2 Q ?_) k, fun PY m k => YL_mono (yt_next (fun Q q => goY2 Q ?_) k) (by omega), Or.inr (fin_H A F hp (fun q hq => rfl) (hp_vint 0) n3' n1 n2 n4)⟩
        · unfold wpX_reckon
          exact iX i _ (br_f (by decide) (iX j _ (br_f (by decide) (br_f (by decide) (br_t (by decide) (br_t (lt1.mpr z) q))))))
        · unfold wpY_reckon
          refine yv_isInt_i i (br_f (by decide) (yv_isInt_i j (br_f (by decide) (br_f (by decide) (br_f (by decide) (br_f (by decide) (br_t (by rw [vv_i, vv_i]; exact z) ?_)))))))
          unfold wY_reckon_84
          rw [vv_w]
          exact yw_finish p5 y4 q
      · refine ⟨(nI cc, nI bc, nI dc, y_fault, nI mc, nI (fr_x y_kind fa ph p), nI (σ (wk (w - 1))), nI (ex_e (tk_nd y_kind y_word) (fa p)), 1, 1, 100, nI st, nI w, y_peak, nI sp, x_pendingCount, y_parent, y_fields, y_bound, x_tokenKind, x_tokenValue, x_globals, x_thingShown, x_thingClass, x_thingFields, x_thingToken, x_thingMaker, x_variables, x_homeOf, x_within, x_foundIn, x_baseFrame, x_frameToken, x_frameStage, x_frameLink, x_operands, y_heard, x_marked, x_pending), (nI cc, nI bc, y_fault, nI mc, nI w, y_peak, nI st, nI p, nI (bs p), y_code, 1, 1, lN (1 : Int32).toBitVec.toNat, y_todos, y_marks, -10000000000, nI sp, y_parent, y_fields, y_bound, y_kind, y_word, y_size, y_sort, y_number, y_stands, y_keeps, y_cells, y_globals, y_within, y_foundIn, y_self, y_args, y_temps, y_param, y_live, y_work, y_under, y_at, y_in, y_phase, y_base, y_goal, y_operands, y_marked, y_todo, y_heard), tm + 1, by omega, fun PX k => xt_apply (by omega) (fun Q q => goX2 Q ?_) k, fun PY m k => YL_mono (yt_next (fun Q q => goY2 Q ?_) k) (by omega), Or.inr (fin_H A F hp (fun q hq => rfl) (hp_vint 1) n3' n1 n2 n4)⟩
        · unfold wpX_reckon
          exact iX i _ (br_f (by decide) (iX j _ (br_f (by decide) (br_f (by decide) (br_t (by decide) (br_f (fun y => z (lt1.mp y)) q))))))
        · unfold wpY_reckon
          refine yv_isInt_i i (br_f (by decide) (yv_isInt_i j (br_f (by decide) (br_f (by decide) (br_f (by decide) (br_f (by decide) (br_f (by rw [vv_i, vv_i]; exact z) ?_)))))))
          unfold wY_reckon_84
          rw [vv_w]
          exact yw_finish p5 y4 q
    · rw [xi] at goX2
      rw [yi] at goY2
      refine kind ⟨fun Q q => goX2 Q ?_, fun Q q => goY2 Q ?_⟩
      · unfold wpX_reckon
        exact br_f (hp_int1 i) (br_f (by decide) (bX _ (br_t rfl q)))
      · unfold wpY_reckon
        exact yv_isInt_i i (br_f (by decide) (bY _ (br_t rfl q)))
  · refine kind ⟨fun Q q => goX2 Q ?_, fun Q q => goY2 Q ?_⟩
    · unfold wpX_reckon
      exact bX _ (br_t rfl q)
    · unfold wpY_reckon
      exact bY _ (br_t rfl q)
end
end
section
/-! an operator is applied: SET, PUT -/
section
variable {x_classCount x_bodyCount x_draftCount x_wrongPlace x_madeCount x_frameCount x_current x_next x_mode x_outcome x_stepCount x_atWork x_mostAtWork x_saidCount x_pendingCount : Int32} {x_inHand : Int64} {x_classParent x_classFields x_bound x_tokenKind x_tokenValue x_thingClass x_thingToken x_thingMaker x_homeOf x_within x_foundIn x_baseFrame x_frameToken x_frameStage x_frameLink x_marked x_pending : Nat → Int32} {x_globals x_thingShown x_thingFields x_variables x_operands x_saidValues : Nat → Int64}
variable {y_classes y_bodies y_fault y_made y_working y_peak y_steps y_depth y_waiting y_code y_running y_has y_todos y_marks y_spoken : Int32} {y_got y_shown : Int64} {y_parent y_fields y_bound y_kind y_word y_size y_sort y_number y_stands y_keeps y_within y_foundIn y_live y_work y_under y_at y_in y_phase y_base y_goal y_marked y_todo : Nat → Int32} {y_cells y_globals y_self y_args y_temps y_param y_operands y_heard : Nat → Int64}
variable {cc bc dc mc st sp d w np md B M : Nat} {T ST SA : Nat → Prop} {lv τ σ lev ho fa ph bs ow gg wk un rt : Nat → Nat}
theorem hp_upT (H : hp_R cc mc T y_kind lv ST SA τ σ lev ho x_thingShown x_thingClass x_thingFields x_thingToken x_thingMaker x_variables x_homeOf x_within x_foundIn y_sort y_number y_stands y_keeps y_cells y_within y_foundIn y_self y_args y_temps y_param) {h s : Nat} (sh : SA h) (wh : y_within h = -1) (hs : s < 3) {x y : Int64} (hv : hp_v ST (hp_s y_sort y_number) x y) : hp_R cc mc T y_kind lv ST SA τ σ lev ho x_thingShown x_thingClass x_thingFields x_thingToken x_thingMaker (vp_updL x_variables (σ h * 7 + 3 + s) x) x_homeOf x_within x_foundIn y_sort y_number y_stands y_keeps y_cells y_within y_foundIn y_self y_args (vp_updL y_temps (3 * h + s) y) y_param := by
  refine ⟨H.1, fun a sa => ?_, H.2.2⟩
  obtain ⟨k1, k2, k3, k4, k5, k6, k7⟩ := H.2.1 a sa
  have hk2 := (H.2.1 h sh).2.1
  have nx : ∀ j, j < 7 → (a ≠ h ∨ j ≠ 3 + s) → vp_updL x_variables (σ h * 7 + 3 + s) x (σ a * 7 + j) = x_variables (σ a * 7 + j) := fun j hj q => pk_uLn (fun z => by
    rcases Nat.lt_trichotomy (σ a) (σ h) with e | e | e
    · omega
    · have := H.2.2.1 a h sa sh e
      rcases q with q | q
      · exact q this
      · omega
    · omega)
  refine ⟨k1, k2, k3, k4, k5, k6, ?_⟩
  rcases k7 with ⟨w1, a2, a3, a4, a5, v0, v1, v2, v3⟩ | ⟨b, w1, sb, b2, b3, b4, b5, b6⟩
  · refine Or.inl ⟨w1, a2, a3, a4, a5, ?_, fun j hj => ?_, fun j hj => ?_, ?_⟩
    · have this : vp_updL x_variables (σ h * 7 + 3 + s) x (σ a * 7) = x_variables (σ a * 7) := nx 0 (by omega) (Or.inr (by omega))
      rw [this]; exact v0
    · have := nx (1 + j) (by omega) (Or.inr (by omega))
      rw [← Nat.add_assoc] at this
      rw [this]; exact v1 j hj
    · by_cases e : a = h
      · subst e
        by_cases q : j = s
        · subst q; rw [pk_uLs, pk_uLs]; exact hv
        · have := nx (3 + j) (by omega) (Or.inr (by omega))
          rw [← Nat.add_assoc] at this
          rw [this, pk_uLn (by omega)]; exact v2 j hj
      · have := nx (3 + j) (by omega) (Or.inl e)
        rw [← Nat.add_assoc] at this
        rw [this, pk_uLn (by omega)]; exact v2 j hj
    · rw [nx 6 (by omega) (Or.inr (by omega))]; exact v3
  · have ne : a ≠ h := fun z => by
      subst z
      rw [wh] at w1
      exact absurd w1.symm (gx_m1 (by have := (H.2.1 b sb).1; omega))
    refine Or.inr ⟨b, w1, sb, b2, b3, b4, ?_, fun j hj => ?_⟩
    · rw [nx 6 (by omega) (Or.inl ne)]; exact b5
    · rw [nx j (by omega) (Or.inl ne)]; exact b6 j hj
theorem hp_upC (H : hp_R cc mc T y_kind lv ST SA τ σ lev ho x_thingShown x_thingClass x_thingFields x_thingToken x_thingMaker x_variables x_homeOf x_within x_foundIn y_sort y_number y_stands y_keeps y_cells y_within y_foundIn y_self y_args y_temps y_param) {k s : Nat} (sk : ST k) (k3 : ¬ y_sort k = 3) (hs : s < 4) {x y : Int64} (hv : hp_v ST (hp_s y_sort y_number) x y) : hp_R cc mc T y_kind lv ST SA τ σ lev ho x_thingShown x_thingClass (vp_updL x_thingFields (τ k * 4 + s) x) x_thingToken x_thingMaker x_variables x_homeOf x_within x_foundIn y_sort y_number y_stands y_keeps (vp_updL y_cells (4 * k + s) y) y_within y_foundIn y_self y_args y_temps y_param := by
  refine ⟨fun l sl => ?_, H.2⟩
  obtain ⟨k1, k2, k3', k4, k5, k6, k7, k8⟩ := H.1 l sl
  have nx : ∀ j, j < 4 → (l ≠ k ∨ j ≠ s) → vp_updL x_thingFields (τ k * 4 + s) x (τ l * 4 + j) = x_thingFields (τ l * 4 + j) := fun j hj q => pk_uLn (fun z => by
    rcases Nat.lt_trichotomy (τ l) (τ k) with e | e | e
    · omega
    · have := H.2.2.2 l k sl sk e
      rcases q with q | q
      · exact q this
      · omega
    · omega)
  refine ⟨k1, k2, k3', k4, k5, k6, fun s3 => ?_, fun s3 => ⟨(k8 s3).1, fun j hj => ?_⟩⟩
  · obtain ⟨p, a, p1, p2, p3, p4, p5, p6, p7, p8, p9⟩ := k7 s3
    have ne : l ≠ k := fun z => by subst z; exact k3 s3
    exact ⟨p, a, p1, p2, p3, p4, p5, p6, p7, p8, fun j hj => by rw [nx j hj (Or.inl ne)]; exact p9 j hj⟩
  · by_cases e : l = k
    · subst e
      by_cases q : j = s
      · subst q; rw [pk_uLs, pk_uLs]; exact hv
      · rw [nx j hj (Or.inr q), pk_uLn (by omega)]; exact (k8 s3).2 j hj
    · rw [nx j hj (Or.inl e), pk_uLn (by omega)]; exact (k8 s3).2 j hj
theorem go_set {p tm : Nat} (A : rn_A cc bc dc mc T ST SA lv τ σ lev ho x_tokenKind x_tokenValue y_kind y_word y_size y_parent y_fields y_bound x_globals y_globals x_thingShown x_thingClass x_thingFields x_thingToken x_thingMaker x_variables x_homeOf x_within x_foundIn y_sort y_number y_stands y_keeps y_cells y_within y_foundIn y_self y_args y_temps y_param) (F : rn_F T ST SA lv σ lev ho y_kind y_word fa ph bs ow gg wk un rt (p + 1) w y_sort y_number x_frameToken x_frameStage x_frameLink x_operands x_baseFrame y_operands y_self y_at y_in y_phase y_base y_goal y_work y_under y_live) (ek : y_kind (fa p) = 5) (hp : ph p ≠ 100) (hph : ph p = tk_nd y_kind y_word (fa p)) (n : rn_n B (M + 1) mc st sp (rn_mu (tk_nd y_kind y_word) fa un rt st (p + 1) w (ex_e (tk_nd y_kind y_word) (fa p)) 1)) (ht : tm + 2 ≤ 1000000) :
    rn_Go B M tm (nI cc, nI bc, nI dc, y_fault, nI mc, nI (fr_x y_kind fa ph (p + 1)), nI (σ (wk (w - 1))), nI (ex_e (tk_nd y_kind y_word) (fa p)), x_inHand, 2, 100, nI st, nI w, y_peak, nI sp, x_pendingCount, y_parent, y_fields, y_bound, x_tokenKind, x_tokenValue, x_globals, x_thingShown, x_thingClass, x_thingFields, x_thingToken, x_thingMaker, x_variables, x_homeOf, x_within, x_foundIn, x_baseFrame, x_frameToken, x_frameStage, x_frameLink, x_operands, y_heard, x_marked, x_pending) (nI cc, nI bc, y_fault, nI mc, nI w, y_peak, nI st, nI (p + 1), nI (bs (p + 1)), y_code, 1, 0, y_got, y_todos, y_marks, -10000000000, nI sp, y_parent, y_fields, y_bound, y_kind, y_word, y_size, y_sort, y_number, y_stands, y_keeps, y_cells, y_globals, y_within, y_foundIn, y_self, y_args, y_temps, y_param, y_live, y_work, y_under, y_at, y_in, y_phase, y_base, y_goal, y_operands, y_marked, y_todo, y_heard) := by
  have kg : fr_gen (y_kind (fa p)) := by unfold fr_gen; rw [ek]; decide
  have nt : ¬ fr_tail (y_kind (fa p)) (ph p) := fun z => by
    rcases z with ⟨z, _⟩ | ⟨z, _⟩ <;> (rw [ek] at z; exact absurd z (by decide))
  obtain ⟨f1, eo, f5, p3, p5, b3, y1, y2, y3, y4, a3, n3, p383⟩ := rn_top A F hp
  have hxr := rn_xr A F hp
  have TF := rn_TF A
  have pc : (nI p).toNatClampNeg = p := nI_clamp (by omega)
  have vp : vp_in (nI p) 500 := vp_in_nI p5 (by decide)
  have fac : (nI (fa p)).toNatClampNeg = fa p := nI_clamp (by omega)
  have vfa : vp_in (nI (fa p)) 416 := vp_in_nI (by omega) (by decide)
  have xr : fr_x y_kind fa ph (p + 1) = fr_x y_kind fa ph p + 1 := by
    show _ + ct_b _ = _
    rw [ct_bt nt]
  have xrc : (nI (fr_x y_kind fa ph p)).toNatClampNeg = fr_x y_kind fa ph p := nI_clamp (by omega)
  have vxr : vp_in (nI (fr_x y_kind fa ph p)) 384 := vp_in_nI hxr (by decide)
  have e3 : nI (fr_x y_kind fa ph p) * (3 : Int32) = nI (fr_x y_kind fa ph p * 3) := pk_mul _ 3
  have e31 : nI (fr_x y_kind fa ph p * 3) + 1 = nI (fr_x y_kind fa ph p * 3 + 1) := nI_1 _
  have c3 : (nI (fr_x y_kind fa ph p * 3)).toNatClampNeg = fr_x y_kind fa ph p * 3 := nI_clamp (by omega)
  have c31 : (nI (fr_x y_kind fa ph p * 3 + 1)).toNatClampNeg = fr_x y_kind fa ph p * 3 + 1 := nI_clamp (by omega)
  have v3 : vp_in (nI (fr_x y_kind fa ph p * 3)) 1152 := vp_in_nI (by omega) (by decide)
  have v31 : vp_in (nI (fr_x y_kind fa ph p * 3 + 1)) 1152 := vp_in_nI (by omega) (by decide)
  have bc0 : (nI (bs p)).toNatClampNeg = bs p := nI_clamp (by omega)
  have bc1 : (nI (bs p + 1)).toNatClampNeg = bs p + 1 := nI_clamp (by omega)
  have vb0 : vp_in (nI (bs p)) 500 := vp_in_nI (by omega) (by decide)
  have vb1 : vp_in (nI (bs p + 1)) 500 := vp_in_nI (by omega) (by decide)
  obtain ⟨xtk, xsg, xlk, xO⟩ := (F.2.2.1.2 p (by omega) nt).2 hp
  have xkd : x_tokenKind (fa p) = y_kind (fa p) := (A.1.2.2.1.2.1 _ f1).2.1
  have xvl : x_tokenValue (fa p) = y_word (fa p) := (A.1.2.2.1.2.1 _ f1).2.2.1
  obtain ⟨ce, pe⟩ := fr_genc kg hp
  rw [ce] at xO
  have hpt : fr_pt (y_kind (fa p)) (ph p) = tk_nd y_kind y_word (fa p) := by rw [pe]; exact hph
  have enp : ex_pt (tk_nd y_kind y_word) (fa p) (ph p) = ex_e (tk_nd y_kind y_word) (fa p) := by rw [hph]; exact (fr_en TF f1).2.2
  have goX : ∀ Q : SX → Prop, _ → wpX_applyOperator Q (nI cc, nI bc, nI dc, y_fault, nI mc, nI (fr_x y_kind fa ph (p + 1)), nI (σ (wk (w - 1))), nI (ex_e (tk_nd y_kind y_word) (fa p)), x_inHand, 2, 100, nI st, nI w, y_peak, nI sp, x_pendingCount, y_parent, y_fields, y_bound, x_tokenKind, x_tokenValue, x_globals, x_thingShown, x_thingClass, x_thingFields, x_thingToken, x_thingMaker, x_variables, x_homeOf, x_within, x_foundIn, x_baseFrame, x_frameToken, x_frameStage, x_frameLink, x_operands, y_heard, x_marked, x_pending) := fun Q h => by
    unfold wpX_applyOperator
    dsimp only
    rw [xr, nI_pred]
    refine nm_e ?_
    rw [xrc, xtk, e3, e31, c3, c31]
    refine ⟨vxr, nm_e ⟨vfa, ?_⟩⟩
    rw [fac, xkd, ek]
    exact nm_e ⟨v3, nm_e ⟨v31, nm_e h⟩⟩
  have goY : ∀ Q : SY → Prop, _ → wpY_next Q (nI cc, nI bc, y_fault, nI mc, nI w, y_peak, nI st, nI (p + 1), nI (bs (p + 1)), y_code, 1, 0, y_got, y_todos, y_marks, -10000000000, nI sp, y_parent, y_fields, y_bound, y_kind, y_word, y_size, y_sort, y_number, y_stands, y_keeps, y_cells, y_globals, y_within, y_foundIn, y_self, y_args, y_temps, y_param, y_live, y_work, y_under, y_at, y_in, y_phase, y_base, y_goal, y_operands, y_marked, y_todo, y_heard) := fun Q h => by
    refine yn_apply A F hp hpt ?_
    unfold wpY_apply
    dsimp only
    rw [pc, y1, y2, y4]
    refine ⟨vp, nm_e ⟨vfa, ?_⟩⟩
    rw [fac]
    refine nm_e ⟨vp, nm_e ⟨vp, yw_home A.2.2.1 (rn_cur A F).1 ⟨vb0, ?_⟩⟩⟩
    rw [bc0, nI_1, bc1]
    refine nm_e ⟨vb1, nm_e ⟨vfa, ?_⟩⟩
    rw [ek]
    exact nm_e h
  have s0 : fr_s (y_kind (fa p)) = 0 := by unfold fr_s; rw [ek, if_neg (by decide)]
  have nd1 : tk_nd y_kind y_word (fa p) = 1 := by unfold tk_nd; rw [ek]; rfl
  have v0 := (xO 0 (by omega)).2.1 (by omega) (by omega)
  rw [s0, Nat.add_zero, show bs p + (0 - 0) = bs p from rfl] at v0
  obtain ⟨n1, n2, n3', n4⟩ := mu_fin (Nat.le_refl _) (by omega) n
  obtain ⟨c1, c2, c3', c4, c5, c6, c7, _⟩ := rn_cur A F
  obtain ⟨_, _, _, ⟨kn', kl, ek', okl, _⟩, _⟩ := A.1.2.2.1.2.1 _ f1
  have ekk : kn' = 5 := (nI_eq (Nat.lt_trans kl (by decide)) (by decide)).mp (ek'.symm.trans ek)
  subst ekk
  obtain ⟨v, hv, ev⟩ := okl (by omega)
  have hv : v < 3 := hv
  have wh := (A.2.2.1.2.1 _ c1).2.2.2.2.2.1
  have A' : rn_A cc bc dc mc T ST SA lv τ σ lev ho x_tokenKind x_tokenValue y_kind y_word y_size y_parent y_fields y_bound x_globals y_globals x_thingShown x_thingClass x_thingFields x_thingToken x_thingMaker (vp_updL x_variables (σ (ho (wk (w - 1))) * 7 + 3 + v) (x_operands (fr_x y_kind fa ph p * 3))) x_homeOf x_within x_foundIn y_sort y_number y_stands y_keeps y_cells y_within y_foundIn y_self y_args (vp_updL y_temps (3 * ho (wk (w - 1)) + v) (y_operands (bs p))) y_param := by
    obtain ⟨s1, g1, H, U, ⟨q1, q2, q3, q4, q5⟩, X⟩ := A
    refine ⟨s1, g1, hp_upT H c4 wh hv v0, U, ⟨q1, q2, q3, fun i hi => ?_, q5⟩, X⟩
    by_cases z : i = 3 * ho (wk (w - 1)) + v
    · subst z; rw [pk_uLs]; exact hp_v_V v0
    · rw [pk_uLn z]; exact q4 i hi
  have eX : nI (σ (ho (wk (w - 1)))) * (7 : Int32) + 3 + nI v = nI (σ (ho (wk (w - 1))) * 7 + 3 + v) := by
    rw [show nI (σ (ho (wk (w - 1)))) * (7 : Int32) = nI (σ (ho (wk (w - 1))) * 7) from pk_mul _ 7, show nI (σ (ho (wk (w - 1))) * 7) + 3 = nI (σ (ho (wk (w - 1))) * 7 + 3) from nI_add _ 3, nI_add]
  have eY : (3 : Int32) * nI (ho (wk (w - 1))) + nI v = nI (3 * ho (wk (w - 1)) + v) := ix_l 3 _ v
  refine ⟨(nI cc, nI bc, nI dc, y_fault, nI mc, nI (fr_x y_kind fa ph p), nI (σ (wk (w - 1))), nI (ex_e (tk_nd y_kind y_word) (fa p)), x_operands (fr_x y_kind fa ph p * 3), 1, 100, nI st, nI w, y_peak, nI sp, x_pendingCount, y_parent, y_fields, y_bound, x_tokenKind, x_tokenValue, x_globals, x_thingShown, x_thingClass, x_thingFields, x_thingToken, x_thingMaker, vp_updL x_variables (σ (ho (wk (w - 1))) * 7 + 3 + v) (x_operands (fr_x y_kind fa ph p * 3)), x_homeOf, x_within, x_foundIn, x_baseFrame, x_frameToken, x_frameStage, x_frameLink, x_operands, y_heard, x_marked, x_pending), (nI cc, nI bc, y_fault, nI mc, nI w, y_peak, nI st, nI p, nI (bs p), y_code, 1, 1, y_operands (bs p), y_todos, y_marks, -10000000000, nI sp, y_parent, y_fields, y_bound, y_kind, y_word, y_size, y_sort, y_number, y_stands, y_keeps, y_cells, y_globals, y_within, y_foundIn, y_self, y_args, vp_updL y_temps (3 * ho (wk (w - 1)) + v) (y_operands (bs p)), y_param, y_live, y_work, y_under, y_at, y_in, y_phase, y_base, y_goal, y_operands, y_marked, y_todo, y_heard), tm + 1, by omega, fun PX k => xt_apply (by omega) (fun Q q => goX Q (br_f (by decide) (br_f (by decide) (br_f (by decide) (br_f (by decide) (nm_e (br_f (by decide) (br_f (by decide) (br_t (by decide) ?_))))))))) k, fun PY m k => YL_mono (yt_next (fun Q q => goY Q ?_) k) (by omega), Or.inr (fin_H A' F hp (fun q hq => rfl) v0 n3' n1 n2 n4)⟩
  · unfold wX_applyOperator_222 wpX_effect
    dsimp only
    rw [fac, xvl, ev, nI_clamp (show σ (wk (w - 1)) < 2 ^ 31 by omega), c7, eX, nI_clamp (show σ (ho (wk (w - 1))) * 7 + 3 + v < 2 ^ 31 by omega)]
    exact ⟨vfa, br_t rfl ⟨vp_in_nI c3' (by decide), vp_in_nI (by omega) (by decide), nm_e q⟩⟩
  · iterate 2 refine br_f (by decide) ?_
    refine br_t rfl ?_
    rw [ev, eY, nI_clamp (show 3 * ho (wk (w - 1)) + v < 2 ^ 31 by omega)]
    exact ⟨vp_in_nI (by omega) (by decide), nm_e (yw_finish p5 y4 q)⟩
theorem go_put {p tm : Nat} (A : rn_A cc bc dc mc T ST SA lv τ σ lev ho x_tokenKind x_tokenValue y_kind y_word y_size y_parent y_fields y_bound x_globals y_globals x_thingShown x_thingClass x_thingFields x_thingToken x_thingMaker x_variables x_homeOf x_within x_foundIn y_sort y_number y_stands y_keeps y_cells y_within y_foundIn y_self y_args y_temps y_param) (F : rn_F T ST SA lv σ lev ho y_kind y_word fa ph bs ow gg wk un rt (p + 1) w y_sort y_number x_frameToken x_frameStage x_frameLink x_operands x_baseFrame y_operands y_self y_at y_in y_phase y_base y_goal y_work y_under y_live) (ek : y_kind (fa p) = 7) (hp : ph p ≠ 100) (hph : ph p = tk_nd y_kind y_word (fa p)) (n : rn_n B (M + 1) mc st sp (rn_mu (tk_nd y_kind y_word) fa un rt st (p + 1) w (ex_e (tk_nd y_kind y_word) (fa p)) 1)) (ht : tm + 2 ≤ 1000000) :
    rn_Go B M tm (nI cc, nI bc, nI dc, y_fault, nI mc, nI (fr_x y_kind fa ph (p + 1)), nI (σ (wk (w - 1))), nI (ex_e (tk_nd y_kind y_word) (fa p)), x_inHand, 2, 100, nI st, nI w, y_peak, nI sp, x_pendingCount, y_parent, y_fields, y_bound, x_tokenKind, x_tokenValue, x_globals, x_thingShown, x_thingClass, x_thingFields, x_thingToken, x_thingMaker, x_variables, x_homeOf, x_within, x_foundIn, x_baseFrame, x_frameToken, x_frameStage, x_frameLink, x_operands, y_heard, x_marked, x_pending) (nI cc, nI bc, y_fault, nI mc, nI w, y_peak, nI st, nI (p + 1), nI (bs (p + 1)), y_code, 1, 0, y_got, y_todos, y_marks, -10000000000, nI sp, y_parent, y_fields, y_bound, y_kind, y_word, y_size, y_sort, y_number, y_stands, y_keeps, y_cells, y_globals, y_within, y_foundIn, y_self, y_args, y_temps, y_param, y_live, y_work, y_under, y_at, y_in, y_phase, y_base, y_goal, y_operands, y_marked, y_todo, y_heard) := by
  have kg : fr_gen (y_kind (fa p)) := by unfold fr_gen; rw [ek]; decide
  have nt : ¬ fr_tail (y_kind (fa p)) (ph p) := fun z => by
    rcases z with ⟨z, _⟩ | ⟨z, _⟩ <;> (rw [ek] at z; exact absurd z (by decide))
  obtain ⟨f1, eo, f5, p3, p5, b3, y1, y2, y3, y4, a3, n3, p383⟩ := rn_top A F hp
  have hxr := rn_xr A F hp
  have TF := rn_TF A
  have pc : (nI p).toNatClampNeg = p := nI_clamp (by omega)
  have vp : vp_in (nI p) 500 := vp_in_nI p5 (by decide)
  have fac : (nI (fa p)).toNatClampNeg = fa p := nI_clamp (by omega)
  have vfa : vp_in (nI (fa p)) 416 := vp_in_nI (by omega) (by decide)
  have xr : fr_x y_kind fa ph (p + 1) = fr_x y_kind fa ph p + 1 := by
    show _ + ct_b _ = _
    rw [ct_bt nt]
  have xrc : (nI (fr_x y_kind fa ph p)).toNatClampNeg = fr_x y_kind fa ph p := nI_clamp (by omega)
  have vxr : vp_in (nI (fr_x y_kind fa ph p)) 384 := vp_in_nI hxr (by decide)
  have e3 : nI (fr_x y_kind fa ph p) * (3 : Int32) = nI (fr_x y_kind fa ph p * 3) := pk_mul _ 3
  have e31 : nI (fr_x y_kind fa ph p * 3) + 1 = nI (fr_x y_kind fa ph p * 3 + 1) := nI_1 _
  have c3 : (nI (fr_x y_kind fa ph p * 3)).toNatClampNeg = fr_x y_kind fa ph p * 3 := nI_clamp (by omega)
  have c31 : (nI (fr_x y_kind fa ph p * 3 + 1)).toNatClampNeg = fr_x y_kind fa ph p * 3 + 1 := nI_clamp (by omega)
  have v3 : vp_in (nI (fr_x y_kind fa ph p * 3)) 1152 := vp_in_nI (by omega) (by decide)
  have v31 : vp_in (nI (fr_x y_kind fa ph p * 3 + 1)) 1152 := vp_in_nI (by omega) (by decide)
  have bc0 : (nI (bs p)).toNatClampNeg = bs p := nI_clamp (by omega)
  have bc1 : (nI (bs p + 1)).toNatClampNeg = bs p + 1 := nI_clamp (by omega)
  have vb0 : vp_in (nI (bs p)) 500 := vp_in_nI (by omega) (by decide)
  have vb1 : vp_in (nI (bs p + 1)) 500 := vp_in_nI (by omega) (by decide)
  obtain ⟨xtk, xsg, xlk, xO⟩ := (F.2.2.1.2 p (by omega) nt).2 hp
  have xkd : x_tokenKind (fa p) = y_kind (fa p) := (A.1.2.2.1.2.1 _ f1).2.1
  have xvl : x_tokenValue (fa p) = y_word (fa p) := (A.1.2.2.1.2.1 _ f1).2.2.1
  obtain ⟨ce, pe⟩ := fr_genc kg hp
  rw [ce] at xO
  have hpt : fr_pt (y_kind (fa p)) (ph p) = tk_nd y_kind y_word (fa p) := by rw [pe]; exact hph
  have enp : ex_pt (tk_nd y_kind y_word) (fa p) (ph p) = ex_e (tk_nd y_kind y_word) (fa p) := by rw [hph]; exact (fr_en TF f1).2.2
  have goX : ∀ Q : SX → Prop, _ → wpX_applyOperator Q (nI cc, nI bc, nI dc, y_fault, nI mc, nI (fr_x y_kind fa ph (p + 1)), nI (σ (wk (w - 1))), nI (ex_e (tk_nd y_kind y_word) (fa p)), x_inHand, 2, 100, nI st, nI w, y_peak, nI sp, x_pendingCount, y_parent, y_fields, y_bound, x_tokenKind, x_tokenValue, x_globals, x_thingShown, x_thingClass, x_thingFields, x_thingToken, x_thingMaker, x_variables, x_homeOf, x_within, x_foundIn, x_baseFrame, x_frameToken, x_frameStage, x_frameLink, x_operands, y_heard, x_marked, x_pending) := fun Q h => by
    unfold wpX_applyOperator
    dsimp only
    rw [xr, nI_pred]
    refine nm_e ?_
    rw [xrc, xtk, e3, e31, c3, c31]
    refine ⟨vxr, nm_e ⟨vfa, ?_⟩⟩
    rw [fac, xkd, ek]
    exact nm_e ⟨v3, nm_e ⟨v31, nm_e h⟩⟩
  have goY : ∀ Q : SY → Prop, _ → wpY_next Q (nI cc, nI bc, y_fault, nI mc, nI w, y_peak, nI st, nI (p + 1), nI (bs (p + 1)), y_code, 1, 0, y_got, y_todos, y_marks, -10000000000, nI sp, y_parent, y_fields, y_bound, y_kind, y_word, y_size, y_sort, y_number, y_stands, y_keeps, y_cells, y_globals, y_within, y_foundIn, y_self, y_args, y_temps, y_param, y_live, y_work, y_under, y_at, y_in, y_phase, y_base, y_goal, y_operands, y_marked, y_todo, y_heard) := fun Q h => by
    refine yn_apply A F hp hpt ?_
    unfold wpY_apply
    dsimp only
    rw [pc, y1, y2, y4]
    refine ⟨vp, nm_e ⟨vfa, ?_⟩⟩
    rw [fac]
    refine nm_e ⟨vp, nm_e ⟨vp, yw_home A.2.2.1 (rn_cur A F).1 ⟨vb0, ?_⟩⟩⟩
    rw [bc0, nI_1, bc1]
    refine nm_e ⟨vb1, nm_e ⟨vfa, ?_⟩⟩
    rw [ek]
    exact nm_e h
  have s0 : fr_s (y_kind (fa p)) = 0 := by unfold fr_s; rw [ek, if_neg (by decide)]
  have nd1 : tk_nd y_kind y_word (fa p) = 1 := by unfold tk_nd; rw [ek]; rfl
  have v0 := (xO 0 (by omega)).2.1 (by omega) (by omega)
  rw [s0, Nat.add_zero, show bs p + (0 - 0) = bs p from rfl] at v0
  have nB : mc ≤ B := by have := n.2.2.2; omega
  obtain ⟨n1, n2, n3', n4⟩ := mu_fin (Nat.le_refl _) (by omega) n
  obtain ⟨c1, c2, c3', c4, c5, c6, c7, _, vs, _⟩ := rn_cur A F
  obtain ⟨_, _, _, ⟨kn', kl, ek', okl, _⟩, _⟩ := A.1.2.2.1.2.1 _ f1
  have ekk : kn' = 7 := (nI_eq (Nat.lt_trans kl (by decide)) (by decide)).mp (ek'.symm.trans ek)
  subst ekk
  obtain ⟨v, hv, ev⟩ := okl (by omega)
  have hv : v < 4 := hv
  have vh : vp_in (nI (ho (wk (w - 1)))) 160 := vp_in_nI c5 (by decide)
  have hc : (nI (ho (wk (w - 1)))).toNatClampNeg = ho (wk (w - 1)) := nI_clamp (by omega)
  have goX2 : ∀ Q : SX → Prop, wpX_fieldPlace (fun r => (r = -1 → Q (nI cc, nI bc, nI dc, y_fault, nI mc, nI (fr_x y_kind fa ph p), nI (σ (wk (w - 1))), nI (ex_e (tk_nd y_kind y_word) (fa p)), x_operands (fr_x y_kind fa ph p * 3), 1, 2, nI st, nI w, y_peak, nI sp, x_pendingCount, y_parent, y_fields, y_bound, x_tokenKind, x_tokenValue, x_globals, x_thingShown, x_thingClass, x_thingFields, x_thingToken, x_thingMaker, x_variables, x_homeOf, x_within, x_foundIn, x_baseFrame, x_frameToken, x_frameStage, x_frameLink, x_operands, y_heard, x_marked, x_pending)) ∧ (¬ r = -1 → vp_in r 96 ∧ ∀ f : Nat → Int64, f = vp_updL x_thingFields r.toNatClampNeg (x_operands (fr_x y_kind fa ph p * 3)) → Q (nI cc, nI bc, nI dc, y_fault, nI mc, nI (fr_x y_kind fa ph p), nI (σ (wk (w - 1))), nI (ex_e (tk_nd y_kind y_word) (fa p)), x_operands (fr_x y_kind fa ph p * 3), 1, 100, nI st, nI w, y_peak, nI sp, x_pendingCount, y_parent, y_fields, y_bound, x_tokenKind, x_tokenValue, x_globals, x_thingShown, x_thingClass, f, x_thingToken, x_thingMaker, x_variables, x_homeOf, x_within, x_foundIn, x_baseFrame, x_frameToken, x_frameStage, x_frameLink, x_operands, y_heard, x_marked, x_pending))) (nI cc, nI bc, nI dc, y_fault, nI mc, nI (fr_x y_kind fa ph p), nI (σ (wk (w - 1))), nI (ex_e (tk_nd y_kind y_word) (fa p)), x_inHand, 1, 100, nI st, nI w, y_peak, nI sp, x_pendingCount, y_parent, y_fields, y_bound, x_tokenKind, x_tokenValue, x_globals, x_thingShown, x_thingClass, x_thingFields, x_thingToken, x_thingMaker, x_variables, x_homeOf, x_within, x_foundIn, x_baseFrame, x_frameToken, x_frameStage, x_frameLink, x_operands, y_heard, x_marked, x_pending) (x_variables (σ (ho (wk (w - 1))) * 7)) (nI v) → wpX_applyOperator Q (nI cc, nI bc, nI dc, y_fault, nI mc, nI (fr_x y_kind fa ph (p + 1)), nI (σ (wk (w - 1))), nI (ex_e (tk_nd y_kind y_word) (fa p)), x_inHand, 2, 100, nI st, nI w, y_peak, nI sp, x_pendingCount, y_parent, y_fields, y_bound, x_tokenKind, x_tokenValue, x_globals, x_thingShown, x_thingClass, x_thingFields, x_thingToken, x_thingMaker, x_variables, x_homeOf, x_within, x_foundIn, x_baseFrame, x_frameToken, x_frameStage, x_frameLink, x_operands, y_heard, x_marked, x_pending) := fun Q h => goX Q (br_f (by decide) (br_f (by decide) (br_f (by decide) (br_f (by decide) (nm_e (br_f (by decide) (br_f (by decide) (br_t (by decide) (by
    unfold wX_applyOperator_222 wpX_effect
    dsimp only
    rw [fac, xvl, ev]
    refine ⟨vfa, br_f (by decide) (br_t rfl ?_)⟩
    unfold wpX_putField
    exact ev_self (P := fun _ _ => True) A F h)))))))))
  rcases xv_field (x_classCount := nI cc) (x_bodyCount := nI bc) (x_draftCount := nI dc) (x_wrongPlace := y_fault) (x_madeCount := nI mc) (x_frameCount := nI (fr_x y_kind fa ph p)) (x_current := nI (σ (wk (w - 1)))) (x_next := nI (ex_e (tk_nd y_kind y_word) (fa p))) (x_inHand := x_inHand) (x_mode := 1) (x_outcome := 100) (x_stepCount := nI st) (x_atWork := nI w) (x_mostAtWork := y_peak) (x_saidCount := nI sp) (x_pendingCount := x_pendingCount) (x_classParent := y_parent) (x_bound := y_bound) (x_tokenKind := x_tokenKind) (x_tokenValue := x_tokenValue) (x_globals := x_globals) (x_thingShown := x_thingShown) (x_thingClass := x_thingClass) (x_thingFields := x_thingFields) (x_thingToken := x_thingToken) (x_thingMaker := x_thingMaker) (x_variables := x_variables) (x_homeOf := x_homeOf) (x_within := x_within) (x_foundIn := x_foundIn) (x_baseFrame := x_baseFrame) (x_frameToken := x_frameToken) (x_frameStage := x_frameStage) (x_frameLink := x_frameLink) (x_operands := x_operands) (x_saidValues := y_heard) (x_marked := x_marked) (x_pending := x_pending) (y_classes := nI cc) (y_bodies := nI bc) (y_fault := y_fault) (y_made := nI mc) (y_working := nI w) (y_peak := y_peak) (y_steps := nI st) (y_depth := nI (p + 1)) (y_waiting := nI (bs (p + 1))) (y_code := y_code) (y_running := 1) (y_has := 0) (y_got := y_got) (y_todos := y_todos) (y_marks := y_marks) (y_shown := -10000000000) (y_spoken := nI sp) (y_parent := y_parent) (y_fields := y_fields) (y_bound := y_bound) (y_kind := y_kind) (y_word := y_word) (y_size := y_size) (y_sort := y_sort) (y_number := y_number) (y_stands := y_stands) (y_keeps := y_keeps) (y_cells := y_cells) (y_globals := y_globals) (y_within := y_within) (y_foundIn := y_foundIn) (y_self := y_self) (y_args := y_args) (y_temps := y_temps) (y_param := y_param) (y_live := y_live) (y_work := y_work) (y_under := y_under) (y_at := y_at) (y_in := y_in) (y_phase := y_phase) (y_base := y_base) (y_goal := y_goal) (y_operands := y_operands) (y_marked := y_marked) (y_todo := y_todo) (y_heard := y_heard) A.2.2.2.1 A.2.2.1 A.1.1 vs (show v < 2 ^ 31 by omega) with ⟨fX, fY⟩ | ⟨kk, kl, sk, s3, j4, ey, fX, fY⟩
  · refine ⟨_, (nI cc, nI bc, y_fault, nI mc, nI w, y_peak, nI st, nI (p + 1), nI (bs (p + 1)), 2, 0, 0, y_got, y_todos, y_marks, -10000000000, nI sp, y_parent, y_fields, y_bound, y_kind, y_word, y_size, y_sort, y_number, y_stands, y_keeps, y_cells, y_globals, y_within, y_foundIn, y_self, y_args, y_temps, y_param, y_live, y_work, y_under, y_at, y_in, y_phase, y_base, y_goal, y_operands, y_marked, y_todo, y_heard), tm + 1, by omega, fun PX k => xt_apply (by omega) (fun Q q => goX2 Q (fX _ (br_t rfl q))) k, fun PY m k => YL_mono (yt_next (fun Q q => goY Q ?_) k) (by omega), Or.inl (rn_stop2 A (rn_wl A F) (by decide) (by decide) nB)⟩
    iterate 4 refine br_f (by decide) ?_
    refine br_t rfl ?_
    rw [hc, ev]
    exact ⟨vh, fY _ (br_t rfl q)⟩
  · obtain ⟨k1, k2, _, _, _, _, _, k8⟩ := A.2.2.1.1 kk sk
    have e4 : (4 : Int32) * nI kk + nI v = nI (4 * kk + v) := ix_l 4 kk v
    have A' : rn_A cc bc dc mc T ST SA lv τ σ lev ho x_tokenKind x_tokenValue y_kind y_word y_size y_parent y_fields y_bound x_globals y_globals x_thingShown x_thingClass (vp_updL x_thingFields (τ kk * 4 + v) (x_operands (fr_x y_kind fa ph p * 3))) x_thingToken x_thingMaker x_variables x_homeOf x_within x_foundIn y_sort y_number y_stands y_keeps (vp_updL y_cells (4 * kk + v) (y_operands (bs p))) y_within y_foundIn y_self y_args y_temps y_param := by
      obtain ⟨s1, g1, H, U, ⟨q1, q2⟩, X⟩ := A
      refine ⟨s1, g1, hp_upC H sk s3 hv v0, U, ⟨fun i hi => ?_, q2⟩, X⟩
      by_cases z : i = 4 * kk + v
      · subst z; rw [pk_uLs]; exact hp_v_V v0
      · rw [pk_uLn z]; exact q1 i hi
    refine ⟨(nI cc, nI bc, nI dc, y_fault, nI mc, nI (fr_x y_kind fa ph p), nI (σ (wk (w - 1))), nI (ex_e (tk_nd y_kind y_word) (fa p)), x_operands (fr_x y_kind fa ph p * 3), 1, 100, nI st, nI w, y_peak, nI sp, x_pendingCount, y_parent, y_fields, y_bound, x_tokenKind, x_tokenValue, x_globals, x_thingShown, x_thingClass, vp_updL x_thingFields (τ kk * 4 + v) (x_operands (fr_x y_kind fa ph p * 3)), x_thingToken, x_thingMaker, x_variables, x_homeOf, x_within, x_foundIn, x_baseFrame, x_frameToken, x_frameStage, x_frameLink, x_operands, y_heard, x_marked, x_pending), (nI cc, nI bc, y_fault, nI mc, nI w, y_peak, nI st, nI p, nI (bs p), y_code, 1, 1, y_operands (bs p), y_todos, y_marks, -10000000000, nI sp, y_parent, y_fields, y_bound, y_kind, y_word, y_size, y_sort, y_number, y_stands, y_keeps, vp_updL y_cells (4 * kk + v) (y_operands (bs p)), y_globals, y_within, y_foundIn, y_self, y_args, y_temps, y_param, y_live, y_work, y_under, y_at, y_in, y_phase, y_base, y_goal, y_operands, y_marked, y_todo, y_heard), tm + 1, by omega, fun PX k => xt_apply (by omega) (fun Q q => goX2 Q (fX _ (br_f (gx_m1 (by omega)) ⟨vp_in_nI (by omega) (by decide), ?_⟩))) k, fun PY m k => YL_mono (yt_next (fun Q q => goY Q ?_) k) (by omega), Or.inr (fin_H A' F hp (fun q hq => rfl) v0 n3' n1 n2 n4)⟩
    · rw [nI_clamp (show τ kk * 4 + v < 2 ^ 31 by omega)]
      exact nm_e q
    · iterate 4 refine br_f (by decide) ?_
      refine br_t rfl ?_
      rw [hc, ev]
      refine ⟨vh, fY _ (br_f (by decide) ⟨vh, ?_⟩)⟩
      rw [ey, vv_t (by omega), e4, nI_clamp (show 4 * kk + v < 2 ^ 31 by omega)]
      exact ⟨vp_in_nI (by omega) (by decide), nm_e (yw_finish p5 y4 q)⟩
end
end
section
/-! there is always a place for another activation -/
def pw {α : Type} (f : α → α) : Nat → α → α
  | 0, x => x
  | n + 1, x => f (pw f n x)
theorem fl_len {α : Type} (f : α → List Nat) (c : Nat) : ∀ (L : List α), (∀ x, x ∈ L → (f x).length = c) → (L.flatMap f).length = L.length * c
  | [], _ => by simp
  | x :: L, h => by
    rw [List.flatMap_cons, List.length_append, h x (List.mem_cons.mpr (Or.inl rfl)), fl_len f c L (fun y hy => h y (List.mem_cons.mpr (Or.inr hy))), List.length_cons, Nat.add_mul]
    omega
section
variable {x_classCount x_bodyCount x_draftCount x_wrongPlace x_madeCount x_frameCount x_current x_next x_mode x_outcome x_stepCount x_atWork x_mostAtWork x_saidCount x_pendingCount : Int32} {x_inHand : Int64} {x_classParent x_classFields x_bound x_tokenKind x_tokenValue x_thingClass x_thingToken x_thingMaker x_homeOf x_within x_foundIn x_baseFrame x_frameToken x_frameStage x_frameLink x_marked x_pending : Nat → Int32} {x_globals x_thingShown x_thingFields x_variables x_operands x_saidValues : Nat → Int64}
variable {y_classes y_bodies y_fault y_made y_working y_peak y_steps y_depth y_waiting y_code y_running y_has y_todos y_marks y_spoken : Int32} {y_got y_shown : Int64} {y_parent y_fields y_bound y_kind y_word y_size y_sort y_number y_stands y_keeps y_within y_foundIn y_live y_work y_under y_at y_in y_phase y_base y_goal y_marked y_todo : Nat → Int32} {y_cells y_globals y_self y_args y_temps y_param y_operands y_heard : Nat → Int64}
variable {cc bc dc mc st sp d w np md B M : Nat} {T ST SA : Nat → Prop} {lv τ σ lev ho fa ph bs ow gg wk un rt : Nat → Nat}
theorem rn_cover (A : rn_A cc bc dc mc T ST SA lv τ σ lev ho x_tokenKind x_tokenValue y_kind y_word y_size y_parent y_fields y_bound x_globals y_globals x_thingShown x_thingClass x_thingFields x_thingToken x_thingMaker x_variables x_homeOf x_within x_foundIn y_sort y_number y_stands y_keeps y_cells y_within y_foundIn y_self y_args y_temps y_param) (F : rn_F T ST SA lv σ lev ho y_kind y_word fa ph bs ow gg wk un rt d w y_sort y_number x_frameToken x_frameStage x_frameLink x_operands x_baseFrame y_operands y_self y_at y_in y_phase y_base y_goal y_work y_under y_live) : ∀ n, cl_r (gy_R y_globals y_operands (bs d) y_work w) (gy_E y_sort y_keeps y_cells y_within y_self y_args y_temps y_param) n →
    cl_r (gy_R y_globals y_operands (bs d) y_work w) (gy_E y_sort y_keeps y_cells y_within y_self y_args y_temps y_param) n ∧ ∀ a, n = 32 + a → SA a ∧ ((∃ i j, i < w ∧ j < 4 ∧ a = pw (fun b => (y_within b).toNatClampNeg) j (wk i) ∧ lev a + j = lev (wk i)) ∨ (∃ k j, k < 32 ∧ cl_r (gy_R y_globals y_operands (bs d) y_work w) (gy_E y_sort y_keeps y_cells y_within y_self y_args y_temps y_param) k ∧ j < 3 ∧ a = pw (fun b => (y_within b).toNatClampNeg) j (y_keeps k).toNatClampNeg ∧ lev a + j ≤ 2)) := by
  intro n c
  have H := A.2.2.1
  obtain ⟨P1, P2⟩ := rn_roots A F
  have sa : ∀ a, cl_r (gy_R y_globals y_operands (bs d) y_work w) (gy_E y_sort y_keeps y_cells y_within y_self y_args y_temps y_param) (32 + a) → SA a := fun a c => by
    rcases (P1 _ c).1 with ⟨e, _⟩ | ⟨b, e, z⟩
    · omega
    · obtain rfl : a = b := by omega
      exact z
  refine cl_min c (fun n => cl_r (gy_R y_globals y_operands (bs d) y_work w) (gy_E y_sort y_keeps y_cells y_within y_self y_args y_temps y_param) n ∧ ∀ a, n = 32 + a → SA a ∧ ((∃ i j, i < w ∧ j < 4 ∧ a = pw (fun b => (y_within b).toNatClampNeg) j (wk i) ∧ lev a + j = lev (wk i)) ∨ (∃ k j, k < 32 ∧ cl_r (gy_R y_globals y_operands (bs d) y_work w) (gy_E y_sort y_keeps y_cells y_within y_self y_args y_temps y_param) k ∧ j < 3 ∧ a = pw (fun b => (y_within b).toNatClampNeg) j (y_keeps k).toNatClampNeg ∧ lev a + j ≤ 2))) (fun m hm => ⟨cl_root hm, fun a e => ?_⟩) (fun m k hm e => ⟨cl_step hm.1 e, fun b eb => ?_⟩)
  · subst e
    refine ⟨sa a (cl_root hm), Or.inl ?_⟩
    rcases hm with ⟨k, _, z⟩ | ⟨k, _, z⟩ | ⟨i, b, i1, b1, b2, b3⟩
    · have := z.1; omega
    · have := z.1; omega
    · obtain rfl : a = b := by omega
      have e := (F.2.1.2 i i1).1
      have := (H.2.1 _ (F.2.2.2.1 i i1).1).1
      have : a = wk i := (nI_eq (by omega) (by omega)).mp (b2.symm.trans e)
      exact ⟨i, 0, i1, by omega, this, by rw [this]; omega⟩
  · subst eb
    refine ⟨sa b (cl_step hm.1 e), ?_⟩
    rcases e with ⟨m1, s3, a, a1, a2, a3⟩ | ⟨_, _, j, _, z⟩ | ⟨a, _, _, z | ⟨j, _, z⟩ | ⟨j, _, z⟩⟩ | ⟨a, ea, wl, z | ⟨b', b1, b2, b3⟩⟩
    · obtain rfl : a = b := by omega
      rcases (P1 _ hm.1).1 with ⟨_, sk⟩ | ⟨x, ex, _⟩
      · obtain ⟨q, a', q1, q2, _, _, q5, q6, _, q8, _⟩ := (H.1 m sk).2.2.2.2.2.2.1 s3
        have ha' := (H.2.1 _ q6).1
        have : a = a' := (nI_eq (by omega) (by omega)).mp (a2.symm.trans q5)
        subst this
        have fit := (A.1.2.2.1.2.1 q q1).2.2.2.2.1 q2
        exact Or.inr ⟨m, 0, m1, hm.1, by omega, by rw [a2, nI_clamp (by omega)]; rfl, by omega⟩
      · omega
    · have := z.1; omega
    · have := z.1; omega
    · have := z.1; omega
    · have := z.1; omega
    · have := z.1; omega
    · obtain rfl : b = b' := by omega
      obtain ⟨sA, cov⟩ := hm.2 a ea
      obtain ⟨k1, k2, k3, _, _, _, k7⟩ := H.2.1 a sA
      have eb : (y_within a).toNatClampNeg = b := by rw [b2, nI_clamp (by omega)]
      have lb : lev a = lev b + 1 := by
        rcases k7 with ⟨w1, _⟩ | ⟨b'', w1, sb, l1, _⟩
        · rw [w1] at wl; exact absurd (by decide) wl
        · have := (H.2.1 _ sb).1
          have : b'' = b := (nI_eq (by omega) (by omega)).mp (w1.symm.trans b2)
          subst this; exact l1
      rcases cov with ⟨i, j, i1, j1, e1, e2⟩ | ⟨k, j, i1, i2, j1, e1, e2⟩
      · have l3 := (H.2.1 _ (F.2.2.2.1 i i1).1).2.2.1
        refine Or.inl ⟨i, j + 1, i1, by omega, ?_, by omega⟩
        show b = (y_within (pw _ j (wk i))).toNatClampNeg
        rw [← e1, eb]
      · refine Or.inr ⟨k, j + 1, i1, i2, by omega, ?_, by omega⟩
        show b = (y_within (pw _ j (y_keeps k).toNatClampNeg)).toNatClampNeg
        rw [← e1, eb]
theorem rn_freeY (A : rn_A cc bc dc mc T ST SA lv τ σ lev ho x_tokenKind x_tokenValue y_kind y_word y_size y_parent y_fields y_bound x_globals y_globals x_thingShown x_thingClass x_thingFields x_thingToken x_thingMaker x_variables x_homeOf x_within x_foundIn y_sort y_number y_stands y_keeps y_cells y_within y_foundIn y_self y_args y_temps y_param) (F : rn_F T ST SA lv σ lev ho y_kind y_word fa ph bs ow gg wk un rt d w y_sort y_number x_frameToken x_frameStage x_frameLink x_operands x_baseFrame y_operands y_self y_at y_in y_phase y_base y_goal y_work y_under y_live) : ∃ a, a < 160 ∧ ¬ cl_r (gy_R y_globals y_operands (bs d) y_work w) (gy_E y_sort y_keeps y_cells y_within y_self y_args y_temps y_param) (32 + a) := by
  have w12 := F.1.2.1
  refine ct_lst (P := fun a => cl_r (gy_R y_globals y_operands (bs d) y_work w) (gy_E y_sort y_keeps y_cells y_within y_self y_args y_temps y_param) (32 + a)) (((List.range w).flatMap fun i => (List.range 4).map fun j => pw (fun b => (y_within b).toNatClampNeg) j (wk i)) ++ ((List.range 32).flatMap fun k => (List.range 3).map fun j => pw (fun b => (y_within b).toNatClampNeg) j (y_keeps k).toNatClampNeg)) (fun a _ c => ?_) ?_
  · obtain ⟨_, cov⟩ := ((rn_cover A F) _ c).2 a rfl
    rw [List.mem_append, List.mem_flatMap, List.mem_flatMap]
    rcases cov with ⟨i, j, i1, j1, e1, _⟩ | ⟨k, j, i1, i2, j1, e1, _⟩
    · exact Or.inl ⟨i, List.mem_range.mpr i1, List.mem_map.mpr ⟨j, List.mem_range.mpr j1, e1.symm⟩⟩
    · exact Or.inr ⟨k, List.mem_range.mpr i1, List.mem_map.mpr ⟨j, List.mem_range.mpr j1, e1.symm⟩⟩
  · rw [List.length_append, fl_len _ 4 _ (fun x _ => by rw [List.length_map, List.length_range]), fl_len _ 3 _ (fun x _ => by rw [List.length_map, List.length_range]), List.length_range, List.length_range]
    omega
theorem rn_freeX (A : rn_A cc bc dc mc T ST SA lv τ σ lev ho x_tokenKind x_tokenValue y_kind y_word y_size y_parent y_fields y_bound x_globals y_globals x_thingShown x_thingClass x_thingFields x_thingToken x_thingMaker x_variables x_homeOf x_within x_foundIn y_sort y_number y_stands y_keeps y_cells y_within y_foundIn y_self y_args y_temps y_param) (F : rn_F T ST SA lv σ lev ho y_kind y_word fa ph bs ow gg wk un rt d w y_sort y_number x_frameToken x_frameStage x_frameLink x_operands x_baseFrame y_operands y_self y_at y_in y_phase y_base y_goal y_work y_under y_live) : ∃ b, b < 128 ∧ ¬ cl_r (gx_R x_thingShown x_globals x_operands (fr_x y_kind fa ph d) x_baseFrame) (gx_E x_thingShown x_thingFields x_thingMaker x_variables x_within) (24 + b) := by
  have w12 := F.1.2.1
  obtain ⟨P1, P2⟩ := rn_roots A F
  refine ct_lst (P := fun b => cl_r (gx_R x_thingShown x_globals x_operands (fr_x y_kind fa ph d) x_baseFrame) (gx_E x_thingShown x_thingFields x_thingMaker x_variables x_within) (24 + b)) (((List.range w).flatMap fun i => (List.range 4).map fun j => σ (pw (fun b => (y_within b).toNatClampNeg) j (wk i))) ++ ((List.range 24).flatMap fun t => (List.range 3).map fun j => σ (pw (fun b => (y_within b).toNatClampNeg) j (y_keeps (Classical.epsilon fun k => ST k ∧ τ k = t)).toNatClampNeg))) (fun b _ c => ?_) ?_
  · obtain ⟨n, cn, en⟩ := P2 _ c
    rcases (P1 n cn).1 with ⟨n1, sn⟩ | ⟨a, rfl, sA⟩
    · rw [hp_f1 n1] at en
      have := (A.2.2.1.1 n sn).2.1
      omega
    · rw [hp_f2] at en
      have eb : b = σ a := by omega
      obtain ⟨_, cov⟩ := ((rn_cover A F) _ cn).2 a rfl
      rw [List.mem_append, List.mem_flatMap, List.mem_flatMap]
      rcases cov with ⟨i, j, i1, j1, e1, _⟩ | ⟨k, j, i1, i2, j1, e1, _⟩
      · exact Or.inl ⟨i, List.mem_range.mpr i1, List.mem_map.mpr ⟨j, List.mem_range.mpr j1, by rw [eb, e1]⟩⟩
      · have sk : ST k := by
          rcases (P1 k i2).1 with ⟨_, z⟩ | ⟨x, ex, _⟩
          · exact z
          · omega
        have ep := Classical.epsilon_spec (p := fun l => ST l ∧ τ l = τ k) ⟨k, sk, rfl⟩
        have ek : Classical.epsilon (fun l => ST l ∧ τ l = τ k) = k := A.2.2.1.2.2.2 _ _ ep.1 sk ep.2
        exact Or.inr ⟨τ k, List.mem_range.mpr (A.2.2.1.1 k sk).2.1, List.mem_map.mpr ⟨j, List.mem_range.mpr j1, by rw [ek, eb, e1]⟩⟩
  · rw [List.length_append, fl_len _ 4 _ (fun x _ => by rw [List.length_map, List.length_range]), fl_len _ 3 _ (fun x _ => by rw [List.length_map, List.length_range]), List.length_range, List.length_range]
    omega
end
end
section
/-! an activation begins, the outcome named -/
def bg_mx (p : Int32) (w : Nat) : Int32 := if nI (w + 1) ≤ p then p else nI (w + 1)
theorem bg_t {p : Int32} {w : Nat} (h : nI (w + 1) ≤ p) : bg_mx p w = p := if_pos h
theorem bg_f {p : Int32} {w : Nat} (h : ¬ nI (w + 1) ≤ p) : bg_mx p w = nI (w + 1) := if_neg h
section
variable {x_classCount x_bodyCount x_draftCount x_wrongPlace x_madeCount x_frameCount x_current x_next x_mode x_outcome x_stepCount x_atWork x_mostAtWork x_saidCount x_pendingCount : Int32} {x_inHand : Int64} {x_classParent x_classFields x_bound x_tokenKind x_tokenValue x_thingClass x_thingToken x_thingMaker x_homeOf x_within x_foundIn x_baseFrame x_frameToken x_frameStage x_frameLink x_marked x_pending : Nat → Int32} {x_globals x_thingShown x_thingFields x_variables x_operands x_saidValues : Nat → Int64}
variable {y_classes y_bodies y_fault y_made y_working y_peak y_steps y_depth y_waiting y_code y_running y_has y_todos y_marks y_spoken : Int32} {y_got y_shown : Int64} {y_parent y_fields y_bound y_kind y_word y_size y_sort y_number y_stands y_keeps y_within y_foundIn y_live y_work y_under y_at y_in y_phase y_base y_goal y_marked y_todo : Nat → Int32} {y_cells y_globals y_self y_args y_temps y_param y_operands y_heard : Nat → Int64}
variable {cc bc dc mc k : Nat} {T ST SA : Nat → Prop} {lv τ σ lev ho : Nat → Nat}
theorem xd_begin0 {fc w st : Nat} (r : Int32) (hs : st ≤ 200) (hw : w ≤ 12) (h : st = 200 ∨ w = 12) : ∃ (st' : Nat) (o : Int32), ((st = 200 ∧ st' = 200 ∧ o = 4) ∨ (st ≠ 200 ∧ w = 12 ∧ st' = st + 1 ∧ o = 5)) ∧ ∀ post : Int32 → SX → Prop, post (-1) (x_classCount, x_bodyCount, x_draftCount, x_wrongPlace, x_madeCount, nI (fc + 1), x_current, x_next, x_inHand, x_mode, o, nI st', nI w, x_mostAtWork, x_saidCount, x_pendingCount, x_classParent, x_classFields, x_bound, x_tokenKind, x_tokenValue, x_globals, x_thingShown, x_thingClass, x_thingFields, x_thingToken, x_thingMaker, x_variables, x_homeOf, x_within, x_foundIn, x_baseFrame, x_frameToken, x_frameStage, x_frameLink, x_operands, x_saidValues, x_marked, x_pending) → wpX_beginActivation post (x_classCount, x_bodyCount, x_draftCount, x_wrongPlace, x_madeCount, nI (fc + 1), x_current, x_next, x_inHand, x_mode, x_outcome, nI st, nI w, x_mostAtWork, x_saidCount, x_pendingCount, x_classParent, x_classFields, x_bound, x_tokenKind, x_tokenValue, x_globals, x_thingShown, x_thingClass, x_thingFields, x_thingToken, x_thingMaker, x_variables, x_homeOf, x_within, x_foundIn, x_baseFrame, x_frameToken, x_frameStage, x_frameLink, x_operands, x_saidValues, x_marked, x_pending) r := by
  by_cases z : st = 200
  · subst z
    refine ⟨200, 4, Or.inl ⟨rfl, rfl, rfl⟩, fun post q => ?_⟩
    unfold wpX_beginActivation wpX_takeStep
    exact br_t rfl (br_t rfl q)
  · have s1 : ¬ nI st = 200 := fun y => z ((nI_eq (b := 200) (by omega) (by decide)).mp y)
    have w2 : w = 12 := h.resolve_left z
    subst w2
    refine ⟨st + 1, 5, Or.inr ⟨z, rfl, rfl, rfl⟩, fun post q => ?_⟩
    unfold wpX_beginActivation wpX_takeStep
    exact br_f s1 (nm_r (nI_1 st) (br_f (by decide) (br_t rfl q)))
theorem xd_begin {fc w st : Nat} (r : Int32) (hs : st < 200) (hw : w < 12) (hfc : fc < 384) (hm : ∀ m, m < 24 → gx_P (x_thingMaker m)) (hwi : ∀ a, a < 128 → gx_P (x_within a)) (free : ∃ b, b < 128 ∧ ¬ cl_r (gx_R x_thingShown x_globals x_operands (fc + 1) x_baseFrame) (gx_E x_thingShown x_thingFields x_thingMaker x_variables x_within) (24 + b)) :
    ∃ mk td t b, b < 128 ∧ ¬ cl_r (gx_R x_thingShown x_globals x_operands (fc + 1) x_baseFrame) (gx_E x_thingShown x_thingFields x_thingMaker x_variables x_within) (24 + b) ∧ ∀ post : Int32 → SX → Prop, post (nI b) (x_classCount, x_bodyCount, x_draftCount, x_wrongPlace, x_madeCount, nI (fc + 1), nI b, r, x_inHand, 0, x_outcome, nI (st + 1), nI (w + 1), bg_mx x_mostAtWork w, x_saidCount, nI t, x_classParent, x_classFields, x_bound, x_tokenKind, x_tokenValue, x_globals, x_thingShown, x_thingClass, x_thingFields, x_thingToken, x_thingMaker, mk_c x_variables (b * 7) 7 10000000000, x_homeOf, x_within, x_foundIn, upd x_baseFrame b (nI fc), upd x_frameToken fc (-1), upd x_frameStage fc x_next, upd x_frameLink fc x_current, mk_c x_operands (fc * 3) 3 10000000000, x_saidValues, mk, td) → wpX_beginActivation post (x_classCount, x_bodyCount, x_draftCount, x_wrongPlace, x_madeCount, nI (fc + 1), x_current, x_next, x_inHand, x_mode, x_outcome, nI st, nI w, x_mostAtWork, x_saidCount, x_pendingCount, x_classParent, x_classFields, x_bound, x_tokenKind, x_tokenValue, x_globals, x_thingShown, x_thingClass, x_thingFields, x_thingToken, x_thingMaker, x_variables, x_homeOf, x_within, x_foundIn, x_baseFrame, x_frameToken, x_frameStage, x_frameLink, x_operands, x_saidValues, x_marked, x_pending) r := by
  obtain ⟨mk, td, t, mb, mi, hM⟩ := xd_mark (x_classCount := x_classCount) (x_bodyCount := x_bodyCount) (x_draftCount := x_draftCount) (x_wrongPlace := x_wrongPlace) (x_madeCount := x_madeCount) (x_frameCount := nI (fc + 1)) (x_current := x_current) (x_next := x_next) (x_inHand := x_inHand) (x_mode := x_mode) (x_outcome := x_outcome) (x_stepCount := nI (st + 1)) (x_atWork := nI w) (x_mostAtWork := x_mostAtWork) (x_saidCount := x_saidCount) (x_pendingCount := x_pendingCount) (x_classParent := x_classParent) (x_classFields := x_classFields) (x_bound := x_bound) (x_tokenKind := x_tokenKind) (x_tokenValue := x_tokenValue) (x_globals := x_globals) (x_thingShown := x_thingShown) (x_thingClass := x_thingClass) (x_thingFields := x_thingFields) (x_thingToken := x_thingToken) (x_thingMaker := x_thingMaker) (x_variables := x_variables) (x_homeOf := x_homeOf) (x_within := x_within) (x_foundIn := x_foundIn) (x_baseFrame := x_baseFrame) (x_frameToken := x_frameToken) (x_frameStage := x_frameStage) (x_frameLink := x_frameLink) (x_operands := x_operands) (x_saidValues := x_saidValues) (x_marked := x_marked) (x_pending := x_pending) (fc := fc + 1) rfl (by omega) hm hwi
  obtain ⟨b0, b1, b2⟩ := free
  obtain ⟨b, hb1, hb2⟩ := pk_least (fun b => ¬ mk (24 + b) = 1) ⟨b0, fun z => b2 ((mi _ (by omega)).mp z)⟩
  have bl : b < 128 := by
    rcases Nat.lt_or_ge b0 b with q | q
    · exact absurd ((mi (24 + b0) (by omega)).mp (Classical.byContradiction fun z => hb2 b0 q z)) b2
    · omega
  refine ⟨mk, td, t, b, bl, fun z => hb1 ((mi _ (by omega)).mpr z), fun post q => ?_⟩
  have s1 : ¬ nI st = 200 := fun y => by have := (nI_eq (b := 200) (by omega) (by decide)).mp y; omega
  have w1 : ¬ nI w = 12 := fun y => by have := (nI_eq (b := 12) (by omega) (by decide)).mp y; omega
  have bcl : (nI b).toNatClampNeg = b := nI_clamp (by omega)
  have fcl : (nI fc).toNatClampNeg = fc := nI_clamp (by omega)
  have vf : vp_in (nI fc) 384 := vp_in_nI hfc (by decide)
  have l58 : ∃ n58 : Nat, wX_beginActivation_58 post r (nI b) x_classCount x_bodyCount x_draftCount x_wrongPlace x_madeCount (nI (fc + 1)) x_current x_next x_inHand x_mode x_outcome (nI (st + 1)) (nI w) x_mostAtWork x_saidCount (nI t) n58 0 x_classParent x_classFields x_bound x_tokenKind x_tokenValue x_globals x_thingShown x_thingClass x_thingFields x_thingToken x_thingMaker x_variables x_homeOf x_within x_foundIn x_baseFrame x_frameToken x_frameStage x_frameLink x_operands x_saidValues mk td := by
    refine loop_0 (fun n i f => wX_beginActivation_58 post r (nI b) x_classCount x_bodyCount x_draftCount x_wrongPlace x_madeCount (nI (fc + 1)) x_current x_next x_inHand x_mode x_outcome (nI (st + 1)) (nI w) x_mostAtWork x_saidCount (nI t) n (nI i) x_classParent x_classFields x_bound x_tokenKind x_tokenValue x_globals x_thingShown x_thingClass x_thingFields x_thingToken x_thingMaker f x_homeOf x_within x_foundIn x_baseFrame x_frameToken x_frameStage x_frameLink x_operands x_saidValues mk td) (fun i f => f = mk_c x_variables (b * 7) i 10000000000) 7 x_variables (mk_c0 _ _ _).symm ?_ ?_
    · intro n f I
      subst I
      refine br_t (by decide) (nm_r (nI_pred fc) (xw_clear hfc ?_))
      dsimp only
      rw [fcl, bcl]
      refine ⟨vf, nm_e ⟨vf, nm_e ⟨vf, nm_e ⟨vp_in_nI bl (by decide), nm_e (nm_r (nI_1 w) ?_)⟩⟩⟩⟩
      by_cases z : nI (w + 1) ≤ x_mostAtWork
      · rw [bg_t z] at q
        exact br_t z q
      · rw [bg_f z] at q
        exact br_f z q
    · intro n i f hi I k
      subst I
      have e : nI b * (7 : Int32) + nI i = nI (b * 7 + i) := ix_r 7 b i
      refine br_f (nI_ge (b := 7) hi (by decide)) ⟨by rw [e]; exact vp_in_nI (by omega) (by decide), ?_⟩
      rw [e, nI_clamp (show b * 7 + i < 2 ^ 31 by omega)]
      exact nm_r (mk_cs _ _ _ _) (nm_r (nI_1 i) (k _ rfl))
  unfold wpX_beginActivation wpX_takeStep
  refine br_f s1 (nm_r (nI_1 st) (br_f (by decide) (br_f w1 (hM _ ⟨129, ?_⟩))))
  have key : ∀ e i f, i + e = b → e < f → wX_beginActivation_32 post r x_classCount x_bodyCount x_draftCount x_wrongPlace x_madeCount (nI (fc + 1)) x_current x_next x_inHand x_mode x_outcome (nI (st + 1)) (nI w) x_mostAtWork x_saidCount (nI t) x_classParent x_classFields x_bound x_tokenKind x_tokenValue x_globals x_thingShown x_thingClass x_thingFields x_thingToken x_thingMaker x_variables x_homeOf x_within x_foundIn x_baseFrame x_frameToken x_frameStage x_frameLink x_operands x_saidValues mk td f (nI i) := by
    intro e
    induction e with
    | zero =>
      intro i f he hf
      obtain ⟨f', rfl⟩ : ∃ f', f = f' + 1 := ⟨f - 1, by omega⟩
      obtain rfl : i = b := by omega
      refine br_c (fun _ => l58) (fun _ => ?_)
      rw [gx_24, nI_clamp (show 24 + i < 2 ^ 31 by omega)]
      exact ⟨vp_in_nI (by omega) (by decide), br_t ((mb _ (by omega)).resolve_right hb1) l58⟩
    | succ e ih =>
      intro i f he hf
      obtain ⟨f', rfl⟩ : ∃ f', f = f' + 1 := ⟨f - 1, by omega⟩
      refine br_f (nI_ge (b := 127) (by omega) (by decide)) ?_
      rw [gx_24, nI_clamp (show 24 + i < 2 ^ 31 by omega)]
      refine ⟨vp_in_nI (by omega) (by decide), br_f ?_ (nm_r (nI_1 i) (ih (i + 1) f' (by omega) (by omega)))⟩
      rw [Classical.byContradiction fun z => hb2 i (by omega) z]
      decide
  exact key b 0 129 (by omega) (by omega)
theorem yd_begin0 {w st : Nat} (r : Int32) (hs : st ≤ 200) (hw : w ≤ 12) (h : st = 200 ∨ w = 12) : ∃ (st' : Nat) (o : Int32), ((st = 200 ∧ st' = 200 ∧ o = 4) ∨ (st ≠ 200 ∧ w = 12 ∧ st' = st + 1 ∧ o = 5)) ∧ ∀ post : Int32 → SY → Prop, post (-1) (y_classes, y_bodies, y_fault, y_made, nI w, y_peak, nI st', y_depth, y_waiting, o, 0, y_has, y_got, y_todos, y_marks, y_shown, y_spoken, y_parent, y_fields, y_bound, y_kind, y_word, y_size, y_sort, y_number, y_stands, y_keeps, y_cells, y_globals, y_within, y_foundIn, y_self, y_args, y_temps, y_param, y_live, y_work, y_under, y_at, y_in, y_phase, y_base, y_goal, y_operands, y_marked, y_todo, y_heard) → wpY_begin post (y_classes, y_bodies, y_fault, y_made, nI w, y_peak, nI st, y_depth, y_waiting, y_code, 1, y_has, y_got, y_todos, y_marks, y_shown, y_spoken, y_parent, y_fields, y_bound, y_kind, y_word, y_size, y_sort, y_number, y_stands, y_keeps, y_cells, y_globals, y_within, y_foundIn, y_self, y_args, y_temps, y_param, y_live, y_work, y_under, y_at, y_in, y_phase, y_base, y_goal, y_operands, y_marked, y_todo, y_heard) r := by
  by_cases z : st = 200
  · subst z
    refine ⟨200, 4, Or.inl ⟨rfl, rfl, rfl⟩, fun post q => ?_⟩
    unfold wpY_begin wpY_step
    exact br_t rfl ⟨rfl, br_t rfl q⟩
  · have s1 : ¬ nI st = 200 := fun y => z ((nI_eq (b := 200) (by omega) (by decide)).mp y)
    have w2 : w = 12 := h.resolve_left z
    subst w2
    refine ⟨st + 1, 5, Or.inr ⟨z, rfl, rfl, rfl⟩, fun post q => ?_⟩
    unfold wpY_begin wpY_step
    exact br_f s1 (nm_r (nI_1 st) ⟨rfl, br_f (by decide) (br_t rfl q)⟩)
theorem yd_begin {w st wt : Nat} (r : Int32) (hs : st < 200) (hw : w < 12) (hwt : y_waiting = nI wt) (hwl : wt ≤ 500) (hgl : ∀ k, k < 4 → vv_V (y_globals k)) (hop : ∀ k, k < wt → vv_V (y_operands k)) (hwo : ∀ k, k < w → ∃ a, a < 160 ∧ y_work k = nI a) (Y : hp_Y y_cells y_self y_args y_temps y_param y_keeps y_within) (free : ∃ a, a < 160 ∧ ¬ cl_r (gy_R y_globals y_operands wt y_work w) (gy_E y_sort y_keeps y_cells y_within y_self y_args y_temps y_param) (32 + a)) :
    ∃ mk td a, a < 160 ∧ ¬ cl_r (gy_R y_globals y_operands wt y_work w) (gy_E y_sort y_keeps y_cells y_within y_self y_args y_temps y_param) (32 + a) ∧ ∀ post : Int32 → SY → Prop, post (nI a) (y_classes, y_bodies, y_fault, y_made, nI (w + 1), bg_mx y_peak w, nI (st + 1), y_depth, y_waiting, y_code, 1, y_has, y_got, nI 0, nI (ct_n (fun k => mk k = 1) 32), y_shown, y_spoken, y_parent, y_fields, y_bound, y_kind, y_word, y_size, y_sort, y_number, y_stands, y_keeps, y_cells, y_globals, upd y_within a r, y_foundIn, y_self, y_args, mk_c y_temps (3 * a) 3 4294967296, vp_updL y_param a 4294967296, upd y_live a 1, upd y_work w (nI a), upd y_under w y_depth, y_at, y_in, y_phase, y_base, y_goal, y_operands, mk, td, y_heard) → wpY_begin post (y_classes, y_bodies, y_fault, y_made, nI w, y_peak, nI st, y_depth, y_waiting, y_code, 1, y_has, y_got, y_todos, y_marks, y_shown, y_spoken, y_parent, y_fields, y_bound, y_kind, y_word, y_size, y_sort, y_number, y_stands, y_keeps, y_cells, y_globals, y_within, y_foundIn, y_self, y_args, y_temps, y_param, y_live, y_work, y_under, y_at, y_in, y_phase, y_base, y_goal, y_operands, y_marked, y_todo, y_heard) r := by
  obtain ⟨mk, td, mb, mi, hM⟩ := yd_mark (y_classes := y_classes) (y_bodies := y_bodies) (y_fault := y_fault) (y_made := y_made) (y_working := nI w) (y_peak := y_peak) (y_steps := nI (st + 1)) (y_depth := y_depth) (y_waiting := y_waiting) (y_code := y_code) (y_running := 1) (y_has := y_has) (y_got := y_got) (y_todos := y_todos) (y_marks := y_marks) (y_shown := y_shown) (y_spoken := y_spoken) (y_parent := y_parent) (y_fields := y_fields) (y_bound := y_bound) (y_kind := y_kind) (y_word := y_word) (y_size := y_size) (y_sort := y_sort) (y_number := y_number) (y_stands := y_stands) (y_keeps := y_keeps) (y_cells := y_cells) (y_globals := y_globals) (y_within := y_within) (y_foundIn := y_foundIn) (y_self := y_self) (y_args := y_args) (y_temps := y_temps) (y_param := y_param) (y_live := y_live) (y_work := y_work) (y_under := y_under) (y_at := y_at) (y_in := y_in) (y_phase := y_phase) (y_base := y_base) (y_goal := y_goal) (y_operands := y_operands) (y_marked := y_marked) (y_todo := y_todo) (y_heard := y_heard) (wt := wt) (wk := w) hwt hwl rfl (by omega) hgl hop hwo Y
  obtain ⟨b0, b1, b2⟩ := free
  obtain ⟨b, hb1, hb2⟩ := pk_least (fun b => ¬ mk (32 + b) = 1) ⟨b0, fun z => b2 ((mi _ (by omega)).mp z)⟩
  have bl : b < 160 := by
    rcases Nat.lt_or_ge b0 b with q | q
    · exact absurd ((mi (32 + b0) (by omega)).mp (Classical.byContradiction fun z => hb2 b0 q z)) b2
    · omega
  refine ⟨mk, td, b, bl, fun z => hb1 ((mi _ (by omega)).mpr z), fun post q => ?_⟩
  have s1 : ¬ nI st = 200 := fun y => by have := (nI_eq (b := 200) (by omega) (by decide)).mp y; omega
  have w1 : ¬ nI w = 12 := fun y => by have := (nI_eq (b := 12) (by omega) (by decide)).mp y; omega
  have bcl : (nI b).toNatClampNeg = b := nI_clamp (by omega)
  have wcl : (nI w).toNatClampNeg = w := nI_clamp (by omega)
  have vb : vp_in (nI b) 160 := vp_in_nI bl (by decide)
  have vw : vp_in (nI w) 12 := vp_in_nI hw (by decide)
  have l123 : ∀ pk : Int32, pk = bg_mx y_peak w → ∃ n, wY_begin_123 post (nI b) y_classes y_bodies y_fault y_made (nI (w + 1)) pk (nI (st + 1)) y_depth y_waiting y_code 1 y_has y_got (nI 0) (nI (ct_n (fun k => mk k = 1) 32)) y_shown y_spoken n 0 y_parent y_fields y_bound y_kind y_word y_size y_sort y_number y_stands y_keeps y_cells y_globals (upd y_within b r) y_foundIn y_self y_args y_temps (vp_updL y_param b 4294967296) (upd y_live b 1) (upd y_work w (nI b)) (upd y_under w y_depth) y_at y_in y_phase y_base y_goal y_operands mk td y_heard := fun pk epk => by
    subst epk
    refine loop_0 (fun n i f => wY_begin_123 post (nI b) y_classes y_bodies y_fault y_made (nI (w + 1)) (bg_mx y_peak w) (nI (st + 1)) y_depth y_waiting y_code 1 y_has y_got (nI 0) (nI (ct_n (fun k => mk k = 1) 32)) y_shown y_spoken n (nI i) y_parent y_fields y_bound y_kind y_word y_size y_sort y_number y_stands y_keeps y_cells y_globals (upd y_within b r) y_foundIn y_self y_args f (vp_updL y_param b 4294967296) (upd y_live b 1) (upd y_work w (nI b)) (upd y_under w y_depth) y_at y_in y_phase y_base y_goal y_operands mk td y_heard) (fun i f => f = mk_c y_temps (3 * b) i 4294967296) 3 y_temps (mk_c0 _ _ _).symm ?_ ?_
    · intro n f I
      subst I
      exact br_t (by decide) q
    · intro n i f hi I k
      subst I
      have e : (3 : Int32) * nI b + nI i = nI (3 * b + i) := ix_l 3 b i
      refine br_f (nI_ge (b := 3) hi (by decide)) ⟨by rw [e]; exact vp_in_nI (by omega) (by decide), ?_⟩
      rw [e, nI_clamp (show 3 * b + i < 2 ^ 31 by omega)]
      exact nm_r (mk_cs _ _ _ _) (nm_r (nI_1 i) (k _ rfl))
  unfold wpY_begin wpY_step
  refine br_f s1 (nm_r (nI_1 st) ⟨rfl, br_f (by decide) (br_f w1 (hM _ ⟨161, ?_⟩))⟩)
  have key : ∀ e i f, i + e = b → e < f → wY_begin_31 post r y_classes y_bodies y_fault y_made (nI w) y_peak (nI (st + 1)) y_depth y_waiting y_code 1 y_has y_got (nI 0) (nI (ct_n (fun k => mk k = 1) 32)) y_shown y_spoken y_parent y_fields y_bound y_kind y_word y_size y_sort y_number y_stands y_keeps y_cells y_globals y_within y_foundIn y_self y_args y_temps y_param y_live y_work y_under y_at y_in y_phase y_base y_goal y_operands mk td y_heard f (nI i) := by
    intro e
    induction e with
    | zero =>
      intro i f he hf
      obtain ⟨f', rfl⟩ : ∃ f', f = f' + 1 := ⟨f - 1, by omega⟩
      obtain rfl : i = b := by omega
      unfold wY_begin_31
      rw [gy_32, nI_clamp (show 32 + i < 2 ^ 31 by omega), bcl, wcl, show vp_nar .boolean 1 = 1 by rfl]
      refine ⟨vp_in_nI (by omega) (by decide), br_t ((mb _ (by omega)).resolve_right hb1) ⟨vb, nm_e ⟨vb, nm_e ⟨vw, nm_e (nm_r (nI_1 w) ⟨vw, nm_e ?_⟩)⟩⟩⟩⟩
      by_cases z : nI (w + 1) ≤ y_peak
      · exact br_t z ⟨vb, nm_e (l123 _ (bg_t z).symm)⟩
      · exact br_f z ⟨vb, nm_e (l123 _ (bg_f z).symm)⟩
    | succ e ih =>
      intro i f he hf
      obtain ⟨f', rfl⟩ : ∃ f', f = f' + 1 := ⟨f - 1, by omega⟩
      unfold wY_begin_31
      rw [gy_32, nI_clamp (show 32 + i < 2 ^ 31 by omega)]
      refine ⟨vp_in_nI (by omega) (by decide), br_f ?_ (nm_r (nI_1 i) (ih (i + 1) f' (by omega) (by omega)))⟩
      rw [Classical.byContradiction fun z => hb2 i (by omega) z]
      decide
  exact key b 0 161 (by omega) (by omega)
end
end
section
/-! another activation in the heap -/
section
variable {x_classCount x_bodyCount x_draftCount x_wrongPlace x_madeCount x_frameCount x_current x_next x_mode x_outcome x_stepCount x_atWork x_mostAtWork x_saidCount x_pendingCount : Int32} {x_inHand : Int64} {x_classParent x_classFields x_bound x_tokenKind x_tokenValue x_thingClass x_thingToken x_thingMaker x_homeOf x_within x_foundIn x_baseFrame x_frameToken x_frameStage x_frameLink x_marked x_pending : Nat → Int32} {x_globals x_thingShown x_thingFields x_variables x_operands x_saidValues : Nat → Int64}
variable {y_classes y_bodies y_fault y_made y_working y_peak y_steps y_depth y_waiting y_code y_running y_has y_todos y_marks y_spoken : Int32} {y_got y_shown : Int64} {y_parent y_fields y_bound y_kind y_word y_size y_sort y_number y_stands y_keeps y_within y_foundIn y_live y_work y_under y_at y_in y_phase y_base y_goal y_marked y_todo : Nat → Int32} {y_cells y_globals y_self y_args y_temps y_param y_operands y_heard : Nat → Int64}
variable {cc bc dc mc st sp d w np md B M : Nat} {T ST SA : Nat → Prop} {lv τ σ lev ho fa ph bs ow gg wk un rt : Nat → Nat}
theorem hp_act {a b lv0 ho0 : Nat} {xva' : Nat → Int64} {xho' xwi' xfi' wi' fi' : Nat → Int32} {se' ar' te' pa' : Nat → Int64} (H : hp_R cc mc T y_kind lv ST SA τ σ lev ho x_thingShown x_thingClass x_thingFields x_thingToken x_thingMaker x_variables x_homeOf x_within x_foundIn y_sort y_number y_stands y_keeps y_cells y_within y_foundIn y_self y_args y_temps y_param) (ha : ¬ SA a) (hb : ∀ c, SA c → σ c ≠ b)
    (ex : ∀ c, c ≠ b → xho' c = x_homeOf c ∧ xwi' c = x_within c ∧ xfi' c = x_foundIn c ∧ ∀ j, j < 7 → xva' (c * 7 + j) = x_variables (c * 7 + j))
    (ey : ∀ c, c ≠ a → wi' c = y_within c ∧ fi' c = y_foundIn c ∧ se' c = y_self c ∧ pa' c = y_param c ∧ (∀ j, j < 2 → ar' (2 * c + j) = y_args (2 * c + j)) ∧ (∀ j, j < 3 → te' (3 * c + j) = y_temps (3 * c + j)))
    (hn : hp_A cc ST (fun c => SA c ∨ c = a) (nu σ a b) (nu lev a lv0) (nu ho a ho0) y_sort y_number xva' xho' xwi' xfi' wi' fi' se' ar' te' pa' a) :
    hp_R cc mc T y_kind lv ST (fun c => SA c ∨ c = a) τ (nu σ a b) (nu lev a lv0) (nu ho a ho0) x_thingShown x_thingClass x_thingFields x_thingToken x_thingMaker xva' xho' xwi' xfi' y_sort y_number y_stands y_keeps y_cells wi' fi' se' ar' te' pa' := by
  have ne : ∀ c, SA c → c ≠ a := fun c h e => ha (e ▸ h)
  refine ⟨fun k sk => ?_, fun c h => ?_, fun c e h1 h2 eq => ?_, H.2.2.2⟩
  · obtain ⟨k1, k2, k3, k4, k5, k6, k7, k8⟩ := H.1 k sk
    refine ⟨k1, k2, k3, k4, k5, k6, fun s3 => ?_, k8⟩
    obtain ⟨p, c, p1, p2, p3, p4, p5, p6, p7, p8, p9⟩ := k7 s3
    exact ⟨p, c, p1, p2, p3, p4, p5, Or.inl p6, by rw [nu_n (ne c p6)]; exact p7, by rw [nu_n (ne c p6)]; exact p8, p9⟩
  · by_cases z : c = a
    · subst z; exact hn
    · have h := h.resolve_right z
      obtain ⟨k1, k2, k3, k4, k5, k6, k7⟩ := H.2.1 c h
      obtain ⟨y1, y2, y3, y4, y5, y6⟩ := ey c z
      obtain ⟨x1, x2, x3, x4⟩ := ex (σ c) (hb c h)
      have yh := ey (ho c) (ne _ k4)
      have x0 : xva' (σ c * 7) = x_variables (σ c * 7) := x4 0 (by omega)
      unfold hp_A
      rw [nu_n z, nu_n z, nu_n z, nu_n (ne _ k4), x1, x2, x3, y1, y2, y3, y4, yh.1]
      refine ⟨k1, k2, k3, Or.inl k4, k5, k6, ?_⟩
      rcases k7 with ⟨w1, a2, a3, a4, a5, v0, v1, v2, v3⟩ | ⟨e, w1, se1, b2, b3, b4, b5, b6⟩
      · refine Or.inl ⟨w1, a2, a3, a4, a5, by rw [x0]; exact v0, fun j hj => ?_, fun j hj => ?_, by rw [x4 6 (by omega)]; exact v3⟩
        · have := x4 (1 + j) (by omega)
          rw [← Nat.add_assoc] at this
          rw [this, y5 j hj]; exact v1 j hj
        · have := x4 (3 + j) (by omega)
          rw [← Nat.add_assoc] at this
          rw [this, y6 j hj]; exact v2 j hj
      · refine Or.inr ⟨e, w1, Or.inl se1, by rw [nu_n (ne e se1)]; exact b2, by rw [nu_n (ne e se1)]; exact b3, by rw [nu_n (ne e se1)]; exact b4, by rw [x4 6 (by omega)]; exact b5, fun j hj => by rw [x4 j (by omega)]; exact b6 j hj⟩
  · by_cases z1 : c = a
    · by_cases z2 : e = a
      · rw [z1, z2]
      · rw [z1, nu_s, nu_n z2] at eq
        exact absurd eq.symm (hb e (h2.resolve_right z2))
    · by_cases z2 : e = a
      · rw [z2, nu_s, nu_n z1] at eq
        exact absurd eq (hb c (h1.resolve_right z1))
      · rw [nu_n z1, nu_n z2] at eq
        exact H.2.2.1 c e (h1.resolve_right z1) (h2.resolve_right z2) eq
/-- the stack with another activation on it -/
theorem rn_act {p a b r lv0 ho0 : Nat} {xtk' xsg' xlk' xbf' aph' awo' aun' yli' : Nat → Int32} {xop' se' : Nat → Int64} {ST' : Nat → Prop} (A : rn_A cc bc dc mc T ST SA lv τ σ lev ho x_tokenKind x_tokenValue y_kind y_word y_size y_parent y_fields y_bound x_globals y_globals x_thingShown x_thingClass x_thingFields x_thingToken x_thingMaker x_variables x_homeOf x_within x_foundIn y_sort y_number y_stands y_keeps y_cells y_within y_foundIn y_self y_args y_temps y_param) (F : rn_F T ST SA lv σ lev ho y_kind y_word fa ph bs ow gg wk un rt (p + 1) w y_sort y_number x_frameToken x_frameStage x_frameLink x_operands x_baseFrame y_operands y_self y_at y_in y_phase y_base y_goal y_work y_under y_live) (hp : ph p ≠ 100) (hk : y_kind (fa p) = 10 ∨ y_kind (fa p) = 11 ∨ y_kind (fa p) = 14 ∨ y_kind (fa p) = 15) (hw : w < 12) (tr : T r)
    {SA1 : Nat → Prop} (hS1 : ∀ i, i < w → SA1 (wk i)) (hSA : ∀ c, SA1 c → SA c) (hho : ∀ i, i < w → SA1 (ho (wk i))) (ha : ¬ SA1 a) (hb : ∀ c, SA1 c → σ c ≠ b) (a160 : a < 160) (b128 : b < 128) (hlv : lv0 = lv r)
    (conv : ∀ x y, (∃ j, j < bs p ∧ y = y_operands j) ∨ (∃ i, i < w ∧ y = y_self (ho (wk i))) → hp_v ST (hp_s y_sort y_number) x y → hp_v ST' (hp_s y_sort y_number) x y) (hse : ∀ c, c ≠ a → se' c = y_self c)
    (xrow : xtk' (fr_x y_kind fa ph p) = -1 ∧ xsg' (fr_x y_kind fa ph p) = nI (ex_e (tk_nd y_kind y_word) (fa p)) ∧ xlk' (fr_x y_kind fa ph p) = nI (σ (wk (w - 1))) ∧ ∀ i, i < 3 → xop' (fr_x y_kind fa ph p * 3 + i) = 10000000000)
    (xoth : ∀ R, R < fr_x y_kind fa ph p → xtk' R = x_frameToken R ∧ xsg' R = x_frameStage R ∧ xlk' R = x_frameLink R ∧ ∀ i, i < 3 → xop' (R * 3 + i) = x_operands (R * 3 + i)) (hbf : xbf' = upd x_baseFrame b (nI (fr_x y_kind fa ph p)))
    (yph : aph' = upd y_phase p 100) (ywo : awo' = upd y_work w (nI a)) (yun : aun' = upd y_under w (nI (p + 1))) (yl : yli' = upd y_live a 1) :
    rn_F T ST' (fun c => SA1 c ∨ c = a) lv (nu σ a b) (nu lev a lv0) (nu ho a ho0) y_kind y_word fa (nu ph p 100) (nu bs (p + 1) (bs p)) ow gg (nu wk w a) (nu un w (p + 1)) (nu rt w r) (p + 1) (w + 1) y_sort y_number xtk' xsg' xlk' xop' xbf' y_operands se' y_at y_in aph' y_base y_goal awo' aun' yli' := by
  subst hbf yph ywo yun yl
  obtain ⟨f1, eo, f5, _⟩ := rn_top A F hp
  obtain ⟨S, Y, X, W⟩ := F
  have ne : ∀ i, i < w → wk i ≠ a := fun i hi e => ha (e ▸ hS1 i hi)
  have neh : ∀ i, i < w → ho (wk i) ≠ a := fun i hi e => ha (e ▸ hho i hi)
  have xe : ∀ q, q ≤ p → fr_x y_kind fa (nu ph p 100) q = fr_x y_kind fa ph q := fun q hq => fr_xc fun s hs => ⟨rfl, nu_n (by omega)⟩
  have xpos := (fr_xle (K := y_kind) (fa := fa) (ph := ph) p).2
  have unp : ∀ i, i < w → un i ≤ p := fun i hi => by
    cases i with
    | zero => rw [S.2.2.1]; omega
    | succ i =>
      obtain ⟨q, q1, q2, q3, _⟩ := S.2.2.2.2.2.2.2 i hi
      have : q ≠ p := fun z => by subst z; exact hp q3
      omega
  have nt100 : ¬ fr_tail (y_kind (fa p)) 100 := fun z => by rcases z with ⟨_, z⟩ | ⟨_, z⟩ <;> omega
  have w1 := S.1
  refine ⟨fr_beg S hp hk hw tr, ⟨fun q hq => ?_, fun i hi => ?_⟩, ⟨⟨?_, fun i hi => ?_⟩, fun q hq nt => ?_⟩, ⟨fun i hi => ?_, fun i j hi hj e => ?_, fun c hc z => ?_, fun c hc => ?_⟩⟩
  · obtain ⟨y1, y2, y3, y4, y5⟩ := Y.1 q hq
    have oq := (S.2.2.2.2.1 q hq).2.1
    by_cases e : q = p
    · subst e
      rw [pk_us, nu_s, nu_n (show q ≠ q + 1 by omega), nu_n (show ow q ≠ w by omega)]
      exact ⟨y1, y2, rfl, y4, fun _ z => by omega⟩
    · have gq := (S.2.2.2.2.1 q hq).2.2.2.2.2.2
      rw [pk_un e, nu_n e, nu_n (show q ≠ p + 1 by omega), nu_n (show ow q ≠ w by omega)]
      exact ⟨y1, y2, y3, y4, fun z1 z2 => by rw [nu_n (show gg q ≠ w by have := gq z1 z2; omega)]; exact y5 z1 z2⟩
  · by_cases e : i = w
    · subst e; rw [pk_us, pk_us, nu_s, nu_s]; exact ⟨rfl, rfl⟩
    · rw [pk_un e, pk_un e, nu_n e, nu_n e]; exact Y.2 i (by omega)
  · rw [(xoth 0 (by omega)).1]; exact X.1.1
  · have := (xoth 0 (by omega)).2.2.2 i hi
    rw [Nat.zero_mul, Nat.zero_add] at this
    rw [this]; exact X.1.2 i hi
  · have oq := (S.2.2.2.2.1 q hq).2.1
    by_cases e : q = p
    · subst e
      rw [xe q (Nat.le_refl _)]
      unfold fr_XF
      rw [nu_s, nu_n (show ow q ≠ w by omega), nu_n (ne _ oq), eo]
      exact ⟨fun _ => xrow, fun z => absurd rfl z⟩
    · rw [nu_n e] at nt
      rw [xe q (by omega)]
      have lx := fr_xlt (K := y_kind) (fa := fa) (ph := ph) (d := p) (show q < p by omega) nt
      obtain ⟨a1, a2, a3, a4⟩ := xoth _ lx
      have gq := (S.2.2.2.2.1 q hq).2.2.2.2.2.2
      have hbs := fr_bsm S (q := q) (p := p) (by omega) (by omega)
      refine fr_XFc (X.2 q hq nt) ⟨rfl, rfl⟩ ⟨rfl, nu_n e, nu_n (by omega)⟩ ⟨by rw [nu_n (show ow q ≠ w by omega), nu_n (ne _ oq)], fun z1 z2 => by rw [nu_n (show gg q ≠ w by have := gq z1 z2; omega), nu_n (ne _ (by have := gq z1 z2; omega))]⟩ ⟨a1, a2, a3, a4⟩ (fun x j j1 j2 h => conv _ _ (Or.inl ⟨j, by omega, rfl⟩) h) (fun x h => ?_)
      rw [nu_n (show ow q ≠ w by omega), nu_n (ne _ oq), hse _ (neh _ oq)]
      exact conv _ _ (Or.inr ⟨ow q, oq, rfl⟩) h
  · by_cases e : i = w
    · subst e
      rw [nu_s, nu_s, nu_s, nu_s, nu_s, pk_us]
      refine ⟨Or.inr rfl, hlv, ?_⟩
      have : fr_x y_kind fa (nu ph p 100) (p + 1) = fr_x y_kind fa ph p + 1 := by
        show fr_x y_kind fa (nu ph p 100) p + ct_b _ = _
        rw [xe p (Nat.le_refl _), nu_s, ct_bt nt100]
      rw [this]; rfl
    · have hi' : i < w := by omega
      obtain ⟨s1, s2, s3⟩ := W.1 i hi'
      rw [nu_n e, nu_n e, nu_n e, nu_n (ne i hi'), nu_n (ne i hi'), pk_un (hb _ (hS1 i hi')), xe _ (unp i hi')]
      exact ⟨Or.inl (hS1 i hi'), s2, s3⟩
  · by_cases e1 : i = w
    · by_cases e2 : j = w
      · omega
      · rw [e1, nu_s, nu_n e2] at e
        exact absurd e.symm (ne j (by omega))
    · by_cases e2 : j = w
      · rw [e2, nu_s, nu_n e1] at e
        exact absurd e (ne i (by omega))
      · rw [nu_n e1, nu_n e2] at e
        exact W.2.1 i j (by omega) (by omega) e
  · by_cases e : c = b
    · subst e; exact ⟨w, by omega, by rw [nu_s, nu_s]⟩
    · rw [pk_un e] at z
      obtain ⟨i, i1, i2⟩ := W.2.2.1 c hc z
      exact ⟨i, by omega, by rw [nu_n (show i ≠ w by omega), nu_n (ne i i1)]; exact i2⟩
  · obtain ⟨l1, l2⟩ := W.2.2.2 c hc
    by_cases e : c = a
    · subst e
      rw [pk_us]
      exact ⟨Or.inr rfl, fun _ => ⟨w, by omega, nu_s⟩, fun _ => rfl⟩
    · rw [pk_un e]
      refine ⟨l1, fun z => ?_, fun ⟨i, i1, i2⟩ => ?_⟩
      · obtain ⟨i, i1, i2⟩ := l2.mp z
        exact ⟨i, by omega, by rw [nu_n (show i ≠ w by omega)]; exact i2⟩
      · by_cases q : i = w
        · subst q; rw [nu_s] at i2; exact absurd i2.symm e
        · rw [nu_n q] at i2; exact l2.mpr ⟨i, by omega, i2⟩
end
end
section
/-! which BODY a message comes to -/
section
variable {x_classCount x_bodyCount x_draftCount x_wrongPlace x_madeCount x_frameCount x_current x_next x_mode x_outcome x_stepCount x_atWork x_mostAtWork x_saidCount x_pendingCount : Int32} {x_inHand : Int64} {x_classParent x_classFields x_bound x_tokenKind x_tokenValue x_thingClass x_thingToken x_thingMaker x_homeOf x_within x_foundIn x_baseFrame x_frameToken x_frameStage x_frameLink x_marked x_pending : Nat → Int32} {x_globals x_thingShown x_thingFields x_variables x_operands x_saidValues : Nat → Int64}
variable {y_classes y_bodies y_fault y_made y_working y_peak y_steps y_depth y_waiting y_code y_running y_has y_todos y_marks y_spoken : Int32} {y_got y_shown : Int64} {y_parent y_fields y_bound y_kind y_word y_size y_sort y_number y_stands y_keeps y_within y_foundIn y_live y_work y_under y_at y_in y_phase y_base y_goal y_marked y_todo : Nat → Int32} {y_cells y_globals y_self y_args y_temps y_param y_operands y_heard : Nat → Int64}
variable {cc bc dc mc st sp d w np md B M : Nat} {T ST SA : Nat → Prop} {lv τ σ lev ho fa ph bs ow gg wk un rt : Nat → Nat}
theorem xv_none {post : Int32 → Prop} {s : Nat} (h : post (-1)) : wpX_classThatHas post (x_classCount, x_bodyCount, x_draftCount, x_wrongPlace, x_madeCount, x_frameCount, x_current, x_next, x_inHand, x_mode, x_outcome, x_stepCount, x_atWork, x_mostAtWork, x_saidCount, x_pendingCount, x_classParent, x_classFields, x_bound, x_tokenKind, x_tokenValue, x_globals, x_thingShown, x_thingClass, x_thingFields, x_thingToken, x_thingMaker, x_variables, x_homeOf, x_within, x_foundIn, x_baseFrame, x_frameToken, x_frameStage, x_frameLink, x_operands, x_saidValues, x_marked, x_pending) (-1) (nI s) := ⟨1, br_f (by decide) (br_t rfl h)⟩
theorem msg_find (U : hp_U mc x_thingShown) (H : hp_R cc mc T y_kind lv ST SA τ σ lev ho x_thingShown x_thingClass x_thingFields x_thingToken x_thingMaker x_variables x_homeOf x_within x_foundIn y_sort y_number y_stands y_keeps y_cells y_within y_foundIn y_self y_args y_temps y_param) (C : rl_C cc y_parent y_fields) (Bd : rl_B bc y_bound) {fc s : Nat} (hf : fc < 384) (hs : s < 12) {l : Int32} (hl : l = -1 ∨ ∃ c, c < cc ∧ l = nI c) {yr ya yb : Int64} (hr : hp_v ST (hp_s y_sort y_number) (x_operands (fc * 3)) yr) (ha : hp_v ST (hp_s y_sort y_number) (x_operands (fc * 3 + 1)) ya) (hb : hp_v ST (hp_s y_sort y_number) (x_operands (fc * 3 + 2)) yb) (hna : s < 4 → ya = 4294967296) :
    ((∀ post : SX → Prop, post (x_classCount, x_bodyCount, x_draftCount, x_wrongPlace, x_madeCount, nI (fc + 1), x_current, x_next, x_inHand, x_mode, 1, x_stepCount, x_atWork, x_mostAtWork, x_saidCount, x_pendingCount, y_parent, x_classFields, y_bound, x_tokenKind, x_tokenValue, x_globals, x_thingShown, x_thingClass, x_thingFields, x_thingToken, x_thingMaker, x_variables, x_homeOf, x_within, x_foundIn, x_baseFrame, x_frameToken, x_frameStage, x_frameLink, x_operands, x_saidValues, x_marked, x_pending) → wpX_sendMessage post (x_classCount, x_bodyCount, x_draftCount, x_wrongPlace, x_madeCount, nI (fc + 1), x_current, x_next, x_inHand, x_mode, x_outcome, x_stepCount, x_atWork, x_mostAtWork, x_saidCount, x_pendingCount, y_parent, x_classFields, y_bound, x_tokenKind, x_tokenValue, x_globals, x_thingShown, x_thingClass, x_thingFields, x_thingToken, x_thingMaker, x_variables, x_homeOf, x_within, x_foundIn, x_baseFrame, x_frameToken, x_frameStage, x_frameLink, x_operands, x_saidValues, x_marked, x_pending) (nI s) l) ∧ (∀ Q : SY → Prop, Q (y_classes, y_bodies, y_fault, y_made, y_working, y_peak, y_steps, y_depth, y_waiting, 1, 0, y_has, y_got, y_todos, y_marks, y_shown, y_spoken, y_parent, y_fields, y_bound, y_kind, y_word, y_size, y_sort, y_number, y_stands, y_keeps, y_cells, y_globals, y_within, y_foundIn, y_self, y_args, y_temps, y_param, y_live, y_work, y_under, y_at, y_in, y_phase, y_base, y_goal, y_operands, y_marked, y_todo, y_heard) → wpY_message Q (y_classes, y_bodies, y_fault, y_made, y_working, y_peak, y_steps, y_depth, y_waiting, y_code, y_running, y_has, y_got, y_todos, y_marks, y_shown, y_spoken, y_parent, y_fields, y_bound, y_kind, y_word, y_size, y_sort, y_number, y_stands, y_keeps, y_cells, y_globals, y_within, y_foundIn, y_self, y_args, y_temps, y_param, y_live, y_work, y_under, y_at, y_in, y_phase, y_base, y_goal, y_operands, y_marked, y_todo, y_heard) yr l (nI s) ya yb)) ∨
    (∃ c b s' xa xb ya' yb', c < cc ∧ b < bc ∧ s' < 12 ∧ y_bound (c * 12 + s') = nI b ∧ hp_v ST (hp_s y_sort y_number) xa ya' ∧ hp_v ST (hp_s y_sort y_number) xb yb' ∧ (ya' = ya ∨ ∀ k, ¬ vv_T ya' k) ∧ (yb' = yb ∨ yb' = ya) ∧
      (∀ post : SX → Prop, wX_sendMessage_85 post (x_operands (fc * 3)) xa xb (nI s') (nI c) x_classCount x_bodyCount x_draftCount x_wrongPlace x_madeCount (nI (fc + 1)) x_current x_next x_inHand x_mode x_outcome x_stepCount x_atWork x_mostAtWork x_saidCount x_pendingCount y_parent x_classFields y_bound x_tokenKind x_tokenValue x_globals x_thingShown x_thingClass x_thingFields x_thingToken x_thingMaker x_variables x_homeOf x_within x_foundIn x_baseFrame x_frameToken x_frameStage x_frameLink x_operands x_saidValues x_marked x_pending → wpX_sendMessage post (x_classCount, x_bodyCount, x_draftCount, x_wrongPlace, x_madeCount, nI (fc + 1), x_current, x_next, x_inHand, x_mode, x_outcome, x_stepCount, x_atWork, x_mostAtWork, x_saidCount, x_pendingCount, y_parent, x_classFields, y_bound, x_tokenKind, x_tokenValue, x_globals, x_thingShown, x_thingClass, x_thingFields, x_thingToken, x_thingMaker, x_variables, x_homeOf, x_within, x_foundIn, x_baseFrame, x_frameToken, x_frameStage, x_frameLink, x_operands, x_saidValues, x_marked, x_pending) (nI s) l) ∧
      (∀ Q : SY → Prop, wY_message_118 Q yr (nI c) ya' yb' (nI b) y_classes y_bodies y_fault y_made y_working y_peak y_steps y_depth y_waiting y_code y_running y_has y_got y_todos y_marks y_shown y_spoken y_parent y_fields y_bound y_kind y_word y_size y_sort y_number y_stands y_keeps y_cells y_globals y_within y_foundIn y_self y_args y_temps y_param y_live y_work y_under y_at y_in y_phase y_base y_goal y_operands y_marked y_todo y_heard → wpY_message Q (y_classes, y_bodies, y_fault, y_made, y_working, y_peak, y_steps, y_depth, y_waiting, y_code, y_running, y_has, y_got, y_todos, y_marks, y_shown, y_spoken, y_parent, y_fields, y_bound, y_kind, y_word, y_size, y_sort, y_number, y_stands, y_keeps, y_cells, y_globals, y_within, y_foundIn, y_self, y_args, y_temps, y_param, y_live, y_work, y_under, y_at, y_in, y_phase, y_base, y_goal, y_operands, y_marked, y_todo, y_heard) yr l (nI s) ya yb)) := by
  have c10 := C.2.1
  have b12 := Bd.1
  have e3 : nI fc * (3 : Int32) = nI (fc * 3) := pk_mul fc 3
  have preX : ∀ post : SX → Prop, wpX_classThatHas (fun r => (r = -1 → wpX_classOf (fun r1 => wpX_classThatHas (fun r2 => wX_sendMessage_85 post (x_operands (fc * 3)) (nI s).toInt64 (x_operands (fc * 3 + 1)) 11 r2 x_classCount x_bodyCount x_draftCount x_wrongPlace x_madeCount (nI (fc + 1)) x_current x_next x_inHand x_mode x_outcome x_stepCount x_atWork x_mostAtWork x_saidCount x_pendingCount y_parent x_classFields y_bound x_tokenKind x_tokenValue x_globals x_thingShown x_thingClass x_thingFields x_thingToken x_thingMaker x_variables x_homeOf x_within x_foundIn x_baseFrame x_frameToken x_frameStage x_frameLink x_operands x_saidValues x_marked x_pending) (x_classCount, x_bodyCount, x_draftCount, x_wrongPlace, x_madeCount, nI (fc + 1), x_current, x_next, x_inHand, x_mode, x_outcome, x_stepCount, x_atWork, x_mostAtWork, x_saidCount, x_pendingCount, y_parent, x_classFields, y_bound, x_tokenKind, x_tokenValue, x_globals, x_thingShown, x_thingClass, x_thingFields, x_thingToken, x_thingMaker, x_variables, x_homeOf, x_within, x_foundIn, x_baseFrame, x_frameToken, x_frameStage, x_frameLink, x_operands, x_saidValues, x_marked, x_pending) r1 11) (x_classCount, x_bodyCount, x_draftCount, x_wrongPlace, x_madeCount, nI (fc + 1), x_current, x_next, x_inHand, x_mode, x_outcome, x_stepCount, x_atWork, x_mostAtWork, x_saidCount, x_pendingCount, y_parent, x_classFields, y_bound, x_tokenKind, x_tokenValue, x_globals, x_thingShown, x_thingClass, x_thingFields, x_thingToken, x_thingMaker, x_variables, x_homeOf, x_within, x_foundIn, x_baseFrame, x_frameToken, x_frameStage, x_frameLink, x_operands, x_saidValues, x_marked, x_pending) (x_operands (fc * 3))) ∧ (¬ r = -1 → wX_sendMessage_85 post (x_operands (fc * 3)) (x_operands (fc * 3 + 1)) (x_operands (fc * 3 + 2)) (nI s) r x_classCount x_bodyCount x_draftCount x_wrongPlace x_madeCount (nI (fc + 1)) x_current x_next x_inHand x_mode x_outcome x_stepCount x_atWork x_mostAtWork x_saidCount x_pendingCount y_parent x_classFields y_bound x_tokenKind x_tokenValue x_globals x_thingShown x_thingClass x_thingFields x_thingToken x_thingMaker x_variables x_homeOf x_within x_foundIn x_baseFrame x_frameToken x_frameStage x_frameLink x_operands x_saidValues x_marked x_pending)) (x_classCount, x_bodyCount, x_draftCount, x_wrongPlace, x_madeCount, nI (fc + 1), x_current, x_next, x_inHand, x_mode, x_outcome, x_stepCount, x_atWork, x_mostAtWork, x_saidCount, x_pendingCount, y_parent, x_classFields, y_bound, x_tokenKind, x_tokenValue, x_globals, x_thingShown, x_thingClass, x_thingFields, x_thingToken, x_thingMaker, x_variables, x_homeOf, x_within, x_foundIn, x_baseFrame, x_frameToken, x_frameStage, x_frameLink, x_operands, x_saidValues, x_marked, x_pending) l (nI s) → wpX_sendMessage post (x_classCount, x_bodyCount, x_draftCount, x_wrongPlace, x_madeCount, nI (fc + 1), x_current, x_next, x_inHand, x_mode, x_outcome, x_stepCount, x_atWork, x_mostAtWork, x_saidCount, x_pendingCount, y_parent, x_classFields, y_bound, x_tokenKind, x_tokenValue, x_globals, x_thingShown, x_thingClass, x_thingFields, x_thingToken, x_thingMaker, x_variables, x_homeOf, x_within, x_foundIn, x_baseFrame, x_frameToken, x_frameStage, x_frameLink, x_operands, x_saidValues, x_marked, x_pending) (nI s) l := fun post h => by
    unfold wpX_sendMessage
    dsimp only
    rw [nI_pred, e3]
    refine nm_e ?_
    rw [nI_clamp (show fc * 3 < 2 ^ 31 by omega), nI_1, show nI (fc * 3) + 2 = nI (fc * 3 + 2) from nI_add _ 2, nI_clamp (show fc * 3 + 1 < 2 ^ 31 by omega), nI_clamp (show fc * 3 + 2 < 2 ^ 31 by omega)]
    exact ⟨vp_in_nI (by omega) (by decide), nm_e ⟨vp_in_nI (by omega) (by decide), nm_e ⟨vp_in_nI (by omega) (by decide), nm_e h⟩⟩⟩
  -- looked for, in the class and its parents
  have look : ∀ {z : Nat} (hz : z < 12) (l : Int32), (l = -1 ∨ ∃ c, c < cc ∧ l = nI c) → ∃ r : Int32, (r = -1 ∨ ∃ c' b, c' < cc ∧ r = nI c' ∧ b < bc ∧ y_bound (c' * 12 + z) = nI b) ∧ (∀ post : Int32 → Prop, post r → wpX_classThatHas post (x_classCount, x_bodyCount, x_draftCount, x_wrongPlace, x_madeCount, nI (fc + 1), x_current, x_next, x_inHand, x_mode, x_outcome, x_stepCount, x_atWork, x_mostAtWork, x_saidCount, x_pendingCount, y_parent, x_classFields, y_bound, x_tokenKind, x_tokenValue, x_globals, x_thingShown, x_thingClass, x_thingFields, x_thingToken, x_thingMaker, x_variables, x_homeOf, x_within, x_foundIn, x_baseFrame, x_frameToken, x_frameStage, x_frameLink, x_operands, x_saidValues, x_marked, x_pending) l (nI z)) ∧ (∀ post : Int32 → Prop, post r → ((0 ≤ l → wpY_found post (y_classes, y_bodies, y_fault, y_made, y_working, y_peak, y_steps, y_depth, y_waiting, y_code, y_running, y_has, y_got, y_todos, y_marks, y_shown, y_spoken, y_parent, y_fields, y_bound, y_kind, y_word, y_size, y_sort, y_number, y_stands, y_keeps, y_cells, y_globals, y_within, y_foundIn, y_self, y_args, y_temps, y_param, y_live, y_work, y_under, y_at, y_in, y_phase, y_base, y_goal, y_operands, y_marked, y_todo, y_heard) l (nI z)) ∧ (¬ 0 ≤ l → post (-1)))) := fun {z} hz l hl => by
    rcases hl with rfl | ⟨c, hc, rfl⟩
    · exact ⟨-1, Or.inl rfl, fun post h => xv_none h, fun post h => br_f (by decide) h⟩
    · obtain ⟨r, r1, r2, r3⟩ := xv_found (x_classCount := x_classCount) (x_bodyCount := x_bodyCount) (x_draftCount := x_draftCount) (x_wrongPlace := x_wrongPlace) (x_madeCount := x_madeCount) (x_frameCount := nI (fc + 1)) (x_current := x_current) (x_next := x_next) (x_inHand := x_inHand) (x_mode := x_mode) (x_outcome := x_outcome) (x_stepCount := x_stepCount) (x_atWork := x_atWork) (x_mostAtWork := x_mostAtWork) (x_saidCount := x_saidCount) (x_pendingCount := x_pendingCount) (x_classFields := x_classFields) (x_tokenKind := x_tokenKind) (x_tokenValue := x_tokenValue) (x_globals := x_globals) (x_thingShown := x_thingShown) (x_thingClass := x_thingClass) (x_thingFields := x_thingFields) (x_thingToken := x_thingToken) (x_thingMaker := x_thingMaker) (x_variables := x_variables) (x_homeOf := x_homeOf) (x_within := x_within) (x_foundIn := x_foundIn) (x_baseFrame := x_baseFrame) (x_frameToken := x_frameToken) (x_frameStage := x_frameStage) (x_frameLink := x_frameLink) (x_operands := x_operands) (x_saidValues := x_saidValues) (x_marked := x_marked) (x_pending := x_pending) (y_classes := y_classes) (y_bodies := y_bodies) (y_fault := y_fault) (y_made := y_made) (y_working := y_working) (y_peak := y_peak) (y_steps := y_steps) (y_depth := y_depth) (y_waiting := y_waiting) (y_code := y_code) (y_running := y_running) (y_has := y_has) (y_got := y_got) (y_todos := y_todos) (y_marks := y_marks) (y_shown := y_shown) (y_spoken := y_spoken) (y_parent := y_parent) (y_fields := y_fields) (y_bound := y_bound) (y_kind := y_kind) (y_word := y_word) (y_size := y_size) (y_sort := y_sort) (y_number := y_number) (y_stands := y_stands) (y_keeps := y_keeps) (y_cells := y_cells) (y_globals := y_globals) (y_within := y_within) (y_foundIn := y_foundIn) (y_self := y_self) (y_args := y_args) (y_temps := y_temps) (y_param := y_param) (y_live := y_live) (y_work := y_work) (y_under := y_under) (y_at := y_at) (y_in := y_in) (y_phase := y_phase) (y_base := y_base) (y_goal := y_goal) (y_operands := y_operands) (y_marked := y_marked) (y_todo := y_todo) (y_heard := y_heard) C Bd hz hc
      exact ⟨r, r1, r2, fun post h => br_t (nI_pos' (by omega)) (r3 post h)⟩
  obtain ⟨r, r1, r2, r3⟩ := look hs l hl
  -- the walk of the reference after the first look
  have Y15 : ∀ Q : SY → Prop, wY_message_15 Q yr (nI s) ya yb r y_classes y_bodies y_fault y_made y_working y_peak y_steps y_depth y_waiting y_code y_running y_has y_got y_todos y_marks y_shown y_spoken y_parent y_fields y_bound y_kind y_word y_size y_sort y_number y_stands y_keeps y_cells y_globals y_within y_foundIn y_self y_args y_temps y_param y_live y_work y_under y_at y_in y_phase y_base y_goal y_operands y_marked y_todo y_heard → wpY_message Q (y_classes, y_bodies, y_fault, y_made, y_working, y_peak, y_steps, y_depth, y_waiting, y_code, y_running, y_has, y_got, y_todos, y_marks, y_shown, y_spoken, y_parent, y_fields, y_bound, y_kind, y_word, y_size, y_sort, y_number, y_stands, y_keeps, y_cells, y_globals, y_within, y_foundIn, y_self, y_args, y_temps, y_param, y_live, y_work, y_under, y_at, y_in, y_phase, y_base, y_goal, y_operands, y_marked, y_todo, y_heard) yr l (nI s) ya yb := fun Q h => by
    have := r3 (fun r => wY_message_15 Q yr (nI s) ya yb r y_classes y_bodies y_fault y_made y_working y_peak y_steps y_depth y_waiting y_code y_running y_has y_got y_todos y_marks y_shown y_spoken y_parent y_fields y_bound y_kind y_word y_size y_sort y_number y_stands y_keeps y_cells y_globals y_within y_foundIn y_self y_args y_temps y_param y_live y_work y_under y_at y_in y_phase y_base y_goal y_operands y_marked y_todo y_heard) h
    exact this
  rcases r1 with rfl | ⟨c, b, hc, rfl, hb1, hb2⟩
  · obtain ⟨c1, c1l, cX, cY⟩ := xv_class (x_classCount := x_classCount) (x_bodyCount := x_bodyCount) (x_draftCount := x_draftCount) (x_wrongPlace := x_wrongPlace) (x_madeCount := x_madeCount) (x_frameCount := nI (fc + 1)) (x_current := x_current) (x_next := x_next) (x_inHand := x_inHand) (x_mode := x_mode) (x_outcome := x_outcome) (x_stepCount := x_stepCount) (x_atWork := x_atWork) (x_mostAtWork := x_mostAtWork) (x_saidCount := x_saidCount) (x_pendingCount := x_pendingCount) (x_classParent := y_parent) (x_classFields := x_classFields) (x_bound := y_bound) (x_tokenKind := x_tokenKind) (x_tokenValue := x_tokenValue) (x_globals := x_globals) (x_thingShown := x_thingShown) (x_thingClass := x_thingClass) (x_thingFields := x_thingFields) (x_thingToken := x_thingToken) (x_thingMaker := x_thingMaker) (x_variables := x_variables) (x_homeOf := x_homeOf) (x_within := x_within) (x_foundIn := x_foundIn) (x_baseFrame := x_baseFrame) (x_frameToken := x_frameToken) (x_frameStage := x_frameStage) (x_frameLink := x_frameLink) (x_operands := x_operands) (x_saidValues := x_saidValues) (x_marked := x_marked) (x_pending := x_pending) (y_classes := y_classes) (y_bodies := y_bodies) (y_fault := y_fault) (y_made := y_made) (y_working := y_working) (y_peak := y_peak) (y_steps := y_steps) (y_depth := y_depth) (y_waiting := y_waiting) (y_code := y_code) (y_running := y_running) (y_has := y_has) (y_got := y_got) (y_todos := y_todos) (y_marks := y_marks) (y_shown := y_shown) (y_spoken := y_spoken) (y_parent := y_parent) (y_fields := y_fields) (y_bound := y_bound) (y_kind := y_kind) (y_word := y_word) (y_size := y_size) (y_sort := y_sort) (y_number := y_number) (y_stands := y_stands) (y_keeps := y_keeps) (y_cells := y_cells) (y_globals := y_globals) (y_within := y_within) (y_foundIn := y_foundIn) (y_self := y_self) (y_args := y_args) (y_temps := y_temps) (y_param := y_param) (y_live := y_live) (y_work := y_work) (y_under := y_under) (y_at := y_at) (y_in := y_in) (y_phase := y_phase) (y_base := y_base) (y_goal := y_goal) (y_operands := y_operands) (y_marked := y_marked) (y_todo := y_todo) (y_heard := y_heard) U H C.1 hr
    obtain ⟨q, q1, q2, q3⟩ := xv_found (x_classCount := x_classCount) (x_bodyCount := x_bodyCount) (x_draftCount := x_draftCount) (x_wrongPlace := x_wrongPlace) (x_madeCount := x_madeCount) (x_frameCount := nI (fc + 1)) (x_current := x_current) (x_next := x_next) (x_inHand := x_inHand) (x_mode := x_mode) (x_outcome := x_outcome) (x_stepCount := x_stepCount) (x_atWork := x_atWork) (x_mostAtWork := x_mostAtWork) (x_saidCount := x_saidCount) (x_pendingCount := x_pendingCount) (x_classFields := x_classFields) (x_tokenKind := x_tokenKind) (x_tokenValue := x_tokenValue) (x_globals := x_globals) (x_thingShown := x_thingShown) (x_thingClass := x_thingClass) (x_thingFields := x_thingFields) (x_thingToken := x_thingToken) (x_thingMaker := x_thingMaker) (x_variables := x_variables) (x_homeOf := x_homeOf) (x_within := x_within) (x_foundIn := x_foundIn) (x_baseFrame := x_baseFrame) (x_frameToken := x_frameToken) (x_frameStage := x_frameStage) (x_frameLink := x_frameLink) (x_operands := x_operands) (x_saidValues := x_saidValues) (x_marked := x_marked) (x_pending := x_pending) (y_classes := y_classes) (y_bodies := y_bodies) (y_fault := y_fault) (y_made := y_made) (y_working := y_working) (y_peak := y_peak) (y_steps := y_steps) (y_depth := y_depth) (y_waiting := y_waiting) (y_code := y_code) (y_running := y_running) (y_has := y_has) (y_got := y_got) (y_todos := y_todos) (y_marks := y_marks) (y_shown := y_shown) (y_spoken := y_spoken) (y_parent := y_parent) (y_fields := y_fields) (y_bound := y_bound) (y_kind := y_kind) (y_word := y_word) (y_size := y_size) (y_sort := y_sort) (y_number := y_number) (y_stands := y_stands) (y_keeps := y_keeps) (y_cells := y_cells) (y_globals := y_globals) (y_within := y_within) (y_foundIn := y_foundIn) (y_self := y_self) (y_args := y_args) (y_temps := y_temps) (y_param := y_param) (y_live := y_live) (y_work := y_work) (y_under := y_under) (y_at := y_at) (y_in := y_in) (y_phase := y_phase) (y_base := y_base) (y_goal := y_goal) (y_operands := y_operands) (y_marked := y_marked) (y_todo := y_todo) (y_heard := y_heard) C Bd (show 11 < 12 by omega) c1l
    have vi : hp_v ST (hp_s y_sort y_number) (nI s).toInt64 (lN (nI s).toBitVec.toNat) := hp_vint (nI s)
    have nv : ∀ k, ¬ vv_T (lN (nI s).toBitVec.toNat) k := fun k z => by
      have hl := (nI s).toBitVec.isLt
      have := z.2
      rw [pk_lEQ (by omega) (by have := z.1; omega)] at this
      omega
    have Y47 : ∀ Q : SY → Prop, wY_message_92 Q yr q (lN (nI s).toBitVec.toNat) ya y_classes y_bodies y_fault y_made y_working y_peak y_steps y_depth y_waiting y_code y_running y_has y_got y_todos y_marks y_shown y_spoken y_parent y_fields y_bound y_kind y_word y_size y_sort y_number y_stands y_keeps y_cells y_globals y_within y_foundIn y_self y_args y_temps y_param y_live y_work y_under y_at y_in y_phase y_base y_goal y_operands y_marked y_todo y_heard → wpY_message Q (y_classes, y_bodies, y_fault, y_made, y_working, y_peak, y_steps, y_depth, y_waiting, y_code, y_running, y_has, y_got, y_todos, y_marks, y_shown, y_spoken, y_parent, y_fields, y_bound, y_kind, y_word, y_size, y_sort, y_number, y_stands, y_keeps, y_cells, y_globals, y_within, y_foundIn, y_self, y_args, y_temps, y_param, y_live, y_work, y_under, y_at, y_in, y_phase, y_base, y_goal, y_operands, y_marked, y_todo, y_heard) yr l (nI s) ya yb := fun Q h => by
      refine Y15 Q ?_
      unfold wY_message_15
      refine br_f (by decide) ?_
      unfold wY_message_47
      refine br_f (by decide) (cY _ (q3 _ ?_))
      unfold wpY_ofInt
      rw [vv_w]
      rcases Nat.lt_or_ge s 4 with z | z
      · rw [hna z] at h
        exact br_f (nI_ge (b := 4) z (by decide)) h
      · exact br_t (nI_le (a := 4) z (by omega)) h
    have X85 : ∀ post : SX → Prop, wX_sendMessage_85 post (x_operands (fc * 3)) (nI s).toInt64 (x_operands (fc * 3 + 1)) 11 q x_classCount x_bodyCount x_draftCount x_wrongPlace x_madeCount (nI (fc + 1)) x_current x_next x_inHand x_mode x_outcome x_stepCount x_atWork x_mostAtWork x_saidCount x_pendingCount y_parent x_classFields y_bound x_tokenKind x_tokenValue x_globals x_thingShown x_thingClass x_thingFields x_thingToken x_thingMaker x_variables x_homeOf x_within x_foundIn x_baseFrame x_frameToken x_frameStage x_frameLink x_operands x_saidValues x_marked x_pending → wpX_sendMessage post (x_classCount, x_bodyCount, x_draftCount, x_wrongPlace, x_madeCount, nI (fc + 1), x_current, x_next, x_inHand, x_mode, x_outcome, x_stepCount, x_atWork, x_mostAtWork, x_saidCount, x_pendingCount, y_parent, x_classFields, y_bound, x_tokenKind, x_tokenValue, x_globals, x_thingShown, x_thingClass, x_thingFields, x_thingToken, x_thingMaker, x_variables, x_homeOf, x_within, x_foundIn, x_baseFrame, x_frameToken, x_frameStage, x_frameLink, x_operands, x_saidValues, x_marked, x_pending) (nI s) l := fun post h => preX post (r2 _ (br_t rfl (cX _ (q2 _ h))))
    rcases q1 with rfl | ⟨c', b', hc', rfl, hb1', hb2'⟩
    · refine Or.inl ⟨fun post h => X85 post (br_t rfl h), fun Q h => Y47 Q ?_⟩
      unfold wY_message_92
      refine br_f (by decide) ?_
      unfold wY_message_116 wY_message_118
      exact br_f (by decide) h
    · refine Or.inr ⟨c', b', 11, _, _, _, _, hc', hb1', by omega, hb2', vi, ha, Or.inr nv, Or.inr rfl, fun post h => X85 post h, fun Q h => Y47 Q ?_⟩
      have e12 : (12 : Int32) * nI c' + 11 = nI (c' * 12 + 11) := by rw [Nat.mul_comm c' 12]; exact ix_l 12 c' 11
      unfold wY_message_92
      refine br_t (nI_pos' (by omega)) ?_
      rw [e12, nI_clamp (show c' * 12 + 11 < 2 ^ 31 by omega), hb2']
      exact ⟨vp_in_nI (by omega) (by decide), h⟩
  · refine Or.inr ⟨c, b, s, _, _, _, _, hc, hb1, hs, hb2, ha, hb, Or.inl rfl, Or.inl rfl, fun post h => preX post (r2 _ (br_f (gx_m1 (by omega)) h)), fun Q h => Y15 Q ?_⟩
    have e12 : (12 : Int32) * nI c + nI s = nI (c * 12 + s) := by rw [Nat.mul_comm c 12]; exact ix_l 12 c s
    unfold wY_message_15
    refine br_t (nI_pos' (by omega)) ?_
    rw [e12, nI_clamp (show c * 12 + s < 2 ^ 31 by omega), hb2]
    refine ⟨vp_in_nI (by omega) (by decide), ?_⟩
    unfold wY_message_47
    exact br_t (nI_pos' (by omega)) h
end
end
section
/-! a message begins an activation of a BODY -/
section
variable {x_classCount x_bodyCount x_draftCount x_wrongPlace x_madeCount x_frameCount x_current x_next x_mode x_outcome x_stepCount x_atWork x_mostAtWork x_saidCount x_pendingCount : Int32} {x_inHand : Int64} {x_classParent x_classFields x_bound x_tokenKind x_tokenValue x_thingClass x_thingToken x_thingMaker x_homeOf x_within x_foundIn x_baseFrame x_frameToken x_frameStage x_frameLink x_marked x_pending : Nat → Int32} {x_globals x_thingShown x_thingFields x_variables x_operands x_saidValues : Nat → Int64}
variable {y_classes y_bodies y_fault y_made y_working y_peak y_steps y_depth y_waiting y_code y_running y_has y_todos y_marks y_spoken : Int32} {y_got y_shown : Int64} {y_parent y_fields y_bound y_kind y_word y_size y_sort y_number y_stands y_keeps y_within y_foundIn y_live y_work y_under y_at y_in y_phase y_base y_goal y_marked y_todo : Nat → Int32} {y_cells y_globals y_self y_args y_temps y_param y_operands y_heard : Nat → Int64}
variable {cc bc dc mc st sp d w np md B M : Nat} {T ST SA : Nat → Prop} {lv τ σ lev ho fa ph bs ow gg wk un rt : Nat → Nat}
/-- the heap with the new activation of a BODY -/
theorem msg_A {a b c : Nat} {R RX : Nat → Prop} {xr xa xb yr ya yb : Int64} (A : rn_A cc bc dc mc T ST SA lv τ σ lev ho x_tokenKind x_tokenValue y_kind y_word y_size y_parent y_fields y_bound x_globals y_globals x_thingShown x_thingClass x_thingFields x_thingToken x_thingMaker x_variables x_homeOf x_within x_foundIn y_sort y_number y_stands y_keeps y_cells y_within y_foundIn y_self y_args y_temps y_param) (P1 : ∀ n, cl_r R (gy_E y_sort y_keeps y_cells y_within y_self y_args y_temps y_param) n → hp_S ST SA n ∧ cl_r RX (gx_E x_thingShown x_thingFields x_thingMaker x_variables x_within) (hp_f τ σ n)) (hc : c < cc) (a160 : a < 160) (b128 : b < 128) (na : ¬ cl_r R (gy_E y_sort y_keeps y_cells y_within y_self y_args y_temps y_param) (32 + a)) (nb : ¬ cl_r RX (gx_E x_thingShown x_thingFields x_thingMaker x_variables x_within) (24 + b)) (rg : ∀ i, i < 4 → ∀ k, vv_T (y_globals i) k → cl_r R (gy_E y_sort y_keeps y_cells y_within y_self y_args y_temps y_param) k)
    (hr : hp_v ST (hp_s y_sort y_number) xr yr) (ha : hp_v ST (hp_s y_sort y_number) xa ya) (hb : hp_v ST (hp_s y_sort y_number) xb yb) (rr : ∀ k, vv_T yr k → cl_r R (gy_E y_sort y_keeps y_cells y_within y_self y_args y_temps y_param) k) (ra : ∀ k, vv_T ya k → cl_r R (gy_E y_sort y_keeps y_cells y_within y_self y_args y_temps y_param) k) (rb : ∀ k, vv_T yb k → cl_r R (gy_E y_sort y_keeps y_cells y_within y_self y_args y_temps y_param) k) :
    rn_A cc bc dc mc T (fun k => k < 32 ∧ cl_r R (gy_E y_sort y_keeps y_cells y_within y_self y_args y_temps y_param) k) (fun z => cl_r R (gy_E y_sort y_keeps y_cells y_within y_self y_args y_temps y_param) (32 + z) ∨ z = a) lv τ (nu σ a b) (nu lev a 0) (nu ho a a) x_tokenKind x_tokenValue y_kind y_word y_size y_parent y_fields y_bound x_globals y_globals x_thingShown x_thingClass x_thingFields x_thingToken x_thingMaker (vp_updL (vp_updL (vp_updL (mk_c x_variables (b * 7) 7 10000000000) (b * 7) xr) (b * 7 + 1) xa) (b * 7 + 2) xb) (upd x_homeOf b (nI b)) (upd x_within b (-1)) (upd x_foundIn b (nI c)) y_sort y_number y_stands y_keeps y_cells (upd y_within a (-1)) (upd y_foundIn a (nI c)) (vp_updL y_self a yr) (vp_updL (vp_updL y_args (2 * a) ya) (2 * a + 1) yb) (mk_c y_temps (3 * a) 3 4294967296) (vp_updL y_param a 4294967296) := by
  have H1 := hp_shrink A.2.2.1 (fun n cn => (P1 n cn).1)
  have conv : ∀ {x y : Int64}, hp_v ST (hp_s y_sort y_number) x y → (∀ k, vv_T y k → cl_r R (gy_E y_sort y_keeps y_cells y_within y_self y_args y_temps y_param) k) → hp_v (fun k => k < 32 ∧ cl_r R (gy_E y_sort y_keeps y_cells y_within y_self y_args y_temps y_param) k) (hp_s y_sort y_number) x y := fun h q => hp_v_to h fun k _ hT => ⟨⟨hT.1, q k hT⟩, rfl⟩
  obtain ⟨s1, g1, H, U, ⟨q1, q2, q3, q4, q5, q6, q7⟩, X⟩ := A
  have vN : vv_V 4294967296 := ⟨.inr none, fun l e => (by cases e), rfl⟩
  refine ⟨s1, fun i hi => conv (g1 i hi) (rg i hi), hp_act H1 na (fun z hz e => nb (by
      have := (P1 _ hz).2
      rw [hp_f2, e] at this
      exact this)) (fun z hz => ⟨pk_un hz, pk_un hz, pk_un hz, fun j hj => by rw [pk_uLn (by omega), pk_uLn (by omega), pk_uLn (by omega)]; exact mk_co (by omega)⟩)
    (fun z hz => ⟨pk_un hz, pk_un hz, pk_uLn hz, pk_uLn hz, fun j hj => by rw [pk_uLn (by omega), pk_uLn (by omega)], fun j hj => mk_co (by omega)⟩) ?_, U, ⟨q1, fun i hi => ?_, fun i hi => ?_, fun i hi => ?_, fun i hi => ?_, q6, fun z hz => ?_⟩, X.1, fun z hz => ?_⟩
  · unfold hp_A
    rw [nu_s, nu_s, nu_s, nu_s, pk_us, pk_us, pk_us, pk_us, pk_us, pk_uLs]
    refine ⟨a160, b128, by omega, Or.inr rfl, rfl, rfl, Or.inl ⟨rfl, rfl, rfl, rfl, ⟨c, hc, rfl, rfl⟩, ?_, fun j hj => ?_, fun j hj => ?_, ?_⟩⟩
    · rw [pk_uLn (by omega), pk_uLn (by omega), pk_uLs]; exact conv hr rr
    · rcases (show j = 0 ∨ j = 1 by omega) with rfl | rfl
      · rw [show b * 7 + 1 + 0 = b * 7 + 1 from rfl, show 2 * a + 0 = 2 * a from rfl, pk_uLn (by omega), pk_uLs, pk_uLn (by omega), pk_uLs]; exact conv ha ra
      · rw [show b * 7 + 1 + 1 = b * 7 + 2 by omega, pk_uLs, pk_uLs]; exact conv hb rb
    · rw [pk_uLn (by omega), pk_uLn (by omega), pk_uLn (by omega), mk_ci (by omega) (by omega), mk_ci (by omega) (by omega)]
      exact ⟨.inr none, fun l e => (by cases e), rfl, rfl⟩
    · rw [pk_uLn (by omega), pk_uLn (by omega), pk_uLn (by omega)]
      exact mk_ci (by omega) (by omega)
  · by_cases z : i = a
    · subst z; rw [pk_uLs]; exact hp_v_V hr
    · rw [pk_uLn z]; exact q2 i hi
  · by_cases z : i = 2 * a + 1
    · subst z; rw [pk_uLs]; exact hp_v_V hb
    · rw [pk_uLn z]
      by_cases z' : i = 2 * a
      · subst z'; rw [pk_uLs]; exact hp_v_V ha
      · rw [pk_uLn z']; exact q3 i hi
  · by_cases z : 3 * a ≤ i ∧ i < 3 * a + 3
    · rw [mk_ci z.1 z.2]; exact vN
    · rw [mk_co (by omega)]; exact q4 i hi
  · by_cases z : i = a
    · subst z; rw [pk_uLs]; exact vN
    · rw [pk_uLn z]; exact q5 i hi
  · by_cases e : z = a
    · subst e; rw [pk_us]; exact Or.inl rfl
    · rw [pk_un e]; exact q7 z hz
  · by_cases e : z = b
    · subst e; rw [pk_us]; exact Or.inl rfl
    · rw [pk_un e]; exact X.2 z hz
theorem mu_beg {p r : Nat} (TF : fr_T y_kind (tk_nd y_kind y_word) T) (w1 : 1 ≤ w) (tr : T r) (hs : st < 200) (n : rn_n B (M + 1) mc st sp (rn_mu (tk_nd y_kind y_word) fa un rt st (p + 1) w (ex_e (tk_nd y_kind y_word) (fa p)) 1)) : rn_n B (M + 1) mc (st + 1) sp (rn_mu (tk_nd y_kind y_word) fa (nu un w (p + 1)) (nu rt w r) (st + 1) (p + 1) (w + 1) r 0) := by
  obtain ⟨n1, n2, n3, n4⟩ := n
  have e := fr_en TF tr
  obtain ⟨v, rfl⟩ : ∃ v, w = v + 1 := ⟨w - 1, by omega⟩
  have sm : fr_sum (fun i => 10 * (ex_e (tk_nd y_kind y_word) (nu rt (v + 1) r i) - ex_e (tk_nd y_kind y_word) (fa (nu un (v + 1) (p + 1) (i + 1) - 1)))) (v + 1 + 1 - 1) = fr_sum (fun i => 10 * (ex_e (tk_nd y_kind y_word) (rt i) - ex_e (tk_nd y_kind y_word) (fa (un (i + 1) - 1)))) (v + 1 - 1) + 10 * (ex_e (tk_nd y_kind y_word) (rt (v + 1 - 1)) - ex_e (tk_nd y_kind y_word) (fa p)) := by
    show fr_sum _ v + 10 * _ = fr_sum _ v + _
    rw [fr_sumc (n := v) (g := fun i => 10 * (ex_e (tk_nd y_kind y_word) (rt i) - ex_e (tk_nd y_kind y_word) (fa (un (i + 1) - 1)))) (fun i hi => by rw [nu_n (show i ≠ v + 1 by omega), nu_n (show i + 1 ≠ v + 1 by omega)]), nu_n (show v ≠ v + 1 by omega), nu_s]
    rfl
  have er : nu rt (v + 1) r (v + 1 + 1 - 1) = r := by
    rw [show v + 1 + 1 - 1 = v + 1 by omega, nu_s]
  unfold rn_mu at n2 n3 n4
  refine ⟨by omega, ?_⟩
  unfold rn_mu
  rw [sm, er]
  omega
end
end
section
/-! a BODY begins for a message: both sides -/
section
variable {x_classCount x_bodyCount x_draftCount x_wrongPlace x_madeCount x_frameCount x_current x_next x_mode x_outcome x_stepCount x_atWork x_mostAtWork x_saidCount x_pendingCount : Int32} {x_inHand : Int64} {x_classParent x_classFields x_bound x_tokenKind x_tokenValue x_thingClass x_thingToken x_thingMaker x_homeOf x_within x_foundIn x_baseFrame x_frameToken x_frameStage x_frameLink x_marked x_pending : Nat → Int32} {x_globals x_thingShown x_thingFields x_variables x_operands x_saidValues : Nat → Int64}
variable {y_classes y_bodies y_fault y_made y_working y_peak y_steps y_depth y_waiting y_code y_running y_has y_todos y_marks y_spoken : Int32} {y_got y_shown : Int64} {y_parent y_fields y_bound y_kind y_word y_size y_sort y_number y_stands y_keeps y_within y_foundIn y_live y_work y_under y_at y_in y_phase y_base y_goal y_marked y_todo : Nat → Int32} {y_cells y_globals y_self y_args y_temps y_param y_operands y_heard : Nat → Int64}
variable {cc bc dc mc st sp d w np md B M : Nat} {T ST SA : Nat → Prop} {lv τ σ lev ho fa ph bs ow gg wk un rt : Nat → Nat}
theorem rn_wroot (A : rn_A cc bc dc mc T ST SA lv τ σ lev ho x_tokenKind x_tokenValue y_kind y_word y_size y_parent y_fields y_bound x_globals y_globals x_thingShown x_thingClass x_thingFields x_thingToken x_thingMaker x_variables x_homeOf x_within x_foundIn y_sort y_number y_stands y_keeps y_cells y_within y_foundIn y_self y_args y_temps y_param) (F : rn_F T ST SA lv σ lev ho y_kind y_word fa ph bs ow gg wk un rt d w y_sort y_number x_frameToken x_frameStage x_frameLink x_operands x_baseFrame y_operands y_self y_at y_in y_phase y_base y_goal y_work y_under y_live) {i : Nat} (hi : i < w) : cl_r (gy_R y_globals y_operands (bs d) y_work w) (gy_E y_sort y_keeps y_cells y_within y_self y_args y_temps y_param) (32 + wk i) ∧ cl_r (gy_R y_globals y_operands (bs d) y_work w) (gy_E y_sort y_keeps y_cells y_within y_self y_args y_temps y_param) (32 + ho (wk i)) ∧ ∀ k, vv_T (y_self (ho (wk i))) k → cl_r (gy_R y_globals y_operands (bs d) y_work w) (gy_E y_sort y_keeps y_cells y_within y_self y_args y_temps y_param) k := by
  have sa := (F.2.2.2.1 i hi).1
  have c1 : cl_r (gy_R y_globals y_operands (bs d) y_work w) (gy_E y_sort y_keeps y_cells y_within y_self y_args y_temps y_param) (32 + wk i) := cl_root (Or.inr (Or.inr ⟨i, wk i, hi, (A.2.2.1.2.1 _ sa).1, (F.2.1.2 i hi).1, rfl⟩))
  have c := hp_home A.2.2.1 (lev (wk i)) (wk i) (Nat.le_refl _) sa c1
  exact ⟨c1, c, fun k hT => cl_step c (Or.inr (Or.inr (Or.inl ⟨ho (wk i), rfl, by rw [(A.2.2.1.2.1 _ sa).2.2.2.2.2.1]; decide, Or.inl hT⟩)))⟩
theorem go_msg {p tm c b s : Nat} {xa xb yr ya yb : Int64} (A : rn_A cc bc dc mc T ST SA lv τ σ lev ho x_tokenKind x_tokenValue y_kind y_word y_size y_parent y_fields y_bound x_globals y_globals x_thingShown x_thingClass x_thingFields x_thingToken x_thingMaker x_variables x_homeOf x_within x_foundIn y_sort y_number y_stands y_keeps y_cells y_within y_foundIn y_self y_args y_temps y_param) (F : rn_F T ST SA lv σ lev ho y_kind y_word fa ph bs ow gg wk un rt (p + 1) w y_sort y_number x_frameToken x_frameStage x_frameLink x_operands x_baseFrame y_operands y_self y_at y_in y_phase y_base y_goal y_work y_under y_live) (hp : ph p ≠ 100) (hk : y_kind (fa p) = 10 ∨ y_kind (fa p) = 11 ∨ y_kind (fa p) = 14 ∨ y_kind (fa p) = 15) (nt : ¬ fr_tail (y_kind (fa p)) (ph p)) (hc : c < cc) (hb1 : b < bc) (hs : s < 12) (hbd : y_bound (c * 12 + s) = nI b)
    (hr : hp_v ST (hp_s y_sort y_number) (x_operands (fr_x y_kind fa ph p * 3)) yr) (ha : hp_v ST (hp_s y_sort y_number) xa ya) (hb : hp_v ST (hp_s y_sort y_number) xb yb) (rr : ∀ k, vv_T yr k → cl_r (gy_R y_globals y_operands (bs (p + 1)) y_work w) (gy_E y_sort y_keeps y_cells y_within y_self y_args y_temps y_param) k) (ra : ∀ k, vv_T ya k → cl_r (gy_R y_globals y_operands (bs (p + 1)) y_work w) (gy_E y_sort y_keeps y_cells y_within y_self y_args y_temps y_param) k) (rb : ∀ k, vv_T yb k → cl_r (gy_R y_globals y_operands (bs (p + 1)) y_work w) (gy_E y_sort y_keeps y_cells y_within y_self y_args y_temps y_param) k)
    (n : rn_n B (M + 1) mc st sp (rn_mu (tk_nd y_kind y_word) fa un rt st (p + 1) w (ex_e (tk_nd y_kind y_word) (fa p)) 1)) (hB : B < 2 ^ 30) (ht : tm + 2 ≤ 1000000)
    (gX : ∀ Q : SX → Prop, wX_sendMessage_85 Q (x_operands (fr_x y_kind fa ph p * 3)) xa xb (nI s) (nI c) (nI cc) (nI bc) (nI dc) y_fault (nI mc) (nI (fr_x y_kind fa ph p + 1)) (nI (σ (wk (w - 1)))) (nI (ex_e (tk_nd y_kind y_word) (fa p))) x_inHand 2 100 (nI st) (nI w) y_peak (nI sp) x_pendingCount y_parent y_fields y_bound x_tokenKind x_tokenValue x_globals x_thingShown x_thingClass x_thingFields x_thingToken x_thingMaker x_variables x_homeOf x_within x_foundIn x_baseFrame x_frameToken x_frameStage x_frameLink x_operands y_heard x_marked x_pending → wpX_applyOperator Q (nI cc, nI bc, nI dc, y_fault, nI mc, nI (fr_x y_kind fa ph p + 1), nI (σ (wk (w - 1))), nI (ex_e (tk_nd y_kind y_word) (fa p)), x_inHand, 2, 100, nI st, nI w, y_peak, nI sp, x_pendingCount, y_parent, y_fields, y_bound, x_tokenKind, x_tokenValue, x_globals, x_thingShown, x_thingClass, x_thingFields, x_thingToken, x_thingMaker, x_variables, x_homeOf, x_within, x_foundIn, x_baseFrame, x_frameToken, x_frameStage, x_frameLink, x_operands, y_heard, x_marked, x_pending))
    (gY : ∀ Q : SY → Prop, wY_message_118 Q yr (nI c) ya yb (nI b) (nI cc) (nI bc) y_fault (nI mc) (nI w) y_peak (nI st) (nI (p + 1)) (nI (bs (p + 1))) y_code 1 0 y_got y_todos y_marks (-10000000000) (nI sp) y_parent y_fields y_bound y_kind y_word y_size y_sort y_number y_stands y_keeps y_cells y_globals y_within y_foundIn y_self y_args y_temps y_param y_live y_work y_under y_at y_in y_phase y_base y_goal y_operands y_marked y_todo y_heard → wpY_next Q (nI cc, nI bc, y_fault, nI mc, nI w, y_peak, nI st, nI (p + 1), nI (bs (p + 1)), y_code, 1, 0, y_got, y_todos, y_marks, -10000000000, nI sp, y_parent, y_fields, y_bound, y_kind, y_word, y_size, y_sort, y_number, y_stands, y_keeps, y_cells, y_globals, y_within, y_foundIn, y_self, y_args, y_temps, y_param, y_live, y_work, y_under, y_at, y_in, y_phase, y_base, y_goal, y_operands, y_marked, y_todo, y_heard)) :
    rn_Go B M tm (nI cc, nI bc, nI dc, y_fault, nI mc, nI (fr_x y_kind fa ph p + 1), nI (σ (wk (w - 1))), nI (ex_e (tk_nd y_kind y_word) (fa p)), x_inHand, 2, 100, nI st, nI w, y_peak, nI sp, x_pendingCount, y_parent, y_fields, y_bound, x_tokenKind, x_tokenValue, x_globals, x_thingShown, x_thingClass, x_thingFields, x_thingToken, x_thingMaker, x_variables, x_homeOf, x_within, x_foundIn, x_baseFrame, x_frameToken, x_frameStage, x_frameLink, x_operands, y_heard, x_marked, x_pending) (nI cc, nI bc, y_fault, nI mc, nI w, y_peak, nI st, nI (p + 1), nI (bs (p + 1)), y_code, 1, 0, y_got, y_todos, y_marks, -10000000000, nI sp, y_parent, y_fields, y_bound, y_kind, y_word, y_size, y_sort, y_number, y_stands, y_keeps, y_cells, y_globals, y_within, y_foundIn, y_self, y_args, y_temps, y_param, y_live, y_work, y_under, y_at, y_in, y_phase, y_base, y_goal, y_operands, y_marked, y_todo, y_heard) := by
  obtain ⟨f1, eo, f5, p3, p5, b3, y1, y2, y3, y4, a3, n3, p383⟩ := rn_top A F hp
  have hxr := rn_xr A F hp
  have TF := rn_TF A
  have pc : (nI p).toNatClampNeg = p := nI_clamp (by omega)
  have xr : fr_x y_kind fa ph (p + 1) = fr_x y_kind fa ph p + 1 := by
    show _ + ct_b _ = _
    rw [ct_bt nt]
  have cc10 := A.1.1.2.1
  have bc12 := A.1.2.1.1
  have w12 := F.1.2.1
  have w1 := F.1.1
  have hst := n.1
  have nB : mc ≤ B := by have := n.2.2.2; omega
  have e12 : nI c * (12 : Int32) + nI s = nI (c * 12 + s) := ix_r 12 c s
  have ce12 : (nI (c * 12 + s)).toNatClampNeg = c * 12 + s := nI_clamp (by omega)
  have v12 : vp_in (nI (c * 12 + s)) 120 := vp_in_nI (by omega) (by decide)
  have e32 : nI b * (32 : Int32) = nI (32 * b) := by rw [Nat.mul_comm]; exact pk_mul b 32
  have e32' : (32 : Int32) * nI b = nI (32 * b) := by rw [Int32.mul_comm]; exact e32
  have cpos : (0 : Int32) ≤ nI c := nI_pos' (by omega)
  by_cases z : st = 200 ∨ w = 12
  · obtain ⟨st', o, q, hX⟩ := xd_begin0 (x_classCount := nI cc) (x_bodyCount := nI bc) (x_draftCount := nI dc) (x_wrongPlace := y_fault) (x_madeCount := nI mc) (x_current := nI (σ (wk (w - 1)))) (x_next := nI (ex_e (tk_nd y_kind y_word) (fa p))) (x_inHand := x_inHand) (x_mode := 2) (x_outcome := 100) (x_mostAtWork := y_peak) (x_saidCount := nI sp) (x_pendingCount := x_pendingCount) (x_classParent := y_parent) (x_classFields := y_fields) (x_bound := y_bound) (x_tokenKind := x_tokenKind) (x_tokenValue := x_tokenValue) (x_globals := x_globals) (x_thingShown := x_thingShown) (x_thingClass := x_thingClass) (x_thingFields := x_thingFields) (x_thingToken := x_thingToken) (x_thingMaker := x_thingMaker) (x_variables := x_variables) (x_homeOf := x_homeOf) (x_within := x_within) (x_foundIn := x_foundIn) (x_baseFrame := x_baseFrame) (x_frameToken := x_frameToken) (x_frameStage := x_frameStage) (x_frameLink := x_frameLink) (x_operands := x_operands) (x_saidValues := y_heard) (x_marked := x_marked) (x_pending := x_pending) (fc := fr_x y_kind fa ph p) (nI (32 * b)) hst w12 z
    obtain ⟨st2, o2, q2, hY⟩ := yd_begin0 (y_classes := nI cc) (y_bodies := nI bc) (y_fault := y_fault) (y_made := nI mc) (y_peak := y_peak) (y_depth := nI (p + 1)) (y_waiting := nI (bs (p + 1))) (y_code := y_code) (y_has := 0) (y_got := y_got) (y_todos := y_todos) (y_marks := y_marks) (y_shown := -10000000000) (y_spoken := nI sp) (y_parent := y_parent) (y_fields := y_fields) (y_bound := y_bound) (y_kind := y_kind) (y_word := y_word) (y_size := y_size) (y_sort := y_sort) (y_number := y_number) (y_stands := y_stands) (y_keeps := y_keeps) (y_cells := y_cells) (y_globals := y_globals) (y_within := y_within) (y_foundIn := y_foundIn) (y_self := y_self) (y_args := y_args) (y_temps := y_temps) (y_param := y_param) (y_live := y_live) (y_work := y_work) (y_under := y_under) (y_at := y_at) (y_in := y_in) (y_phase := y_phase) (y_base := y_base) (y_goal := y_goal) (y_operands := y_operands) (y_marked := y_marked) (y_todo := y_todo) (y_heard := y_heard) (-1) hst w12 z
    have es : st' = st2 ∧ o = o2 ∧ ¬ o = 100 ∧ ¬ o = 0 := by
      rcases q with ⟨a1, a2, a3⟩ | ⟨a1, a2, a3, a4⟩ <;> rcases q2 with ⟨b1, b2, b3⟩ | ⟨b1, b2, b3, b4⟩
      · exact ⟨by omega, by rw [a3, b3], by rw [a3]; decide, by rw [a3]; decide⟩
      · omega
      · omega
      · exact ⟨by omega, by rw [a4, b4], by rw [a4]; decide, by rw [a4]; decide⟩
    obtain ⟨rfl, rfl, o1, o0⟩ := es
    refine ⟨(nI cc, nI bc, nI dc, y_fault, nI mc, nI (fr_x y_kind fa ph p + 1), nI (σ (wk (w - 1))), nI (ex_e (tk_nd y_kind y_word) (fa p)), x_inHand, 2, o, nI st', nI w, y_peak, nI sp, x_pendingCount, y_parent, y_fields, y_bound, x_tokenKind, x_tokenValue, x_globals, x_thingShown, x_thingClass, x_thingFields, x_thingToken, x_thingMaker, x_variables, x_homeOf, x_within, x_foundIn, x_baseFrame, x_frameToken, x_frameStage, x_frameLink, x_operands, y_heard, x_marked, x_pending), (nI cc, nI bc, y_fault, nI mc, nI w, y_peak, nI st', nI (p + 1), nI (bs (p + 1)), o, 0, 0, y_got, y_todos, y_marks, -10000000000, nI sp, y_parent, y_fields, y_bound, y_kind, y_word, y_size, y_sort, y_number, y_stands, y_keeps, y_cells, y_globals, y_within, y_foundIn, y_self, y_args, y_temps, y_param, y_live, y_work, y_under, y_at, y_in, y_phase, y_base, y_goal, y_operands, y_marked, y_todo, y_heard), tm + 1, by omega, fun PX k => xt_apply (by omega) (fun Q q => gX Q ?_) k, fun PY m k => YL_mono (yt_next (fun Q q => gY Q ?_) k) (by omega), Or.inl (rn_stop2 (st := st') A (rn_wl A F) o1 o0 nB)⟩
    · unfold wX_sendMessage_85
      refine br_f (gx_m1 (by omega)) ?_
      rw [e12, ce12, hbd, e32]
      exact ⟨v12, hX _ (br_t rfl q)⟩
    · unfold wY_message_118
      exact br_t cpos (hY _ (br_f (by decide) q))
  · have hs' : st < 200 := by omega
    have hw : w < 12 := by omega
    obtain ⟨P1, P2⟩ := rn_roots A F
    have freeX := rn_freeX A F
    rw [xr] at P1 freeX
    have hbs : bs p ≤ bs (p + 1) ∧ bs (p + 1) ≤ 500 := by
      have f6 := (F.1.2.2.2.2.1 p (by omega)).2.2.2.2.2.1
      have := fr_cs f5 n3 (rn_11 A f1)
      omega
    obtain ⟨mk, td, t, b', bl, nb, hX⟩ := xd_begin (x_classCount := nI cc) (x_bodyCount := nI bc) (x_draftCount := nI dc) (x_wrongPlace := y_fault) (x_madeCount := nI mc) (x_current := nI (σ (wk (w - 1)))) (x_next := nI (ex_e (tk_nd y_kind y_word) (fa p))) (x_inHand := x_inHand) (x_mode := 2) (x_outcome := 100) (x_mostAtWork := y_peak) (x_saidCount := nI sp) (x_pendingCount := x_pendingCount) (x_classParent := y_parent) (x_classFields := y_fields) (x_bound := y_bound) (x_tokenKind := x_tokenKind) (x_tokenValue := x_tokenValue) (x_globals := x_globals) (x_thingShown := x_thingShown) (x_thingClass := x_thingClass) (x_thingFields := x_thingFields) (x_thingToken := x_thingToken) (x_thingMaker := x_thingMaker) (x_variables := x_variables) (x_homeOf := x_homeOf) (x_within := x_within) (x_foundIn := x_foundIn) (x_baseFrame := x_baseFrame) (x_frameToken := x_frameToken) (x_frameStage := x_frameStage) (x_frameLink := x_frameLink) (x_operands := x_operands) (x_saidValues := y_heard) (x_marked := x_marked) (x_pending := x_pending) (fc := fr_x y_kind fa ph p) (w := w) (st := st) (nI (32 * b)) hs' hw hxr A.2.2.2.2.2.1 A.2.2.2.2.2.2 freeX
    obtain ⟨mk2, td2, a, al, na, hY⟩ := yd_begin (y_classes := nI cc) (y_bodies := nI bc) (y_fault := y_fault) (y_made := nI mc) (y_peak := y_peak) (y_depth := nI (p + 1)) (y_waiting := nI (bs (p + 1))) (y_code := y_code) (y_has := 0) (y_got := y_got) (y_todos := y_todos) (y_marks := y_marks) (y_shown := -10000000000) (y_spoken := nI sp) (y_parent := y_parent) (y_fields := y_fields) (y_bound := y_bound) (y_kind := y_kind) (y_word := y_word) (y_size := y_size) (y_sort := y_sort) (y_number := y_number) (y_stands := y_stands) (y_keeps := y_keeps) (y_cells := y_cells) (y_globals := y_globals) (y_within := y_within) (y_foundIn := y_foundIn) (y_self := y_self) (y_args := y_args) (y_temps := y_temps) (y_param := y_param) (y_live := y_live) (y_work := y_work) (y_under := y_under) (y_at := y_at) (y_in := y_in) (y_phase := y_phase) (y_base := y_base) (y_goal := y_goal) (y_operands := y_operands) (y_marked := y_marked) (y_todo := y_todo) (y_heard := y_heard) (w := w) (st := st) (wt := bs (p + 1)) (-1) hs' hw rfl hbs.2 (fun k hk => hp_v_V (A.2.1 k hk)) (fun k hk => rn_opV A F hk) (rn_wl A F).2.1 A.2.2.2.2.1 (rn_freeY A F)
    obtain ⟨tb1, tb2, _⟩ := A.1.2.2.1.2.2.2.1 b hb1
    have nbs : ∀ z, (cl_r (gy_R y_globals y_operands (bs (p + 1)) y_work w) (gy_E y_sort y_keeps y_cells y_within y_self y_args y_temps y_param)) (32 + z) → σ z ≠ b' := fun z hz e => nb (by
      have := (P1 _ hz).2
      rw [hp_f2, e] at this
      exact this)
    have A' := msg_A (a := a) (b := b') (c := c) A P1 hc al bl na nb (fun i hi k hT => cl_root (Or.inl ⟨i, hi, hT⟩)) hr ha hb rr ra rb
    have F' := rn_act (a := a) (b := b') (r := 32 * b) (lv0 := 0) (ho0 := a) (xtk' := upd x_frameToken (fr_x y_kind fa ph p) (-1)) (xsg' := upd x_frameStage (fr_x y_kind fa ph p) (nI (ex_e (tk_nd y_kind y_word) (fa p)))) (xlk' := upd x_frameLink (fr_x y_kind fa ph p) (nI (σ (wk (w - 1))))) (xop' := mk_c x_operands (fr_x y_kind fa ph p * 3) 3 10000000000) (se' := vp_updL y_self a yr) (ST' := fun k => k < 32 ∧ cl_r (gy_R y_globals y_operands (bs (p + 1)) y_work w) (gy_E y_sort y_keeps y_cells y_within y_self y_args y_temps y_param) k) (SA1 := fun z => (cl_r (gy_R y_globals y_operands (bs (p + 1)) y_work w) (gy_E y_sort y_keeps y_cells y_within y_self y_args y_temps y_param)) (32 + z)) A F hp hk hw tb1 (fun i hi => (rn_wroot A F hi).1) (fun z hz => by
        rcases (P1 _ hz).1 with ⟨q, _⟩ | ⟨z', e, q⟩
        · omega
        · obtain rfl : z = z' := by omega
          exact q) (fun i hi => (rn_wroot A F hi).2.1) na nbs al bl tb2.symm (fun x y hy h => hp_v_to h fun k _ hT => ⟨⟨hT.1, by
          rcases hy with ⟨j, hj, rfl⟩ | ⟨i, hi, rfl⟩
          · exact cl_root (Or.inr (Or.inl ⟨j, by omega, hT⟩))
          · exact (rn_wroot A F hi).2.2 k hT⟩, rfl⟩) (fun z hz => pk_uLn hz) ⟨pk_us, pk_us, pk_us, fun i hi => mk_ci (by omega) (by omega)⟩ (fun R hR => ⟨pk_un (by omega), pk_un (by omega), pk_un (by omega), fun i hi => mk_co (by omega)⟩) rfl rfl rfl rfl rfl
    have n' := mu_beg TF w1 tb1 hs' n
    have ew : w + 1 - 1 = w := rfl
    have lt : fr_lt y_kind (tk_nd y_kind y_word) fa (nu ph p 100) (nu rt w (32 * b)) (p + 1) (32 * b) (w + 1 - 1) := ⟨fun e => by omega, fun q e => by
      obtain rfl : q = p := by omega
      rw [nu_s]
      exact ⟨fun _ => by rw [ew, nu_s], fun z => absurd rfl z⟩⟩
    have nt100 : ¬ fr_tail (y_kind (fa p)) 100 := fun z => by rcases z with ⟨_, z⟩ | ⟨_, z⟩ <;> omega
    have ex1 : fr_x y_kind fa (nu ph p 100) (p + 1) = fr_x y_kind fa ph p + 1 := by
      show fr_x y_kind fa (nu ph p 100) p + ct_b _ = _
      rw [fr_xc (fun s hs => ⟨rfl, nu_n (by omega)⟩), nu_s, ct_bt nt100]
    have ev : rn_Ev B M (nI cc, nI bc, nI dc, y_fault, nI mc, nI (fr_x y_kind fa (nu ph p 100) (p + 1)), nI (nu σ a b' (nu wk w a (w + 1 - 1))), nI (32 * b), x_inHand, 0, 100, nI (st + 1), nI (w + 1), bg_mx y_peak w, nI sp, nI t, y_parent, y_fields, y_bound, x_tokenKind, x_tokenValue, x_globals, x_thingShown, x_thingClass, x_thingFields, x_thingToken, x_thingMaker, vp_updL (vp_updL (vp_updL (mk_c x_variables (b' * 7) 7 10000000000) (b' * 7) (x_operands (fr_x y_kind fa ph p * 3))) (b' * 7 + 1) xa) (b' * 7 + 2) xb, upd x_homeOf b' (nI b'), upd x_within b' (-1), upd x_foundIn b' (nI c), upd x_baseFrame b' (nI (fr_x y_kind fa ph p)), upd x_frameToken (fr_x y_kind fa ph p) (-1), upd x_frameStage (fr_x y_kind fa ph p) (nI (ex_e (tk_nd y_kind y_word) (fa p))), upd x_frameLink (fr_x y_kind fa ph p) (nI (σ (wk (w - 1)))), mk_c x_operands (fr_x y_kind fa ph p * 3) 3 10000000000, y_heard, mk, td) (nI cc, nI bc, y_fault, nI mc, nI (w + 1), bg_mx y_peak w, nI (st + 1), nI (p + 1), nI (nu bs (p + 1) (bs p) (p + 1)), y_code, 1, 0, y_got, nI 0, nI (ct_n (fun k => mk2 k = 1) 32), -10000000000, nI sp, y_parent, y_fields, y_bound, y_kind, y_word, y_size, y_sort, y_number, y_stands, y_keeps, y_cells, y_globals, upd y_within a (-1), upd y_foundIn a (nI c), vp_updL y_self a yr, vp_updL (vp_updL y_args (2 * a) ya) (2 * a + 1) yb, mk_c y_temps (3 * a) 3 4294967296, vp_updL y_param a 4294967296, upd y_live a 1, upd y_work w (nI a), upd y_under w (nI (p + 1)), y_at, y_in, upd y_phase p 100, y_base, y_goal, y_operands, mk2, td2, y_heard) (32 * b) (nu wk w a (w + 1 - 1)) := ev_all A' F' tb1 lt n' hB
    rw [ew, nu_s, nu_s, nu_s, ex1] at ev
    obtain ⟨u1, v1, eX, eY, eR⟩ := ev
    refine ⟨u1, v1, tm + 1 + 1, by omega, fun PX k => xt_apply (by omega) (fun Q q => gX Q ?_) (xt_read (by omega) eX k), fun PY m k => YL_mono (yt_next (fun Q q => gY Q ?_) k) (by omega), eR⟩
    · have e7 : nI b' * (7 : Int32) + 0 = nI (b' * 7) := ix_r 7 b' 0
      have e71 : nI b' * (7 : Int32) + 1 = nI (b' * 7 + 1) := ix_r 7 b' 1
      unfold wX_sendMessage_85
      refine br_f (gx_m1 (by omega)) ?_
      rw [e12, ce12, hbd, e32]
      refine ⟨v12, hX _ (br_f (gx_m1 (by omega)) ?_)⟩
      rw [e7, e71, nI_1, nI_clamp (show b' * 7 < 2 ^ 31 by omega), nI_clamp (show b' * 7 + 1 < 2 ^ 31 by omega), nI_clamp (show b' * 7 + 1 + 1 < 2 ^ 31 by omega), nI_clamp (show b' < 2 ^ 31 by omega)]
      have vb : vp_in (nI b') 128 := vp_in_nI bl (by decide)
      exact ⟨vp_in_nI (by omega) (by decide), nm_e ⟨vp_in_nI (by omega) (by decide), nm_e ⟨vp_in_nI (by omega) (by decide), nm_e ⟨vb, nm_e ⟨vb, nm_e ⟨vb, nm_e q⟩⟩⟩⟩⟩⟩
    · have e2 : (2 : Int32) * nI a = nI (2 * a) := by rw [Int32.mul_comm, Nat.mul_comm]; exact pk_mul a 2
      have va : vp_in (nI a) 160 := vp_in_nI al (by decide)
      have vp : vp_in (nI p) 500 := vp_in_nI p5 (by decide)
      unfold wY_message_118
      refine br_t cpos (hY _ (br_t (nI_pos' (by omega)) ?_))
      rw [e2, nI_1, nI_clamp (show a < 2 ^ 31 by omega), nI_clamp (show 2 * a < 2 ^ 31 by omega), nI_clamp (show 2 * a + 1 < 2 ^ 31 by omega)]
      refine ⟨va, nm_e ⟨vp_in_nI (by omega) (by decide), nm_e ⟨vp_in_nI (by omega) (by decide), nm_e ⟨va, nm_e ?_⟩⟩⟩⟩
      unfold wpY_await
      dsimp only
      rw [nI_pred, pc, y4, e32']
      refine br_f (fun z => by have := (nI_eq (b := 0) (by omega) (by decide)).mp z; omega) ⟨vp, nm_e ⟨vp, nm_e (eY Q q)⟩⟩
end
end
section
/-! an operator is applied: SEND -/
section
variable {x_classCount x_bodyCount x_draftCount x_wrongPlace x_madeCount x_frameCount x_current x_next x_mode x_outcome x_stepCount x_atWork x_mostAtWork x_saidCount x_pendingCount : Int32} {x_inHand : Int64} {x_classParent x_classFields x_bound x_tokenKind x_tokenValue x_thingClass x_thingToken x_thingMaker x_homeOf x_within x_foundIn x_baseFrame x_frameToken x_frameStage x_frameLink x_marked x_pending : Nat → Int32} {x_globals x_thingShown x_thingFields x_variables x_operands x_saidValues : Nat → Int64}
variable {y_classes y_bodies y_fault y_made y_working y_peak y_steps y_depth y_waiting y_code y_running y_has y_todos y_marks y_spoken : Int32} {y_got y_shown : Int64} {y_parent y_fields y_bound y_kind y_word y_size y_sort y_number y_stands y_keeps y_within y_foundIn y_live y_work y_under y_at y_in y_phase y_base y_goal y_marked y_todo : Nat → Int32} {y_cells y_globals y_self y_args y_temps y_param y_operands y_heard : Nat → Int64}
variable {cc bc dc mc st sp d w np md B M : Nat} {T ST SA : Nat → Prop} {lv τ σ lev ho fa ph bs ow gg wk un rt : Nat → Nat}
theorem sx_eta (Q : SX → Prop) : (fun u : SX => match u with | (x_classCount, x_bodyCount, x_draftCount, x_wrongPlace, x_madeCount, x_frameCount, x_current, x_next, x_inHand, x_mode, x_outcome, x_stepCount, x_atWork, x_mostAtWork, x_saidCount, x_pendingCount, x_classParent, x_classFields, x_bound, x_tokenKind, x_tokenValue, x_globals, x_thingShown, x_thingClass, x_thingFields, x_thingToken, x_thingMaker, x_variables, x_homeOf, x_within, x_foundIn, x_baseFrame, x_frameToken, x_frameStage, x_frameLink, x_operands, x_saidValues, x_marked, x_pending) => Q (x_classCount, x_bodyCount, x_draftCount, x_wrongPlace, x_madeCount, x_frameCount, x_current, x_next, x_inHand, x_mode, x_outcome, x_stepCount, x_atWork, x_mostAtWork, x_saidCount, x_pendingCount, x_classParent, x_classFields, x_bound, x_tokenKind, x_tokenValue, x_globals, x_thingShown, x_thingClass, x_thingFields, x_thingToken, x_thingMaker, x_variables, x_homeOf, x_within, x_foundIn, x_baseFrame, x_frameToken, x_frameStage, x_frameLink, x_operands, x_saidValues, x_marked, x_pending)) = Q := funext fun u => by
  obtain ⟨b1, b2, b3, b4, b5, b6, b7, b8, b9, b10, b11, b12, b13, b14, b15, b16, b17, b18, b19, b20, b21, b22, b23, b24, b25, b26, b27, b28, b29, b30, b31, b32, b33, b34, b35, b36, b37, b38, b39⟩ := u
  rfl
theorem sy_eta (Q : SY → Prop) : (fun u : SY => match u with | (y_classes, y_bodies, y_fault, y_made, y_working, y_peak, y_steps, y_depth, y_waiting, y_code, y_running, y_has, y_got, y_todos, y_marks, y_shown, y_spoken, y_parent, y_fields, y_bound, y_kind, y_word, y_size, y_sort, y_number, y_stands, y_keeps, y_cells, y_globals, y_within, y_foundIn, y_self, y_args, y_temps, y_param, y_live, y_work, y_under, y_at, y_in, y_phase, y_base, y_goal, y_operands, y_marked, y_todo, y_heard) => Q (y_classes, y_bodies, y_fault, y_made, y_working, y_peak, y_steps, y_depth, y_waiting, y_code, y_running, y_has, y_got, y_todos, y_marks, y_shown, y_spoken, y_parent, y_fields, y_bound, y_kind, y_word, y_size, y_sort, y_number, y_stands, y_keeps, y_cells, y_globals, y_within, y_foundIn, y_self, y_args, y_temps, y_param, y_live, y_work, y_under, y_at, y_in, y_phase, y_base, y_goal, y_operands, y_marked, y_todo, y_heard)) = Q := funext fun u => by
  obtain ⟨b1, b2, b3, b4, b5, b6, b7, b8, b9, b10, b11, b12, b13, b14, b15, b16, b17, b18, b19, b20, b21, b22, b23, b24, b25, b26, b27, b28, b29, b30, b31, b32, b33, b34, b35, b36, b37, b38, b39, b40, b41, b42, b43, b44, b45, b46, b47⟩ := u
  rfl
theorem go_sm {p tm s : Nat} {l : Int32} {yr ya yb : Int64} (A : rn_A cc bc dc mc T ST SA lv τ σ lev ho x_tokenKind x_tokenValue y_kind y_word y_size y_parent y_fields y_bound x_globals y_globals x_thingShown x_thingClass x_thingFields x_thingToken x_thingMaker x_variables x_homeOf x_within x_foundIn y_sort y_number y_stands y_keeps y_cells y_within y_foundIn y_self y_args y_temps y_param) (F : rn_F T ST SA lv σ lev ho y_kind y_word fa ph bs ow gg wk un rt (p + 1) w y_sort y_number x_frameToken x_frameStage x_frameLink x_operands x_baseFrame y_operands y_self y_at y_in y_phase y_base y_goal y_work y_under y_live) (hp : ph p ≠ 100) (hk : y_kind (fa p) = 10 ∨ y_kind (fa p) = 11 ∨ y_kind (fa p) = 14 ∨ y_kind (fa p) = 15) (nt : ¬ fr_tail (y_kind (fa p)) (ph p)) (hs : s < 12) (hl : l = -1 ∨ ∃ c, c < cc ∧ l = nI c)
    (hr : hp_v ST (hp_s y_sort y_number) (x_operands (fr_x y_kind fa ph p * 3)) yr) (ha : hp_v ST (hp_s y_sort y_number) (x_operands (fr_x y_kind fa ph p * 3 + 1)) ya) (hb : hp_v ST (hp_s y_sort y_number) (x_operands (fr_x y_kind fa ph p * 3 + 2)) yb) (hna : s < 4 → ya = 4294967296) (rr : ∀ k, vv_T yr k → cl_r (gy_R y_globals y_operands (bs (p + 1)) y_work w) (gy_E y_sort y_keeps y_cells y_within y_self y_args y_temps y_param) k) (ra : ∀ k, vv_T ya k → cl_r (gy_R y_globals y_operands (bs (p + 1)) y_work w) (gy_E y_sort y_keeps y_cells y_within y_self y_args y_temps y_param) k) (rb : ∀ k, vv_T yb k → cl_r (gy_R y_globals y_operands (bs (p + 1)) y_work w) (gy_E y_sort y_keeps y_cells y_within y_self y_args y_temps y_param) k)
    (n : rn_n B (M + 1) mc st sp (rn_mu (tk_nd y_kind y_word) fa un rt st (p + 1) w (ex_e (tk_nd y_kind y_word) (fa p)) 1)) (hB : B < 2 ^ 30) (ht : tm + 2 ≤ 1000000)
    (gX : ∀ Q : SX → Prop, wpX_sendMessage (fun u => match u with | (x_classCount, x_bodyCount, x_draftCount, x_wrongPlace, x_madeCount, x_frameCount, x_current, x_next, x_inHand, x_mode, x_outcome, x_stepCount, x_atWork, x_mostAtWork, x_saidCount, x_pendingCount, x_classParent, x_classFields, x_bound, x_tokenKind, x_tokenValue, x_globals, x_thingShown, x_thingClass, x_thingFields, x_thingToken, x_thingMaker, x_variables, x_homeOf, x_within, x_foundIn, x_baseFrame, x_frameToken, x_frameStage, x_frameLink, x_operands, x_saidValues, x_marked, x_pending) => Q (x_classCount, x_bodyCount, x_draftCount, x_wrongPlace, x_madeCount, x_frameCount, x_current, x_next, x_inHand, x_mode, x_outcome, x_stepCount, x_atWork, x_mostAtWork, x_saidCount, x_pendingCount, x_classParent, x_classFields, x_bound, x_tokenKind, x_tokenValue, x_globals, x_thingShown, x_thingClass, x_thingFields, x_thingToken, x_thingMaker, x_variables, x_homeOf, x_within, x_foundIn, x_baseFrame, x_frameToken, x_frameStage, x_frameLink, x_operands, x_saidValues, x_marked, x_pending)) (nI cc, nI bc, nI dc, y_fault, nI mc, nI (fr_x y_kind fa ph p + 1), nI (σ (wk (w - 1))), nI (ex_e (tk_nd y_kind y_word) (fa p)), x_inHand, 2, 100, nI st, nI w, y_peak, nI sp, x_pendingCount, y_parent, y_fields, y_bound, x_tokenKind, x_tokenValue, x_globals, x_thingShown, x_thingClass, x_thingFields, x_thingToken, x_thingMaker, x_variables, x_homeOf, x_within, x_foundIn, x_baseFrame, x_frameToken, x_frameStage, x_frameLink, x_operands, y_heard, x_marked, x_pending) (nI s) l → wpX_applyOperator Q (nI cc, nI bc, nI dc, y_fault, nI mc, nI (fr_x y_kind fa ph p + 1), nI (σ (wk (w - 1))), nI (ex_e (tk_nd y_kind y_word) (fa p)), x_inHand, 2, 100, nI st, nI w, y_peak, nI sp, x_pendingCount, y_parent, y_fields, y_bound, x_tokenKind, x_tokenValue, x_globals, x_thingShown, x_thingClass, x_thingFields, x_thingToken, x_thingMaker, x_variables, x_homeOf, x_within, x_foundIn, x_baseFrame, x_frameToken, x_frameStage, x_frameLink, x_operands, y_heard, x_marked, x_pending))
    (gY : ∀ Q : SY → Prop, wpY_message (fun u => match u with | (y_classes, y_bodies, y_fault, y_made, y_working, y_peak, y_steps, y_depth, y_waiting, y_code, y_running, y_has, y_got, y_todos, y_marks, y_shown, y_spoken, y_parent, y_fields, y_bound, y_kind, y_word, y_size, y_sort, y_number, y_stands, y_keeps, y_cells, y_globals, y_within, y_foundIn, y_self, y_args, y_temps, y_param, y_live, y_work, y_under, y_at, y_in, y_phase, y_base, y_goal, y_operands, y_marked, y_todo, y_heard) => Q (y_classes, y_bodies, y_fault, y_made, y_working, y_peak, y_steps, y_depth, y_waiting, y_code, y_running, y_has, y_got, y_todos, y_marks, y_shown, y_spoken, y_parent, y_fields, y_bound, y_kind, y_word, y_size, y_sort, y_number, y_stands, y_keeps, y_cells, y_globals, y_within, y_foundIn, y_self, y_args, y_temps, y_param, y_live, y_work, y_under, y_at, y_in, y_phase, y_base, y_goal, y_operands, y_marked, y_todo, y_heard)) (nI cc, nI bc, y_fault, nI mc, nI w, y_peak, nI st, nI (p + 1), nI (bs (p + 1)), y_code, 1, 0, y_got, y_todos, y_marks, -10000000000, nI sp, y_parent, y_fields, y_bound, y_kind, y_word, y_size, y_sort, y_number, y_stands, y_keeps, y_cells, y_globals, y_within, y_foundIn, y_self, y_args, y_temps, y_param, y_live, y_work, y_under, y_at, y_in, y_phase, y_base, y_goal, y_operands, y_marked, y_todo, y_heard) yr l (nI s) ya yb → wpY_next Q (nI cc, nI bc, y_fault, nI mc, nI w, y_peak, nI st, nI (p + 1), nI (bs (p + 1)), y_code, 1, 0, y_got, y_todos, y_marks, -10000000000, nI sp, y_parent, y_fields, y_bound, y_kind, y_word, y_size, y_sort, y_number, y_stands, y_keeps, y_cells, y_globals, y_within, y_foundIn, y_self, y_args, y_temps, y_param, y_live, y_work, y_under, y_at, y_in, y_phase, y_base, y_goal, y_operands, y_marked, y_todo, y_heard)) :
    rn_Go B M tm (nI cc, nI bc, nI dc, y_fault, nI mc, nI (fr_x y_kind fa ph p + 1), nI (σ (wk (w - 1))), nI (ex_e (tk_nd y_kind y_word) (fa p)), x_inHand, 2, 100, nI st, nI w, y_peak, nI sp, x_pendingCount, y_parent, y_fields, y_bound, x_tokenKind, x_tokenValue, x_globals, x_thingShown, x_thingClass, x_thingFields, x_thingToken, x_thingMaker, x_variables, x_homeOf, x_within, x_foundIn, x_baseFrame, x_frameToken, x_frameStage, x_frameLink, x_operands, y_heard, x_marked, x_pending) (nI cc, nI bc, y_fault, nI mc, nI w, y_peak, nI st, nI (p + 1), nI (bs (p + 1)), y_code, 1, 0, y_got, y_todos, y_marks, -10000000000, nI sp, y_parent, y_fields, y_bound, y_kind, y_word, y_size, y_sort, y_number, y_stands, y_keeps, y_cells, y_globals, y_within, y_foundIn, y_self, y_args, y_temps, y_param, y_live, y_work, y_under, y_at, y_in, y_phase, y_base, y_goal, y_operands, y_marked, y_todo, y_heard) := by
  have hxr := rn_xr A F hp
  have nB : mc ≤ B := by have := n.2.2.2; omega
  have gX' : ∀ Q : SX → Prop, wpX_sendMessage Q (nI cc, nI bc, nI dc, y_fault, nI mc, nI (fr_x y_kind fa ph p + 1), nI (σ (wk (w - 1))), nI (ex_e (tk_nd y_kind y_word) (fa p)), x_inHand, 2, 100, nI st, nI w, y_peak, nI sp, x_pendingCount, y_parent, y_fields, y_bound, x_tokenKind, x_tokenValue, x_globals, x_thingShown, x_thingClass, x_thingFields, x_thingToken, x_thingMaker, x_variables, x_homeOf, x_within, x_foundIn, x_baseFrame, x_frameToken, x_frameStage, x_frameLink, x_operands, y_heard, x_marked, x_pending) (nI s) l → _ := fun Q h => gX Q (by rw [sx_eta]; exact h)
  have gY' : ∀ Q : SY → Prop, wpY_message Q (nI cc, nI bc, y_fault, nI mc, nI w, y_peak, nI st, nI (p + 1), nI (bs (p + 1)), y_code, 1, 0, y_got, y_todos, y_marks, -10000000000, nI sp, y_parent, y_fields, y_bound, y_kind, y_word, y_size, y_sort, y_number, y_stands, y_keeps, y_cells, y_globals, y_within, y_foundIn, y_self, y_args, y_temps, y_param, y_live, y_work, y_under, y_at, y_in, y_phase, y_base, y_goal, y_operands, y_marked, y_todo, y_heard) yr l (nI s) ya yb → _ := fun Q h => gY Q (by rw [sy_eta]; exact h)
  rcases msg_find (x_classCount := nI cc) (x_bodyCount := nI bc) (x_draftCount := nI dc) (x_wrongPlace := y_fault) (x_madeCount := nI mc) (x_current := nI (σ (wk (w - 1)))) (x_next := nI (ex_e (tk_nd y_kind y_word) (fa p))) (x_inHand := x_inHand) (x_mode := 2) (x_outcome := 100) (x_stepCount := nI st) (x_atWork := nI w) (x_mostAtWork := y_peak) (x_saidCount := nI sp) (x_pendingCount := x_pendingCount) (x_classFields := y_fields) (x_tokenKind := x_tokenKind) (x_tokenValue := x_tokenValue) (x_globals := x_globals) (x_thingShown := x_thingShown) (x_thingClass := x_thingClass) (x_thingFields := x_thingFields) (x_thingToken := x_thingToken) (x_thingMaker := x_thingMaker) (x_variables := x_variables) (x_homeOf := x_homeOf) (x_within := x_within) (x_foundIn := x_foundIn) (x_baseFrame := x_baseFrame) (x_frameToken := x_frameToken) (x_frameStage := x_frameStage) (x_frameLink := x_frameLink) (x_operands := x_operands) (x_saidValues := y_heard) (x_marked := x_marked) (x_pending := x_pending) (y_classes := nI cc) (y_bodies := nI bc) (y_fault := y_fault) (y_made := nI mc) (y_working := nI w) (y_peak := y_peak) (y_steps := nI st) (y_depth := nI (p + 1)) (y_waiting := nI (bs (p + 1))) (y_code := y_code) (y_running := 1) (y_has := 0) (y_got := y_got) (y_todos := y_todos) (y_marks := y_marks) (y_shown := -10000000000) (y_spoken := nI sp) (y_parent := y_parent) (y_fields := y_fields) (y_bound := y_bound) (y_kind := y_kind) (y_word := y_word) (y_size := y_size) (y_sort := y_sort) (y_number := y_number) (y_stands := y_stands) (y_keeps := y_keeps) (y_cells := y_cells) (y_globals := y_globals) (y_within := y_within) (y_foundIn := y_foundIn) (y_self := y_self) (y_args := y_args) (y_temps := y_temps) (y_param := y_param) (y_live := y_live) (y_work := y_work) (y_under := y_under) (y_at := y_at) (y_in := y_in) (y_phase := y_phase) (y_base := y_base) (y_goal := y_goal) (y_operands := y_operands) (y_marked := y_marked) (y_todo := y_todo) (y_heard := y_heard) A.2.2.2.1 A.2.2.1 A.1.1 A.1.2.1 (fc := fr_x y_kind fa ph p) hxr hs hl hr ha hb hna with ⟨fX, fY⟩ | ⟨c, b, s', xa, xb, ya', yb', hc, hb1, hs', hbd, hxa, hxb, ea, eb, mX, mY⟩
  · exact ⟨(nI cc, nI bc, nI dc, y_fault, nI mc, nI (fr_x y_kind fa ph p + 1), nI (σ (wk (w - 1))), nI (ex_e (tk_nd y_kind y_word) (fa p)), x_inHand, 2, 1, nI st, nI w, y_peak, nI sp, x_pendingCount, y_parent, y_fields, y_bound, x_tokenKind, x_tokenValue, x_globals, x_thingShown, x_thingClass, x_thingFields, x_thingToken, x_thingMaker, x_variables, x_homeOf, x_within, x_foundIn, x_baseFrame, x_frameToken, x_frameStage, x_frameLink, x_operands, y_heard, x_marked, x_pending), (nI cc, nI bc, y_fault, nI mc, nI w, y_peak, nI st, nI (p + 1), nI (bs (p + 1)), 1, 0, 0, y_got, y_todos, y_marks, -10000000000, nI sp, y_parent, y_fields, y_bound, y_kind, y_word, y_size, y_sort, y_number, y_stands, y_keeps, y_cells, y_globals, y_within, y_foundIn, y_self, y_args, y_temps, y_param, y_live, y_work, y_under, y_at, y_in, y_phase, y_base, y_goal, y_operands, y_marked, y_todo, y_heard), tm + 1, by omega, fun PX k => xt_apply (by omega) (fun Q q => gX' Q (fX Q q)) k, fun PY m k => YL_mono (yt_next (fun Q q => gY' Q (fY Q q)) k) (by omega), Or.inl (rn_stop2 A (rn_wl A F) (by decide) (by decide) nB)⟩
  · refine go_msg A F hp hk nt hc hb1 hs' hbd hr hxa hxb rr (fun k hT => ?_) (fun k hT => ?_) n hB ht (fun Q h => gX' Q (mX Q h)) (fun Q h => gY' Q (mY Q h))
    · rcases ea with rfl | ea
      · exact ra k hT
      · exact absurd hT (ea k)
    · rcases eb with rfl | rfl
      · exact rb k hT
      · exact ra k hT
end
end
