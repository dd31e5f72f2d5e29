/-! what may happen to the stack -/
section
variable {K : Nat → Int32} {nd : Nat → Nat} {T : Nat → Prop} {fa ph bs ow gg un rt : Nat → Nat} {d w : Nat}
theorem fr_owm (S : fr_S K nd T fa ph bs ow gg un rt d w) {q : Nat} : ∀ {p : Nat}, q ≤ p → p < d → ow q ≤ ow p
  | 0, h, _ => by rw [show q = 0 by omega]; exact Nat.le_refl _
  | p + 1, h, hp => by
    by_cases e : q = p + 1
    · rw [e]; exact Nat.le_refl _
    · have i := fr_owm S (q := q) (p := p) (by omega) (by omega)
      have lo := (S.2.2.2.2.1 (p + 1) hp).2.2.1
      by_cases z : ph p = 100
      · have := ((lo.2 p rfl).1 z).1; omega
      · have := (lo.2 p rfl).2 z; omega
/-- below frame p -/
theorem fr_res (S : fr_S K nd T fa ph bs ow gg un rt d w) {p : Nat} (hp : p < d) : fr_S K nd T fa ph bs ow gg un rt p (ow p + 1) := by
  have mono := fun q h => fr_owm S (q := q) (p := p) h hp
  have mono2 := fun q (h : p ≤ q) (hq : q < d) => fr_owm S (q := p) (p := q) h hq
  obtain ⟨w1, w12, u0, b0, F, top, tr, act⟩ := S
  have fp := F p hp
  refine ⟨by omega, by have := fp.2.1; omega, u0, b0, fun q hq => ?_, by rw [Nat.add_sub_cancel]; exact fp.2.2.1, fun i hi => tr i (by have := fp.2.1; omega), fun i hi => ?_⟩
  · exact fr_Fc (F q (by omega)) (by have := mono q (by omega); omega) (fun _ _ => ⟨rfl, rfl, rfl, rfl, fun _ _ => rfl⟩) rfl (fun _ _ => ⟨rfl, rfl⟩)
  · obtain ⟨p', a, b, c, e⟩ := act i (by have := fp.2.1; omega)
    refine ⟨p', ?_, b, c, e⟩
    rcases Nat.lt_or_ge p' p with q | q
    · exact q
    · have := mono2 p' q a; omega
theorem fr_push (S : fr_S K nd T fa ph bs ow gg un rt d w) {t : Nat} (lt : fr_lt K nd fa ph rt d t (w - 1)) (tt : T t) (ok : fr_ok (K t) (nd t) 0) : fr_S K nd T (nu fa d t) (nu ph d 0) (nu bs (d + 1) (bs d)) (nu ow d (w - 1)) gg un rt (d + 1) w := by
  obtain ⟨w1, w12, u0, b0, F, top, tr, act⟩ := S
  refine ⟨w1, w12, u0, by rw [nu_n (by omega)]; exact b0, fun p hp => ?_, ⟨fun e => by omega, fun q e => ?_⟩, tr, fun i hi => ?_⟩
  · by_cases e : p = d
    · subst e
      unfold fr_F
      rw [nu_s, nu_s, nu_s, nu_s, nu_n (show p ≠ p + 1 by omega)]
      refine ⟨tt, by omega, ⟨top.1, fun q e => ?_⟩, ⟨lt.1, fun q e => ?_⟩, ok, by unfold fr_c; simp, fun _ z => by omega⟩
      · rw [nu_n (by omega), nu_n (by omega)]; exact top.2 q e
      · rw [nu_n (by omega), nu_n (by omega)]; exact lt.2 q e
    · refine fr_Fc (F p (by omega)) (F p (by omega)).2.1 (fun q hq => ⟨nu_n (by omega), nu_n (by omega), nu_n (by omega), nu_n (by omega), fun _ _ => rfl⟩) (nu_n (by omega)) (fun _ _ => ⟨rfl, rfl⟩)
  · obtain rfl : q = d := by omega
    rw [nu_s, nu_s]
    exact ⟨fun z => by omega, fun _ => rfl⟩
  · obtain ⟨p', a, b, c, e⟩ := act i hi
    exact ⟨p', by omega, b, by rw [nu_n (by omega)]; exact c, by rw [nu_n (by omega)]; exact e⟩
theorem fr_set {p : Nat} (S : fr_S K nd T fa ph bs ow gg un rt (p + 1) w) {φ g : Nat} (h1 : ph p ≠ 100) (h2 : φ ≠ 100) (ok : fr_ok (K (fa p)) (nd (fa p)) φ) (hg : K (fa p) = 27 → φ = 2 → g ≤ ow p) : fr_S K nd T fa (nu ph p φ) (nu bs (p + 1) (bs p + fr_c (K (fa p)) φ)) ow (nu gg p g) un rt (p + 1) w := by
  obtain ⟨w1, w12, u0, b0, F, top, tr, act⟩ := S
  refine ⟨w1, w12, u0, by rw [nu_n (by omega)]; exact b0, fun q hq => ?_, ⟨fun e => by omega, fun q e => ?_⟩, tr, fun i hi => ?_⟩
  · by_cases e : q = p
    · subst e
      obtain ⟨f1, f2, f3, f4, f5, f6, f7⟩ := F q (by omega)
      unfold fr_F
      rw [nu_s, nu_s, nu_s, nu_n (show q ≠ q + 1 by omega)]
      refine ⟨f1, f2, ⟨f3.1, fun r e => ?_⟩, ⟨f4.1, fun r e => ?_⟩, ok, rfl, hg⟩
      · rw [nu_n (by omega)]; exact f3.2 r e
      · rw [nu_n (by omega)]; exact f4.2 r e
    · refine fr_Fc (F q (by omega)) (F q (by omega)).2.1 (fun r hr => ⟨rfl, nu_n (by omega), nu_n (by omega), rfl, fun _ _ => nu_n (by omega)⟩) (nu_n (by omega)) (fun _ _ => ⟨rfl, rfl⟩)
  · obtain rfl : q = p := by omega
    rw [nu_s]
    exact ⟨fun z => absurd z h2, fun _ => (top.2 q rfl).2 h1⟩
  · obtain ⟨p', a, b, c, e⟩ := act i hi
    refine ⟨p', a, b, ?_, e⟩
    rw [nu_n (fun z => by subst z; exact h1 c)]; exact c
theorem fr_beg {p r : Nat} (S : fr_S K nd T fa ph bs ow gg un rt (p + 1) w) (h1 : ph p ≠ 100) (hk : K (fa p) = 10 ∨ K (fa p) = 11 ∨ K (fa p) = 14 ∨ K (fa p) = 15) (hw : w < 12) (tr : T r) : fr_S K nd T fa (nu ph p 100) (nu bs (p + 1) (bs p)) ow gg (nu un w (p + 1)) (nu rt w r) (p + 1) (w + 1) := by
  obtain ⟨w1, w12, u0, b0, F, top, tr0, act⟩ := S
  have hu : ∀ i, i < w → nu un w (p + 1) i = un i ∧ nu rt w r i = rt i := fun i hi => ⟨nu_n (by omega), nu_n (by omega)⟩
  refine ⟨by omega, by omega, by rw [nu_n (by omega)]; exact u0, by rw [nu_n (by omega)]; exact b0, fun q hq => ?_, ⟨fun e => by omega, fun q e => ?_⟩, fun i hi => ?_, fun i hi => ?_⟩
  · by_cases e : q = p
    · subst e
      obtain ⟨f1, f2, f3, f4, f5, f6, f7⟩ := F q (by omega)
      unfold fr_F
      rw [nu_s, nu_s, nu_n (show q ≠ q + 1 by omega)]
      refine ⟨f1, by omega, ⟨f3.1, fun s e => ?_⟩, ⟨fun e => ?_, fun s e => ?_⟩, Or.inl ⟨rfl, hk⟩, by unfold fr_c; simp, fun _ z => by omega⟩
      · rw [nu_n (by omega)]
        exact ⟨fun z => ⟨((f3.2 s e).1 z).1, by rw [(hu _ f2).1]; exact ((f3.2 s e).1 z).2⟩, (f3.2 s e).2⟩
      · rw [nu_n (by omega)]; exact f4.1 e
      · rw [nu_n (by omega), (hu _ f2).2]; exact f4.2 s e
    · exact fr_Fc (F q (by omega)) (by have := (F q (by omega)).2.1; omega) (fun s hs => ⟨rfl, nu_n (by omega), nu_n (by omega), rfl, fun _ _ => rfl⟩) (nu_n (by omega)) hu
  · obtain rfl : q = p := by omega
    rw [nu_s]
    refine ⟨fun _ => ⟨?_, ?_⟩, fun z => absurd rfl z⟩
    · have := (top.2 q rfl).2 h1; omega
    · rw [Nat.add_sub_cancel, nu_s]
  · by_cases e : i = w
    · subst e; rw [nu_s]; exact tr
    · rw [(hu i (by omega)).2]; exact tr0 i (by omega)
  · by_cases e : i + 1 = w
    · subst e
      refine ⟨p, by omega, nu_s, nu_s, ?_⟩
      have := (top.2 p rfl).2 h1; omega
    · obtain ⟨p', a, b, c, e'⟩ := act i (by omega)
      refine ⟨p', a, by rw [nu_n e]; exact b, ?_, e'⟩
      rw [nu_n (fun z => by subst z; exact h1 c)]; exact c
/-- up to and with frame p, if it does not wait for an answer -/
theorem fr_low (S : fr_S K nd T fa ph bs ow gg un rt d w) {p : Nat} (hp : p < d) (h : ph p ≠ 100) : fr_S K nd T fa ph bs ow gg un rt (p + 1) (ow p + 1) := by
  have R := fr_res S hp
  obtain ⟨w1, w12, u0, b0, F, top, tr, act⟩ := R
  refine ⟨w1, w12, u0, b0, fun q hq => ?_, ⟨fun e => by omega, fun q e => ?_⟩, tr, fun i hi => ?_⟩
  · by_cases e : q = p
    · subst e
      exact fr_Fc (S.2.2.2.2.1 q hp) (by omega) (fun _ _ => ⟨rfl, rfl, rfl, rfl, fun _ _ => rfl⟩) rfl (fun _ _ => ⟨rfl, rfl⟩)
    · exact F q (by omega)
  · obtain rfl : q = p := by omega
    exact ⟨fun z => absurd z h, fun _ => by omega⟩
  · obtain ⟨p', a, b⟩ := act i hi
    exact ⟨p', by omega, b⟩
/-- frames of one activation lie within one another -/
theorem fr_in (TF : fr_T K nd T) (S : fr_S K nd T fa ph bs ow gg un rt d w) {e : Nat} : ∀ {p : Nat}, e < p → p < d → ow p = ow e → ph e ≠ 100 ∧ fr_pt (K (fa e)) (ph e) < nd (fa e) ∧ ex_e nd (fa p) ≤ ex_pt nd (fa e) (fr_pt (K (fa e)) (ph e) + 1)
  | 0, h, _, _ => by omega
  | p + 1, h, hp, eo => by
    have Fp := S.2.2.2.2.1 (p + 1) hp
    have Fq := S.2.2.2.2.1 p (by omega)
    have m := fr_owm S (q := e) (p := p) (by omega) (by omega)
    have nz : ph p ≠ 100 := fun z => by have := ((Fp.2.2.1.2 p rfl).1 z).1; omega
    have ep := (Fp.2.2.1.2 p rfl).2 nz
    obtain ⟨l1, l2⟩ := (Fp.2.2.2.1.2 p rfl).2 nz
    by_cases q : e = p
    · subst q
      refine ⟨nz, l1, ?_⟩
      show _ ≤ ex_e nd (ex_pt nd (fa e) _)
      rw [l2]
      exact Nat.le_refl _
    · obtain ⟨a, b, c⟩ := fr_in TF S (e := e) (p := p) (by omega) (by omega) (by omega)
      refine ⟨a, b, Nat.le_trans ?_ c⟩
      rw [l2]
      exact (fr_ch TF Fq.1 l1).2.2.2.1
end
