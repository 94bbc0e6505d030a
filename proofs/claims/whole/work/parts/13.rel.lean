/-! ===== the relation; statements ===== -/
def av_J (n : Nat) (o a b c K f k y : Nat → Int32) : Prop :=
  n ≤ 20 ∧ (∀ p, p < n → av_ok (o p) (a p) (b p) (c p)) ∧ av_B f ∧ av_B y ∧ (∀ w, w < 4 → ¬ K w = 0 → av_R w (av_P n o a b c) f) ∧ (∀ w, w < 4 → ¬ k w = 0 → av_R w (av_P n o a b c) y)
/-- the same statements on both sides; each kept result is the least family of forms of its way -/
def i_Rel (_ : Nat) (u : SX) (v : SY) : Prop :=
  ∃ (n : Nat) (L M : Int32) (o a b c K f q V D y k g h r : Nat → Int32), u = (nI n, L, M, o, a, b, c, K, f, q, V, D, 43008) ∧ v = (nI n, o, a, b, c, y, k, g, h, r, 43008) ∧ av_J n o a b c K f k y
theorem i_up {k : Nat} {u : SX} {v : SY} (h : i_Rel k u v) : i_Rel (k + 5) u v := h
theorem av_Rel {j n : Nat} {L M : Int32} {o a b c K f q V D y k g h r : Nat → Int32} (hJ : av_J n o a b c K f k y) : i_Rel j (nI n, L, M, o, a, b, c, K, f, q, V, D, 43008) (nI n, o, a, b, c, y, k, g, h, r, 43008) :=
  ⟨n, L, M, o, a, b, c, K, f, q, V, D, y, k, g, h, r, rfl, rfl, hJ⟩
theorem av_43 : (43008 : Int32).toNatClampNeg = 43008 := by decide
theorem i_vc0 : wpX_init (fun u => wpY_init (fun v => i_Rel 0 u v)) :=
  ⟨by decide, nm_r av_43 ⟨Nat.le_refl _, ⟨by decide, nm_r av_43 ⟨Nat.le_refl _, av_Rel (n := 0) ⟨by omega, fun p hp => absurd hp (by omega), fun _ => Or.inl rfl, fun _ => Or.inl rfl, fun w _ hk => absurd rfl hk, fun w _ hk => absurd rfl hk⟩⟩⟩⟩⟩
/-! ===== ranges ===== -/
theorem av_rng {x : Int32} (m : Nat) (hm : m < 2 ^ 31) (h0 : ¬ x < 0) (h1 : ¬ nI m ≤ x) : ∃ i, i < m ∧ x = nI i := by
  obtain ⟨j, hj, e⟩ := nI_of h0
  refine ⟨j, ?_, e⟩
  by_cases g : m ≤ j
  · rw [e] at h1
    exact absurd (nI_le g hj) h1
  · omega
theorem av_rngl {x : Int32} (m : Nat) (hm : m + 1 < 2 ^ 31) (h0 : ¬ x < 0) (h1 : ¬ nI m < x) : ∃ i, i < m + 1 ∧ x = nI i := by
  obtain ⟨j, hj, e⟩ := nI_of h0
  refine ⟨j, ?_, e⟩
  by_cases g : m < j
  · rw [e] at h1
    exact absurd (nI_lt g hj) h1
  · omega
theorem av_rng0 {x : Int32} {m : Nat} (hm : m < 2 ^ 31) (h : ∃ i, i < m ∧ x = nI i) : ¬ x < 0 ∧ ¬ nI m ≤ x := by
  obtain ⟨i, hi, e⟩ := h
  rw [e]
  exact ⟨nI_pos (by omega), nI_ge hi hm⟩
theorem av_rngl0 {x : Int32} {m : Nat} (hm : m < 2 ^ 31) (h : ∃ i, i < m + 1 ∧ x = nI i) : ¬ x < 0 ∧ ¬ nI m < x := by
  obtain ⟨i, hi, e⟩ := h
  rw [e]
  exact ⟨nI_pos (by omega), nI_nlt (by omega) hm⟩
theorem av_ok_op {o a b c : Int32} (h : av_ok o a b c) : o = 0 ∨ o = 1 ∨ o = 2 ∨ o = 3 ∨ o = 4 ∨ o = 5 ∨ o = 6 := by
  rcases h with h | h | h | h | h | h | h
  · exact Or.inl h.1
  · exact Or.inr (Or.inl h.1)
  · exact Or.inr (Or.inr (Or.inl h.1))
  · exact Or.inr (Or.inr (Or.inr (Or.inl h.1)))
  · exact Or.inr (Or.inr (Or.inr (Or.inr (Or.inl h.1))))
  · exact Or.inr (Or.inr (Or.inr (Or.inr (Or.inr (Or.inl h.1)))))
  · exact Or.inr (Or.inr (Or.inr (Or.inr (Or.inr (Or.inr h)))))
theorem av_ok_0 {a b c : Int32} : av_ok 0 a b c ↔ ((∃ i, i < 3 ∧ a = nI i) ∧ (∃ x, x < 8 ∧ c = nI x)) := by
  refine ⟨fun h => ?_, fun h => Or.inl ⟨rfl, h⟩⟩
  rcases h with h | ⟨e, _⟩ | ⟨e, _⟩ | ⟨e, _⟩ | ⟨e, _⟩ | ⟨e, _⟩ | e
  · exact h.2
  · exact absurd e (by decide)
  · exact absurd e (by decide)
  · exact absurd e (by decide)
  · exact absurd e (by decide)
  · exact absurd e (by decide)
  · exact absurd e (by decide)
theorem av_ok_1 {a b c : Int32} : av_ok 1 a b c ↔ ((∃ i, i < 3 ∧ a = nI i) ∧ (∃ j, j < 4 ∧ b = nI j) ∧ -7 ≤ c ∧ c ≤ 7) := by
  refine ⟨fun h => ?_, fun h => Or.inr (Or.inl ⟨rfl, h⟩)⟩
  rcases h with ⟨e, _⟩ | h | ⟨e, _⟩ | ⟨e, _⟩ | ⟨e, _⟩ | ⟨e, _⟩ | e
  · exact absurd e (by decide)
  · exact h.2
  · exact absurd e (by decide)
  · exact absurd e (by decide)
  · exact absurd e (by decide)
  · exact absurd e (by decide)
  · exact absurd e (by decide)
theorem av_ok_2 {a b c : Int32} : av_ok 2 a b c ↔ (∃ i, i < 3 ∧ a = nI i) := by
  refine ⟨fun h => ?_, fun h => Or.inr (Or.inr (Or.inl ⟨rfl, h⟩))⟩
  rcases h with ⟨e, _⟩ | ⟨e, _⟩ | h | ⟨e, _⟩ | ⟨e, _⟩ | ⟨e, _⟩ | e
  · exact absurd e (by decide)
  · exact absurd e (by decide)
  · exact h.2
  · exact absurd e (by decide)
  · exact absurd e (by decide)
  · exact absurd e (by decide)
  · exact absurd e (by decide)
theorem av_ok_3 {a b c : Int32} : av_ok 3 a b c ↔ ((∃ i, i < 4 ∧ a = nI i) ∧ (∃ j, j < 4 ∧ b = nI j) ∧ ¬ a = b ∧ -7 ≤ c ∧ c ≤ 7) := by
  refine ⟨fun h => ?_, fun h => Or.inr (Or.inr (Or.inr (Or.inl ⟨rfl, h⟩)))⟩
  rcases h with ⟨e, _⟩ | ⟨e, _⟩ | ⟨e, _⟩ | h | ⟨e, _⟩ | ⟨e, _⟩ | e
  · exact absurd e (by decide)
  · exact absurd e (by decide)
  · exact absurd e (by decide)
  · exact h.2
  · exact absurd e (by decide)
  · exact absurd e (by decide)
  · exact absurd e (by decide)
theorem av_ok_4 {a b c : Int32} : av_ok 4 a b c ↔ (∃ x, x < 21 ∧ c = nI x) := by
  refine ⟨fun h => ?_, fun h => Or.inr (Or.inr (Or.inr (Or.inr (Or.inl ⟨rfl, h⟩))))⟩
  rcases h with ⟨e, _⟩ | ⟨e, _⟩ | ⟨e, _⟩ | ⟨e, _⟩ | h | ⟨e, _⟩ | e
  · exact absurd e (by decide)
  · exact absurd e (by decide)
  · exact absurd e (by decide)
  · exact absurd e (by decide)
  · exact h.2
  · exact absurd e (by decide)
  · exact absurd e (by decide)
theorem av_ok_5 {a b c : Int32} : av_ok 5 a b c ↔ (∃ x, x < 21 ∧ c = nI x) := by
  refine ⟨fun h => ?_, fun h => Or.inr (Or.inr (Or.inr (Or.inr (Or.inr (Or.inl ⟨rfl, h⟩)))))⟩
  rcases h with ⟨e, _⟩ | ⟨e, _⟩ | ⟨e, _⟩ | ⟨e, _⟩ | ⟨e, _⟩ | h | e
  · exact absurd e (by decide)
  · exact absurd e (by decide)
  · exact absurd e (by decide)
  · exact absurd e (by decide)
  · exact absurd e (by decide)
  · exact h.2
  · exact absurd e (by decide)
theorem av_ok_6 {a b c : Int32} : av_ok 6 a b c := Or.inr (Or.inr (Or.inr (Or.inr (Or.inr (Or.inr rfl)))))
theorem ax_isV {post : Int32 → Prop} {x : Int32} (k1 : (∃ i, i < 3 ∧ x = nI i) → post 1) (k0 : ¬ (∃ i, i < 3 ∧ x = nI i) → post 0) : wpX_isVariable post x :=
  br_c (fun z => k0 (fun g => (av_rng0 (by decide) g).1 z)) (fun z => br_c (fun z2 => k0 (fun g => (av_rng0 (by decide) g).2 z2)) (fun z2 => k1 (av_rng 3 (by decide) z z2)))
theorem ax_isW {post : Int32 → Prop} {x : Int32} (k1 : (∃ i, i < 4 ∧ x = nI i) → post 1) (k0 : ¬ (∃ i, i < 4 ∧ x = nI i) → post 0) : wpX_isVariableOrZero post x :=
  br_c (fun z => k0 (fun g => (av_rngl0 (m := 3) (by decide) g).1 z)) (fun z => br_c (fun z2 => k0 (fun g => (av_rngl0 (m := 3) (by decide) g).2 z2)) (fun z2 => k1 (av_rngl 3 (by decide) z z2)))
theorem ax_isP {post : Int32 → Prop} {x : Int32} (k1 : (∃ i, i < 16 ∧ x = nI i) → post 1) (k0 : ¬ (∃ i, i < 16 ∧ x = nI i) → post 0) : wpX_isPair post x :=
  br_c (fun z => k0 (fun g => (av_rng0 (by decide) g).1 z)) (fun z => br_c (fun z2 => k0 (fun g => (av_rng0 (by decide) g).2 z2)) (fun z2 => k1 (av_rng 16 (by decide) z z2)))
theorem ax_147 {post : Int32 → Prop} {x : Int32} (k1 : (∃ i, i < 21 ∧ x = nI i) → post 1) (k0 : ¬ (∃ i, i < 21 ∧ x = nI i) → post 0) : wX_isStatement_147 post x :=
  br_c (fun z => k0 (fun g => (av_rngl0 (m := 20) (by decide) g).1 z)) (fun z => br_c (fun z2 => k0 (fun g => (av_rngl0 (m := 20) (by decide) g).2 z2)) (fun z2 => k1 (av_rngl 20 (by decide) z z2)))
theorem ax_17 {post : Int32 → Prop} {x0 x1 x2 x3 z0 : Int32} (hz : (z0 = 0 ∧ ¬ (-7 ≤ x3 ∧ x3 ≤ 7)) ∨ (z0 = 1 ∧ -7 ≤ x3 ∧ x3 ≤ 7)) (k1 : av_ok x0 x1 x2 x3 → post 1) (k0 : ¬ av_ok x0 x1 x2 x3 → post 0) : wX_isStatement_17 post x0 x1 x2 x3 z0 := by
  have hz0 : z0 = 0 → ¬ (-7 ≤ x3 ∧ x3 ≤ 7) := fun e => by
    rcases hz with g | g
    · exact g.2
    · rw [g.1] at e
      exact absurd e (by decide)
  have hz1 : ¬ z0 = 0 → (-7 ≤ x3 ∧ x3 ≤ 7) := fun e => by
    rcases hz with g | g
    · exact absurd g.1 e
    · exact g.2
  refine br_c (fun z => k0 (fun g => ?_)) (fun z => br_c (fun z2 => k0 (fun g => ?_)) (fun z2 => br_c (fun e => ?_) (fun e0 => br_c (fun e => ?_) (fun e1 => br_c (fun e => ?_) (fun e2 => br_c (fun e => ?_) (fun e3 => br_c (fun e => ?_) (fun e4 => br_c (fun e => ?_) (fun e5 => br_c (fun e => ?_) (fun _ => trivial)))))))))
  · rcases av_ok_op g with e | e | e | e | e | e | e <;> rw [e] at z <;> exact absurd z (by decide)
  · rcases av_ok_op g with e | e | e | e | e | e | e <;> rw [e] at z2 <;> exact absurd z2 (by decide)
  · subst e
    rw [av_ok_0] at k1 k0
    exact ax_isV (fun h1 => br_f (by decide) (br_c (fun z3 => k0 (fun g => (av_rngl0 (m := 7) (by decide) g.2).1 z3)) (fun z3 => br_c (fun z4 => k0 (fun g => (av_rngl0 (m := 7) (by decide) g.2).2 z4)) (fun z4 => k1 ⟨h1, av_rngl 7 (by decide) z3 z4⟩)))) (fun h1 => br_t rfl (k0 (fun g => h1 g.1)))
  · subst e
    rw [av_ok_1] at k1 k0
    exact ax_isV (fun h1 => br_f (by decide) (ax_isW (fun h2 => br_f (by decide) (br_c (fun z3 => k0 (fun g => hz0 z3 g.2.2)) (fun z3 => k1 ⟨h1, h2, hz1 z3⟩))) (fun h2 => br_t rfl (k0 (fun g => h2 g.2.1))))) (fun h1 => br_t rfl (k0 (fun g => h1 g.1)))
  · subst e
    rw [av_ok_2] at k1 k0
    exact ax_isV (fun h1 => ⟨av_nb1, k1 h1⟩) (fun h1 => ⟨av_nb0, k0 h1⟩)
  · subst e
    rw [av_ok_3] at k1 k0
    exact ax_isW (fun h1 => br_f (by decide) (ax_isW (fun h2 => br_f (by decide) (br_c (fun z3 => k0 (fun g => g.2.2.1 z3)) (fun z3 => br_c (fun z4 => k0 (fun g => hz0 z4 g.2.2.2)) (fun z4 => k1 ⟨h1, h2, z3, hz1 z4⟩)))) (fun h2 => br_t rfl (k0 (fun g => h2 g.2.1))))) (fun h1 => br_t rfl (k0 (fun g => h1 g.1)))
  · subst e
    rw [av_ok_4] at k1 k0
    exact ax_147 k1 k0
  · subst e
    rw [av_ok_5] at k1 k0
    exact ax_147 k1 k0
  · subst e
    exact k1 av_ok_6
theorem ax_isS {post : Int32 → Prop} {x0 x1 x2 x3 : Int32} (k1 : av_ok x0 x1 x2 x3 → post 1) (k0 : ¬ av_ok x0 x1 x2 x3 → post 0) : wpX_isStatement post x0 x1 x2 x3 :=
  br_c (fun z => ax_17 (Or.inl ⟨rfl, fun g => Int32.not_lt.mpr g.1 z⟩) k1 k0) (fun z => br_c (fun z2 => ax_17 (Or.inl ⟨rfl, fun g => Int32.not_lt.mpr g.2 z2⟩) k1 k0) (fun z2 => ax_17 (Or.inr ⟨rfl, Int32.not_lt.mp z, Int32.not_lt.mp z2⟩) k1 k0))
section
variable {N : Int32} {o a b c f k g h r : Nat → Int32}
theorem ay_inr {post : Int32 → Prop} {x : Int32} (m : Nat) (hm : m + 1 < 2 ^ 31) (k1 : (∃ i, i < m + 1 ∧ x = nI i) → post 1) (k0 : ¬ (∃ i, i < m + 1 ∧ x = nI i) → post 0) : wpY_in post (N, o, a, b, c, f, k, g, h, r, 43008) x 0 (nI m) :=
  ay_in (fun z z2 => k1 (av_rngl m hm (Int32.not_lt.mpr z) (Int32.not_lt.mpr z2))) (fun z => k0 (fun g2 => z.elim (av_rngl0 (by omega) g2).1 (av_rngl0 (by omega) g2).2))
theorem ay_in7 {post : Int32 → Prop} {x : Int32} (k1 : (-7 ≤ x ∧ x ≤ 7) → post 1) (k0 : ¬ (-7 ≤ x ∧ x ≤ 7) → post 0) : wpY_in post (N, o, a, b, c, f, k, g, h, r, 43008) x (-7) 7 :=
  ay_in (fun z z2 => k1 ⟨z, z2⟩) (fun z => k0 (fun g2 => z.elim (fun z1 => Int32.not_lt.mpr g2.1 z1) (fun z1 => Int32.not_lt.mpr g2.2 z1)))
theorem ay_fits {post : Int32 → Prop} {x0 x1 x2 x3 : Int32} (k1 : av_ok x0 x1 x2 x3 → post 1) (k0 : ¬ av_ok x0 x1 x2 x3 → post 0) : wpY_fits post (N, o, a, b, c, f, k, g, h, r, 43008) x0 x1 x2 x3 := by
  refine br_c (fun e => ?_) (fun e0 => br_c (fun e => ?_) (fun e1 => br_c (fun e => ?_) (fun e2 => br_c (fun e => ?_) (fun e3 => br_c (fun e => ?_) (fun e4 => br_c (fun e => ?_) (fun e5 => br_c (fun e => ?_) (fun e6 => k0 (fun g2 => ?_))))))))
  · subst e
    rw [av_ok_0] at k1 k0
    exact ay_inr 2 (by decide) (fun h1 => br_f (by decide) (ay_inr 7 (by decide) (fun h2 => br_f (by decide) (k1 ⟨h1, h2⟩)) (fun h2 => br_t rfl (k0 (fun g2 => h2 g2.2))))) (fun h1 => br_t rfl (k0 (fun g2 => h1 g2.1)))
  · subst e
    rw [av_ok_1] at k1 k0
    exact ay_inr 2 (by decide) (fun h1 => br_f (by decide) (ay_inr 3 (by decide) (fun h2 => br_f (by decide) (ay_in7 (fun h3 => br_f (by decide) (k1 ⟨h1, h2, h3⟩)) (fun h3 => br_t rfl (k0 (fun g2 => h3 g2.2.2))))) (fun h2 => br_t rfl (k0 (fun g2 => h2 g2.2.1))))) (fun h1 => br_t rfl (k0 (fun g2 => h1 g2.1)))
  · subst e
    rw [av_ok_2] at k1 k0
    exact ay_inr 2 (by decide) (fun h1 => ⟨av_nb1, k1 h1⟩) (fun h1 => ⟨av_nb0, k0 h1⟩)
  · subst e
    rw [av_ok_3] at k1 k0
    exact ay_inr 3 (by decide) (fun h1 => br_f (by decide) (ay_inr 3 (by decide) (fun h2 => br_f (by decide) (br_c (fun z3 => k0 (fun g2 => g2.2.2.1 z3)) (fun z3 => ay_in7 (fun h3 => br_f (by decide) (k1 ⟨h1, h2, z3, h3⟩)) (fun h3 => br_t rfl (k0 (fun g2 => h3 g2.2.2.2)))))) (fun h2 => br_t rfl (k0 (fun g2 => h2 g2.2.1))))) (fun h1 => br_t rfl (k0 (fun g2 => h1 g2.1)))
  · subst e
    rw [av_ok_4] at k1 k0
    exact ay_inr 20 (by decide) (fun h1 => ⟨av_nb1, k1 h1⟩) (fun h1 => ⟨av_nb0, k0 h1⟩)
  · subst e
    rw [av_ok_5] at k1 k0
    exact ay_inr 20 (by decide) (fun h1 => ⟨av_nb1, k1 h1⟩) (fun h1 => ⟨av_nb0, k0 h1⟩)
  · subst e
    exact k1 av_ok_6
  · rcases av_ok_op g2 with e | e | e | e | e | e | e
    · exact e0 e
    · exact e1 e
    · exact e2 e
    · exact e3 e
    · exact e4 e
    · exact e5 e
    · exact e6 e
theorem ay_drop {post : SY → Prop} (kk : post (N, o, a, b, c, f, av_m 0 4 (fun _ => 0) k, g, h, r, 43008)) : wpY_forget post (N, o, a, b, c, f, k, g, h, r, 43008) :=
  av_run (o := 0) (e := 4) (g := fun _ => 0) (f := k) (fun n i s => wY_forget_2 post N 43008 n (nI i) o a b c f s g h r)
    (fun n => pk_le 4 4 (fun _ => kk) (fun z => absurd z (by omega)))
    (fun n i hi hh => pk_le 4 i (fun z => absurd z (by omega)) (fun _ => ⟨pk_in i 4 hi, nm_r (e' := av_m 0 (i + 1) (fun _ => 0) k) (by rw [nI_clamp (by omega), av_nar0]; exact av_m_st (by omega) rfl) (nm_r (nI_1 i) hh)⟩))
theorem ay_put {post : SY → Prop} {i : Nat} {x1 x2 x3 x4 : Int32} (hi : i < 20) (kk : post (N, upd o i x1, upd a i x2, upd b i x3, upd c i x4, f, av_m 0 4 (fun _ => 0) k, g, h, r, 43008)) : wpY_put post (N, o, a, b, c, f, k, g, h, r, 43008) (nI i) x1 x2 x3 x4 :=
  ⟨pk_in i 20 hi, nm_r (e' := upd o i x1) (by rw [nI_clamp (by omega)]) ⟨pk_in i 20 hi, nm_r (e' := upd a i x2) (by rw [nI_clamp (by omega)]) ⟨pk_in i 20 hi, nm_r (e' := upd b i x3) (by rw [nI_clamp (by omega)]) ⟨pk_in i 20 hi, nm_r (e' := upd c i x4) (by rw [nI_clamp (by omega)]) (ay_drop kk)⟩⟩⟩⟩
end
section
variable {N L M : Int32} {o a b c K f q V D : Nat → Int32}
theorem ax_store {post : SX → Prop} {i : Nat} {x1 x2 x3 x4 : Int32} (hi : i < 20) (kk : post (N, L, M, upd o i x1, upd a i x2, upd b i x3, upd c i x4, av_m 0 4 (fun _ => 0) K, f, q, V, D, 43008)) : wpX_store post (N, L, M, o, a, b, c, K, f, q, V, D, 43008) (nI i) x1 x2 x3 x4 :=
  ⟨pk_in i 20 hi, nm_r (e' := upd o i x1) (by rw [nI_clamp (by omega)]) ⟨pk_in i 20 hi, nm_r (e' := upd a i x2) (by rw [nI_clamp (by omega)]) ⟨pk_in i 20 hi, nm_r (e' := upd b i x3) (by rw [nI_clamp (by omega)]) ⟨pk_in i 20 hi, nm_r (e' := upd c i x4) (by rw [nI_clamp (by omega)]) (ax_drop kk)⟩⟩⟩⟩
end
