/-! ===== the reference: working out ===== -/
theorem av_H_one {w s : Nat} {A : Nat → Prop} (hw : w < 4) (hs : s < 512) (hA : ∀ t, t < 512 → A t → t = 0) (h : av_H w A s) : s = 0 := by
  have hT : ∀ k, k < 16 → av_T w k s 0 := by
    intro k hk
    obtain ⟨t, ht, hF, g⟩ := h k hk
    rw [hA t ht hF] at g
    exact g
  have hz : ∀ v, v < 3 → av_v 0 v = 0 := by decide
  have hall : w = 0 ∨ ∀ v, v < 3 → av_v s v = 0 := by
    rcases (by omega : w = 0 ∨ w = 1 ∨ w = 2 ∨ w = 3) with e | e | e | e
    · exact Or.inl e
    · exact Or.inr (fun v hv => ((hT v (by omega)).2.1 e hv).trans (hz v hv))
    · refine Or.inr (fun v hv => ?_)
      have g := (hT (4 * v + 3) (by omega)).2.2.1 e (Or.inr (by omega))
      rw [av_d_v3, av_d_v3, (av_hi _ (av_v_lt s v) _ (av_v_lt 0 v)).1, hz v hv] at g
      omega
    · refine Or.inr (fun v hv => ?_)
      have g := (hT (4 * v + 3) (by omega)).2.2.2 e
      rw [av_d_v3, av_d_v3, (av_hi _ (av_v_lt s v) _ (av_v_lt 0 v)).1, hz v hv] at g
      omega
  rcases hall with e | e
  · exact (hT 0 (by decide)).1 e
  · have e0 : s % 8 = 0 := e 0 (by decide)
    have e1 : s / 8 % 8 = 0 := e 1 (by decide)
    have e2 : s / 64 % 8 = 0 := e 2 (by decide)
    omega
theorem av_10 : ¬ (1 : Int32) = 0 := by decide
theorem av_iy0 (w : Nat) : 10752 * nI w = nI (10752 * w) := by
  show nI 10752 * nI w = _
  exact pk_mul _ _
theorem av_iy1 (w : Nat) : 10752 * nI w + 10752 = nI (10752 * w + 10752) := by
  rw [av_iy0]
  show nI (10752 * w) + nI 10752 = _
  exact nI_add _ _
section
variable {N : Int32} {o a b c f k g h r : Nat → Int32}
theorem ay_init {n w : Nat} (hw : w < 4) (hB : av_B f) :
    av_YL w (av_P n o a b c) (upd (av_m (10752 * w) 10752 (fun _ => 0) f) (10752 * w + 512 * 0 + 0) 1) ∧ (∀ t, t < 21 → av_Yv w (av_P n o a b c) (upd (av_m (10752 * w) 10752 (fun _ => 0) f) (10752 * w + 512 * 0 + 0) 1) (upd (av_m 0 21 (fun _ => 0) g) 0 1) t 512) ∧ (∀ t, t < 21 → av_Yh w (upd (av_m (10752 * w) 10752 (fun _ => 0) f) (10752 * w + 512 * 0 + 0) 1) t) ∧ av_E w f (upd (av_m (10752 * w) 10752 (fun _ => 0) f) (10752 * w + 512 * 0 + 0) 1) ∧ 0 + av_g (upd (av_m 0 21 (fun _ => 0) g) 0 1) ≤ av_c (upd (av_m (10752 * w) 10752 (fun _ => 0) f) (10752 * w + 512 * 0 + 0) 1) w := by
  have hz : ∀ p s, p < 21 → s < 512 → ¬ av_F (av_m (10752 * w) 10752 (fun _ => 0) f) w p s := fun p s hp hs hF => hF (av_m_in (by omega) (by omega))
  have hF1 : ∀ p s, p < 21 → s < 512 → (av_F (upd (av_m (10752 * w) 10752 (fun _ => 0) f) (10752 * w + 512 * 0 + 0) 1) w p s ↔ (p = 0 ∧ s = 0)) := fun p s hp hs => (av_F_u (by omega) hs (by decide)).trans ⟨fun e => e.elim (fun e2 => absurd e2 (hz p s hp hs)) id, Or.inr⟩
  have hB0 : av_B (av_m (10752 * w) 10752 (fun _ => 0) f) := by
    intro j
    by_cases e : 10752 * w ≤ j ∧ j < 10752 * w + 10752
    · rw [av_m_in e.1 e.2]
      exact Or.inl rfl
    · rw [av_m_out (by omega)]
      exact hB j
  refine ⟨⟨av_B_u hB0, (hF1 0 0 (by omega) (by omega)).mpr ⟨rfl, rfl⟩, fun p s hp hs hF => ?_⟩, fun t ht => ?_, fun t ht s hs hh => ?_, ?_, ?_⟩
  · obtain ⟨e1, e2⟩ := (hF1 p s hp hs).mp hF
    rw [e1, e2]
    exact av_L_0
  · by_cases e : t = 0
    · refine Or.inl ?_
      rw [e, pk_us]
      decide
    · exact Or.inr (fun s q u hs hF => absurd ((hF1 t s ht hs).mp hF).1 e)
  · obtain ⟨u, hu, hF⟩ := av_H_ne hh
    have et := ((hF1 t u ht hu).mp hF).1
    exact (hF1 t s ht hs).mpr ⟨et, av_H_one hw hs (fun v hv hFv => ((hF1 t v ht hv).mp hFv).2) hh⟩
  · exact av_E_tr (fun j hj => av_m_out hj) (av_E_u (by omega) (by omega))
  · have c0 : av_c (av_m (10752 * w) 10752 (fun _ => 0) f) w = 0 := av_c_0 (fun j hj => av_m_in (by omega) (by omega))
    have c1 : av_g (av_m 0 21 (fun _ => 0) g) = 0 := av_n_0 21 (fun j hj => av_m_in (by omega) (by omega))
    have c2 := av_g_ul (g := av_m 0 21 (fun _ => 0) g) (p := 0) (by omega)
    have c3 := av_c_up (f := av_m (10752 * w) 10752 (fun _ => 0) f) (w := w) (p := 0) (s := 0) (by omega) (by omega) (av_m_in (by omega) (by omega))
    omega
theorem ay_work {post : SY → Prop} {n w : Nat} {x : Int32} (hx : x = nI w) (hw : w < 4) (hn : n ≤ 20) (hok : ∀ p, p < n → av_ok (o p) (a p) (b p) (c p)) (hB : av_B f) (hK : ∀ v, v < 4 → ¬ k v = 0 → av_R v (av_P n o a b c) f)
    (kk : ∀ (k' f' g' h' r' : Nat → Int32), av_B f' → (∀ v, v < 4 → ¬ k' v = 0 → av_R v (av_P n o a b c) f') → ¬ k' w = 0 → (∀ v, ¬ k v = 0 → ¬ k' v = 0) → post (nI n, o, a, b, c, f', k', g', h', r', 43008)) : wpY_workOut post (nI n, o, a, b, c, f, k, g, h, r, 43008) x := by
  subst hx
  have hend : ∀ (f' g' h' r' : Nat → Int32), av_E w f f' → av_YL w (av_P n o a b c) f' → (∀ t, t < 21 → av_Yv w (av_P n o a b c) f' g' t 512) → (∀ t, t < 21 → av_Yh w f' t) → (∀ i, i < n → g' i = 0) → post (nI n, o, a, b, c, f', upd k w 1, g', h', r', 43008) := by
    intro f' g' h' r' hE hL hv hh hg
    refine kk _ _ _ _ _ hL.1 (fun v hv2 hk2 => ?_) (by rw [pk_us]; decide) av_up1
    by_cases e : v = w
    · rw [e]
      refine av_Y_end hL (fun p s q t hp hs hF hP => ?_) hh
      rcases hv p hp with g1 | g1
      · exact absurd (hg p hP.1) g1
      · exact g1 s q t hs hF hP
    · rw [pk_un e] at hk2
      exact av_R_E e hE (hK v hv2 hk2)
  have k81 : ∃ n81, wY_workOut_81 post (nI w) n81 1 0 (nI n) o a b c (upd (av_m (10752 * w) 10752 (fun _ => 0) f) (10752 * w + 512 * 0 + 0) 1) (upd k w 1) (upd (av_m 0 21 (fun _ => 0) g) 0 1) h r 43008 := by
    obtain ⟨i1, i2, i3, i4, i5⟩ := ay_init (n := n) (o := o) (a := a) (b := b) (c := c) (f := f) (g := g) hw hB
    refine loop_m (σ := Int32 × Nat × (Nat → Int32) × (Nat → Int32) × (Nat → Int32) × (Nat → Int32)) (fun n81 t => wY_workOut_81 post (nI w) n81 t.1 (nI t.2.1) (nI n) o a b c (t.2.2.1) (upd k w 1) (t.2.2.2.1) (t.2.2.2.2.1) (t.2.2.2.2.2) 43008)
      (fun t => av_YL w (av_P n o a b c) t.2.2.1 ∧ (∀ u, u < 21 → av_Yv w (av_P n o a b c) t.2.2.1 t.2.2.2.1 u 512) ∧ (∀ u, u < 21 → av_Yh w t.2.2.1 u) ∧ av_E w f t.2.2.1 ∧ t.2.1 ≤ 10753 ∧ (t.1 = 0 → ∀ i, i < n → t.2.2.2.1 i = 0) ∧ (¬ t.1 = 0 → t.2.1 + av_g t.2.2.2.1 ≤ av_c t.2.2.1 w)) (fun t => 10753 - t.2.1) ?_ (1, 0, upd (av_m (10752 * w) 10752 (fun _ => 0) f) (10752 * w + 512 * 0 + 0) 1, upd (av_m 0 21 (fun _ => 0) g) 0 1, h, r) ⟨i1, i2, i3, i4, Nat.zero_le _, fun z => absurd z av_10, fun _ => i5⟩
    intro n81 t hI hk
    obtain ⟨x, rd, f2, g2, h2, r2⟩ := t
    obtain ⟨hL, hv, hh, hE, hrd, hx0, hx1⟩ := hI
    have hrd' : rd ≤ 10753 := hrd
    refine pk_le 10753 rd (fun z => ?_) (fun z => br_c (fun z2 => hend f2 g2 h2 r2 hE hL hv hh (hx0 z2)) (fun z2 => ?_))
    · by_cases ex : x = 0
      · exact hend f2 g2 h2 r2 hE hL hv hh (hx0 ex)
      · have c1 : rd + av_g g2 ≤ av_c f2 w := hx1 ex
        have c2 := av_c_le f2 w
        exact absurd z (by omega)
    · have c1 : rd + av_g g2 ≤ av_c f2 w := hx1 z2
      refine loop_0 (σ := Int32 × (Nat → Int32) × (Nat → Int32) × (Nat → Int32) × (Nat → Int32)) (fun n97 i t => wY_workOut_97 post (wY_workOut_81 post (nI w) n81) (nI w) (nI rd) n97 t.1 (nI i) (nI n) o a b c (t.2.1) (upd k w 1) (t.2.2.1) (t.2.2.2.1) (t.2.2.2.2) 43008)
        (fun i t => av_YL w (av_P n o a b c) t.2.1 ∧ (∀ u, u < 21 → av_Yv w (av_P n o a b c) t.2.1 t.2.2.1 u 512) ∧ (∀ u, u < 21 → av_Yh w t.2.1 u) ∧ av_E w f t.2.1 ∧ (t.1 = 0 → (∀ j, j < i → t.2.2.1 j = 0) ∧ rd + av_g t.2.2.1 ≤ av_c t.2.1 w) ∧ (¬ t.1 = 0 → rd + 1 + av_g t.2.2.1 ≤ av_c t.2.1 w)) n (0, f2, g2, h2, r2) ⟨hL, hv, hh, hE, fun _ => ⟨fun j hj => absurd hj (by omega), c1⟩, fun z3 => absurd rfl z3⟩ ?_ ?_
      · intro n97 t hI2
        obtain ⟨j1, j2, j3, j4, j5, j6⟩ := hI2
        refine pk_le n n (fun _ => nm_r (nI_1 rd) (hk (t.1, rd + 1, t.2.1, t.2.2.1, t.2.2.2.1, t.2.2.2.2) ⟨j1, j2, j3, j4, ?_, fun e => (j5 e).1, j6⟩ ?_)) (fun z3 => absurd z3 (by omega))
        · show rd + 1 ≤ 10753
          omega
        · show 10753 - (rd + 1) < 10753 - rd
          omega
      · intro n97 i t hi hI2 hk2
        obtain ⟨j1, j2, j3, j4, j5, j6⟩ := hI2
        refine pk_le n i (fun z3 => absurd z3 (by omega)) (fun _ => ⟨pk_in i 21 (by omega), br_c (fun z3 => nm_r (nI_1 i) (hk2 t ⟨j1, j2, j3, j4, fun e => ⟨fun j hj => ?_, (j5 e).2⟩, j6⟩)) (fun z3 => ?_)⟩)
        · rw [nI_clamp (by omega)] at z3
          by_cases ej : j = i
          · rw [ej]
            exact z3
          · exact (j5 e).1 j (by omega)
        · rw [nI_clamp (by omega)] at z3
          refine ay_visit hw hn hi (hok i hi) j1 j2 j3 z3 (fun f3 g3 h3 r3 l1 l2 l3 l4 l5 => nm_r (nI_1 i) (hk2 (1, f3, g3, h3, r3) ⟨l1, l2, l3, av_E_tr j4 l4, fun e => absurd e av_10, fun _ => ?_⟩))
          show rd + 1 + av_g g3 ≤ av_c f3 w
          by_cases ex : t.1 = 0
          · have := (j5 ex).2
            omega
          · have := j6 ex
            omega
  have k51 : ∃ n51, wY_workOut_51 post (nI w) (nI n) 43008 n51 (nI 0) o a b c (av_m (10752 * w) 10752 (fun _ => 0) f) (upd k w 1) g h r :=
    av_run (o := 0) (e := 21) (g := fun _ => 0) (f := g) (fun n51 i t => wY_workOut_51 post (nI w) (nI n) 43008 n51 (nI i) o a b c (av_m (10752 * w) 10752 (fun _ => 0) f) (upd k w 1) t h r)
      (fun n51 => pk_lt 20 21 (fun _ => ay_giveu (p := 0) (s := 0) rfl rfl rfl hw (by omega) (by omega) (fun _ => k81) (fun e => absurd (av_m_in (by omega) (by omega)) e)) (fun z => absurd z (by omega)))
      (fun n51 i hi hh => pk_lt 20 i (fun z => absurd z (by omega)) (fun _ => ⟨pk_in i 21 hi, nm_r (e' := av_m 0 (i + 1) (fun _ => 0) g) (by rw [nI_clamp (by omega), av_nar0]; exact av_m_st (by omega) rfl) (nm_r (nI_1 i) hh)⟩))
  have k23 : ∃ n23, wY_workOut_23 post (nI w) (nI n) 43008 n23 (nI (10752 * w)) o a b c f (upd k w 1) g h r :=
    av_run (o := 10752 * w) (e := 10752) (g := fun _ => 0) (f := f) (fun n23 i t => wY_workOut_23 post (nI w) (nI n) 43008 n23 (nI (10752 * w + i)) o a b c t (upd k w 1) g h r)
      (fun n23 => pk_le (10752 * w + 10752) (10752 * w + 10752) (fun _ => k51) (fun z => absurd z (by omega)) (av_iy1 w))
      (fun n23 i hi hh => pk_le (10752 * w + 10752) (10752 * w + i) (fun z => absurd z (by omega)) (fun _ => ⟨pk_in (10752 * w + i) 43008 (by omega), nm_r (e' := av_m (10752 * w) (i + 1) (fun _ => 0) f) (by rw [nI_clamp (by omega), av_nar0]; exact av_m_st rfl rfl) (nm_r (nI_1 (10752 * w + i)) hh)⟩) (av_iy1 w))
  refine ⟨pk_in w 4 hw, br_c (fun z => ⟨pk_in w 4 hw, nm_r (e' := upd k w 1) (by rw [nI_clamp (by omega), av_nar1]) (nm_r (av_iy0 w) k23)⟩) (fun z => ?_)⟩
  rw [nI_clamp (by omega)] at z
  exact kk k f g h r hB hK z (fun _ e => e)
end
