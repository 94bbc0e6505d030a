/-! ===== the reference: the hull, filling, visiting ===== -/
section
variable {N : Int32} {o a b c f k g h r : Nat → Int32}
theorem ay_within {post : Int32 → Prop} {w p s : Nat} {f0 : Nat → Int32} (hW : av_W w) (hs : s < 512) (hK : av_LK w f0 p 512 h r) (hne : ∃ t, t < 512 ∧ av_F f0 w p t) (k1 : av_H w (av_F f0 w p) s → post 1) (k0 : ¬ av_H w (av_F f0 w p) s → post 0) : wpY_isWithin post (N, o, a, b, c, f, k, g, h, r, 43008) (nI w) (nI s) := by
  have hw : w < 4 := by
    unfold av_W at hW
    omega
  refine pk_eq w 3 (fun h3 => ?_) (fun h3 => ?_)
  · subst h3
    refine loop_0 (σ := Unit) (fun n i _ => wY_isWithin_7 post (nI s) N o a b c f k g h r 43008 n (nI i)) (fun i _ => ∀ j, j < i → av_d s j ≤ r j) 16 () (fun j hj => absurd hj (by omega)) (fun n _ hI => pk_le 16 16 (fun _ => k1 ((av_in3 hK).mpr hI)) (fun z => absurd z (by omega))) (fun n i _ hi hI hk => pk_le 16 i (fun z => absurd z (by omega)) (fun _ => ⟨by decide, ay_val s (i / 4) rfl (av_div4 (by omega)) hs (by omega) ⟨by decide, ay_val s (i % 4) rfl (av_rem4 (by omega)) hs (by omega) ⟨pk_in i 16 hi, br_c (fun z => nm_r (nI_1 i) (hk () (fun j hj => ?_))) (fun z => k0 (fun g2 => ?_))⟩⟩⟩))
    · rw [nI_clamp (by omega)] at z
      by_cases e : j = i
      · rw [e]
        exact z
      · exact hI j (by omega)
    · rw [nI_clamp (by omega)] at z
      exact z ((av_in3 hK).mp g2 i hi)
  · obtain ⟨t0, ht0, hF0⟩ := hne
    have hbit : ∀ v, v < 3 → ∃ y, y < 8 ∧ bt (h v) y = true := fun v hv => ⟨av_v t0 v, av_v_lt t0 v, (hK.1 v _ hv (av_v_lt t0 v)).mpr ⟨t0, ht0, hF0, rfl⟩⟩
    have hiff : av_H w (av_F f0 w p) s ↔ ∀ v, v < 3 → (w = 1 → bt (h v) (av_v s v) = true) ∧ (w = 2 → (∀ y, av_Lo (h v) y → y ≤ av_v s v) ∧ (∀ y, av_Hi (h v) y → av_v s v ≤ y)) := by
      rcases hW with e | e | e
      · subst e
        exact (av_in1 hK).trans ⟨fun g2 v hv => ⟨fun _ => g2 v hv, fun z => absurd z (by decide)⟩, fun g2 v hv => (g2 v hv).1 rfl⟩
      · subst e
        exact (av_in2r hK (fun v hv => av_Lo_ex (hbit v hv)) (fun v hv => av_Hi_ex (hbit v hv))).trans ⟨fun g2 v hv => ⟨fun z => absurd z (by decide), fun _ => g2 v hv⟩, fun g2 v hv => (g2 v hv).2 rfl⟩
      · exact absurd e h3
    refine loop_0 (σ := Unit) (fun n i _ => wY_isWithin_51 post (nI w) (nI s) N o a b c f k g h r 43008 n (nI i)) (fun i _ => ∀ v, v < i → (w = 1 → bt (h v) (av_v s v) = true) ∧ (w = 2 → (∀ y, av_Lo (h v) y → y ≤ av_v s v) ∧ (∀ y, av_Hi (h v) y → av_v s v ≤ y))) 3 () (fun v hv => absurd hv (by omega)) (fun n _ hI => pk_le 3 3 (fun _ => k1 (hiff.mpr hI)) (fun z => absurd z (by omega))) ?_
    intro n i _ hi hI hk
    have hvl := av_v_lt s i
    have e0 : h (nI i).toNatClampNeg = h i := by rw [nI_clamp (by omega)]
    have hnext : (w = 1 → bt (h i) (av_v s i) = true) → (w = 2 → (∀ y, av_Lo (h i) y → y ≤ av_v s i) ∧ (∀ y, av_Hi (h i) y → av_v s i ≤ y)) → wY_isWithin_51 post (nI w) (nI s) N o a b c f k g h r 43008 n (nI (i + 1)) := by
      intro g1 g2
      refine hk () (fun v hv => ?_)
      by_cases e : v = i
      · rw [e]
        exact ⟨g1, g2⟩
      · exact hI v (by omega)
    have h83 : (w = 1 → bt (h i) (av_v s i) = true) → wY_isWithin_83 post (wY_isWithin_51 post (nI w) (nI s) N o a b c f k g h r 43008 n) (nI w) (nI s) (nI i) (nI (av_v s i)) N o a b c f k g h r 43008 := by
      intro g1
      refine pk_eq w 2 (fun h2 => ⟨pk_in i 3 hi, ay_low (by rw [e0]; exact hbit i hi) (fun y hy => pk_lt (av_v s i) y (fun z => k0 (fun g2 => ?_)) (fun z => ⟨pk_in i 3 hi, ay_high (by rw [e0]; exact hbit i hi) (fun y2 hy2 => pk_le (av_v s i) y2 (fun z2 => nm_r (nI_1 i) (hnext g1 (fun _ => ⟨fun y3 hy3 => ?_, fun y3 hy3 => ?_⟩))) (fun z2 => k0 (fun g2 => ?_)) rfl rfl (by omega) (by have := hy2.1; omega))⟩) rfl rfl (by omega) (by have := hy.1; omega))⟩) (fun h2 => nm_r (nI_1 i) (hnext g1 (fun z => absurd z h2)))
      · rw [e0] at hy
        have g3 := ((hiff.mp g2 i hi).2 h2).1 y hy
        omega
      · rw [e0] at hy
        rw [av_Lo_u hy3 hy]
        exact z
      · rw [e0] at hy2
        rw [av_Hi_u hy3 hy2]
        exact z2
      · rw [e0] at hy2
        have g3 := ((hiff.mp g2 i hi).2 h2).2 y2 hy2
        omega
    refine pk_le 3 i (fun z => absurd z (by omega)) (fun _ => ay_val s i rfl rfl hs (by omega) (pk_eq w 1 (fun h1 => ⟨pk_in i 3 hi, br_c (fun z => k0 (fun g2 => ?_)) (fun z => h83 (fun _ => ?_))⟩) (fun h1 => h83 (fun z => absurd z h1))))
    · rw [e0, av_bx0 hvl, (hiff.mp g2 i hi).1 h1] at z
      exact absurd z (by decide)
    · rw [e0, av_bx0 hvl] at z
      cases hb : bt (h i) (av_v s i)
      · exact absurd hb z
      · rfl
theorem ay_fill {post : SY → Prop} {G : Nat → Nat → Nat → Nat → Prop} {w p : Nat} {y : Int32} (hy : y = nI p) (hw : w < 4) (hp : p < 21) (hL : ∀ s, s < 512 → av_F f w p s → av_L w G p s) (kk : ∀ (f' g' h' r' : Nat → Int32), av_YG w G (fun t => t = p) f g f' g' → av_Yh w f' p → post (N, o, a, b, c, f', k, g', h', r', 43008)) : wpY_fill post (N, o, a, b, c, f, k, g, h, r, 43008) (nI w) y := by
  subst hy
  refine pk_eq w 0 (fun h0 => ?_) (fun h0 => ay_look rfl rfl hw hp (fun z h' r' hK hz => br_c (fun ez => ?_) (fun ez => ?_)))
  · refine kk f g h r (av_YG_rf w G _ f g) (fun s hs hh => ?_)
    rw [h0] at hh ⊢
    exact av_H_0 hh
  · refine kk f g h' r' (av_YG_rf w G _ f g) (fun s hs hh => ?_)
    obtain ⟨t, ht, hF⟩ := av_H_ne hh
    rcases hz with e | e
    · exact absurd hF (e.2 t ht)
    · rw [e.1] at ez
      exact absurd ez (by decide)
  · have hne : ∃ s, s < 512 ∧ av_F f w p s := by
      rcases hz with e | e
      · exact absurd e.1 ez
      · exact e.2
    have hW : av_W w := by
      unfold av_W
      omega
    refine loop_0 (σ := (Nat → Int32) × (Nat → Int32)) (fun n i t => wY_fill_16 post (nI w) (nI p) n (nI i) N o a b c (t.1) k (t.2) h' r' 43008) (fun i t => av_YK w G p i f g t.1 t.2) 512 (f, g) (av_YK_0 w G p f g) (fun n t hh => pk_le 512 512 (fun _ => kk _ _ _ _ hh.1 (av_YK_end hh)) (fun z => absurd z (by omega))) ?_
    intro n i t hi hh hk
    refine pk_le 512 i (fun z => absurd z (by omega)) (fun _ => ⟨pk_in (10752 * w + 512 * p + i) 43008 (by omega) (av_iyw w p i), br_c (fun z => ay_within hW hi hK hne (fun g2 => br_f (by decide) (ay_giveu rfl rfl rfl hw hp hi (fun e => nm_r (nI_1 i) (hk (upd t.1 (10752 * w + 512 * p + i) 1, upd t.2 p 1) (av_YK_add hh hL hp hi g2 e))) (fun e => nm_r (nI_1 i) (hk t (av_YK_skip hh (fun _ => e)))))) (fun g2 => br_t rfl (nm_r (nI_1 i) (hk t (av_YK_skip hh (fun g3 => absurd g3 g2)))))) (fun z => nm_r (nI_1 i) (hk t (av_YK_skip hh (fun _ => ?_))))⟩)
    rw [av_iyw, nI_clamp (by omega)] at z
    exact z
theorem ay_visit {post : SY → Prop} {n w p : Nat} (hw : w < 4) (hn : n ≤ 20) (hpn : p < n) (hok : av_ok (o p) (a p) (b p) (c p)) (hL : av_YL w (av_P n o a b c) f) (hv : ∀ t, t < 21 → av_Yv w (av_P n o a b c) f g t 512) (hh : ∀ t, t < 21 → av_Yh w f t) (hg : ¬ g p = 0)
    (kk : ∀ (f' g' h' r' : Nat → Int32), av_YL w (av_P n o a b c) f' → (∀ t, t < 21 → av_Yv w (av_P n o a b c) f' g' t 512) → (∀ t, t < 21 → av_Yh w f' t) → av_E w f f' → av_g g' + 1 + av_c f w ≤ av_g g + av_c f' w → post (nI n, o, a, b, c, f', k, g', h', r', 43008)) : wpY_visit post (nI n, o, a, b, c, f, k, g, h, r, 43008) (nI w) (nI p) := by
  have hp : p < 21 := by omega
  have hg1 := av_g_dn hp hg
  have hfin : ∀ (D2 : Nat → Prop) (f1 g1 f2 g2 h2 r2 : Nat → Int32), av_YG w (av_P n o a b c) (fun t => t = p + 1 ∨ ((o p = 4 ∨ o p = 5) ∧ c p = nI t)) f (upd g p 0) f1 g1 → av_Yv w (av_P n o a b c) f1 g1 p 512 → av_YG w (av_P n o a b c) D2 f1 g1 f2 g2 → (∀ t, t < 21 → t ≠ p + 1 → (((o p = 4 ∨ o p = 5) ∧ c p = nI t) → av_Yh w f2 t) ∧ (¬ ((o p = 4 ∨ o p = 5) ∧ c p = nI t) → ¬ D2 t)) → wY_visit_81 post (nI w) (nI p) (nI n) o a b c f2 k g2 h2 r2 43008 := by
    intro D2 f1 g1 f2 g2 h2 r2 hY1 hv1 hY2 hD2
    have hL2 := av_YL_mo hY2 (av_YL_mo hY1 hL)
    refine pk_le n p (fun z => absurd z (by omega)) (fun _ => ay_fill (G := av_P n o a b c) (p := p + 1) (nI_1 p) hw (by omega) (fun s hs hF => hL2.2.2 _ s (by omega) hs hF) (fun f3 g3 h3 r3 hY3 hh3 => kk f3 g3 h3 r3 (av_YL_mo hY3 hL2) (fun t ht => ?_) (fun t ht => ?_) (av_E_tr (av_E_tr hY1.2.2.2.1 hY2.2.2.2.1) hY3.2.2.2.1) ?_))
    · refine av_Yv_mo ht (by omega) hY3 (av_Yv_mo ht (by omega) hY2 ?_)
      by_cases e : t = p
      · rw [e]
        exact hv1
      · refine av_Yv_mo ht (by omega) hY1 ?_
        have g4 := hv t ht
        unfold av_Yv at g4 ⊢
        rw [pk_un e]
        exact g4
    · by_cases e : t = p + 1
      · rw [e]
        exact hh3
      · refine av_Yh_mo ht e hY3 ?_
        by_cases e2 : (o p = 4 ∨ o p = 5) ∧ c p = nI t
        · exact (hD2 t ht e).1 e2
        · exact av_Yh_mo ht ((hD2 t ht e).2 e2) hY2 (av_Yh_mo ht (fun z => z.elim e e2) hY1 (hh t ht))
    · have c1 := hY1.2.2.2.2.2
      have c2 := hY2.2.2.2.2.2
      have c3 := hY3.2.2.2.2.2
      omega
  refine ⟨pk_in p 21 hp, nm_r (e' := upd g p 0) (by rw [nI_clamp (by omega), av_nar0]) ?_⟩
  refine loop_0 (σ := (Nat → Int32) × (Nat → Int32)) (fun n1 i t => wY_visit_9 post (nI w) (nI p) n1 (nI i) (nI n) o a b c (t.1) k (t.2) h r 43008) (fun i t => av_YG w (av_P n o a b c) (fun t => t = p + 1 ∨ ((o p = 4 ∨ o p = 5) ∧ c p = nI t)) f (upd g p 0) t.1 t.2 ∧ av_Yv w (av_P n o a b c) t.1 t.2 p i) 512 (f, upd g p 0) ⟨av_YG_rf w _ _ f _, Or.inr (fun s q t hs => absurd hs (by omega))⟩ ?_ ?_
  · intro n1 t hI
    obtain ⟨f1, g1⟩ := t
    obtain ⟨hY1, hv1⟩ := hI
    have hY1' : av_YG w (av_P n o a b c) (fun t => t = p + 1 ∨ ((o p = 4 ∨ o p = 5) ∧ c p = nI t)) f (upd g p 0) f1 g1 := hY1
    have e0 : o (nI p).toNatClampNeg = o p := by rw [nI_clamp (by omega)]
    have e1 : c (nI p).toNatClampNeg = c p := by rw [nI_clamp (by omega)]
    have h70 : (o p = 4 ∨ o p = 5) → wY_visit_70 post (nI w) (nI p) (nI n) o a b c f1 k g1 h r 43008 := by
      intro h45
      obtain ⟨x, hx, ex⟩ : ∃ x, x < 21 ∧ c p = nI x := by
        rcases hok with ⟨e, _⟩ | ⟨e, _⟩ | ⟨e, _⟩ | ⟨e, _⟩ | ⟨_, x, hx, ex⟩ | ⟨_, x, hx, ex⟩ | e
        · rw [e] at h45
          exact absurd h45 (by decide)
        · rw [e] at h45
          exact absurd h45 (by decide)
        · rw [e] at h45
          exact absurd h45 (by decide)
        · rw [e] at h45
          exact absurd h45 (by decide)
        · exact ⟨x, hx, ex⟩
        · exact ⟨x, hx, ex⟩
        · rw [e] at h45
          exact absurd h45 (by decide)
      have hL1 := av_YL_mo hY1' hL
      refine ⟨pk_in p 20 (by omega), ay_fill (G := av_P n o a b c) (p := x) (e1.trans ex) hw hx (fun s hs hF => hL1.2.2 _ s hx hs hF) (fun f2 g2 h2 r2 hY2 hh2 => hfin (fun t => t = x) f1 g1 f2 g2 h2 r2 hY1' hv1 hY2 (fun t ht hne => ⟨fun e => ?_, fun e e2 => ?_⟩))⟩
      · have e3 : x = t := av_nI_inj (by omega) (by omega) (ex.symm.trans e.2)
        rw [← e3]
        exact hh2
      · exact e ⟨h45, by rw [e2]; exact ex⟩
    refine pk_le 512 512 (fun _ => ⟨pk_in p 20 (by omega), br_c (fun z => h70 (Or.inl (by rw [e0] at z; exact z))) (fun z => ⟨pk_in p 20 (by omega), br_c (fun z2 => h70 (Or.inr (by rw [e0] at z2; exact z2))) (fun z2 => ?_)⟩)⟩) (fun z => absurd z (by omega))
    rw [e0] at z z2
    exact hfin (fun _ => False) f1 g1 f1 g1 h r hY1' hv1 (av_YG_rf w _ _ f1 g1) (fun t ht hne => ⟨fun e => absurd e.1 (fun e2 => e2.elim z z2), fun _ e => e⟩)
  · intro n1 i t hi hI hk
    have hL1 := av_YL_mo hI.1 hL
    refine pk_le 512 i (fun z => absurd z (by omega)) (fun _ => ⟨pk_in (10752 * w + 512 * p + i) 43008 (by omega) (av_iyw w p i), br_c (fun z => nm_r (nI_1 i) (hk t ⟨hI.1, av_Yv_s hI.2 (fun hF => ?_)⟩)) (fun z => ?_)⟩)
    · rw [av_iyw, nI_clamp (by omega)] at z
      exact absurd z hF
    · rw [av_iyw, nI_clamp (by omega)] at z
      exact ay_act hw hn hpn hi hok (hL1.2.2 p i hp hi z) (fun f' g' hY hF => nm_r (nI_1 i) (hk (f', g') ⟨av_YG_tr hI.1 hY (fun _ e => e) (fun _ e => e), av_Yv_s (av_Yv_mo hp (by omega) hY hI.2) (fun _ q t hP => hF q t hP)⟩))
end
