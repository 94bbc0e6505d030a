/-! ===== the questions' gate; count, has ===== -/
def av_good (n : Nat) (x1 x2 : Int32) : Prop := (∃ w, w < 4 ∧ x1 = nI w) ∧ (∃ p, p < n + 1 ∧ x2 = nI p)
theorem av_gate (n : Nat) (x1 x2 rv : Int32) : ¬ av_good n x1 x2 ∨ (av_good n x1 x2 ∧ rv = 0) ∨ ∃ w p, w < 4 ∧ p < n + 1 ∧ x1 = nI w ∧ x2 = nI p ∧ ¬ rv = 0 := by
  by_cases hg : av_good n x1 x2
  · by_cases hr : rv = 0
    · exact Or.inr (Or.inl ⟨hg, hr⟩)
    · obtain ⟨⟨w, hw, e1⟩, ⟨p, hp, e2⟩⟩ := hg
      exact Or.inr (Or.inr ⟨w, p, hw, hp, e1, e2, hr⟩)
  · exact Or.inl hg
section
variable {N L M : Int32} {o a b c K f q V D : Nat → Int32}
theorem ax_ref {post : Int32 → Prop} {n : Nat} {rv x1 x2 : Int32} (hn : n ≤ 20) (hv : ∀ post : Int32 → Prop, post rv → wpX_valid post (nI n, L, M, o, a, b, c, K, f, q, V, D, 43008)) (kb : ¬ av_good n x1 x2 → post (-1000)) (ki : av_good n x1 x2 → rv = 0 → post (-1002)) (kg : av_good n x1 x2 → ¬ rv = 0 → post 0) : wpX_refusalOf post (nI n, L, M, o, a, b, c, K, f, q, V, D, 43008) x1 x2 :=
  br_c (fun z => kb (fun g2 => (av_rng0 (by decide) g2.1).1 z)) (fun z => br_c (fun z2 => kb (fun g2 => (av_rng0 (by decide) g2.1).2 z2)) (fun z2 => br_c (fun z3 => kb (fun g2 => (av_rngl0 (by omega) g2.2).1 z3)) (fun z3 => br_c (fun z4 => hv _ (br_c (fun e => ki ⟨av_rng 4 (by decide) z z2, av_rngl n (by omega) z3 (Int32.not_lt.mpr z4)⟩ e) (fun e => kg ⟨av_rng 4 (by decide) z z2, av_rngl n (by omega) z3 (Int32.not_lt.mpr z4)⟩ e))) (fun z4 => kb (fun g2 => z4 (Int32.not_lt.mp (av_rngl0 (by omega) g2.2).2))))))
theorem ax_rb {post : Int32 → Prop} {n : Nat} {rv x1 x2 : Int32} (hn : n ≤ 20) (hv : ∀ post : Int32 → Prop, post rv → wpX_valid post (nI n, L, M, o, a, b, c, K, f, q, V, D, 43008)) (hb : ¬ av_good n x1 x2) (kk : post (-1000)) : wpX_refusalOf post (nI n, L, M, o, a, b, c, K, f, q, V, D, 43008) x1 x2 :=
  ax_ref hn hv (fun _ => kk) (fun g2 _ => absurd g2 hb) (fun g2 _ => absurd g2 hb)
theorem ax_ri {post : Int32 → Prop} {n : Nat} {rv x1 x2 : Int32} (hn : n ≤ 20) (hv : ∀ post : Int32 → Prop, post rv → wpX_valid post (nI n, L, M, o, a, b, c, K, f, q, V, D, 43008)) (hg : av_good n x1 x2) (hr : rv = 0) (kk : post (-1002)) : wpX_refusalOf post (nI n, L, M, o, a, b, c, K, f, q, V, D, 43008) x1 x2 :=
  ax_ref hn hv (fun hb => absurd hg hb) (fun _ _ => kk) (fun _ hr2 => absurd hr hr2)
theorem ax_rg {post : Int32 → Prop} {n w p : Nat} {rv : Int32} (hn : n ≤ 20) (hv : ∀ post : Int32 → Prop, post rv → wpX_valid post (nI n, L, M, o, a, b, c, K, f, q, V, D, 43008)) (hw : w < 4) (hp : p < n + 1) (hr : ¬ rv = 0) (kk : post 0) : wpX_refusalOf post (nI n, L, M, o, a, b, c, K, f, q, V, D, 43008) (nI w) (nI p) :=
  ax_ref hn hv (fun hb => absurd ⟨⟨w, hw, rfl⟩, ⟨p, hp, rfl⟩⟩ hb) (fun _ hr2 => absurd hr2 hr) (fun _ _ => kk)
theorem ax_size {post : Int32 → Prop} {w p : Nat} (hw : w < 4) (hp : p < 21) (kk : post (nI (av_n f (10752 * w + 512 * p) 512))) : wpX_sizeOf post (N, L, M, o, a, b, c, K, f, q, V, D, 43008) (nI w) (nI p) := by
  refine nm_r (av_ixp w p) (loop_0 (σ := Unit) (fun n i _ => wX_sizeOf_18 post (nI (10752 * w + 512 * p)) N L M o a b c K f q V D 43008 n (nI (av_n f (10752 * w + 512 * p) i)) (nI i)) (fun _ _ => True) 512 () trivial (fun n _ _ => pk_le 512 512 (fun _ => kk) (fun z => absurd z (by omega))) (fun n i _ hi _ hk => pk_le 512 i (fun z => absurd z (by omega)) (fun _ => ⟨pk_in (10752 * w + 512 * p + i) 43008 (by omega) (nI_add _ _), br_c (fun z => nm_r (nI_1 i) ?_) (fun z => nm_r (nI_1 _) (nm_r (nI_1 i) ?_))⟩)))
  · rw [nI_add, nI_clamp (by omega)] at z
    have h2 := hk () trivial
    rw [av_n_s, if_pos z, Nat.add_zero] at h2
    exact h2
  · rw [nI_add, nI_clamp (by omega)] at z
    have h2 := hk () trivial
    rw [av_n_s, if_neg z] at h2
    exact h2
end
section
variable {N : Int32} {o a b c f k g h r : Nat → Int32}
theorem ay_open {post : Int32 → SY → Prop} {n : Nat} {rv x1 x2 x3 : Int32} (hn : n ≤ 20) (hok : ∀ p, p < n → av_ok (o p) (a p) (b p) (c p)) (hB : av_B f) (hK : ∀ v, v < 4 → ¬ k v = 0 → av_R v (av_P n o a b c) f) (hv : ∀ post : Int32 → Prop, post rv → wpY_valid post (nI n, o, a, b, c, f, k, g, h, r, 43008))
    (kb : ¬ (av_good n x1 x2 ∧ ¬ x3 = 0) → post (-1000) (nI n, o, a, b, c, f, k, g, h, r, 43008)) (ki : (av_good n x1 x2 ∧ ¬ x3 = 0) → rv = 0 → post (-1002) (nI n, o, a, b, c, f, k, g, h, r, 43008))
    (kg : ∀ w p, w < 4 → p < n + 1 → x1 = nI w → x2 = nI p → ¬ x3 = 0 → ¬ rv = 0 → ∀ (k' f' g' h' r' : Nat → Int32), av_B f' → (∀ v, v < 4 → ¬ k' v = 0 → av_R v (av_P n o a b c) f') → ¬ k' w = 0 → post 0 (nI n, o, a, b, c, f', k', g', h', r', 43008)) : wpY_open post (nI n, o, a, b, c, f, k, g, h, r, 43008) x1 x2 x3 := by
  unfold wpY_open
  dsimp only
  refine ay_inr 3 (by decide) (fun h1 => br_f (by decide) (ay_inr n (by omega) (fun h2 => br_f (by decide) (br_c (fun z => kb (fun g2 => g2.2 z)) (fun z => hv _ (br_c (fun e => ki ⟨⟨h1, h2⟩, z⟩ e) (fun e => ?_))))) (fun h2 => br_t rfl (kb (fun g2 => h2 g2.1.2))))) (fun h1 => br_t rfl (kb (fun g2 => h1 g2.1.1)))
  obtain ⟨w, hw, e1⟩ := h1
  obtain ⟨p, hp, e2⟩ := h2
  exact ay_work e1 hw hn hok hB hK (fun k' f' g' h' r' c1 c2 c3 c4 => kg w p hw hp e1 e2 z e k' f' g' h' r' c1 c2 c3)
theorem ay_ob {post : Int32 → SY → Prop} {n : Nat} {rv x1 x2 x3 : Int32} (hn : n ≤ 20) (hok : ∀ p, p < n → av_ok (o p) (a p) (b p) (c p)) (hB : av_B f) (hK : ∀ v, v < 4 → ¬ k v = 0 → av_R v (av_P n o a b c) f) (hv : ∀ post : Int32 → Prop, post rv → wpY_valid post (nI n, o, a, b, c, f, k, g, h, r, 43008)) (hb : ¬ av_good n x1 x2 ∨ x3 = 0) (kk : post (-1000) (nI n, o, a, b, c, f, k, g, h, r, 43008)) : wpY_open post (nI n, o, a, b, c, f, k, g, h, r, 43008) x1 x2 x3 :=
  ay_open hn hok hB hK hv (fun _ => kk) (fun g2 _ => absurd hb (fun e => e.elim (fun e2 => e2 g2.1) g2.2)) (fun w p hw hp e1 e2 h3 _ => absurd hb (fun e => e.elim (fun e3 => e3 ⟨⟨w, hw, e1⟩, ⟨p, hp, e2⟩⟩) h3))
theorem ay_oi {post : Int32 → SY → Prop} {n : Nat} {rv x1 x2 x3 : Int32} (hn : n ≤ 20) (hok : ∀ p, p < n → av_ok (o p) (a p) (b p) (c p)) (hB : av_B f) (hK : ∀ v, v < 4 → ¬ k v = 0 → av_R v (av_P n o a b c) f) (hv : ∀ post : Int32 → Prop, post rv → wpY_valid post (nI n, o, a, b, c, f, k, g, h, r, 43008)) (hg : av_good n x1 x2) (h3 : ¬ x3 = 0) (hr : rv = 0) (kk : post (-1002) (nI n, o, a, b, c, f, k, g, h, r, 43008)) : wpY_open post (nI n, o, a, b, c, f, k, g, h, r, 43008) x1 x2 x3 :=
  ay_open hn hok hB hK hv (fun hb => absurd ⟨hg, h3⟩ hb) (fun _ _ => kk) (fun w p hw hp e1 e2 _ hr2 => absurd hr hr2)
theorem ay_og {post : Int32 → SY → Prop} {n w p : Nat} {rv x3 : Int32} (hn : n ≤ 20) (hok : ∀ p, p < n → av_ok (o p) (a p) (b p) (c p)) (hB : av_B f) (hK : ∀ v, v < 4 → ¬ k v = 0 → av_R v (av_P n o a b c) f) (hv : ∀ post : Int32 → Prop, post rv → wpY_valid post (nI n, o, a, b, c, f, k, g, h, r, 43008)) (hw : w < 4) (hp : p < n + 1) (h3 : ¬ x3 = 0) (hr : ¬ rv = 0)
    (kk : ∀ (k' f' g' h' r' : Nat → Int32), av_B f' → (∀ v, v < 4 → ¬ k' v = 0 → av_R v (av_P n o a b c) f') → ¬ k' w = 0 → post 0 (nI n, o, a, b, c, f', k', g', h', r', 43008)) : wpY_open post (nI n, o, a, b, c, f, k, g, h, r, 43008) (nI w) (nI p) x3 :=
  ay_open hn hok hB hK hv (fun hb => absurd ⟨⟨⟨w, hw, rfl⟩, ⟨p, hp, rfl⟩⟩, h3⟩ hb) (fun _ hr2 => absurd hr2 hr) (fun w2 p2 hw2 hp2 e1 e2 _ _ => by
    have e3 := av_nI_inj (by omega) (by omega) e1
    subst e3
    exact kk)
theorem ay_cnt {post : Int32 → SY → Prop} {w p : Nat} (hw : w < 4) (hp : p < 21) (kk : post (nI (av_n f (10752 * w + 512 * p) 512)) (N, o, a, b, c, f, k, g, h, r, 43008)) : ∃ n20, wY_count_20 post (nI w) (nI p) N o a b c f k g h r 43008 n20 0 0 := by
  refine loop_0 (σ := Unit) (fun n i _ => wY_count_20 post (nI w) (nI p) N o a b c f k g h r 43008 n (nI (av_n f (10752 * w + 512 * p) i)) (nI i)) (fun _ _ => True) 512 () trivial (fun n _ _ => pk_le 512 512 (fun _ => kk) (fun z => absurd z (by omega))) (fun n i _ hi _ hk => pk_le 512 i (fun z => absurd z (by omega)) (fun _ => ⟨pk_in (10752 * w + 512 * p + i) 43008 (by omega) (av_iyw w p i), br_c (fun z => nm_r (nI_1 i) ?_) (fun z => nm_r (nI_1 _) (nm_r (nI_1 i) ?_))⟩))
  · rw [av_iyw, nI_clamp (by omega)] at z
    have h2 := hk () trivial
    rw [av_n_s, if_pos z, Nat.add_zero] at h2
    exact h2
  · rw [av_iyw, nI_clamp (by omega)] at z
    have h2 := hk () trivial
    rw [av_n_s, if_neg z] at h2
    exact h2
end
theorem av_cell {n w p s : Nat} {o a b c f y : Nat → Int32} (hf : av_B f) (hy : av_B y) (h1 : av_R w (av_P n o a b c) f) (h2 : av_R w (av_P n o a b c) y) (hp : p < 21) (hs : s < 512) : f (10752 * w + 512 * p + s) = y (10752 * w + 512 * p + s) := by
  have e := av_R_eq hf hy h1 h2 (512 * p + s) (by omega)
  rw [← Nat.add_assoc] at e
  exact e
theorem i_vc_count {k : Nat} {u : SX} {v : SY} (I : i_Rel k u v) (hk : k + 5 ≤ 2560) (v1 : Int32) (v2 : Int32) : wpX_count (fun r u' => wpY_count (fun r' v' => r' = r ∧ i_Rel (k + 5) u' v') v v1 v2) u v1 v2 := by
  obtain ⟨n, L, M, o, a, b, c, K, f, q, V, D, y, kn, g, h, r, rfl, rfl, J⟩ := I
  obtain ⟨rv, h01, hX, hY⟩ := av_valid (L := L) (M := M) (o := o) (a := a) (b := b) (c := c) (K := K) (f := f) (q := q) (V := V) (D := D) (y := y) (kn := kn) (g := g) (h := h) (r := r) J.1
  obtain ⟨hn, hok, hBf, hBy, hKf, hKy⟩ := J
  have J : av_J n o a b c K f kn y := ⟨hn, hok, hBf, hBy, hKf, hKy⟩
  unfold wpX_count wpY_count
  dsimp only
  rcases av_gate n v1 v2 rv with hb | ⟨hg, hr⟩ | ⟨w, p, hw, hp, rfl, rfl, hr⟩
  · exact ax_rb hn hX hb (br_f (by decide) (ay_ob hn hok hBy hKy hY (Or.inl hb) (br_f (by decide) ⟨rfl, av_Rel J⟩)))
  · exact ax_ri hn hX hg hr (br_f (by decide) (ay_oi hn hok hBy hKy hY hg (by decide) hr (br_f (by decide) ⟨rfl, av_Rel J⟩)))
  · refine ax_rg hn hX hw hp hr (br_t rfl (ax_work hw hn hok hBf hKf (fun M' K' f' q' V' D' c1 c2 c3 c4 => ax_size hw (by omega) (ay_og hn hok hBy hKy hY hw hp (by decide) hr (fun k' y' g' h' r' d1 d2 d3 => br_t (by decide) (ay_cnt hw (by omega) ⟨congrArg nI (av_n_cg 512 (fun j hj => ?_)), av_Rel ⟨hn, hok, c1, d1, c2, d2⟩⟩))))))
    exact (av_cell c1 d1 (c2 w hw c3) (d2 w hw d3) (by omega) hj).symm
theorem i_vc_has {k : Nat} {u : SX} {v : SY} (I : i_Rel k u v) (hk : k + 5 ≤ 2560) (v1 : Int32) (v2 : Int32) (v3 : Int32) : wpX_has (fun r u' => wpY_has (fun r' v' => r' = r ∧ i_Rel (k + 5) u' v') v v1 v2 v3) u v1 v2 v3 := by
  obtain ⟨n, L, M, o, a, b, c, K, f, q, V, D, y, kn, g, h, r, rfl, rfl, J⟩ := I
  obtain ⟨rv, h01, hX, hY⟩ := av_valid (L := L) (M := M) (o := o) (a := a) (b := b) (c := c) (K := K) (f := f) (q := q) (V := V) (D := D) (y := y) (kn := kn) (g := g) (h := h) (r := r) J.1
  obtain ⟨hn, hok, hBf, hBy, hKf, hKy⟩ := J
  have J : av_J n o a b c K f kn y := ⟨hn, hok, hBf, hBy, hKf, hKy⟩
  unfold wpX_has wpY_has
  dsimp only
  by_cases hs : ∃ s, s < 512 ∧ v3 = nI s
  · refine br_f (av_rng0 (m := 512) (by decide) hs).1 (br_f (av_rng0 (m := 512) (by decide) hs).2 ?_)
    rcases av_gate n v1 v2 rv with hb | ⟨hg, hr⟩ | ⟨w, p, hw, hp, rfl, rfl, hr⟩
    · exact ax_rb hn hX hb (br_f (by decide) (ay_inr 511 (by decide) (fun _ => ay_ob hn hok hBy hKy hY (Or.inl hb) (br_f (by decide) ⟨rfl, av_Rel J⟩)) (fun e => absurd hs e)))
    · exact ax_ri hn hX hg hr (br_f (by decide) (ay_inr 511 (by decide) (fun _ => ay_oi hn hok hBy hKy hY hg (by decide) hr (br_f (by decide) ⟨rfl, av_Rel J⟩)) (fun e => absurd hs e)))
    · obtain ⟨s, hs2, rfl⟩ := hs
      have ex : nI w * 10752 + nI p * 512 + nI s = nI (10752 * w + 512 * p + s) := by rw [av_ixp, nI_add]
      refine ax_rg hn hX hw hp hr (br_t rfl (ax_work hw hn hok hBf hKf (fun M' K' f' q' V' D' c1 c2 c3 c4 => ⟨pk_in (10752 * w + 512 * p + s) 43008 (by omega) ex, ?_, ay_inr 511 (by decide) (fun _ => ay_og hn hok hBy hKy hY hw hp (by decide) hr (fun k' y' g' h' r' d1 d2 d3 => br_t rfl ⟨pk_in (10752 * w + 512 * p + s) 43008 (by omega) (av_iyw w p s), br_c (fun z => ⟨?_, av_Rel ⟨hn, hok, c1, d1, c2, d2⟩⟩) (fun z => ⟨?_, av_Rel ⟨hn, hok, c1, d1, c2, d2⟩⟩)⟩)) (fun e => absurd ⟨s, hs2, rfl⟩ e)⟩)))
      · dsimp only
        rcases c1 (nI w * 10752 + nI p * 512 + nI s).toNatClampNeg with e | e
        · rw [e]
          exact av_nb0
        · rw [e]
          exact av_nb1
      · have ec := av_cell c1 d1 (c2 w hw c3) (d2 w hw d3) (p := p) (by omega) hs2
        dsimp only at z ⊢
        rw [av_iyw, nI_clamp (by omega)] at z
        rw [ex, nI_clamp (by omega), ec, z]
      · have ec := av_cell c1 d1 (c2 w hw c3) (d2 w hw d3) (p := p) (by omega) hs2
        dsimp only at z ⊢
        rw [av_iyw, nI_clamp (by omega)] at z
        rw [ex, nI_clamp (by omega), ec]
        rcases d1 (10752 * w + 512 * p + s) with e | e
        · exact absurd e z
        · exact e.symm
  · have hY0 : wpY_has (fun r' v' => r' = 0 ∧ i_Rel (k + 5) (nI n, L, M, o, a, b, c, K, f, q, V, D, 43008) v') (nI n, o, a, b, c, y, kn, g, h, r, 43008) v1 v2 v3 := by
      unfold wpY_has
      dsimp only
      exact ay_inr 511 (by decide) (fun e => absurd e hs) (fun _ => ay_ob hn hok hBy hKy hY (Or.inr rfl) (br_f (by decide) ⟨rfl, av_Rel J⟩))
    unfold wpY_has at hY0
    dsimp only at hY0
    exact br_c (fun _ => hY0) (fun z => br_c (fun _ => hY0) (fun z2 => absurd (av_rng 512 (by decide) z z2) hs))
