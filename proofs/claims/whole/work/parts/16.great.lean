/-! ===== lowest, highest, most ===== -/
section
variable {N L M : Int32} {o a b c K f q V D : Nat → Int32}
theorem ax_great {post : Int32 → SX → Prop} {w p t : Nat} (hw : w < 4) (hp : p < 21) (ht : t < 16) (kk : ∀ g, av_Gt w f p t 512 g → post g (N, L, M, o, a, b, c, K, f, q, V, D, 43008)) : ∃ n42, wX_greatestOf_42 post (nI t) (nI (10752 * w + 512 * p)) N L M o a b c K f q V D 43008 n42 (-1003) 0 := by
  refine loop_0 (σ := Int32) (fun n i g => wX_greatestOf_42 post (nI t) (nI (10752 * w + 512 * p)) N L M o a b c K f q V D 43008 n g (nI i)) (fun i g => av_Gt w f p t i g) 512 (-1003) (av_Gt_0 w f p t) (fun n g hI => pk_le 512 512 (fun _ => kk g hI) (fun z => absurd z (by omega))) (fun n i g hi hI hk => pk_le 512 i (fun z => absurd z (by omega)) (fun _ => ⟨by decide, ax_val i (t / 4) rfl (av_div4 (by omega)) hi (by omega) ⟨by decide, ax_val i (t % 4) rfl (av_rem4 (by omega)) hi (by omega) (nm_r (e' := av_d i t) rfl ⟨pk_in (10752 * w + 512 * p + i) 43008 (by omega) (nI_add _ _), br_c (fun z => nm_r (nI_1 i) (hk g (av_Gt_n hI (fun hF => ?_)))) (fun z => br_c (fun z2 => nm_r (nI_1 i) (hk g (av_Gt_n hI (fun _ => z2)))) (fun z2 => nm_r (nI_1 i) (hk _ (av_Gt_s hI ?_ (Int32.not_le.mp z2)))))⟩)⟩⟩))
  · rw [nI_add, nI_clamp (by omega)] at z
    exact absurd z hF
  · rw [nI_add, nI_clamp (by omega)] at z
    exact z
theorem ax_gb {post : Int32 → SX → Prop} {n : Nat} {rv x1 x2 x3 : Int32} (hn : n ≤ 20) (hv : ∀ post : Int32 → Prop, post rv → wpX_valid post (nI n, L, M, o, a, b, c, K, f, q, V, D, 43008)) (hb : ¬ av_good n x1 x2) (kk : post (-1000) (nI n, L, M, o, a, b, c, K, f, q, V, D, 43008)) : wpX_greatestOf post (nI n, L, M, o, a, b, c, K, f, q, V, D, 43008) x1 x2 x3 := by
  unfold wpX_greatestOf
  dsimp only
  exact ax_rb hn hv hb (br_f (by decide) kk)
theorem ax_gi {post : Int32 → SX → Prop} {n : Nat} {rv x1 x2 x3 : Int32} (hn : n ≤ 20) (hv : ∀ post : Int32 → Prop, post rv → wpX_valid post (nI n, L, M, o, a, b, c, K, f, q, V, D, 43008)) (hg : av_good n x1 x2) (hr : rv = 0) (kk : post (-1002) (nI n, L, M, o, a, b, c, K, f, q, V, D, 43008)) : wpX_greatestOf post (nI n, L, M, o, a, b, c, K, f, q, V, D, 43008) x1 x2 x3 := by
  unfold wpX_greatestOf
  dsimp only
  exact ax_ri hn hv hg hr (br_f (by decide) kk)
theorem ax_gg {post : Int32 → SX → Prop} {n w p t : Nat} {rv x3 : Int32} (h3 : x3 = nI t) (ht : t < 16) (hn : n ≤ 20) (hok : ∀ p, p < n → av_ok (o p) (a p) (b p) (c p)) (hB : av_B f) (hK : ∀ v, v < 4 → ¬ K v = 0 → av_R v (av_P n o a b c) f) (hv : ∀ post : Int32 → Prop, post rv → wpX_valid post (nI n, L, M, o, a, b, c, K, f, q, V, D, 43008)) (hw : w < 4) (hp : p < n + 1) (hr : ¬ rv = 0)
    (kk : ∀ (M' : Int32) (K' f' q' V' D' : Nat → Int32), av_B f' → (∀ v, v < 4 → ¬ K' v = 0 → av_R v (av_P n o a b c) f') → ¬ K' w = 0 → ∀ g, av_Gt w f' p t 512 g → post g (nI n, L, M', o, a, b, c, K', f', q', V', D', 43008)) : wpX_greatestOf post (nI n, L, M, o, a, b, c, K, f, q, V, D, 43008) (nI w) (nI p) x3 := by
  subst h3
  unfold wpX_greatestOf
  dsimp only
  exact ax_rg hn hv hw hp hr (br_t rfl (ax_work hw hn hok hB hK (fun M' K' f' q' V' D' c1 c2 c3 c4 => nm_r (av_ixp w p) (ax_great hw (by omega) ht (kk M' K' f' q' V' D' c1 c2 c3)))))
end
theorem av_Fcell {n w p s : Nat} {o a b c f y : Nat → Int32} (hf : av_B f) (hy : av_B y) (h1 : av_R w (av_P n o a b c) f) (h2 : av_R w (av_P n o a b c) y) (hp : p < 21) (hs : s < 512) : av_F y w p s ↔ av_F f w p s := by
  unfold av_F
  rw [av_cell hf hy h1 h2 hp hs]
theorem av_12 (v : Nat) : 12 + nI v = nI (12 + v) := by
  show nI 12 + nI v = _
  exact nI_add _ _
theorem av_43v (v : Nat) : nI v * 4 + 3 = nI (4 * v + 3) := by
  show nI v * nI 4 + nI 3 = _
  rw [pk_mul, nI_add, Nat.mul_comm]
theorem av_gt1000 {s k : Nat} {g : Int32} (e : g = av_d s k) : (-1000 : Int32) < g := by
  rw [e]
  exact Int32.not_le.mp (av_d_1000 s k)
theorem i_vc_lowest {k : Nat} {u : SX} {v : SY} (I : i_Rel k u v) (hk : k + 5 ≤ 2560) (v1 : Int32) (v2 : Int32) (v3 : Int32) : wpX_lowest (fun r u' => wpY_lowest (fun r' v' => r' = r ∧ i_Rel (k + 5) u' v') v v1 v2 v3) u v1 v2 v3 := by
  obtain ⟨n, L, M, o, a, b, c, K, f, q, V, D, y, kn, g, h, r, rfl, rfl, J⟩ := I
  obtain ⟨rv, h01, hX, hY⟩ := av_valid (L := L) (M := M) (o := o) (a := a) (b := b) (c := c) (K := K) (f := f) (q := q) (V := V) (D := D) (y := y) (kn := kn) (g := g) (h := h) (r := r) J.1
  obtain ⟨hn, hok, hBf, hBy, hKf, hKy⟩ := J
  have J : av_J n o a b c K f kn y := ⟨hn, hok, hBf, hBy, hKf, hKy⟩
  unfold wpX_lowest wpY_lowest
  dsimp only
  refine ax_isV (fun hs => br_f (by decide) ?_) (fun hs => br_t rfl (ay_inr 2 (by decide) (fun e => absurd e hs) (fun _ => ay_ob hn hok hBy hKy hY (Or.inr rfl) (br_f (by decide) ⟨rfl, av_Rel J⟩))))
  rcases av_gate n v1 v2 rv with hb | ⟨hg, hr⟩ | ⟨w, p, hw, hp, rfl, rfl, hr⟩
  · exact ax_gb hn hX hb (br_f (by decide) (ay_inr 2 (by decide) (fun _ => ay_ob hn hok hBy hKy hY (Or.inl hb) (br_f (by decide) ⟨rfl, av_Rel J⟩)) (fun e => absurd hs e)))
  · exact ax_gi hn hX hg hr (br_f (by decide) (ay_inr 2 (by decide) (fun _ => ay_oi hn hok hBy hKy hY hg (by decide) hr (br_f (by decide) ⟨rfl, av_Rel J⟩)) (fun e => absurd hs e)))
  · obtain ⟨t, ht, rfl⟩ := hs
    refine ax_gg (av_12 t) (by omega) hn hok hBf hKf hX hw hp hr (fun M' K' f' q' V' D' c1 c2 c3 gt hG => ?_)
    rcases hG.2 with ⟨eg, hz⟩ | ⟨s0, hs0, hF0, eg⟩
    · subst eg
      refine br_f (by decide) (ay_inr 2 (by decide) (fun _ => ay_og hn hok hBy hKy hY hw hp (by decide) hr (fun k' y' g' h' r' d1 d2 d3 => br_t (by decide) (ay_look rfl rfl hw (by omega) (fun z h2 r2 hK hzz => br_c (fun ez => ⟨rfl, av_Rel ⟨hn, hok, c1, d1, c2, d2⟩⟩) (fun ez => ?_))))) (fun e => absurd ⟨t, ht, rfl⟩ e))
      rcases hzz with e | ⟨_, s1, hs1, hF1⟩
      · exact absurd e.1 ez
      · exact absurd ((av_Fcell c1 d1 (c2 w hw c3) (d2 w hw d3) (by omega) hs1).mp hF1) (hz s1 hs1)
    · refine br_t (av_gt1000 eg) (ay_inr 2 (by decide) (fun _ => ay_og hn hok hBy hKy hY hw hp (by decide) hr (fun k' y' g' h' r' d1 d2 d3 => br_t (by decide) (ay_look rfl rfl hw (by omega) (fun z h2 r2 hK hzz => br_c (fun ez => ?_) (fun ez => ?_))))) (fun e => absurd ⟨t, ht, rfl⟩ e))
      · rcases hzz with e | ⟨e, _⟩
        · exact absurd ((av_Fcell c1 d1 (c2 w hw c3) (d2 w hw d3) (by omega) hs0).mpr hF0) (e.2 s0 hs0)
        · rw [e] at ez
          exact absurd ez (by decide)
      · have hK2 := av_LK_cg (fun s hs => av_Fcell c1 d1 (c2 w hw c3) (d2 w hw d3) (by omega) hs) hK
        have e0 : h2 (nI t).toNatClampNeg = h2 t := by rw [nI_clamp (by omega)]
        refine ⟨pk_in t 3 ht, ay_low (by dsimp only; rw [e0]; exact ⟨_, av_v_lt s0 t, (hK2.1 t _ ht (av_v_lt s0 t)).mpr ⟨s0, hs0, hF0, rfl⟩⟩) (fun x hx => ⟨?_, av_Rel ⟨hn, hok, c1, d1, c2, d2⟩⟩)⟩
        dsimp only at hx
        rw [e0] at hx
        exact (av_Gt_lo hG hK2 ht hx).symm
theorem i_vc_highest {k : Nat} {u : SX} {v : SY} (I : i_Rel k u v) (hk : k + 5 ≤ 2560) (v1 : Int32) (v2 : Int32) (v3 : Int32) : wpX_highest (fun r u' => wpY_highest (fun r' v' => r' = r ∧ i_Rel (k + 5) u' v') v v1 v2 v3) u v1 v2 v3 := by
  obtain ⟨n, L, M, o, a, b, c, K, f, q, V, D, y, kn, g, h, r, rfl, rfl, J⟩ := I
  obtain ⟨rv, h01, hX, hY⟩ := av_valid (L := L) (M := M) (o := o) (a := a) (b := b) (c := c) (K := K) (f := f) (q := q) (V := V) (D := D) (y := y) (kn := kn) (g := g) (h := h) (r := r) J.1
  obtain ⟨hn, hok, hBf, hBy, hKf, hKy⟩ := J
  have J : av_J n o a b c K f kn y := ⟨hn, hok, hBf, hBy, hKf, hKy⟩
  unfold wpX_highest wpY_highest
  dsimp only
  refine ax_isV (fun hs => br_f (by decide) ?_) (fun hs => br_t rfl (ay_inr 2 (by decide) (fun e => absurd e hs) (fun _ => ay_ob hn hok hBy hKy hY (Or.inr rfl) (br_f (by decide) ⟨rfl, av_Rel J⟩))))
  rcases av_gate n v1 v2 rv with hb | ⟨hg, hr⟩ | ⟨w, p, hw, hp, rfl, rfl, hr⟩
  · exact ax_gb hn hX hb ((ay_inr 2 (by decide) (fun _ => ay_ob hn hok hBy hKy hY (Or.inl hb) (br_f (by decide) ⟨rfl, av_Rel J⟩)) (fun e => absurd hs e)))
  · exact ax_gi hn hX hg hr ((ay_inr 2 (by decide) (fun _ => ay_oi hn hok hBy hKy hY hg (by decide) hr (br_f (by decide) ⟨rfl, av_Rel J⟩)) (fun e => absurd hs e)))
  · obtain ⟨t, ht, rfl⟩ := hs
    refine ax_gg (av_43v t) (by omega) hn hok hBf hKf hX hw hp hr (fun M' K' f' q' V' D' c1 c2 c3 gt hG => ?_)
    rcases hG.2 with ⟨eg, hz⟩ | ⟨s0, hs0, hF0, eg⟩
    · subst eg
      refine (ay_inr 2 (by decide) (fun _ => ay_og hn hok hBy hKy hY hw hp (by decide) hr (fun k' y' g' h' r' d1 d2 d3 => br_t (by decide) (ay_look rfl rfl hw (by omega) (fun z h2 r2 hK hzz => br_c (fun ez => ⟨rfl, av_Rel ⟨hn, hok, c1, d1, c2, d2⟩⟩) (fun ez => ?_))))) (fun e => absurd ⟨t, ht, rfl⟩ e))
      rcases hzz with e | ⟨_, s1, hs1, hF1⟩
      · exact absurd e.1 ez
      · exact absurd ((av_Fcell c1 d1 (c2 w hw c3) (d2 w hw d3) (by omega) hs1).mp hF1) (hz s1 hs1)
    · refine (ay_inr 2 (by decide) (fun _ => ay_og hn hok hBy hKy hY hw hp (by decide) hr (fun k' y' g' h' r' d1 d2 d3 => br_t (by decide) (ay_look rfl rfl hw (by omega) (fun z h2 r2 hK hzz => br_c (fun ez => ?_) (fun ez => ?_))))) (fun e => absurd ⟨t, ht, rfl⟩ e))
      · rcases hzz with e | ⟨e, _⟩
        · exact absurd ((av_Fcell c1 d1 (c2 w hw c3) (d2 w hw d3) (by omega) hs0).mpr hF0) (e.2 s0 hs0)
        · rw [e] at ez
          exact absurd ez (by decide)
      · have hK2 := av_LK_cg (fun s hs => av_Fcell c1 d1 (c2 w hw c3) (d2 w hw d3) (by omega) hs) hK
        have e0 : h2 (nI t).toNatClampNeg = h2 t := by rw [nI_clamp (by omega)]
        refine ⟨pk_in t 3 ht, ay_high (by dsimp only; rw [e0]; exact ⟨_, av_v_lt s0 t, (hK2.1 t _ ht (av_v_lt s0 t)).mpr ⟨s0, hs0, hF0, rfl⟩⟩) (fun x hx => ⟨?_, av_Rel ⟨hn, hok, c1, d1, c2, d2⟩⟩)⟩
        dsimp only at hx
        rw [e0] at hx
        exact (av_Gt_hi hG hK2 ht hx).symm
theorem i_vc_most {k : Nat} {u : SX} {v : SY} (I : i_Rel k u v) (hk : k + 5 ≤ 2560) (v1 : Int32) (v2 : Int32) (v3 : Int32) : wpX_most (fun r u' => wpY_most (fun r' v' => r' = r ∧ i_Rel (k + 5) u' v') v v1 v2 v3) u v1 v2 v3 := by
  obtain ⟨n, L, M, o, a, b, c, K, f, q, V, D, y, kn, g, h, r, rfl, rfl, J⟩ := I
  obtain ⟨rv, h01, hX, hY⟩ := av_valid (L := L) (M := M) (o := o) (a := a) (b := b) (c := c) (K := K) (f := f) (q := q) (V := V) (D := D) (y := y) (kn := kn) (g := g) (h := h) (r := r) J.1
  obtain ⟨hn, hok, hBf, hBy, hKf, hKy⟩ := J
  have J : av_J n o a b c K f kn y := ⟨hn, hok, hBf, hBy, hKf, hKy⟩
  unfold wpX_most wpY_most
  dsimp only
  refine ax_isP (fun hs => br_f (by decide) ?_) (fun hs => br_t rfl (ay_inr 15 (by decide) (fun e => absurd e hs) (fun _ => ay_ob hn hok hBy hKy hY (Or.inr rfl) (br_f (by decide) ⟨rfl, av_Rel J⟩))))
  rcases av_gate n v1 v2 rv with hb | ⟨hg, hr⟩ | ⟨w, p, hw, hp, rfl, rfl, hr⟩
  · exact ax_gb hn hX hb ((ay_inr 15 (by decide) (fun _ => ay_ob hn hok hBy hKy hY (Or.inl hb) (br_f (by decide) ⟨rfl, av_Rel J⟩)) (fun e => absurd hs e)))
  · exact ax_gi hn hX hg hr ((ay_inr 15 (by decide) (fun _ => ay_oi hn hok hBy hKy hY hg (by decide) hr (br_f (by decide) ⟨rfl, av_Rel J⟩)) (fun e => absurd hs e)))
  · obtain ⟨t, ht, rfl⟩ := hs
    refine ax_gg (rfl) (by omega) hn hok hBf hKf hX hw hp hr (fun M' K' f' q' V' D' c1 c2 c3 gt hG => ?_)
    rcases hG.2 with ⟨eg, hz⟩ | ⟨s0, hs0, hF0, eg⟩
    · subst eg
      refine (ay_inr 15 (by decide) (fun _ => ay_og hn hok hBy hKy hY hw hp (by decide) hr (fun k' y' g' h' r' d1 d2 d3 => br_t (by decide) (ay_look rfl rfl hw (by omega) (fun z h2 r2 hK hzz => br_c (fun ez => ⟨rfl, av_Rel ⟨hn, hok, c1, d1, c2, d2⟩⟩) (fun ez => ?_))))) (fun e => absurd ⟨t, ht, rfl⟩ e))
      rcases hzz with e | ⟨_, s1, hs1, hF1⟩
      · exact absurd e.1 ez
      · exact absurd ((av_Fcell c1 d1 (c2 w hw c3) (d2 w hw d3) (by omega) hs1).mp hF1) (hz s1 hs1)
    · refine (ay_inr 15 (by decide) (fun _ => ay_og hn hok hBy hKy hY hw hp (by decide) hr (fun k' y' g' h' r' d1 d2 d3 => br_t (by decide) (ay_look rfl rfl hw (by omega) (fun z h2 r2 hK hzz => br_c (fun ez => ?_) (fun ez => ?_))))) (fun e => absurd ⟨t, ht, rfl⟩ e))
      · rcases hzz with e | ⟨e, _⟩
        · exact absurd ((av_Fcell c1 d1 (c2 w hw c3) (d2 w hw d3) (by omega) hs0).mpr hF0) (e.2 s0 hs0)
        · rw [e] at ez
          exact absurd ez (by decide)
      · have hK2 := av_LK_cg (fun s hs => av_Fcell c1 d1 (c2 w hw c3) (d2 w hw d3) (by omega) hs) hK
        refine ⟨pk_in t 16 ht, ?_, av_Rel ⟨hn, hok, c1, d1, c2, d2⟩⟩
        dsimp only
        rw [nI_clamp (by omega)]
        exact (av_Gt_most hG hK2 ht ⟨s0, hs0, hF0⟩).1.symm
