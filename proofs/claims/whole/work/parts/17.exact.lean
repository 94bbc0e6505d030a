/-! ===== exact, unreached ===== -/
theorem av_iy512 (p s : Nat) : 512 * nI p + nI s = nI (512 * p + s) := by
  show nI 512 * nI p + nI s = _
  rw [pk_mul, nI_add]
theorem av_ix0 (p : Nat) : 0 + nI p * 512 = nI (512 * p) := by
  show nI 0 + nI p * nI 512 = _
  rw [pk_mul, nI_add]
  exact congrArg nI (by omega)
def av_e (f : Nat → Int32) (w : Nat) : Nat → Nat
  | 0 => 0
  | i + 1 => av_e f w i + (if av_n f (10752 * w + 512 * i) 512 = 0 then 1 else 0)
theorem av_e_s (f : Nat → Int32) (w i : Nat) : av_e f w (i + 1) = av_e f w i + (if av_n f (10752 * w + 512 * i) 512 = 0 then 1 else 0) := rfl
theorem av_e_cg {f y : Nat → Int32} {w : Nat} : ∀ m, (∀ i, i < m → av_n f (10752 * w + 512 * i) 512 = av_n y (10752 * w + 512 * i) 512) → av_e f w m = av_e y w m := by
  intro m
  induction m with
  | zero => exact fun _ => rfl
  | succ m ih =>
    intro h
    rw [av_e_s, av_e_s, ih (fun i hi => h i (by omega)), h m (by omega)]
section
variable {N L M : Int32} {o a b c K f q V D : Nat → Int32}
theorem ax_ex {post : Int32 → SX → Prop} {w p : Nat} (hw : w < 4) (hp : p < 21) (k1 : (∀ s, s < 512 → f (10752 * w + 512 * p + s) = f (512 * p + s)) → post 1 (N, L, M, o, a, b, c, K, f, q, V, D, 43008)) (k0 : ¬ (∀ s, s < 512 → f (10752 * w + 512 * p + s) = f (512 * p + s)) → post 0 (N, L, M, o, a, b, c, K, f, q, V, D, 43008)) : ∃ n45, wX_exact_45 post (nI (10752 * w + 512 * p)) (nI (512 * p)) N L M o a b c K f q V D 43008 n45 0 := by
  refine loop_0 (σ := Unit) (fun n i _ => wX_exact_45 post (nI (10752 * w + 512 * p)) (nI (512 * p)) N L M o a b c K f q V D 43008 n (nI i)) (fun i _ => ∀ s, s < i → f (10752 * w + 512 * p + s) = f (512 * p + s)) 512 () (fun s hs => absurd hs (by omega)) (fun n _ hI => pk_le 512 512 (fun _ => k1 hI) (fun z => absurd z (by omega))) (fun n i _ hi hI hk => pk_le 512 i (fun z => absurd z (by omega)) (fun _ => ⟨pk_in (10752 * w + 512 * p + i) 43008 (by omega) (nI_add _ _), pk_in (512 * p + i) 43008 (by omega) (nI_add _ _), br_c (fun z => nm_r (nI_1 i) (hk () (fun s hs => ?_))) (fun z => k0 (fun g2 => ?_))⟩))
  · rw [nI_add, nI_add, nI_clamp (by omega), nI_clamp (by omega)] at z
    by_cases e : s = i
    · rw [e]
      exact z
    · exact hI s (by omega)
  · rw [nI_add, nI_add, nI_clamp (by omega), nI_clamp (by omega)] at z
    exact z (g2 i hi)
theorem ax_unr {post : Int32 → SX → Prop} {n w : Nat} (hn : n ≤ 20) (hw : w < 4) (kk : post (nI (av_e f w (n + 1))) (nI n, L, M, o, a, b, c, K, f, q, V, D, 43008)) : ∃ n23, wX_unreached_23 post (nI w) (nI n) L M o a b c K f q V D 43008 n23 0 0 := by
  refine loop_0 (σ := Unit) (fun n23 i _ => wX_unreached_23 post (nI w) (nI n) L M o a b c K f q V D 43008 n23 (nI (av_e f w i)) (nI i)) (fun _ _ => True) (n + 1) () trivial (fun n23 _ _ => pk_lt n (n + 1) (fun _ => kk) (fun z => absurd z (by omega))) (fun n23 i _ hi _ hk => pk_lt n i (fun z => absurd z (by omega)) (fun _ => ax_size hw (by omega) (pk_eq (av_n f (10752 * w + 512 * i) 512) 0 (fun e => nm_r (nI_1 _) (nm_r (nI_1 i) ?_)) (fun e => nm_r (nI_1 i) ?_) rfl rfl (by have := av_n_le f (10752 * w + 512 * i) 512; omega))))
  · have h2 := hk () trivial
    rw [av_e_s, if_pos e] at h2
    exact h2
  · have h2 := hk () trivial
    rw [av_e_s, if_neg e, Nat.add_zero] at h2
    exact h2
end
section
variable {N : Int32} {o a b c f k g h r : Nat → Int32}
theorem ay_ex {post : Int32 → SY → Prop} {w p : Nat} (hw : w < 4) (hp : p < 21) (k1 : (∀ s, s < 512 → f (10752 * w + 512 * p + s) = f (512 * p + s)) → post 1 (N, o, a, b, c, f, k, g, h, r, 43008)) (k0 : ¬ (∀ s, s < 512 → f (10752 * w + 512 * p + s) = f (512 * p + s)) → post 0 (N, o, a, b, c, f, k, g, h, r, 43008)) : ∃ n19, wY_exact_19 post (nI w) (nI p) N o a b c f k g h r 43008 n19 0 := by
  refine loop_0 (σ := Unit) (fun n i _ => wY_exact_19 post (nI w) (nI p) N o a b c f k g h r 43008 n (nI i)) (fun i _ => ∀ s, s < i → f (10752 * w + 512 * p + s) = f (512 * p + s)) 512 () (fun s hs => absurd hs (by omega)) (fun n _ hI => pk_le 512 512 (fun _ => k1 hI) (fun z => absurd z (by omega))) (fun n i _ hi hI hk => pk_le 512 i (fun z => absurd z (by omega)) (fun _ => ⟨pk_in (10752 * w + 512 * p + i) 43008 (by omega) (av_iyw w p i), pk_in (512 * p + i) 43008 (by omega) (av_iy512 p i), br_c (fun z => nm_r (nI_1 i) (hk () (fun s hs => ?_))) (fun z => k0 (fun g2 => ?_))⟩))
  · rw [av_iyw, av_iy512, nI_clamp (by omega), nI_clamp (by omega)] at z
    by_cases e : s = i
    · rw [e]
      exact z
    · exact hI s (by omega)
  · rw [av_iyw, av_iy512, nI_clamp (by omega), nI_clamp (by omega)] at z
    exact z (g2 i hi)
theorem ay_unr {post : Int32 → SY → Prop} {n w : Nat} (hn : n ≤ 20) (hw : w < 4) (kk : ∀ (h' r' : Nat → Int32), post (nI (av_e f w (n + 1))) (nI n, o, a, b, c, f, k, g, h', r', 43008)) : ∃ n19, wY_unreached_19 post (nI w) n19 0 0 (nI n) o a b c f k g h r 43008 := by
  refine loop_0 (σ := (Nat → Int32) × (Nat → Int32)) (fun n19 i t => wY_unreached_19 post (nI w) n19 (nI (av_e f w i)) (nI i) (nI n) o a b c f k g (t.1) (t.2) 43008) (fun _ _ => True) (n + 1) (h, r) trivial (fun n19 t _ => pk_lt n (n + 1) (fun _ => kk _ _) (fun z => absurd z (by omega))) (fun n19 i t hi _ hk => pk_lt n i (fun z => absurd z (by omega)) (fun _ => ay_look rfl rfl hw (by omega) (fun z h' r' hK hz => br_c (fun ez => nm_r (nI_1 _) (nm_r (nI_1 i) ?_)) (fun ez => nm_r (nI_1 i) ?_))))
  · have h2 := hk (h', r') trivial
    have e0 : av_n f (10752 * w + 512 * i) 512 = 0 := by
      refine av_n_0 512 (fun s hs => ?_)
      rcases hz with e | e
      · exact Classical.byContradiction (fun g2 => e.2 s hs g2)
      · rw [e.1] at ez
        exact absurd ez (by decide)
    rw [av_e_s, if_pos e0] at h2
    exact h2
  · have h2 := hk (h', r') trivial
    have e0 : ¬ av_n f (10752 * w + 512 * i) 512 = 0 := by
      intro e0
      rcases hz with e | ⟨_, s, hs, hF⟩
      · exact ez e.1
      · exact hF (av_n_z 512 e0 s hs)
    rw [av_e_s, if_neg e0, Nat.add_zero] at h2
    exact h2
end
theorem av_cell0 {n p s : Nat} {o a b c f y : Nat → Int32} (hf : av_B f) (hy : av_B y) (h1 : av_R 0 (av_P n o a b c) f) (h2 : av_R 0 (av_P n o a b c) y) (hp : p < 21) (hs : s < 512) : f (512 * p + s) = y (512 * p + s) := by
  have e := av_cell hf hy h1 h2 hp hs
  rw [Nat.mul_zero, Nat.zero_add] at e
  exact e
theorem i_vc_exact {k : Nat} {u : SX} {v : SY} (I : i_Rel k u v) (hk : k + 5 ≤ 2560) (v1 : Int32) (v2 : Int32) : wpX_exact (fun r u' => wpY_exact (fun r' v' => r' = r ∧ i_Rel (k + 5) u' v') v v1 v2) u v1 v2 := by
  obtain ⟨n, L, M, o, a, b, c, K, f, q, V, D, y, kn, g, h, r, rfl, rfl, J⟩ := I
  obtain ⟨rv, h01, hX, hY⟩ := av_valid (L := L) (M := M) (o := o) (a := a) (b := b) (c := c) (K := K) (f := f) (q := q) (V := V) (D := D) (y := y) (kn := kn) (g := g) (h := h) (r := r) J.1
  obtain ⟨hn, hok, hBf, hBy, hKf, hKy⟩ := J
  have J : av_J n o a b c K f kn y := ⟨hn, hok, hBf, hBy, hKf, hKy⟩
  unfold wpX_exact wpY_exact
  dsimp only
  rcases av_gate n v1 v2 rv with hb | ⟨hg, hr⟩ | ⟨w, p, hw, hp, rfl, rfl, hr⟩
  · exact ax_rb hn hX hb (br_f (by decide) (ay_ob hn hok hBy hKy hY (Or.inl hb) (br_f (by decide) ⟨rfl, av_Rel J⟩)))
  · exact ax_ri hn hX hg hr (br_f (by decide) (ay_oi hn hok hBy hKy hY hg (by decide) hr (br_f (by decide) ⟨rfl, av_Rel J⟩)))
  · refine ax_rg hn hX hw hp hr (br_t rfl (ax_work (w := 0) (by omega) hn hok hBf hKf (fun M1 K1 f1 q1 V1 D1 c1 c2 c3 c4 => ax_work hw hn hok c1 c2 (fun M2 K2 f2 q2 V2 D2 e1 e2 e3 e4 => nm_r (av_ixp w p) (nm_r (av_ix0 p) (ax_ex hw (by omega) (fun hall => ?_) (fun hall => ?_)))))))
    · refine ay_og hn hok hBy hKy hY hw hp (by decide) hr (fun k1 y1 g1 h1 r1 d1 d2 d3 => br_t rfl (ay_work (w := 0) rfl (by omega) hn hok d1 d2 (fun k2 y2 g2 h2 r2 i1 i2 i3 i4 => ay_ex hw (by omega) (fun _ => ⟨rfl, av_Rel ⟨hn, hok, e1, i1, e2, i2⟩⟩) (fun hno => absurd (fun s hs => ?_) hno))))
      dsimp only
      rw [← av_cell e1 i1 (e2 w hw e3) (i2 w hw (i4 w d3)) (by omega) hs, ← av_cell0 e1 i1 (e2 0 (by omega) (e4 0 c3)) (i2 0 (by omega) i3) (by omega) hs]
      exact hall s hs
    · refine ay_og hn hok hBy hKy hY hw hp (by decide) hr (fun k1 y1 g1 h1 r1 d1 d2 d3 => br_t rfl (ay_work (w := 0) rfl (by omega) hn hok d1 d2 (fun k2 y2 g2 h2 r2 i1 i2 i3 i4 => ay_ex hw (by omega) (fun hyes => absurd (fun s hs => ?_) hall) (fun _ => ⟨rfl, av_Rel ⟨hn, hok, e1, i1, e2, i2⟩⟩))))
      dsimp only
      rw [av_cell e1 i1 (e2 w hw e3) (i2 w hw (i4 w d3)) (by omega) hs, av_cell0 e1 i1 (e2 0 (by omega) (e4 0 c3)) (i2 0 (by omega) i3) (by omega) hs]
      exact hyes s hs
theorem i_vc_unreached {k : Nat} {u : SX} {v : SY} (I : i_Rel k u v) (hk : k + 5 ≤ 2560) (v1 : Int32) : wpX_unreached (fun r u' => wpY_unreached (fun r' v' => r' = r ∧ i_Rel (k + 5) u' v') v v1) u v1 := by
  obtain ⟨n, L, M, o, a, b, c, K, f, q, V, D, y, kn, g, h, r, rfl, rfl, J⟩ := I
  obtain ⟨rv, h01, hX, hY⟩ := av_valid (L := L) (M := M) (o := o) (a := a) (b := b) (c := c) (K := K) (f := f) (q := q) (V := V) (D := D) (y := y) (kn := kn) (g := g) (h := h) (r := r) J.1
  obtain ⟨hn, hok, hBf, hBy, hKf, hKy⟩ := J
  have J : av_J n o a b c K f kn y := ⟨hn, hok, hBf, hBy, hKf, hKy⟩
  unfold wpX_unreached wpY_unreached
  dsimp only
  rcases av_gate n v1 0 rv with hb | ⟨hg, hr⟩ | ⟨w, p, hw, hp, rfl, _, hr⟩
  · exact ax_rb hn hX hb (br_f (by decide) (ay_ob hn hok hBy hKy hY (Or.inl hb) (br_f (by decide) ⟨rfl, av_Rel J⟩)))
  · exact ax_ri hn hX hg hr (br_f (by decide) (ay_oi hn hok hBy hKy hY hg (by decide) hr (br_f (by decide) ⟨rfl, av_Rel J⟩)))
  · refine ax_rg (p := 0) hn hX hw (by omega) hr (br_t rfl (ax_work hw hn hok hBf hKf (fun M' K' f' q' V' D' c1 c2 c3 c4 => ax_unr hn hw (ay_og (p := 0) hn hok hBy hKy hY hw (by omega) (by decide) hr (fun k' y' g' h' r' d1 d2 d3 => br_t (by decide) (ay_unr hn hw (fun h2 r2 => ⟨congrArg nI (av_e_cg (n + 1) (fun i hi => av_n_cg 512 (fun j hj => ?_))), av_Rel ⟨hn, hok, c1, d1, c2, d2⟩⟩)))))))
    exact (av_cell c1 d1 (c2 w hw c3) (d2 w hw d3) (by omega) hj).symm
