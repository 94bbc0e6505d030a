/-! ===== emit, replace, retract, valid, level ===== -/
theorem av_m4 {K : Nat → Int32} {w : Nat} (hw : w < 4) : av_m 0 4 (fun _ => 0) K w = 0 := av_m_in (by omega) (by omega)
theorem av_J_st {n m i : Nat} {o a b c K f k y : Nat → Int32} {x1 x2 x3 x4 : Int32} (hJ : av_J n o a b c K f k y) (hm : m ≤ 20) (hmn : m ≤ n + 1) (hi : m = n + 1 → i = n) (hok : av_ok x1 x2 x3 x4) : av_J m (upd o i x1) (upd a i x2) (upd b i x3) (upd c i x4) (av_m 0 4 (fun _ => 0) K) f (av_m 0 4 (fun _ => 0) k) y := by
  refine ⟨hm, fun p hp => ?_, hJ.2.2.1, hJ.2.2.2.1, fun w hw hk => absurd (av_m4 hw) hk, fun w hw hk => absurd (av_m4 hw) hk⟩
  by_cases e : p = i
  · rw [e, pk_us, pk_us, pk_us, pk_us]
    exact hok
  · rw [pk_un e, pk_un e, pk_un e, pk_un e]
    exact hJ.2.1 p (by omega)
theorem i_vc_emit {k : Nat} {u : SX} {v : SY} (I : i_Rel k u v) (hk : k + 5 ≤ 2560) (v1 : Int32) (v2 : Int32) (v3 : Int32) (v4 : Int32) : wpX_emit (fun r u' => wpY_emit (fun r' v' => r' = r ∧ i_Rel (k + 5) u' v') v v1 v2 v3 v4) u v1 v2 v3 v4 := by
  obtain ⟨n, L, M, o, a, b, c, K, f, q, V, D, y, kn, g, h, r, rfl, rfl, J⟩ := I
  have hn := J.1
  refine pk_lt n 20 (fun hlt => ax_isS (fun hok => br_f (by decide) (ax_store hlt (nm_r (nI_1 n) ?_))) (fun hok => br_t rfl ?_)) (fun hge => ?_)
  · exact pk_eq n 20 (fun e => absurd e (by omega)) (fun _ => ay_fits (fun _ => br_f (by decide) (ay_put hlt (nm_r (nI_1 n) ⟨rfl, av_Rel (av_J_st J (by omega) (by omega) (fun _ => rfl) hok)⟩))) (fun hno => absurd hok hno))
  · exact pk_eq n 20 (fun e => absurd e (by omega)) (fun _ => ay_fits (fun hy => absurd hy hok) (fun _ => br_t rfl ⟨rfl, av_Rel J⟩))
  · exact pk_eq n 20 (fun _ => ⟨rfl, av_Rel J⟩) (fun e => absurd e (by omega))
theorem av_nm1 {n j : Nat} (hn : n ≤ 20) (hj : j < 2 ^ 31) : nI j ≤ nI n - 1 ↔ j < n := by
  cases n with
  | zero =>
    refine ⟨fun z => ?_, fun z => absurd z (by omega)⟩
    rw [show nI 0 - 1 = (-1 : Int32) from by decide, Int32.le_iff_toInt_le, nI_toInt hj, show (-1 : Int32).toInt = -1 from by decide] at z
    omega
  | succ m =>
    rw [nI_pred, nI_leI hj (by omega)]
    omega
section
variable {N : Int32} {o a b c f k g h r : Nat → Int32}
theorem ay_rep {post : Int32 → SY → Prop} {n : Nat} {x1 x2 x3 x4 : Int32} (hn : n ≤ 20) (k0 : ¬ ((∃ j, j < n ∧ x1 = nI j) ∧ (∃ i, i < 16 ∧ x3 = nI i) ∧ av_ok x2 (x3 / 4) (x3 - x3 / 4 * 4) x4) → post 0 (nI n, o, a, b, c, f, k, g, h, r, 43008)) (k1 : ∀ j, j < n → x1 = nI j → (∃ i, i < 16 ∧ x3 = nI i) → av_ok x2 (x3 / 4) (x3 - x3 / 4 * 4) x4 → post 1 (nI n, upd o j x2, upd a j (x3 / 4), upd b j (x3 - x3 / 4 * 4), upd c j x4, f, av_m 0 4 (fun _ => 0) k, g, h, r, 43008)) : wpY_replace post (nI n, o, a, b, c, f, k, g, h, r, 43008) x1 x2 x3 x4 := by
  unfold wpY_replace
  dsimp only
  refine ay_in (fun z z2 => br_f (by decide) ?_) (fun z => br_t rfl (k0 (fun g2 => ?_)))
  · obtain ⟨j, hj, rfl⟩ := nI_of (Int32.not_lt.mpr z)
    have hjn := (av_nm1 hn hj).mp z2
    exact ay_inr 15 (by decide) (fun h16 => br_f (by decide) ⟨by decide, by decide, ay_fits (fun hok => br_f (by decide) ⟨by decide, by decide, ay_put (by omega) (k1 j hjn rfl h16 hok)⟩) (fun hno => br_t rfl (k0 (fun g2 => hno g2.2.2)))⟩) (fun hno => br_t rfl (k0 (fun g2 => hno g2.2.1)))
  · obtain ⟨⟨j, hj, e⟩, _⟩ := g2
    subst e
    exact z.elim (nI_pos (by omega)) (Int32.not_lt.mpr ((av_nm1 hn (by omega)).mpr hj))
end
theorem i_vc_replace {k : Nat} {u : SX} {v : SY} (I : i_Rel k u v) (hk : k + 5 ≤ 2560) (v1 : Int32) (v2 : Int32) (v3 : Int32) (v4 : Int32) : wpX_replace (fun r u' => wpY_replace (fun r' v' => r' = r ∧ i_Rel (k + 5) u' v') v v1 v2 v3 v4) u v1 v2 v3 v4 := by
  obtain ⟨n, L, M, o, a, b, c, K, f, q, V, D, y, kn, g, h, r, rfl, rfl, J⟩ := I
  have hn := J.1
  refine br_c (fun z => ?_) (fun z => ?_)
  · exact ay_rep hn (fun _ => ⟨rfl, av_Rel J⟩) (fun j hj e _ _ => absurd z (by rw [e]; exact nI_pos (by omega)))
  · obtain ⟨j, hj, rfl⟩ := nI_of z
    refine pk_le n j (fun z2 => ?_) (fun z2 => ax_isP (fun h16 => br_f (by decide) ⟨by decide, nm_e ⟨by decide, nm_e (ax_isS (fun hok => br_f (by decide) (ax_store (by omega) ?_)) (fun hok => br_t rfl ?_))⟩⟩) (fun h16 => br_t rfl ?_))
    · exact ay_rep hn (fun _ => ⟨rfl, av_Rel J⟩) (fun i hi e _ _ => absurd (av_nI_inj hj (by omega) e) (by omega))
    · refine ay_rep hn (fun hno => absurd ⟨⟨j, z2, rfl⟩, h16, hok⟩ hno) (fun i hi e _ _ => ?_)
      have e2 := av_nI_inj hj (by omega) e
      rw [← e2]
      exact ⟨rfl, av_Rel (av_J_st J hn (by omega) (fun e3 => absurd e3 (by omega)) hok)⟩
    · exact ay_rep hn (fun _ => ⟨rfl, av_Rel J⟩) (fun i hi e _ hy => absurd hy hok)
    · exact ay_rep hn (fun _ => ⟨rfl, av_Rel J⟩) (fun i hi e hy _ => absurd hy h16)
theorem i_vc_retract {k : Nat} {u : SX} {v : SY} (I : i_Rel k u v) (hk : k + 5 ≤ 2560) : wpX_retract (fun r u' => wpY_retract (fun r' v' => r' = r ∧ i_Rel (k + 5) u' v') v) u := by
  obtain ⟨n, L, M, o, a, b, c, K, f, q, V, D, y, kn, g, h, r, rfl, rfl, J⟩ := I
  have hn := J.1
  refine pk_eq n 0 (fun e => ?_) (fun e => ?_)
  · exact pk_eq n 0 (fun _ => ⟨rfl, av_Rel J⟩) (fun e2 => absurd e e2)
  · obtain ⟨m, rfl⟩ : ∃ m, n = m + 1 := ⟨n - 1, by omega⟩
    have J2 : av_J m o a b c (av_m 0 4 (fun _ => 0) K) f (av_m 0 4 (fun _ => 0) kn) y := ⟨by omega, fun p hp => J.2.1 p (by omega), J.2.2.1, J.2.2.2.1, fun w hw hk2 => absurd (av_m4 hw) hk2, fun w hw hk2 => absurd (av_m4 hw) hk2⟩
    refine nm_r (nI_pred m) (ax_drop ?_)
    exact pk_eq (m + 1) 0 (fun e2 => absurd e2 e) (fun _ => nm_r (nI_pred m) (ay_drop ⟨rfl, av_Rel J2⟩))
theorem av_valid {n : Nat} {L M : Int32} {o a b c K f q V D y kn g h r : Nat → Int32} (hn : n ≤ 20) : ∃ rv : Int32, (rv = 0 ∨ rv = 1) ∧ (∀ post : Int32 → Prop, post rv → wpX_valid post (nI n, L, M, o, a, b, c, K, f, q, V, D, 43008)) ∧ (∀ post : Int32 → Prop, post rv → wpY_valid post (nI n, o, a, b, c, y, kn, g, h, r, 43008)) := by
  have key : ∀ d j, j + d = n → ∃ rv : Int32, (rv = 0 ∨ rv = 1) ∧ (∀ post : Int32 → Prop, post rv → wX_valid_2 post (nI n) L M o a b c K f q V D 43008 (d + 1) (nI j)) ∧ (∀ post : Int32 → Prop, post rv → wY_valid_2 post (nI n) o a b c y kn g h r 43008 (d + 1) (nI j)) := by
    intro d
    induction d with
    | zero =>
      intro j hj
      exact ⟨1, Or.inr rfl, fun post hp => pk_le n j (fun _ => hp) (fun z => absurd z (by omega)), fun post hp => pk_le n j (fun _ => hp) (fun z => absurd z (by omega))⟩
    | succ d ih =>
      intro j hj
      obtain ⟨rv, h01, hX, hY⟩ := ih (j + 1) (by omega)
      have hi : ∀ N2, j < N2 → N2 < 2 ^ 31 → vp_in (nI j) N2 := fun N2 h1 h2 => vp_in_nI h1 h2
      by_cases h4 : o (nI j).toNatClampNeg = 4
      · by_cases hc : c (nI j).toNatClampNeg ≤ nI n
        · exact ⟨rv, h01, fun post hp => pk_le n j (fun z => absurd z (by omega)) (fun _ => ⟨pk_in j 20 (by omega), br_t h4 (br_f (by decide) ⟨pk_in j 20 (by omega), br_t hc (nm_r (nI_1 j) (hX post hp))⟩)⟩), fun post hp => pk_le n j (fun z => absurd z (by omega)) (fun _ => ⟨pk_in j 20 (by omega), br_t h4 ⟨pk_in j 20 (by omega), br_t hc (nm_r (nI_1 j) (hY post hp))⟩⟩)⟩
        · exact ⟨0, Or.inl rfl, fun post hp => pk_le n j (fun z => absurd z (by omega)) (fun _ => ⟨pk_in j 20 (by omega), br_t h4 (br_f (by decide) ⟨pk_in j 20 (by omega), br_f hc hp⟩)⟩), fun post hp => pk_le n j (fun z => absurd z (by omega)) (fun _ => ⟨pk_in j 20 (by omega), br_t h4 ⟨pk_in j 20 (by omega), br_f hc hp⟩⟩)⟩
      · by_cases h5 : o (nI j).toNatClampNeg = 5
        · by_cases hc : c (nI j).toNatClampNeg ≤ nI n
          · exact ⟨rv, h01, fun post hp => pk_le n j (fun z => absurd z (by omega)) (fun _ => ⟨pk_in j 20 (by omega), br_f h4 ⟨pk_in j 20 (by omega), br_t h5 (br_f (by decide) ⟨pk_in j 20 (by omega), br_t hc (nm_r (nI_1 j) (hX post hp))⟩)⟩⟩), fun post hp => pk_le n j (fun z => absurd z (by omega)) (fun _ => ⟨pk_in j 20 (by omega), br_f h4 ⟨pk_in j 20 (by omega), br_t h5 ⟨pk_in j 20 (by omega), br_t hc (nm_r (nI_1 j) (hY post hp))⟩⟩⟩)⟩
          · exact ⟨0, Or.inl rfl, fun post hp => pk_le n j (fun z => absurd z (by omega)) (fun _ => ⟨pk_in j 20 (by omega), br_f h4 ⟨pk_in j 20 (by omega), br_t h5 (br_f (by decide) ⟨pk_in j 20 (by omega), br_f hc hp⟩)⟩⟩), fun post hp => pk_le n j (fun z => absurd z (by omega)) (fun _ => ⟨pk_in j 20 (by omega), br_f h4 ⟨pk_in j 20 (by omega), br_t h5 ⟨pk_in j 20 (by omega), br_f hc hp⟩⟩⟩)⟩
        · exact ⟨rv, h01, fun post hp => pk_le n j (fun z => absurd z (by omega)) (fun _ => ⟨pk_in j 20 (by omega), br_f h4 ⟨pk_in j 20 (by omega), br_f h5 (br_t rfl (nm_r (nI_1 j) (hX post hp)))⟩⟩), fun post hp => pk_le n j (fun z => absurd z (by omega)) (fun _ => ⟨pk_in j 20 (by omega), br_f h4 ⟨pk_in j 20 (by omega), br_f h5 (nm_r (nI_1 j) (hY post hp))⟩⟩)⟩
  obtain ⟨rv, h01, hX, hY⟩ := key n 0 (by omega)
  exact ⟨rv, h01, fun post hp => ⟨n + 1, hX post hp⟩, fun post hp => ⟨n + 1, hY post hp⟩⟩
theorem i_vc_valid {k : Nat} {u : SX} {v : SY} (I : i_Rel k u v) (hk : k + 5 ≤ 2560) : wpX_valid (fun r => wpY_valid (fun r' => r' = r ∧ i_Rel (k + 5) u v) v) u := by
  have I2 : i_Rel (k + 5) u v := I
  obtain ⟨n, L, M, o, a, b, c, K, f, q, V, D, y, kn, g, h, r, rfl, rfl, J⟩ := I
  obtain ⟨rv, h01, hX, hY⟩ := av_valid (L := L) (M := M) (o := o) (a := a) (b := b) (c := c) (K := K) (f := f) (q := q) (V := V) (D := D) (y := y) (kn := kn) (g := g) (h := h) (r := r) J.1
  exact hX _ (hY _ ⟨rfl, I2⟩)
theorem i_vc_level {k : Nat} {u : SX} {v : SY} (I : i_Rel k u v) (hk : k + 5 ≤ 2560) (v1 : Int32) : wpX_level (fun r u' => wpY_level (fun r' => r' = r ∧ i_Rel (k + 5) u' v) v v1) u v1 := by
  obtain ⟨n, L, M, o, a, b, c, K, f, q, V, D, y, kn, g, h, r, rfl, rfl, J⟩ := I
  refine br_c (fun z => ?_) (fun z => ?_)
  · refine br_f (fun e => ?_) (br_f (fun e => ?_) ⟨rfl, av_Rel J⟩)
    · rw [e] at z
      exact absurd z (by decide)
    · rw [e] at z
      exact absurd z (by decide)
  · obtain ⟨j, hj, rfl⟩ := nI_of z
    refine pk_le j 1 (fun z2 => ?_) (fun z2 => ?_)
    · exact pk_eq j 0 (fun _ => ⟨rfl, av_Rel J⟩) (fun e => pk_eq j 1 (fun _ => ⟨rfl, av_Rel J⟩) (fun e2 => absurd z2 (by omega)))
    · exact pk_eq j 0 (fun e => absurd z2 (by omega)) (fun _ => pk_eq j 1 (fun e => absurd z2 (by omega)) (fun _ => ⟨rfl, av_Rel J⟩))
