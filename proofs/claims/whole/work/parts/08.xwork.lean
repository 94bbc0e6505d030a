/-! ===== the component: outcomes, the working out ===== -/
theorem av_nI_m1 {z : Nat} (h : z < 2 ^ 31) : ¬ nI z = (-1 : Int32) := by
  intro e
  have g := nI_pos h
  rw [e] at g
  exact g (by decide)
theorem av_p512 (p : Nat) : (nI p + 1) * 512 = nI (512 * (p + 1)) := by
  show (nI p + 1) * nI 512 = _
  rw [nI_1, pk_mul, Nat.mul_comm]
section
variable {N L M : Int32} {o a b c K f q V D : Nat → Int32}
theorem ax_oc {post : Int32 → Prop} {p : Nat} (hp : p < 20) (hok : av_ok (o p) (a p) (b p) (c p)) (k : post (nI (av_oc (o p)))) : wpX_outcomesOf post (N, L, M, o, a, b, c, K, f, q, V, D, 43008) (nI p) := by
  obtain ⟨O, hO⟩ : ∃ O, O = o p := ⟨_, rfl⟩
  rw [← hO] at hok k
  refine ⟨pk_in p 20 hp, nm_r (e' := O) (by rw [nI_clamp (by omega)]; exact hO.symm) ?_⟩
  rcases hok with ⟨rfl, _⟩ | ⟨rfl, _⟩ | ⟨rfl, _⟩ | ⟨rfl, _⟩ | ⟨rfl, _⟩ | ⟨rfl, _⟩ | rfl
  · exact br_t (by decide) k
  · exact br_t (by decide) k
  · exact br_f (by decide) (br_f (by decide) (br_t rfl k))
  · exact br_f (by decide) (br_f (by decide) (br_f (by decide) (br_t rfl k)))
  · exact br_f (by decide) (br_f (by decide) (br_f (by decide) (br_f (by decide) (br_t rfl k))))
  · exact br_f (by decide) (br_f (by decide) (br_f (by decide) (br_f (by decide) (br_f (by decide) (br_t rfl k)))))
  · exact br_f (by decide) (br_f (by decide) (br_f (by decide) (br_f (by decide) (br_f (by decide) (br_f (by decide) (br_t rfl k))))))
theorem ax_out {post : Int32 → Prop} {p s j : Nat} (hp : p < 20) (hs : s < 512) (hj : j < av_oc (o p)) (hok : av_ok (o p) (a p) (b p) (c p)) (k1 : ∀ z, av_out (o p) (a p) (b p) (c p) p s j = some z → post (nI z)) (k0 : av_out (o p) (a p) (b p) (c p) p s j = none → post (-1)) : wpX_outcome post (N, L, M, o, a, b, c, K, f, q, V, D, 43008) (nI p) (nI s) (nI j) := by
  obtain ⟨O, hO⟩ : ∃ O, O = o p := ⟨_, rfl⟩
  obtain ⟨A, hA⟩ : ∃ A, A = a p := ⟨_, rfl⟩
  obtain ⟨B, hB⟩ : ∃ B, B = b p := ⟨_, rfl⟩
  obtain ⟨C, hC⟩ : ∃ C, C = c p := ⟨_, rfl⟩
  rw [← hO, ← hA, ← hB, ← hC] at hok k1 k0
  rw [← hO] at hj
  refine ⟨pk_in p 20 hp, nm_r (e' := A) (by rw [nI_clamp (by omega)]; exact hA.symm) ⟨pk_in p 20 hp, nm_r (e' := B) (by rw [nI_clamp (by omega)]; exact hB.symm) ⟨pk_in p 20 hp, nm_r (e' := C) (by rw [nI_clamp (by omega)]; exact hC.symm) (nm_r (av_p512 p) ⟨pk_in p 20 hp, nm_r (e' := O) (by rw [nI_clamp (by omega)]; exact hO.symm) ?_⟩)⟩⟩⟩
  clear hO hA hB hC
  rcases hok with ⟨rfl, ⟨i, hi, rfl⟩, ⟨x, hx, rfl⟩⟩ | ⟨rfl, ⟨i, hi, rfl⟩, ⟨y, hy, rfl⟩, _⟩ | ⟨rfl, ⟨i, hi, rfl⟩⟩ | ⟨rfl, ⟨i, hi, rfl⟩, ⟨y, hy, rfl⟩, _⟩ | ⟨rfl, ⟨x, hx, rfl⟩⟩ | ⟨rfl, ⟨x, hx, rfl⟩⟩ | rfl
  · refine br_f (by decide) (br_f (by decide) (br_t rfl (ax_with s i x rfl rfl rfl hs hi hx ?_)))
    show post (nI (512 * (p + 1)) + nI (av_w s i x))
    rw [nI_add]
    exact k1 _ (by rw [av_out_0, nI_clamp (by omega), nI_clamp (by omega)])
  · refine br_f (by decide) (br_f (by decide) (br_f (by decide) (br_t rfl (ax_val s y rfl rfl hs hy (nm_e (br_c (fun z => ?_) (fun z => br_c (fun z2 => ?_) (fun z2 => ?_))))))))
    · refine k0 ?_
      rw [av_out_1, nI_clamp (by omega)]
      exact if_neg (fun g => Int32.not_lt.mpr g.1 z)
    · refine k0 ?_
      rw [av_out_1, nI_clamp (by omega)]
      exact if_neg (fun g => Int32.not_lt.mpr g.2 z2)
    · obtain ⟨t, ht, e⟩ := av_le7 (Int32.not_lt.mp z) (Int32.not_lt.mp z2)
      refine ax_with s i t rfl rfl e hs hi ht ?_
      show post (nI (512 * (p + 1)) + nI (av_w s i t))
      rw [nI_add]
      refine k1 _ ?_
      rw [av_out_1, nI_clamp (n := i) (by omega), nI_clamp (n := y) (by omega), if_pos ⟨Int32.not_lt.mp z, Int32.not_lt.mp z2⟩, e, nI_clamp (by omega)]
  · refine br_f (by decide) (br_f (by decide) (br_f (by decide) (br_f (by decide) (br_t rfl (ax_with s i j rfl rfl rfl hs hi hj ?_)))))
    show post (nI (512 * (p + 1)) + nI (av_w s i j))
    rw [nI_add]
    exact k1 _ (by rw [av_out_2, nI_clamp (by omega)])
  · refine br_f (by decide) (br_f (by decide) (br_f (by decide) (br_f (by decide) (br_f (by decide) (br_t rfl (ax_val s i rfl rfl hs hi (ax_val s y rfl rfl hs hy (br_c (fun z => ?_) (fun z => ?_)))))))))
    · refine k0 ?_
      rw [av_out_3, nI_clamp (n := i) (by omega), nI_clamp (n := y) (by omega)]
      exact if_neg (fun g => Int32.not_lt.mpr g z)
    · show post (nI (512 * (p + 1)) + nI s)
      rw [nI_add]
      refine k1 _ ?_
      rw [av_out_3, nI_clamp (n := i) (by omega), nI_clamp (n := y) (by omega)]
      exact if_pos (Int32.not_lt.mp z)
  · refine br_f (by decide) (br_f (by decide) (br_f (by decide) (br_f (by decide) (br_f (by decide) (br_f (by decide) (br_t rfl ?_))))))
    show post (nI x * 512 + nI s)
    rw [av_i512]
    exact k1 _ (by rw [av_out_4, nI_clamp (by omega)])
  · refine br_f (by decide) (br_f (by decide) (br_f (by decide) (br_f (by decide) (br_f (by decide) (br_f (by decide) (br_f (by decide) (br_t rfl (pk_eq j 0 (fun h0 => ?_) (fun h0 => ?_) rfl rfl (by have g : j < 2 := hj; omega)))))))))
    · show post (nI (512 * (p + 1)) + nI s)
      rw [nI_add]
      exact k1 _ (by rw [av_out_5, if_pos h0])
    · show post (nI x * 512 + nI s)
      rw [av_i512]
      exact k1 _ (by rw [av_out_5, if_neg h0, nI_clamp (by omega)])
  · exact br_f (by decide) (br_t (by decide) (k0 (av_out_6 _ _ _ _ _ _)))
theorem av_F_z {w z q t : Nat} {f : Nat → Int32} (h : z = 512 * q + t) : av_F f w q t ↔ ¬ f (10752 * w + z) = 0 := by
  subst h
  unfold av_F
  rw [Nat.add_assoc]
theorem ax_w91 {post : SX → Prop} {J : Int32 → Int32 → Int32 → Int32 → (Nat → Int32) → (Nat → Int32) → (Nat → Int32) → (Nat → Int32) → (Nat → Int32) → (Nat → Int32) → (Nat → Int32) → (Nat → Int32) → (Nat → Int32) → Nat → Prop} {n w p s m h : Nat} (hw : w < 4) (hn : n ≤ 20) (hpn : p < n) (hs : s < 512) (hok : av_ok (o p) (a p) (b p) (c p)) (hI : av_XI w (av_P n o a b c) f q m V D) (hl : av_L w (av_P n o a b c) p s)
    (k : ∀ (f' q' : Nat → Int32) (m' : Nat) (V' D' : Nat → Int32), av_XI w (av_P n o a b c) f' q' m' V' D' → av_XG w f q m f' q' m' → (∀ r t, av_P n o a b c p s r t → av_F f' w r t) → J (nI (h + 1)) N L (nI m') o a b c K f' q' V' D' 43008) :
    ∃ n91, wX_workOut_91 post J (nI w) (nI h) (nI p) (nI s) (nI (av_oc (o p))) n91 0 N L (nI m) o a b c K f q V D 43008 := by
  have hoc : av_oc (o p) ≤ 8 := by
    unfold av_oc
    split
    · omega
    · split
      · omega
      · split
        · omega
        · omega
  refine loop_0 (σ := (Nat → Int32) × (Nat → Int32) × Nat × (Nat → Int32) × (Nat → Int32)) (fun n91 i t => wX_workOut_91 post J (nI w) (nI h) (nI p) (nI s) (nI (av_oc (o p))) n91 (nI i) N L (nI t.2.2.1) o a b c K (t.1) (t.2.1) (t.2.2.2.1) (t.2.2.2.2) 43008)
    (fun i t => av_XI w (av_P n o a b c) t.1 t.2.1 t.2.2.1 t.2.2.2.1 t.2.2.2.2 ∧ av_XG w f q m t.1 t.2.1 t.2.2.1 ∧ ∀ j z, j < i → av_out (o p) (a p) (b p) (c p) p s j = some z → ¬ t.1 (10752 * w + z) = 0) (av_oc (o p)) (f, q, m, V, D) ⟨hI, av_XG_rf w f q m, fun j z hj => absurd hj (by omega)⟩ ?_ ?_
  · intro n91 t hh
    refine pk_le (av_oc (o p)) (av_oc (o p)) (fun _ => nm_r (nI_1 h) (k _ _ _ _ _ hh.1 hh.2.1 (fun r t hP => ?_))) (fun z => absurd z (by omega))
    obtain ⟨_, hr, ht, j, hj, e⟩ := hP
    exact (av_F_z rfl).mpr (hh.2.2 j _ hj e)
  · intro n91 i t hi hh hk
    refine pk_le (av_oc (o p)) i (fun z => absurd z (by omega)) (fun _ => ax_out (by omega) hs hi hok (fun z hz => ?_) (fun hz => br_t rfl (nm_r (nI_1 i) (hk t ⟨hh.1, hh.2.1, fun j z hj e => ?_⟩))))
    · obtain ⟨r, t', hr, ht', e⟩ := av_out_in hok (by omega) hs hi hz
      refine br_f (av_nI_m1 (by omega)) ?_
      rw [e] at hz ⊢
      refine ax_reach hw hr ht' hh.1 (av_L_G (by omega) hs hl ⟨hpn, hr, ht', i, hi, hz⟩) (fun f' q' m' V' D' hX hG hF => nm_r (nI_1 i) (hk (f', q', m', V', D') ⟨hX, av_XG_tr hh.2.1 hG, fun j z2 hj e2 => ?_⟩))
      by_cases ej : j = i
      · rw [ej, hz] at e2
        exact (av_F_z (Option.some.inj e2).symm).mp hF
      · exact hG.1 _ (hh.2.2 j z2 (by omega) e2)
    · by_cases ej : j = i
      · rw [ej, hz] at e
        exact nomatch e
      · exact hh.2.2 j z (by omega) e
theorem ax_w91n {post : SX → Prop} {J : Int32 → Int32 → Int32 → Int32 → (Nat → Int32) → (Nat → Int32) → (Nat → Int32) → (Nat → Int32) → (Nat → Int32) → (Nat → Int32) → (Nat → Int32) → (Nat → Int32) → (Nat → Int32) → Nat → Prop} {x3 x4 : Int32} {w h : Nat} (k : J (nI (h + 1)) N L M o a b c K f q V D 43008) : ∃ n91, wX_workOut_91 post J (nI w) (nI h) x3 x4 0 n91 0 N L M o a b c K f q V D 43008 :=
  ⟨1, br_t (by decide) (nm_r (nI_1 h) k)⟩
theorem ax_work {post : SX → Prop} {n w : Nat} (hw : w < 4) (hn : n ≤ 20) (hok : ∀ p, p < n → av_ok (o p) (a p) (b p) (c p)) (hB : av_B f) (hK : ∀ v, v < 4 → ¬ K v = 0 → av_R v (av_P n o a b c) f)
    (k : ∀ (M' : Int32) (K' f' q' V' D' : Nat → Int32), av_B f' → (∀ v, v < 4 → ¬ K' v = 0 → av_R v (av_P n o a b c) f') → ¬ K' w = 0 → (∀ v, ¬ K v = 0 → ¬ K' v = 0) → post (nI n, L, M', o, a, b, c, K', f', q', V', D', 43008)) : wpX_workOut post (nI n, L, M, o, a, b, c, K, f, q, V, D, 43008) (nI w) := by
  have hend : ∀ (f' q' V' D' : Nat → Int32) (m' : Nat), av_E w f f' → av_XI w (av_P n o a b c) f' q' m' V' D' → av_F f' w 0 0 → (∀ p s r t, p < 21 → s < 512 → av_F f' w p s → av_P n o a b c p s r t → av_F f' w r t) → vp_in (nI w) 4 ∧ ∀ x : Nat → Int32, x = upd K (nI w).toNatClampNeg (vp_nar .boolean 1) → post (nI n, L, nI m', o, a, b, c, x, f', q', V', D', 43008) := by
    intro f' q' V' D' m' hE hX h0 hG
    refine ⟨pk_in w 4 hw, nm_r (e' := upd K w 1) (by rw [nI_clamp (by omega), av_nar1]) (k _ _ _ _ _ _ hX.1.1 (fun v hv hk2 => ?_) (by rw [pk_us]; decide) av_up1)⟩
    by_cases e : v = w
    · rw [e]
      exact av_X_end hX h0 hG
    · rw [pk_un e] at hk2
      exact av_R_E e hE (hK v hv hk2)
  have h18 : wX_workOut_18 post (nI w) (nI n) L M o a b c K f q V D 43008 := by
    refine ax_clear hw ?_
    have hB0 : av_B (av_m (10752 * w) 10752 (fun _ => 0) f) := by
      intro j
      by_cases g : 10752 * w ≤ j ∧ j < 10752 * w + 10752
      · rw [av_m_in g.1 g.2]
        exact Or.inl rfl
      · rw [av_m_out (by omega)]
        exact hB j
    have hX0 : av_XI w (av_P n o a b c) (av_m (10752 * w) 10752 (fun _ => 0) f) q 0 (av_m 0 63 (fun _ => 0) V) (av_m 0 336 (fun _ => -8) D) :=
      av_X_0 (by unfold av_W; omega) hB0 (fun j hj => av_m_in (by omega) (by omega)) (fun j hj => av_m_in (by omega) (by omega)) (fun j hj => av_m_in (by omega) (by omega))
    have hE0 : av_E w f (av_m (10752 * w) 10752 (fun _ => 0) f) := fun j hj => av_m_out hj
    refine ax_reach (p := 0) (s := 0) (m := 0) hw (by omega) (by omega) hX0 av_L_0 (fun f1 q1 m1 V1 D1 hX1 hG1 hF1 => ?_)
    refine loop_m (σ := Nat × (Nat → Int32) × (Nat → Int32) × Nat × (Nat → Int32) × (Nat → Int32)) (fun n31 t => wX_workOut_31 post (nI w) n31 (nI t.1) (nI n) L (nI t.2.2.2.1) o a b c K (t.2.1) (t.2.2.1) (t.2.2.2.2.1) (t.2.2.2.2.2) 43008)
      (fun t => av_XI w (av_P n o a b c) t.2.1 t.2.2.1 t.2.2.2.1 t.2.2.2.2.1 t.2.2.2.2.2 ∧ av_E w f t.2.1 ∧ av_F t.2.1 w 0 0 ∧ t.1 ≤ t.2.2.2.1 ∧ ∀ j p s r u, j < t.1 → p < 21 → s < 512 → t.2.2.1 j = nI (512 * p + s) → av_P n o a b c p s r u → av_F t.2.1 w r u) (fun t => 10752 - t.1) ?_ (0, f1, q1, m1, V1, D1) ⟨hX1, av_E_tr hE0 hG1.2.2.2, hF1, Nat.zero_le _, fun j p s r u hj => absurd hj (by omega)⟩
    intro n31 t hh hk
    obtain ⟨hd, f2, q2, m2, V2, D2⟩ := t
    obtain ⟨hX, hE, hF, hm, hfol⟩ := hh
    have hX' : av_XI w (av_P n o a b c) f2 q2 m2 V2 D2 := hX
    have hm' : hd ≤ m2 := hm
    have hmm : m2 ≤ 10752 := av_XQ_le hX'.1
    have hexit : m2 ≤ hd → (∀ p s r t, p < 21 → s < 512 → av_F f2 w p s → av_P n o a b c p s r t → av_F f2 w r t) := by
      intro hle p s r u hp hs hFp hP
      obtain ⟨j, hj, e⟩ := hX'.1.2.2.2.2 p s hp hs hFp
      exact hfol j p s r u (by show j < hd; omega) hp hs e hP
    refine pk_le 10752 hd (fun z => hend f2 q2 V2 D2 m2 hE hX hF (hexit (by omega))) (fun z => pk_le m2 hd (fun z2 => hend f2 q2 V2 D2 m2 hE hX hF (hexit z2)) (fun z2 => ?_))
    obtain ⟨p, s, hp, hs, e, hFp⟩ := hX'.1.2.2.2.1 hd z2
    have e0 : q2 (nI hd).toNatClampNeg = nI (512 * p + s) := by
      rw [nI_clamp (by omega)]
      exact e
    have e1 : q2 (nI hd).toNatClampNeg / 512 = nI p := by
      rw [e0, av_div512 (by omega)]
      exact congrArg nI (by omega)
    have e2 : q2 (nI hd).toNatClampNeg - q2 (nI hd).toNatClampNeg / 512 * 512 = nI s := by
      rw [e0, av_rem512 (by omega)]
      exact congrArg nI (by omega)
    have hnext : ∀ (f' q' : Nat → Int32) (m' : Nat) (V' D' : Nat → Int32), av_XI w (av_P n o a b c) f' q' m' V' D' → av_XG w f2 q2 m2 f' q' m' → (∀ r t, av_P n o a b c p s r t → av_F f' w r t) → wX_workOut_31 post (nI w) n31 (nI (hd + 1)) (nI n) L (nI m') o a b c K f' q' V' D' 43008 := by
      intro f' q' m' V' D' hX3 hG3 hP3
      refine hk (hd + 1, f', q', m', V', D') ⟨hX3, av_E_tr hE hG3.2.2.2, hG3.1 _ hF, ?_, ?_⟩ ?_
      · show hd + 1 ≤ m'
        have := hG3.2.2.1
        omega
      · intro j p' s' r u hj hp' hs' ej hP
        have hj' : j < hd + 1 := hj
        have ej' : q' j = nI (512 * p' + s') := ej
        rw [hG3.2.1 j (by omega)] at ej'
        by_cases eq : j = hd
        · rw [eq, e] at ej'
          have ee := av_nI_inj (by omega) (by omega) ej'
          have ep : p' = p := by omega
          have es : s' = s := by omega
          rw [ep, es] at hP
          exact hP3 r u hP
        · exact hG3.1 _ (hfol j p' s' r u (by show j < hd; omega) hp' hs' ej' hP)
      · show 10752 - (hd + 1) < 10752 - hd
        omega
    refine ⟨pk_in hd 10752 (by omega), by decide, nm_r e1 ⟨pk_in hd 10752 (by omega), by decide, nm_r e2 (pk_le n p (fun z3 => ?_) (fun z3 => ?_))⟩⟩
    · exact ax_w91n (hnext f2 q2 m2 V2 D2 hX (av_XG_rf w f2 q2 m2) (fun r t hP => absurd hP.1 (by omega)))
    · exact ax_oc (by omega) (hok p z3) (ax_w91 hw hn z3 hs (hok p z3) hX (hX'.1.2.1 p s hp hs hFp) hnext)
  refine br_c (fun z => ⟨pk_in w 4 hw, br_c (fun z2 => h18) (fun z2 => ?_)⟩) (fun z => h18)
  rw [nI_clamp (by omega)] at z2
  exact k M K f q V D hB hK z2 (fun _ g => g)
end
