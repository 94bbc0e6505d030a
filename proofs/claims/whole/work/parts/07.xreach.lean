/-! ===== the component: hull, reach ===== -/
section
variable {N L M : Int32} {o a b c K f q V D : Nat → Int32}
theorem ax_inV {post : Int32 → Prop} {p s : Nat} (hp : p < 21) (hs : s < 512) (k1 : (∀ v, v < 3 → bt (V (3 * p + v)) (av_v s v) = true) → post 1) (k0 : ¬ (∀ v, v < 3 → bt (V (3 * p + v)) (av_v s v) = true) → post 0) : wpX_inValueSets post (N, L, M, o, a, b, c, K, f, q, V, D, 43008) (nI p) (nI s) := by
  refine loop_0 (σ := Unit) (fun n i _ => wX_inValueSets_2 post (nI p) (nI s) N L M o a b c K f q V D 43008 n (nI i)) (fun i _ => ∀ v, v < i → bt (V (3 * p + v)) (av_v s v) = true) 3 () (fun v hv => absurd hv (by omega)) (fun n _ h => pk_le 3 3 (fun _ => k1 h) (fun z => absurd z (by omega))) (fun n i _ hi hI hk => pk_le 3 i (fun z => absurd z (by omega)) (fun _ => ax_val s i rfl rfl hs (by omega) (nm_e ⟨pk_in (3 * p + i) 63 (by omega) (av_i3 p i), br_c (fun z => k0 (fun g => ?_)) (fun z => nm_r (nI_1 i) (hk () (fun v hv => ?_)))⟩)))
  · rw [av_i3, nI_clamp (by omega), av_band (av_v_lt s i)] at z
    rw [g i hi] at z
    exact absurd z (by decide)
  · rw [av_i3, nI_clamp (by omega), av_band (av_v_lt s i)] at z
    by_cases e : v = i
    · subst e
      cases hb : bt (V (3 * p + v)) (av_v s v)
      · exact absurd hb z
      · rfl
    · exact hI v (by omega)
theorem ax_inB1 {post J : Int32 → Prop} {x1 : Int32} {p s i : Nat} (hp : p < 21) (hs : s < 512) (hi : i < 16) (hJ : av_d s i ≤ D (16 * p + i) → J (nI (i + 1))) (h0 : ¬ av_d s i ≤ D (16 * p + i) → post 0) : wX_inBounds_39 post J x1 (nI p) (nI s) (nI i) (nI (i / 4)) (nI (i % 4)) N L M o a b c K f q V D 43008 := by
  refine br_f (by decide) (ax_val s (i / 4) rfl rfl hs (by omega) (ax_val s (i % 4) rfl rfl hs (by omega) ⟨pk_in (16 * p + i) 336 (by omega) (av_i16 p i), br_c (fun z => nm_r (nI_1 i) (hJ ?_)) (fun z => h0 ?_)⟩))
  · rw [av_i16, nI_clamp (by omega)] at z
    exact z
  · rw [av_i16, nI_clamp (by omega)] at z
    exact z
theorem ax_inB {post : Int32 → Prop} {w p s : Nat} (hw : w < 4) (hp : p < 21) (hs : s < 512) (k1 : (∀ k, k < 16 → (w = 2 → (k / 4 = 3 ∨ k % 4 = 3)) → av_d s k ≤ D (16 * p + k)) → post 1) (k0 : ¬ (∀ k, k < 16 → (w = 2 → (k / 4 = 3 ∨ k % 4 = 3)) → av_d s k ≤ D (16 * p + k)) → post 0) : wpX_inBounds post (N, L, M, o, a, b, c, K, f, q, V, D, 43008) (nI w) (nI p) (nI s) := by
  refine loop_0 (σ := Unit) (fun n i _ => wX_inBounds_3 post (nI w) (nI p) (nI s) N L M o a b c K f q V D 43008 n (nI i)) (fun i _ => ∀ k, k < i → (w = 2 → (k / 4 = 3 ∨ k % 4 = 3)) → av_d s k ≤ D (16 * p + k)) 16 () (fun v hv => absurd hv (by omega)) (fun n _ h => pk_le 16 16 (fun _ => k1 h) (fun z => absurd z (by omega))) ?_
  intro n i _ hi hI hk
  have hJ : (w = 2 → (i / 4 = 3 ∨ i % 4 = 3)) → wX_inBounds_39 post (wX_inBounds_3 post (nI w) (nI p) (nI s) N L M o a b c K f q V D 43008 n) (nI w) (nI p) (nI s) (nI i) (nI (i / 4)) (nI (i % 4)) N L M o a b c K f q V D 43008 := by
    intro h3
    refine ax_inB1 hp hs hi (fun z => hk () (fun k hk2 h4 => ?_)) (fun z => k0 (fun g => z (g i hi h3)))
    by_cases e : k = i
    · rw [e]
      exact z
    · exact hI k (by omega) h4
  have hS : ¬ (w = 2 → (i / 4 = 3 ∨ i % 4 = 3)) → wX_inBounds_44 post (wX_inBounds_3 post (nI w) (nI p) (nI s) N L M o a b c K f q V D 43008 n) (nI w) (nI p) (nI s) (nI i) (nI (i / 4)) (nI (i % 4)) 0 N L M o a b c K f q V D 43008 := by
    intro h3
    refine br_t rfl (nm_r (nI_1 i) (hk () (fun k hk2 h4 => ?_)))
    by_cases e : k = i
    · rw [e] at h4
      exact absurd h4 h3
    · exact hI k (by omega) h4
  exact pk_le 16 i (fun z => absurd z (by omega)) (fun _ => ⟨by decide, nm_r (av_div4 (by omega)) ⟨by decide, nm_r (av_rem4 (by omega)) (pk_eq w 2 (fun hw2 => pk_eq (i / 4) 3 (fun h3 => hJ (fun _ => Or.inl h3)) (fun h3 => pk_eq (i % 4) 3 (fun h4 => hJ (fun _ => Or.inr h4)) (fun h4 => hS (fun z => (z hw2).elim h3 h4)))) (fun hw2 => hJ (fun z => absurd z hw2)))⟩⟩)
theorem ax_reach {post : SX → Prop} {G : Nat → Nat → Nat → Nat → Prop} {w p s m : Nat} (hw : w < 4) (hp : p < 21) (hs : s < 512) (hI : av_XI w G f q m V D) (hl : av_L w G p s) (k : ∀ (f' q' : Nat → Int32) (m' : Nat) (V' D' : Nat → Int32), av_XI w G f' q' m' V' D' → av_XG w f q m f' q' m' → av_F f' w p s → post (N, L, nI m', o, a, b, c, K, f', q', V', D', 43008)) : wpX_reach post (N, L, nI m, o, a, b, c, K, f, q, V, D, 43008) (nI w) (nI (512 * p + s)) := by
  have e1 : (512 * p + s) / 512 = p := by omega
  have e2 : (512 * p + s) % 512 = s := by omega
  refine ⟨pk_in (10752 * w + 512 * p + s) 43008 (by omega) (av_ixw w p s), br_c (fun z => ?_) (fun z => ?_)⟩
  · rw [av_ixw, nI_clamp (by omega)] at z
    refine pk_eq w 0 (fun h0 => ?_) (fun h0 => ⟨by decide, nm_r ((av_div512 (by omega)).trans (congrArg nI e1)) ⟨by decide, ax_widen2 hp hs ((av_rem512 (by omega)).trans (congrArg nI e2)) ?_⟩⟩)
    · obtain ⟨a1, a2, a3⟩ := av_XQ_add hI.1 hp hs z hl
      exact ax_add hw hp hs a1 (k _ _ _ _ _ ⟨a2, Or.inl h0⟩ a3 ((av_F_u hs hs (by decide)).mpr (Or.inr ⟨rfl, rfl⟩)))
    · have hW : av_W w := by
        unfold av_W
        omega
      obtain ⟨hV', hJ0⟩ := av_XJ_0 (p := p) (s := s) hW hI hs hl
      refine loop_0 (σ := (Nat → Int32) × (Nat → Int32) × Nat) (fun n i t => wX_reach_46 post (nI w) (nI p) n (nI i) N L (nI t.2.2) o a b c K (t.1) (t.2.1) (av_m (3 * p) 3 (av_wv p s V) V) (av_m (16 * p) 16 (av_wb p s D) D) 43008)
        (fun i t => av_XJ w G p i (av_m (3 * p) 3 (av_wv p s V) V) (av_m (16 * p) 16 (av_wb p s D) D) t.1 t.2.1 t.2.2 ∧ av_XG w f q m t.1 t.2.1 t.2.2) 512 (f, q, m) ⟨hJ0, av_XG_rf w f q m⟩ (fun n t h => pk_le 512 512 (fun _ => k _ _ _ _ _ (av_XJ_end hW hV' h.1) h.2 (h.1.2.2.2 s hs av_IX_s)) (fun z => absurd z (by omega))) ?_
      intro n i t hi hh hk
      obtain ⟨hJ, hG⟩ := hh
      have h1 : av_IX w (av_m (3 * p) 3 (av_wv p s V) V) (av_m (16 * p) 16 (av_wb p s D) D) p i → wX_reach_87 post (wX_reach_46 post (nI w) (nI p) n) (nI w) (nI p) (nI i) (nI (512 * p + i)) 1 N L (nI t.2.2) o a b c K (t.1) (t.2.1) (av_m (3 * p) 3 (av_wv p s V) V) (av_m (16 * p) 16 (av_wb p s D) D) 43008 := by
        intro hx
        refine br_f (by decide) ⟨pk_in (10752 * w + 512 * p + i) 43008 (by omega) (av_ixw w p i), br_c (fun z2 => ?_) (fun z2 => ?_)⟩
        · rw [av_ixw, nI_clamp (by omega)] at z2
          obtain ⟨a1, a2, a3⟩ := av_XJ_add hW hV' hJ hp hi hx z2
          exact ax_add hw hp hi a1 (nm_r (nI_1 i) (hk (upd t.1 (10752 * w + 512 * p + i) 1, upd t.2.1 t.2.2 (nI (512 * p + i)), t.2.2 + 1) ⟨a2, av_XG_tr hG a3⟩))
        · rw [av_ixw, nI_clamp (by omega)] at z2
          exact nm_r (nI_1 i) (hk t ⟨av_XJ_skip hJ (fun _ => z2), hG⟩)
      have h0' : ¬ av_IX w (av_m (3 * p) 3 (av_wv p s V) V) (av_m (16 * p) 16 (av_wb p s D) D) p i → wX_reach_87 post (wX_reach_46 post (nI w) (nI p) n) (nI w) (nI p) (nI i) (nI (512 * p + i)) 0 N L (nI t.2.2) o a b c K (t.1) (t.2.1) (av_m (3 * p) 3 (av_wv p s V) V) (av_m (16 * p) 16 (av_wb p s D) D) 43008 := fun hx =>
        br_t rfl (nm_r (nI_1 i) (hk t ⟨av_XJ_skip hJ (fun y => absurd y hx), hG⟩))
      refine pk_le 512 i (fun z2 => absurd z2 (by omega)) (fun _ => nm_r (av_i512 p i) (pk_eq w 1 (fun hw1 => ax_inV hp hi (fun g => h1 ⟨fun _ => g, fun e => absurd e (by omega), fun e => absurd e (by omega)⟩) (fun g => h0' (fun y => g (y.1 hw1)))) (fun hw1 => ax_inB hw hp hi (fun g => h1 ⟨fun e => absurd e hw1, fun e j hj h3 => g j hj (fun _ => h3), fun e j hj => g j hj (fun e2 => absurd e2 (by omega))⟩) (fun g => h0' (fun y => g (fun j hj h3 => ?_))))))
      rcases hW with e | e | e
      · exact absurd e hw1
      · exact y.2.1 e j hj (h3 e)
      · exact y.2.2 e j hj
  · rw [av_ixw, nI_clamp (by omega)] at z
    exact k f q m V D hI (av_XG_rf w f q m) z
end
