/-! ===== the reference: looking at a place, the hull, filling ===== -/
theorem pk_least (P : Nat → Prop) (h : ∃ k, P k) : ∃ k, P k ∧ ∀ j, j < k → ¬ P j := by
  obtain ⟨n, hn⟩ := h
  have key : ∀ m, (∃ k, P k ∧ ∀ j, j < k → ¬ P j) ∨ ∀ j, j < m → ¬ P j := by
    intro m
    induction m with
    | zero => exact Or.inr (fun j hj => absurd hj (by omega))
    | succ m ih =>
      rcases ih with h | h
      · exact Or.inl h
      · by_cases z : P m
        · exact Or.inl ⟨m, z, h⟩
        · refine Or.inr (fun j hj => ?_)
          by_cases e : j = m
          · rw [e]
            exact z
          · exact h j (by omega)
  rcases key (n + 1) with h | h
  · exact h
  · exact absurd hn (h n (by omega))
theorem av_Lo_u {h : Int32} {y y' : Nat} (e1 : av_Lo h y) (e2 : av_Lo h y') : y = y' := Nat.le_antisymm (e1.2.2 y' e2.1 e2.2.1) (e2.2.2 y e1.1 e1.2.1)
theorem av_Hi_u {h : Int32} {y y' : Nat} (e1 : av_Hi h y) (e2 : av_Hi h y') : y = y' := Nat.le_antisymm (e2.2.2 y e1.1 e1.2.1) (e1.2.2 y' e2.1 e2.2.1)
theorem av_Lo_ex {h : Int32} (e : ∃ y, y < 8 ∧ bt h y = true) : ∃ y, av_Lo h y := by
  obtain ⟨y, ⟨hy, hb⟩, hm⟩ := pk_least (fun y => y < 8 ∧ bt h y = true) e
  refine ⟨y, hy, hb, fun x hx hbx => ?_⟩
  by_cases z : x < y
  · exact absurd ⟨hx, hbx⟩ (hm x z)
  · omega
theorem av_Hi_ex {h : Int32} (e : ∃ y, y < 8 ∧ bt h y = true) : ∃ y, av_Hi h y := by
  obtain ⟨y0, hy0, hb0⟩ := e
  obtain ⟨d, ⟨hd, hb⟩, hm⟩ := pk_least (fun d => d < 8 ∧ bt h (7 - d) = true) ⟨7 - y0, by omega, by rw [show 7 - (7 - y0) = y0 from by omega]; exact hb0⟩
  refine ⟨7 - d, by omega, hb, fun x hx hbx => ?_⟩
  by_cases z : 7 - d < x
  · exact absurd ⟨by omega, by rw [show 7 - (7 - x) = x from by omega]; exact hbx⟩ (hm (7 - x) (by omega))
  · omega
theorem av_ch {P : Nat → Nat → Prop} (h : ∀ v, v < 3 → ∃ y, P v y) : ∃ l : Nat → Nat, ∀ v, v < 3 → P v (l v) := by
  obtain ⟨y0, h0⟩ := h 0 (by decide)
  obtain ⟨y1, h1⟩ := h 1 (by decide)
  obtain ⟨y2, h2⟩ := h 2 (by decide)
  refine ⟨fun v => if v = 0 then y0 else if v = 1 then y1 else y2, fun v hv => ?_⟩
  rcases (by omega : v = 0 ∨ v = 1 ∨ v = 2) with rfl | rfl | rfl
  · exact h0
  · exact h1
  · exact h2
theorem av_in2r {f : Nat → Int32} {p s : Nat} {hv fr : Nat → Int32} (hK : av_LK 2 f p 512 hv fr) (hlo : ∀ v, v < 3 → ∃ y, av_Lo (hv v) y) (hhi : ∀ v, v < 3 → ∃ y, av_Hi (hv v) y) : av_H 2 (av_F f 2 p) s ↔ ∀ v, v < 3 → (∀ y, av_Lo (hv v) y → y ≤ av_v s v) ∧ (∀ y, av_Hi (hv v) y → av_v s v ≤ y) := by
  obtain ⟨lo, hl⟩ := av_ch hlo
  obtain ⟨hi, hh⟩ := av_ch hhi
  refine (av_in2 hK hl hh).trans ⟨fun g v hv3 => ⟨fun y hy => ?_, fun y hy => ?_⟩, fun g v hv3 => ⟨(g v hv3).1 _ (hl v hv3), (g v hv3).2 _ (hh v hv3)⟩⟩
  · rw [av_Lo_u hy (hl v hv3)]
    exact (g v hv3).1
  · rw [av_Hi_u hy (hh v hv3)]
    exact (g v hv3).2
section
variable {N : Int32} {o a b c f k g h r : Nat → Int32}
theorem ay_note {post : SY → Prop} {s : Nat} (hs : s < 512) (kk : post (N, o, a, b, c, f, k, g, av_m 0 3 (av_wv 0 s h) h, av_m 0 16 (av_wb 0 s r) r, 43008)) : wpY_note post (N, o, a, b, c, f, k, g, h, r, 43008) (nI s) := by
  have k2 : ∃ n, wY_note_36 post (nI s) N 43008 n (nI 0) o a b c f k g (av_m 0 3 (av_wv 0 s h) h) r := by
    refine av_run (o := 0) (e := 16) (g := av_wb 0 s r) (f := r) (fun n i t => wY_note_36 post (nI s) N 43008 n (nI i) o a b c f k g (av_m 0 3 (av_wv 0 s h) h) t) (fun n => pk_le 16 16 (fun _ => kk) (fun z => absurd z (by omega))) (fun n i hi hh => pk_le 16 i (fun z => absurd z (by omega)) (fun _ => ⟨by decide, ay_val s (i / 4) rfl (av_div4 (by omega)) hs (by omega) ⟨by decide, ay_val s (i % 4) rfl (av_rem4 (by omega)) hs (by omega) (nm_r (e' := av_d s i) rfl ⟨pk_in i 16 hi, br_c (fun z => nm_r (nI_1 i) ?_) (fun z => ⟨pk_in i 16 hi, nm_r (e' := av_m 0 (i + 1) (av_wb 0 s r) r) ?_ (nm_r (nI_1 i) hh)⟩)⟩)⟩⟩))
    · rw [nI_clamp (by omega), av_m_out (by omega)] at z
      have e1 : av_wb 0 s r (0 + i) = r (0 + i) := by
        have e2 := av_wb_at 0 s i r
        rw [Nat.mul_zero] at e2
        rw [e2, Nat.zero_add, if_neg (Int32.not_lt.mpr z)]
      rw [av_m_k e1]
      exact hh
    · rw [nI_clamp (by omega), av_m_out (by omega)] at z
      rw [nI_clamp (by omega)]
      refine av_m_st (by omega) ?_
      have e2 := av_wb_at 0 s i r
      rw [Nat.mul_zero] at e2
      rw [e2, Nat.zero_add, if_pos (Int32.not_le.mp z)]
  refine av_run (o := 0) (e := 3) (g := av_wv 0 s h) (f := h) (fun n i t => wY_note_2 post (nI s) N 43008 n (nI i) o a b c f k g t r)
      (fun n => pk_le 3 3 (fun _ => k2) (fun z => absurd z (by omega)))
      (fun n i hi hh => pk_le 3 i (fun z => absurd z (by omega)) (fun _ => ⟨pk_in i 3 hi, ay_val s i rfl rfl hs (by omega) ⟨pk_in i 3 hi, nm_r (e' := av_m 0 (i + 1) (av_wv 0 s h) h) ?_ (nm_r (nI_1 i) hh)⟩⟩))
  rw [nI_clamp (by omega)]
  refine av_m_st (by omega) ?_
  have e2 := av_wv_at 0 s i h
  rw [Nat.mul_zero] at e2
  rw [e2, av_m_out (by omega), Nat.zero_add]
theorem ay_look {post : Int32 → SY → Prop} {w p : Nat} {x y : Int32} (hx : x = nI w) (hy : y = nI p) (hw : w < 4) (hp : p < 21) (kk : ∀ (z : Int32) (h' r' : Nat → Int32), av_LK w f p 512 h' r' → ((z = 0 ∧ ∀ s, s < 512 → ¬ av_F f w p s) ∨ (z = 1 ∧ ∃ s, s < 512 ∧ av_F f w p s)) → post z (N, o, a, b, c, f, k, g, h', r', 43008)) : wpY_look post (N, o, a, b, c, f, k, g, h, r, 43008) x y := by
  subst hx hy
  have hl0 : av_LK w f p 0 (av_m 0 3 (fun _ => 0) h) (av_m 0 16 (fun _ => -100) r) := av_LK_0 (fun v hv => av_m_in (by omega) (by omega)) (fun v hv => av_m_in (by omega) (by omega))
  have k3 : ∃ n, wY_look_53 post (nI w) (nI p) n 0 (nI 0) N o a b c f k g (av_m 0 3 (fun _ => 0) h) (av_m 0 16 (fun _ => -100) r) 43008 := by
    refine loop_0 (σ := Int32 × (Nat → Int32) × (Nat → Int32)) (fun n i t => wY_look_53 post (nI w) (nI p) n t.1 (nI i) N o a b c f k g (t.2.1) (t.2.2) 43008)
      (fun i t => av_LK w f p i t.2.1 t.2.2 ∧ ((t.1 = 0 ∧ ∀ s, s < i → ¬ av_F f w p s) ∨ (t.1 = 1 ∧ ∃ s, s < i ∧ av_F f w p s))) 512 (0, av_m 0 3 (fun _ => 0) h, av_m 0 16 (fun _ => -100) r) ⟨hl0, Or.inl ⟨rfl, fun s hs => absurd hs (by omega)⟩⟩ ?_ ?_
    · intro n t hh
      refine pk_le 512 512 (fun _ => ⟨?_, kk _ _ _ hh.1 hh.2⟩) (fun z => absurd z (by omega))
      rcases hh.2 with e | e
      · rw [e.1]
        exact av_nb0
      · rw [e.1]
        exact av_nb1
    · intro n i t hi hh hk
      refine pk_le 512 i (fun z => absurd z (by omega)) (fun _ => ⟨pk_in (10752 * w + 512 * p + i) 43008 (by omega) (av_iyw w p i), br_c (fun z => ?_) (fun z => ?_)⟩)
      · rw [av_iyw, nI_clamp (by omega)] at z
        refine nm_r (nI_1 i) (hk t ⟨av_LK_n hh.1 (fun g2 => g2 z), ?_⟩)
        rcases hh.2 with e | ⟨e1, s, hs, hF⟩
        · refine Or.inl ⟨e.1, fun s hs hF => ?_⟩
          by_cases es : s = i
          · rw [es] at hF
            exact hF z
          · exact e.2 s (by omega) hF
        · exact Or.inr ⟨e1, s, by omega, hF⟩
      · rw [av_iyw, nI_clamp (by omega)] at z
        exact ay_note hi (nm_r (nI_1 i) (hk (1, av_m 0 3 (av_wv 0 i t.2.1) t.2.1, av_m 0 16 (av_wb 0 i t.2.2) t.2.2) ⟨av_LK_s hh.1 z, Or.inr ⟨rfl, i, by omega, z⟩⟩))
  have k2 : ∃ n, wY_look_28 post (nI w) (nI p) 0 N 43008 n (nI 0) o a b c f k g (av_m 0 3 (fun _ => 0) h) r :=
    av_run (o := 0) (e := 16) (g := fun _ => -100) (f := r) (fun n i t => wY_look_28 post (nI w) (nI p) 0 N 43008 n (nI i) o a b c f k g (av_m 0 3 (fun _ => 0) h) t)
      (fun n => pk_le 16 16 (fun _ => k3) (fun z => absurd z (by omega)))
      (fun n i hi hh => pk_le 16 i (fun z => absurd z (by omega)) (fun _ => ⟨pk_in i 16 hi, nm_r (e' := av_m 0 (i + 1) (fun _ => -100) r) (by rw [nI_clamp (by omega)]; exact av_m_st (by omega) rfl) (nm_r (nI_1 i) hh)⟩))
  exact av_run (o := 0) (e := 3) (g := fun _ => 0) (f := h) (fun n i t => wY_look_5 post (nI w) (nI p) 0 N 43008 n (nI i) o a b c f k g t r)
      (fun n => pk_le 3 3 (fun _ => k2) (fun z => absurd z (by omega)))
      (fun n i hi hh => pk_le 3 i (fun z => absurd z (by omega)) (fun _ => ⟨pk_in i 3 hi, nm_r (e' := av_m 0 (i + 1) (fun _ => 0) h) (by rw [nI_clamp (by omega)]; exact av_m_st (by omega) rfl) (nm_r (nI_1 i) hh)⟩))
theorem ay_low {post : Int32 → Prop} {z : Int32} (hz : ∃ y, y < 8 ∧ bt z y = true) (kk : ∀ y, av_Lo z y → post (nI y)) : wpY_low post (N, o, a, b, c, f, k, g, h, r, 43008) z := by
  have hh : wY_low_5 post z N o a b c f k g h r 43008 9 0 (nI 8 + (-1)) := by
    refine pk_loopD (σ := Int32) (fun n i t => wY_low_5 post z N o a b c f k g h r 43008 n t (nI i + (-1))) (fun i t => i ≤ 8 ∧ ((∃ y, i ≤ y ∧ y < 8 ∧ bt z y = true) → ∃ y, t = nI y ∧ i ≤ y ∧ y < 8 ∧ bt z y = true ∧ ∀ x, i ≤ x → x < 8 → bt z x = true → y ≤ x)) ?_ ?_ 8 0 ⟨Nat.le_refl _, fun ⟨y, h1, h2, _⟩ => absurd h2 (by omega)⟩
    · intro n t hI
      obtain ⟨y, hy, hb⟩ := hz
      obtain ⟨y1, e, _, h2, h3, h4⟩ := hI.2 ⟨y, by omega, hy, hb⟩
      refine br_t (by decide) ?_
      rw [e]
      exact kk y1 ⟨h2, h3, fun x hx hbx => h4 x (by omega) hx hbx⟩
    · intro n i t hI hk
      have e0 : nI (i + 1) + (-1) = nI i := pk_m1 i
      have hi8 : i < 8 := hI.1
      refine br_f (by rw [e0]; exact nI_pos (by omega)) (br_c (fun g1 => nm_r (e' := nI i + (-1)) (by rw [e0]) (hk _ ⟨by omega, fun _ => ⟨i, e0, by omega, hi8, ?_, fun x hx _ _ => hx⟩⟩)) (fun g1 => nm_r (e' := nI i + (-1)) (by rw [e0]) (hk _ ⟨by omega, fun ⟨y, h1, h2, h3⟩ => ?_⟩)))
      · rw [e0] at g1
        exact (av_bx1 hi8).mp g1
      · rw [e0] at g1
        have hne : ¬ bt z i = true := fun g2 => g1 ((av_bx1 hi8).mpr g2)
        have hyi : y ≠ i := fun e => hne (by rw [← e]; exact h3)
        obtain ⟨y1, e, g2, g3, g4, g5⟩ := hI.2 ⟨y, by omega, h2, h3⟩
        refine ⟨y1, e, by omega, g3, g4, fun x hx1 hx2 hx3 => g5 x ?_ hx2 hx3⟩
        have hxi : x ≠ i := fun e => hne (by rw [← e]; exact hx3)
        omega
  have e7 : nI 8 + (-1) = 7 := by decide
  rw [e7] at hh
  exact ⟨9, hh⟩
theorem ay_high {post : Int32 → Prop} {z : Int32} (hz : ∃ y, y < 8 ∧ bt z y = true) (kk : ∀ y, av_Hi z y → post (nI y)) : wpY_high post (N, o, a, b, c, f, k, g, h, r, 43008) z := by
  refine loop_0 (σ := Int32) (fun n i t => wY_high_4 post z N o a b c f k g h r 43008 n t (nI i)) (fun i t => (∃ y, y < i ∧ bt z y = true) → ∃ y, t = nI y ∧ y < i ∧ bt z y = true ∧ ∀ x, x < i → bt z x = true → x ≤ y) 8 0 (fun ⟨y, h1, _⟩ => absurd h1 (by omega)) ?_ ?_
  · intro n t hI
    obtain ⟨y1, e, h2, h3, h4⟩ := hI hz
    refine pk_le 8 8 (fun _ => ?_) (fun z => absurd z (by omega))
    rw [e]
    exact kk y1 ⟨h2, h3, h4⟩
  · intro n i t hi hI hk
    refine pk_le 8 i (fun z => absurd z (by omega)) (fun _ => br_c (fun g1 => nm_r (nI_1 i) (hk _ (fun _ => ⟨i, rfl, by omega, (av_bx1 hi).mp g1, fun x hx _ => by omega⟩))) (fun g1 => nm_r (nI_1 i) (hk _ (fun ⟨y, h1, h3⟩ => ?_))))
    have hne : ¬ bt z i = true := fun g2 => g1 ((av_bx1 hi).mpr g2)
    have hyi : y ≠ i := fun e => hne (by rw [← e]; exact h3)
    obtain ⟨y1, e, g3, g4, g5⟩ := hI ⟨y, by omega, h3⟩
    refine ⟨y1, e, by omega, g4, fun x hx1 hx3 => g5 x ?_ hx3⟩
    have hxi : x ≠ i := fun e => hne (by rw [← e]; exact hx3)
    omega
end
