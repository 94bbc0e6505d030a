/-! ===== the reference's working out, without the print ===== -/
def av_YG (w : Nat) (G : Nat → Nat → Nat → Nat → Prop) (D : Nat → Prop) (f g f' g' : Nat → Int32) : Prop :=
  (∀ j, ¬ f j = 0 → ¬ f' j = 0) ∧
  (∀ p s, p < 21 → s < 512 → av_F f' w p s → av_F f w p s ∨ (D p ∧ ¬ g' p = 0 ∧ av_L w G p s)) ∧
  (∀ p, ¬ g p = 0 → ¬ g' p = 0) ∧ av_E w f f' ∧ (av_B f → av_B f') ∧
  av_g g' + av_c f w ≤ av_g g + av_c f' w
theorem av_YG_rf (w : Nat) (G : Nat → Nat → Nat → Nat → Prop) (D : Nat → Prop) (f g : Nat → Int32) : av_YG w G D f g f g :=
  ⟨fun _ h => h, fun _ _ _ _ h => Or.inl h, fun _ h => h, av_E_rf w f, id, Nat.le_refl _⟩
theorem av_YG_tr {w : Nat} {G : Nat → Nat → Nat → Nat → Prop} {D1 D2 D : Nat → Prop} {f g f1 g1 f2 g2 : Nat → Int32} (a : av_YG w G D1 f g f1 g1) (b : av_YG w G D2 f1 g1 f2 g2) (h1 : ∀ p, D1 p → D p) (h2 : ∀ p, D2 p → D p) : av_YG w G D f g f2 g2 := by
  obtain ⟨a1, a2, a3, a4, a5, a6⟩ := a
  obtain ⟨b1, b2, b3, b4, b5, b6⟩ := b
  refine ⟨fun j h => b1 j (a1 j h), fun p s hp hs h => ?_, fun p h => b3 p (a3 p h), av_E_tr a4 b4, fun h => b5 (a5 h), by omega⟩
  rcases b2 p s hp hs h with h | ⟨d, e, l⟩
  · rcases a2 p s hp hs h with h | ⟨d, e, l⟩
    · exact Or.inl h
    · exact Or.inr ⟨h1 p d, b3 p e, l⟩
  · exact Or.inr ⟨h2 p d, e, l⟩
theorem av_YG_u {w : Nat} {G : Nat → Nat → Nat → Nat → Prop} {f g : Nat → Int32} {p s : Nat} (hp : p < 21) (hs : s < 512) (hn : f (10752 * w + 512 * p + s) = 0) (hl : av_L w G p s) : av_YG w G (fun r => r = p) f g (upd f (10752 * w + 512 * p + s) 1) (upd g p 1) := by
  refine ⟨av_up1, fun r t hr ht h => ?_, av_up1, av_E_u hp hs, av_B_u, ?_⟩
  · rcases (av_F_u hs ht (by decide)).mp h with h | ⟨e1, e2⟩
    · exact Or.inl h
    · refine Or.inr ⟨e1, ?_, ?_⟩
      · rw [e1, pk_us]
        decide
      · rw [e1, e2]
        exact hl
  · rw [av_c_up hp hs hn]
    have h2 := av_g_ul (g := g) hp
    omega
def av_YL (w : Nat) (G : Nat → Nat → Nat → Nat → Prop) (f : Nat → Int32) : Prop := av_B f ∧ av_F f w 0 0 ∧ ∀ p s, p < 21 → s < 512 → av_F f w p s → av_L w G p s
def av_Yv (w : Nat) (G : Nat → Nat → Nat → Nat → Prop) (f g : Nat → Int32) (p i : Nat) : Prop := ¬ g p = 0 ∨ ∀ s q t, s < i → av_F f w p s → G p s q t → av_F f w q t
def av_Yh (w : Nat) (f : Nat → Int32) (p : Nat) : Prop := ∀ s, s < 512 → av_H w (av_F f w p) s → av_F f w p s
theorem av_YL_mo {w : Nat} {G : Nat → Nat → Nat → Nat → Prop} {D : Nat → Prop} {f g f' g' : Nat → Int32} (a : av_YG w G D f g f' g') (h : av_YL w G f) : av_YL w G f' :=
  ⟨a.2.2.2.2.1 h.1, a.1 _ h.2.1, fun p s hp hs hF => (a.2.1 p s hp hs hF).elim (h.2.2 p s hp hs) (fun z => z.2.2)⟩
theorem av_Yv_mo {w : Nat} {G : Nat → Nat → Nat → Nat → Prop} {D : Nat → Prop} {f g f' g' : Nat → Int32} {p i : Nat} (hp : p < 21) (hi : i ≤ 512) (a : av_YG w G D f g f' g') (h : av_Yv w G f g p i) : av_Yv w G f' g' p i := by
  by_cases z : g' p = 0
  · refine Or.inr (fun s q t hs hF hG => ?_)
    rcases h with h | h
    · exact absurd z (a.2.2.1 p h)
    · rcases a.2.1 p s hp (by omega) hF with hF | ⟨_, e, _⟩
      · exact a.1 _ (h s q t hs hF hG)
      · exact absurd z e
  · exact Or.inl z
theorem av_Yh_mo {w : Nat} {G : Nat → Nat → Nat → Nat → Prop} {D : Nat → Prop} {f g f' g' : Nat → Int32} {p : Nat} (hp : p < 21) (hD : ¬ D p) (a : av_YG w G D f g f' g') (h : av_Yh w f p) : av_Yh w f' p := fun s hs hh =>
  a.1 _ (h s hs (av_H_mo (fun t ht hF => (a.2.1 p t hp ht hF).elim id (fun z => absurd z.1 hD)) hh))
theorem av_Yv_s {w : Nat} {G : Nat → Nat → Nat → Nat → Prop} {f g : Nat → Int32} {p i : Nat} (h : av_Yv w G f g p i) (hi : av_F f w p i → ∀ q t, G p i q t → av_F f w q t) : av_Yv w G f g p (i + 1) := by
  rcases h with h | h
  · exact Or.inl h
  · refine Or.inr (fun s q t hs hF hG => ?_)
    by_cases e : s = i
    · subst e
      exact hi hF q t hG
    · exact h s q t (by omega) hF hG
theorem av_Y_end {w : Nat} {G : Nat → Nat → Nat → Nat → Prop} {f : Nat → Int32} (h : av_YL w G f) (hG : ∀ p s q t, p < 21 → s < 512 → av_F f w p s → G p s q t → av_F f w q t) (hh : ∀ p, p < 21 → av_Yh w f p) : av_R w G f :=
  fun p s hp hs => ⟨h.2.2 p s hp hs, fun l => l (av_F f w) ⟨h.2.1, hG, fun q t hq ht g => hh q hq t ht g⟩⟩
/-! ===== filling a place ===== -/
def av_YK (w : Nat) (G : Nat → Nat → Nat → Nat → Prop) (p i : Nat) (f g f' g' : Nat → Int32) : Prop :=
  av_YG w G (fun r => r = p) f g f' g' ∧ (∀ s, s < 512 → av_F f' w p s → av_H w (av_F f w p) s) ∧ (∀ s, s < i → av_H w (av_F f w p) s → av_F f' w p s)
theorem av_YK_0 (w : Nat) (G : Nat → Nat → Nat → Nat → Prop) (p : Nat) (f g : Nat → Int32) : av_YK w G p 0 f g f g :=
  ⟨av_YG_rf w G _ f g, fun _ hs h => av_H_rf hs h, fun _ hs => absurd hs (by omega)⟩
theorem av_YK_skip {w : Nat} {G : Nat → Nat → Nat → Nat → Prop} {p i : Nat} {f g f' g' : Nat → Int32} (h : av_YK w G p i f g f' g') (hi : av_H w (av_F f w p) i → av_F f' w p i) : av_YK w G p (i + 1) f g f' g' :=
  ⟨h.1, h.2.1, fun s hs hh => by
    by_cases e : s = i
    · subst e
      exact hi hh
    · exact h.2.2 s (by omega) hh⟩
theorem av_YK_add {w : Nat} {G : Nat → Nat → Nat → Nat → Prop} {p i : Nat} {f g f' g' : Nat → Int32} (h : av_YK w G p i f g f' g') (hL : ∀ s, s < 512 → av_F f w p s → av_L w G p s) (hp : p < 21) (hi : i < 512) (hh : av_H w (av_F f w p) i) (hn : f' (10752 * w + 512 * p + i) = 0) : av_YK w G p (i + 1) f g (upd f' (10752 * w + 512 * p + i) 1) (upd g' p 1) := by
  have a := av_YG_u (g := g') hp hi hn (av_L_H hp hi (av_H_mo hL hh))
  refine ⟨av_YG_tr h.1 a (fun _ z => z) (fun _ z => z), fun s hs hF => ?_, fun s hs hh2 => ?_⟩
  · rcases (av_F_u hi hs (by decide)).mp hF with g1 | ⟨_, e2⟩
    · exact h.2.1 s hs g1
    · rw [e2]
      exact hh
  · by_cases e : s = i
    · subst e
      exact (av_F_u hi hi (by decide)).mpr (Or.inr ⟨rfl, rfl⟩)
    · exact a.1 _ (h.2.2 s (by omega) hh2)
theorem av_YK_end {w : Nat} {G : Nat → Nat → Nat → Nat → Prop} {p : Nat} {f g f' g' : Nat → Int32} (h : av_YK w G p 512 f g f' g') : av_Yh w f' p := fun s hs hh =>
  h.2.2 s hs (av_H_tr h.2.1 hh)
/-! ===== looking at a place ===== -/
def av_LK (w : Nat) (f : Nat → Int32) (p i : Nat) (hv fr : Nat → Int32) : Prop :=
  (∀ v x, v < 3 → x < 8 → (bt (hv v) x = true ↔ ∃ s, s < i ∧ av_F f w p s ∧ av_v s v = x)) ∧
  (∀ k, k < 16 → (∀ s, s < i → av_F f w p s → av_d s k ≤ fr k) ∧ (fr k = -100 ∨ ∃ s, s < i ∧ av_F f w p s ∧ fr k = av_d s k))
theorem av_LK_0 {w : Nat} {f : Nat → Int32} {p : Nat} {hv fr : Nat → Int32} (h1 : ∀ v, v < 3 → hv v = 0) (h2 : ∀ k, k < 16 → fr k = -100) : av_LK w f p 0 hv fr := by
  refine ⟨fun v x hv2 hx => ?_, fun k hk => ⟨fun s hs => absurd hs (by omega), Or.inl (h2 k hk)⟩⟩
  rw [h1 v hv2, b_0]
  exact ⟨fun z => absurd z (by decide), fun ⟨s, hs, _⟩ => absurd hs (by omega)⟩
theorem av_LK_n {w : Nat} {f : Nat → Int32} {p i : Nat} {hv fr : Nat → Int32} (h : av_LK w f p i hv fr) (hn : ¬ av_F f w p i) : av_LK w f p (i + 1) hv fr := by
  have ne : ∀ s, s < i + 1 → av_F f w p s → s < i := fun s hs hF => by
    by_cases e : s = i
    · subst e
      exact absurd hF hn
    · omega
  refine ⟨fun v x hv2 hx => (h.1 v x hv2 hx).trans ⟨fun ⟨s, hs, hF, e⟩ => ⟨s, by omega, hF, e⟩, fun ⟨s, hs, hF, e⟩ => ⟨s, ne s hs hF, hF, e⟩⟩, fun k hk => ⟨fun s hs hF => (h.2 k hk).1 s (ne s hs hF) hF, ?_⟩⟩
  rcases (h.2 k hk).2 with e | ⟨s, hs, hF, e⟩
  · exact Or.inl e
  · exact Or.inr ⟨s, by omega, hF, e⟩
theorem av_LK_s {w : Nat} {f : Nat → Int32} {p i : Nat} {hv fr : Nat → Int32} (h : av_LK w f p i hv fr) (hF : av_F f w p i) : av_LK w f p (i + 1) (av_m 0 3 (av_wv 0 i hv) hv) (av_m 0 16 (av_wb 0 i fr) fr) := by
  refine ⟨fun v x hv2 hx => ?_, fun k hk => ?_⟩
  · have e : av_m 0 3 (av_wv 0 i hv) hv v = hv v ||| ((1 : Int32) <<< (nI (av_v i v) &&& 31)) := by
      rw [av_m_in (by omega) (by omega)]
      show hv v ||| ((1 : Int32) <<< (nI (av_v i (v - 3 * 0)) &&& 31)) = _
      rw [Nat.mul_zero, Nat.sub_zero]
    rw [e, av_bor (av_v_lt i v) (by omega)]
    constructor
    · intro g
      cases hb : bt (hv v) x
      · rw [hb, Bool.false_or] at g
        exact ⟨i, by omega, hF, (of_decide_eq_true g).symm⟩
      · obtain ⟨s, hs, hF2, e2⟩ := (h.1 v x hv2 hx).mp hb
        exact ⟨s, by omega, hF2, e2⟩
    · intro ⟨s, hs, hF2, e2⟩
      by_cases es : s = i
      · subst es
        rw [decide_eq_true e2.symm, Bool.or_true]
      · rw [(h.1 v x hv2 hx).mpr ⟨s, by omega, hF2, e2⟩, Bool.true_or]
  · have e : av_m 0 16 (av_wb 0 i fr) fr k = if fr k < av_d i k then av_d i k else fr k := by
      rw [av_m_in (by omega) (by omega)]
      show (if fr k < av_d i (k - 16 * 0) then av_d i (k - 16 * 0) else fr k) = _
      rw [Nat.mul_zero, Nat.sub_zero]
    rw [e]
    have g := h.2 k hk
    by_cases z : fr k < av_d i k
    · rw [if_pos z]
      refine ⟨fun s hs hF2 => ?_, Or.inr ⟨i, by omega, hF, rfl⟩⟩
      by_cases es : s = i
      · rw [es]
        exact Int32.le_refl _
      · exact Int32.le_trans (g.1 s (by omega) hF2) (av_lt_le z)
    · rw [if_neg z]
      refine ⟨fun s hs hF2 => ?_, ?_⟩
      · by_cases es : s = i
        · rw [es]
          exact av_le_of z
        · exact g.1 s (by omega) hF2
      · rcases g.2 with e2 | ⟨s, hs, hF2, e2⟩
        · exact Or.inl e2
        · exact Or.inr ⟨s, by omega, hF2, e2⟩
theorem av_LK_cg {w : Nat} {f f' : Nat → Int32} {p : Nat} {hv fr : Nat → Int32} (e : ∀ s, s < 512 → (av_F f w p s ↔ av_F f' w p s)) (h : av_LK w f p 512 hv fr) : av_LK w f' p 512 hv fr := by
  refine ⟨fun v x hv2 hx => (h.1 v x hv2 hx).trans ⟨fun ⟨s, hs, hF, g⟩ => ⟨s, hs, (e s hs).mp hF, g⟩, fun ⟨s, hs, hF, g⟩ => ⟨s, hs, (e s hs).mpr hF, g⟩⟩, fun k hk => ⟨fun s hs hF => (h.2 k hk).1 s hs ((e s hs).mpr hF), ?_⟩⟩
  rcases (h.2 k hk).2 with g | ⟨s, hs, hF, g⟩
  · exact Or.inl g
  · exact Or.inr ⟨s, hs, (e s hs).mp hF, g⟩
/-- the least and the greatest member of a set of bits -/
def av_Lo (h : Int32) (y : Nat) : Prop := y < 8 ∧ bt h y = true ∧ ∀ x, x < 8 → bt h x = true → y ≤ x
def av_Hi (h : Int32) (y : Nat) : Prop := y < 8 ∧ bt h y = true ∧ ∀ x, x < 8 → bt h x = true → x ≤ y
theorem av_d_v3 (s v : Nat) : av_d s (4 * v + 3) = nI (av_v s v) - nI 0 := by
  unfold av_d
  rw [show (4 * v + 3) / 4 = v from by omega, show (4 * v + 3) % 4 = 3 from by omega]
  rfl
theorem av_d_3v {s v : Nat} (h : v < 4) : av_d s (12 + v) = nI 0 - nI (av_v s v) := by
  unfold av_d
  rw [show (12 + v) / 4 = 3 from by omega, show (12 + v) % 4 = v from by omega]
  rfl
theorem av_in1 {f : Nat → Int32} {p s : Nat} {hv fr : Nat → Int32} (hK : av_LK 1 f p 512 hv fr) : av_H 1 (av_F f 1 p) s ↔ ∀ v, v < 3 → bt (hv v) (av_v s v) = true := by
  constructor
  · intro h v hv2
    obtain ⟨t, ht, hF, g⟩ := h v (by omega)
    exact (hK.1 v _ hv2 (av_v_lt s v)).mpr ⟨t, ht, hF, (g.2.1 rfl hv2).symm⟩
  · intro h k hk
    by_cases h3 : k < 3
    · obtain ⟨t, ht, hF, e⟩ := (hK.1 k _ h3 (av_v_lt s k)).mp (h k h3)
      exact ⟨t, ht, hF, fun z => absurd z (by decide), fun _ _ => e.symm, fun z => absurd z (by decide), fun z => absurd z (by decide)⟩
    · obtain ⟨t, ht, hF, e⟩ := (hK.1 0 _ (by decide) (av_v_lt s 0)).mp (h 0 (by decide))
      exact ⟨t, ht, hF, fun z => absurd z (by decide), fun _ z => absurd z h3, fun z => absurd z (by decide), fun z => absurd z (by decide)⟩
theorem av_in3 {f : Nat → Int32} {p s : Nat} {hv fr : Nat → Int32} (hK : av_LK 3 f p 512 hv fr) : av_H 3 (av_F f 3 p) s ↔ ∀ k, k < 16 → av_d s k ≤ fr k := by
  constructor
  · intro h k hk
    obtain ⟨t, ht, hF, g⟩ := h k hk
    exact Int32.le_trans (g.2.2.2 rfl) ((hK.2 k hk).1 t ht hF)
  · intro h k hk
    rcases (hK.2 k hk).2 with e | ⟨t, ht, hF, e⟩
    · have g := h k hk
      rw [e] at g
      exact absurd g (av_lt_ne (av_d_100 s k))
    · exact ⟨t, ht, hF, fun z => absurd z (by decide), fun z => absurd z (by decide), fun z => absurd z (by decide), fun _ => by rw [← e]; exact h k hk⟩
theorem av_in2 {f : Nat → Int32} {p s : Nat} {hv fr : Nat → Int32} (hK : av_LK 2 f p 512 hv fr) {lo hi : Nat → Nat} (hlo : ∀ v, v < 3 → av_Lo (hv v) (lo v)) (hhi : ∀ v, v < 3 → av_Hi (hv v) (hi v)) : av_H 2 (av_F f 2 p) s ↔ ∀ v, v < 3 → lo v ≤ av_v s v ∧ av_v s v ≤ hi v := by
  constructor
  · intro h v hv2
    obtain ⟨t, ht, hF, g⟩ := h (4 * v + 3) (by omega)
    obtain ⟨t', ht', hF', g'⟩ := h (12 + v) (by omega)
    have a := g.2.2.1 rfl (Or.inr (by omega))
    have b := g'.2.2.1 rfl (Or.inl (by omega))
    rw [av_d_v3, av_d_v3, (av_hi _ (av_v_lt s v) _ (av_v_lt t v)).1] at a
    rw [av_d_3v (by omega), av_d_3v (by omega), (av_hi _ (av_v_lt s v) _ (av_v_lt t' v)).2] at b
    have c := (hhi v hv2).2.2 _ (av_v_lt t v) ((hK.1 v _ hv2 (av_v_lt t v)).mpr ⟨t, ht, hF, rfl⟩)
    have d := (hlo v hv2).2.2 _ (av_v_lt t' v) ((hK.1 v _ hv2 (av_v_lt t' v)).mpr ⟨t', ht', hF', rfl⟩)
    omega
  · intro h k hk
    by_cases h3 : k / 4 = 3
    · obtain ⟨v, rfl⟩ : ∃ v, k = 12 + v := ⟨k - 12, by omega⟩
      by_cases hv3 : v < 3
      · obtain ⟨t, ht, hF, e⟩ := (hK.1 v _ hv3 (hlo v hv3).1).mp (hlo v hv3).2.1
        refine ⟨t, ht, hF, fun z => absurd z (by decide), fun z => absurd z (by decide), fun _ _ => ?_, fun z => absurd z (by decide)⟩
        rw [av_d_3v (by omega), av_d_3v (by omega), (av_hi _ (av_v_lt s v) _ (av_v_lt t v)).2, e]
        exact (h v hv3).1
      · obtain ⟨t, ht, hF, e⟩ := (hK.1 0 _ (by decide) (hlo 0 (by decide)).1).mp (hlo 0 (by decide)).2.1
        have ev : v = 3 := by omega
        subst ev
        refine ⟨t, ht, hF, fun z => absurd z (by decide), fun z => absurd z (by decide), fun _ _ => ?_, fun z => absurd z (by decide)⟩
        rw [av_d_3v (by omega), av_d_3v (by omega)]
        exact Int32.le_refl _
    · by_cases h4 : k % 4 = 3
      · obtain ⟨v, rfl⟩ : ∃ v, k = 4 * v + 3 := ⟨k / 4, by omega⟩
        have hv3 : v < 3 := by omega
        obtain ⟨t, ht, hF, e⟩ := (hK.1 v _ hv3 (hhi v hv3).1).mp (hhi v hv3).2.1
        refine ⟨t, ht, hF, fun z => absurd z (by decide), fun z => absurd z (by decide), fun _ _ => ?_, fun z => absurd z (by decide)⟩
        rw [av_d_v3, av_d_v3, (av_hi _ (av_v_lt s v) _ (av_v_lt t v)).1, e]
        exact (h v hv3).2
      · obtain ⟨t, ht, hF, e⟩ := (hK.1 0 _ (by decide) (hlo 0 (by decide)).1).mp (hlo 0 (by decide)).2.1
        exact ⟨t, ht, hF, fun z => absurd z (by decide), fun z => absurd z (by decide), fun _ z => absurd z (by omega), fun z => absurd z (by decide)⟩
/-! ===== the greatest difference ===== -/
def av_Gt (w : Nat) (f : Nat → Int32) (p k i : Nat) (g : Int32) : Prop :=
  (∀ s, s < i → av_F f w p s → av_d s k ≤ g) ∧ ((g = -1003 ∧ ∀ s, s < i → ¬ av_F f w p s) ∨ ∃ s, s < i ∧ av_F f w p s ∧ g = av_d s k)
theorem av_Gt_0 (w : Nat) (f : Nat → Int32) (p k : Nat) : av_Gt w f p k 0 (-1003) := ⟨fun _ h => absurd h (by omega), Or.inl ⟨rfl, fun _ h => absurd h (by omega)⟩⟩
theorem av_Gt_n {w : Nat} {f : Nat → Int32} {p k i : Nat} {g : Int32} (h : av_Gt w f p k i g) (hn : av_F f w p i → av_d i k ≤ g) : av_Gt w f p k (i + 1) g := by
  refine ⟨fun s hs hF => ?_, ?_⟩
  · by_cases e : s = i
    · subst e
      exact hn hF
    · exact h.1 s (by omega) hF
  · rcases h.2 with ⟨e, hz⟩ | ⟨s, hs, hF, e⟩
    · refine Or.inl ⟨e, fun s hs hF => ?_⟩
      by_cases e2 : s = i
      · subst e2
        have z := hn hF
        rw [e] at z
        exact absurd z (av_lt_ne (av_d_1003 s k))
      · exact hz s (by omega) hF
    · exact Or.inr ⟨s, by omega, hF, e⟩
theorem av_Gt_s {w : Nat} {f : Nat → Int32} {p k i : Nat} {g : Int32} (h : av_Gt w f p k i g) (hF : av_F f w p i) (hg : g < av_d i k) : av_Gt w f p k (i + 1) (av_d i k) := by
  refine ⟨fun s hs hF2 => ?_, Or.inr ⟨i, by omega, hF, rfl⟩⟩
  by_cases e : s = i
  · rw [e]
    exact Int32.le_refl _
  · exact Int32.le_trans (h.1 s (by omega) hF2) (av_lt_le hg)
theorem av_Gt_most {w : Nat} {f : Nat → Int32} {p k : Nat} {g : Int32} {hv fr : Nat → Int32} (h : av_Gt w f p k 512 g) (hK : av_LK w f p 512 hv fr) (hk : k < 16) (hx : ∃ s, s < 512 ∧ av_F f w p s) : g = fr k ∧ ∃ s, s < 512 ∧ av_F f w p s ∧ g = av_d s k := by
  obtain ⟨t, ht, hF⟩ := hx
  rcases h.2 with ⟨_, hz⟩ | ⟨s, hs, hFs, e⟩
  · exact absurd hF (hz t ht)
  · refine ⟨av_le_as ?_ ?_, s, hs, hFs, e⟩
    · rw [e]
      exact (hK.2 k hk).1 s hs hFs
    · rcases (hK.2 k hk).2 with e2 | ⟨r, hr, hFr, e2⟩
      · have z := (hK.2 k hk).1 t ht hF
        rw [e2] at z
        exact absurd z (av_lt_ne (av_d_100 t k))
      · rw [e2]
        exact h.1 r hr hFr
theorem av_Gt_hi {w : Nat} {f : Nat → Int32} {p v y : Nat} {g : Int32} {hv fr : Nat → Int32} (h : av_Gt w f p (4 * v + 3) 512 g) (hK : av_LK w f p 512 hv fr) (hv3 : v < 3) (hy : av_Hi (hv v) y) : g = nI y := by
  obtain ⟨t, ht, hF, et⟩ := (hK.1 v _ hv3 hy.1).mp hy.2.1
  obtain ⟨_, s, hs, hFs, e⟩ := av_Gt_most h hK (by omega) ⟨t, ht, hF⟩
  have a := h.1 t ht hF
  rw [e, av_d_v3, av_d_v3, (av_hi _ (av_v_lt t v) _ (av_v_lt s v)).1, et] at a
  have b := hy.2.2 _ (av_v_lt s v) ((hK.1 v _ hv3 (av_v_lt s v)).mpr ⟨s, hs, hFs, rfl⟩)
  rw [e, av_d_v3, (av_neg _ (av_v_lt s v)).2, show av_v s v = y from by omega]
theorem av_Gt_lo {w : Nat} {f : Nat → Int32} {p v y : Nat} {g : Int32} {hv fr : Nat → Int32} (h : av_Gt w f p (12 + v) 512 g) (hK : av_LK w f p 512 hv fr) (hv3 : v < 3) (hy : av_Lo (hv v) y) : -g = nI y := by
  obtain ⟨t, ht, hF, et⟩ := (hK.1 v _ hv3 hy.1).mp hy.2.1
  obtain ⟨_, s, hs, hFs, e⟩ := av_Gt_most h hK (by omega) ⟨t, ht, hF⟩
  have a := h.1 t ht hF
  rw [e, av_d_3v (by omega), av_d_3v (by omega), (av_hi _ (av_v_lt t v) _ (av_v_lt s v)).2, et] at a
  have b := hy.2.2 _ (av_v_lt s v) ((hK.1 v _ hv3 (av_v_lt s v)).mpr ⟨s, hs, hFs, rfl⟩)
  rw [e, av_d_3v (by omega), (av_neg _ (av_v_lt s v)).1, show av_v s v = y from by omega]
