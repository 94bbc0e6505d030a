/-! ===== the component's working out, without the print ===== -/
def av_XQ (w : Nat) (G : Nat → Nat → Nat → Nat → Prop) (f q : Nat → Int32) (m : Nat) : Prop :=
  av_B f ∧ (∀ p s, p < 21 → s < 512 → av_F f w p s → av_L w G p s) ∧ m = av_c f w ∧
  (∀ j, j < m → ∃ p s, p < 21 ∧ s < 512 ∧ q j = nI (512 * p + s) ∧ av_F f w p s) ∧
  (∀ p s, p < 21 → s < 512 → av_F f w p s → ∃ j, j < m ∧ q j = nI (512 * p + s))
theorem av_XQ_le {w : Nat} {G : Nat → Nat → Nat → Nat → Prop} {f q : Nat → Int32} {m : Nat} (h : av_XQ w G f q m) : m ≤ 10752 := by
  rw [h.2.2.1]
  exact av_c_le _ _
/-- what grows -/
def av_XG (w : Nat) (f q : Nat → Int32) (m : Nat) (f' q' : Nat → Int32) (m' : Nat) : Prop :=
  (∀ j, ¬ f j = 0 → ¬ f' j = 0) ∧ (∀ j, j < m → q' j = q j) ∧ m ≤ m' ∧ av_E w f f'
theorem av_XG_rf (w : Nat) (f q : Nat → Int32) (m : Nat) : av_XG w f q m f q m := ⟨fun _ h => h, fun _ _ => rfl, Nat.le_refl _, av_E_rf w f⟩
theorem av_XG_tr {w : Nat} {f q f1 q1 f2 q2 : Nat → Int32} {m m1 m2 : Nat} (a : av_XG w f q m f1 q1 m1) (b : av_XG w f1 q1 m1 f2 q2 m2) : av_XG w f q m f2 q2 m2 :=
  ⟨fun j h => b.1 j (a.1 j h), fun j h => (b.2.1 j (Nat.lt_of_lt_of_le h a.2.2.1)).trans (a.2.1 j h), Nat.le_trans a.2.2.1 b.2.2.1, av_E_tr a.2.2.2 b.2.2.2⟩
theorem av_up1 {f : Nat → Int32} {k : Nat} : ∀ j, ¬ f j = 0 → ¬ upd f k 1 j = 0 := by
  intro j h
  by_cases e : j = k
  · rw [e, pk_us]
    decide
  · rw [pk_un e]
    exact h
theorem av_XQ_add {w : Nat} {G : Nat → Nat → Nat → Nat → Prop} {f q : Nat → Int32} {m p s : Nat} (h : av_XQ w G f q m) (hp : p < 21) (hs : s < 512) (hn : f (10752 * w + 512 * p + s) = 0) (hl : av_L w G p s) :
    m < 10752 ∧ av_XQ w G (upd f (10752 * w + 512 * p + s) 1) (upd q m (nI (512 * p + s))) (m + 1) ∧ av_XG w f q m (upd f (10752 * w + 512 * p + s) 1) (upd q m (nI (512 * p + s))) (m + 1) := by
  obtain ⟨hb, hL, hm, h1, h2⟩ := h
  have hlt : m < 10752 := by
    rw [hm]
    exact av_c_lt hp hs hn
  refine ⟨hlt, ⟨av_B_u hb, ?_, ?_, ?_, ?_⟩, av_up1, fun j hj => pk_un (by omega), by omega, av_E_u hp hs⟩
  · intro q' t hq ht hF
    rcases (av_F_u hs ht (by decide)).mp hF with g | ⟨e1, e2⟩
    · exact hL q' t hq ht g
    · rw [e1, e2]
      exact hl
  · rw [hm, av_c_up hp hs hn]
  · intro j hj
    by_cases ej : j = m
    · exact ⟨p, s, hp, hs, by rw [ej, pk_us], (av_F_u hs hs (by decide)).mpr (Or.inr ⟨rfl, rfl⟩)⟩
    · obtain ⟨p', s', hp', hs', eq, hF⟩ := h1 j (by omega)
      exact ⟨p', s', hp', hs', by rw [pk_un ej]; exact eq, (av_F_u hs hs' (by decide)).mpr (Or.inl hF)⟩
  · intro p' s' hp' hs' hF
    rcases (av_F_u hs hs' (by decide)).mp hF with g | ⟨e1, e2⟩
    · obtain ⟨j, hj, eq⟩ := h2 p' s' hp' hs' g
      exact ⟨j, by omega, by rw [pk_un (by omega)]; exact eq⟩
    · exact ⟨m, by omega, by rw [pk_us, e1, e2]⟩
def av_XV (w : Nat) (G : Nat → Nat → Nat → Nat → Prop) (vs bd : Nat → Int32) : Prop :=
  (∀ p v x, p < 21 → v < 3 → x < 8 → bt (vs (3 * p + v)) x = true → ∃ t, t < 512 ∧ av_L w G p t ∧ av_v t v = x) ∧
  (∀ p k, p < 21 → k < 16 → bd (16 * p + k) = -8 ∨ ∃ t, t < 512 ∧ av_L w G p t ∧ bd (16 * p + k) = av_d t k)
def av_IX (w : Nat) (vs bd : Nat → Int32) (p s : Nat) : Prop :=
  (w = 1 → ∀ v, v < 3 → bt (vs (3 * p + v)) (av_v s v) = true) ∧
  (w = 2 → ∀ k, k < 16 → (k / 4 = 3 ∨ k % 4 = 3) → av_d s k ≤ bd (16 * p + k)) ∧
  (w = 3 → ∀ k, k < 16 → av_d s k ≤ bd (16 * p + k))
def av_W (w : Nat) : Prop := w = 1 ∨ w = 2 ∨ w = 3
theorem av_XV_b {w : Nat} {G : Nat → Nat → Nat → Nat → Prop} {vs bd : Nat → Int32} {p k s : Nat} (hV : av_XV w G vs bd) (hp : p < 21) (hk : k < 16) (h : av_d s k ≤ bd (16 * p + k)) : ∃ t, t < 512 ∧ av_L w G p t ∧ av_d s k ≤ av_d t k := by
  rcases hV.2 p k hp hk with e | ⟨t, ht, hl, e⟩
  · rw [e] at h
    exact absurd h (av_lt_ne (av_d_8 s k))
  · exact ⟨t, ht, hl, by rw [← e]; exact h⟩
theorem av_IX_L {w : Nat} {G : Nat → Nat → Nat → Nat → Prop} {vs bd : Nat → Int32} {p s : Nat} (hw : av_W w) (hV : av_XV w G vs bd) (hp : p < 21) (hs : s < 512) (h : av_IX w vs bd p s) : av_L w G p s := by
  refine av_L_H hp hs (fun k hk => ?_)
  rcases hw with rfl | rfl | rfl
  · by_cases h3 : k < 3
    · obtain ⟨t, ht, hl, e⟩ := hV.1 p k _ hp h3 (av_v_lt s k) (h.1 rfl k h3)
      exact ⟨t, ht, hl, fun z => absurd z (by decide), fun _ _ => e.symm, fun z => absurd z (by decide), fun z => absurd z (by decide)⟩
    · obtain ⟨t, ht, hl, e⟩ := hV.1 p 0 _ hp (by decide) (av_v_lt s 0) (h.1 rfl 0 (by decide))
      exact ⟨t, ht, hl, fun z => absurd z (by decide), fun _ z => absurd z h3, fun z => absurd z (by decide), fun z => absurd z (by decide)⟩
  · by_cases h3 : k / 4 = 3 ∨ k % 4 = 3
    · obtain ⟨t, ht, hl, e⟩ := av_XV_b hV hp hk (h.2.1 rfl k hk h3)
      exact ⟨t, ht, hl, fun z => absurd z (by decide), fun z => absurd z (by decide), fun _ _ => e, fun z => absurd z (by decide)⟩
    · obtain ⟨t, ht, hl, e⟩ := av_XV_b (k := 15) hV hp (by decide) (h.2.1 rfl 15 (by decide) (Or.inl rfl))
      exact ⟨t, ht, hl, fun z => absurd z (by decide), fun z => absurd z (by decide), fun _ z => absurd z h3, fun z => absurd z (by decide)⟩
  · obtain ⟨t, ht, hl, e⟩ := av_XV_b hV hp hk (h.2.2 rfl k hk)
    exact ⟨t, ht, hl, fun z => absurd z (by decide), fun z => absurd z (by decide), fun z => absurd z (by decide), fun _ => e⟩
theorem av_IX_H {w : Nat} {vs bd : Nat → Int32} {p s : Nat} {A : Nat → Prop} (hF : ∀ t, t < 512 → A t → av_IX w vs bd p t) (h : av_H w A s) : av_IX w vs bd p s := by
  refine ⟨fun e v hv => ?_, fun e k hk h3 => ?_, fun e k hk => ?_⟩
  · obtain ⟨t, ht, ha, g⟩ := h v (by omega)
    rw [g.2.1 e hv]
    exact (hF t ht ha).1 e v hv
  · obtain ⟨t, ht, ha, g⟩ := h k hk
    exact Int32.le_trans (g.2.2.1 e h3) ((hF t ht ha).2.1 e k hk h3)
  · obtain ⟨t, ht, ha, g⟩ := h k hk
    exact Int32.le_trans (g.2.2.2 e) ((hF t ht ha).2.2 e k hk)
/-! ===== widening ===== -/
def av_wv (p s : Nat) (vs : Nat → Int32) : Nat → Int32 := fun j => vs j ||| ((1 : Int32) <<< (nI (av_v s (j - 3 * p)) &&& 31))
def av_wb (p s : Nat) (bd : Nat → Int32) : Nat → Int32 := fun j => if bd j < av_d s (j - 16 * p) then av_d s (j - 16 * p) else bd j
theorem av_m_k {o i : Nat} {g f : Nat → Int32} (h : g (o + i) = f (o + i)) : av_m o i g f = av_m o (i + 1) g f := by
  funext j
  by_cases e : j = o + i
  · subst e
    rw [av_m_out (by omega), av_m_in (by omega) (by omega), h]
  · by_cases h2 : o ≤ j ∧ j < o + i
    · rw [av_m_in h2.1 h2.2, av_m_in h2.1 (by omega)]
    · rw [av_m_out (by omega), av_m_out (by omega)]
theorem av_wv_at (p s v : Nat) (vs : Nat → Int32) : av_wv p s vs (3 * p + v) = vs (3 * p + v) ||| ((1 : Int32) <<< (nI (av_v s v) &&& 31)) := by
  unfold av_wv
  rw [Nat.add_sub_cancel_left]
theorem av_wb_at (p s k : Nat) (bd : Nat → Int32) : av_wb p s bd (16 * p + k) = if bd (16 * p + k) < av_d s k then av_d s k else bd (16 * p + k) := by
  unfold av_wb
  rw [Nat.add_sub_cancel_left]
theorem av_wv_in {p s v : Nat} {vs : Nat → Int32} (hv : v < 3) : av_m (3 * p) 3 (av_wv p s vs) vs (3 * p + v) = vs (3 * p + v) ||| ((1 : Int32) <<< (nI (av_v s v) &&& 31)) := by
  rw [av_m_in (by omega) (by omega), av_wv_at]
theorem av_wv_out {p q s v : Nat} {vs : Nat → Int32} (hv : v < 3) (h : q ≠ p) : av_m (3 * p) 3 (av_wv p s vs) vs (3 * q + v) = vs (3 * q + v) := av_m_out (by omega)
theorem av_wb_in {p s k : Nat} {bd : Nat → Int32} (hk : k < 16) : av_m (16 * p) 16 (av_wb p s bd) bd (16 * p + k) = if bd (16 * p + k) < av_d s k then av_d s k else bd (16 * p + k) := by
  rw [av_m_in (by omega) (by omega), av_wb_at]
theorem av_wb_out {p q s k : Nat} {bd : Nat → Int32} (hk : k < 16) (h : q ≠ p) : av_m (16 * p) 16 (av_wb p s bd) bd (16 * q + k) = bd (16 * q + k) := av_m_out (by omega)
theorem av_wb_ge {p q s k : Nat} {bd : Nat → Int32} (hk : k < 16) : bd (16 * q + k) ≤ av_m (16 * p) 16 (av_wb p s bd) bd (16 * q + k) := by
  by_cases e : q = p
  · subst e
    rw [av_wb_in hk]
    split
    · rename_i h
      exact av_lt_le h
    · exact Int32.le_refl _
  · rw [av_wb_out hk e]
    exact Int32.le_refl _
theorem av_wb_s {p s k : Nat} {bd : Nat → Int32} (hk : k < 16) : av_d s k ≤ av_m (16 * p) 16 (av_wb p s bd) bd (16 * p + k) := by
  rw [av_wb_in hk]
  split
  · exact Int32.le_refl _
  · rename_i h
    exact av_le_of h
theorem av_wv_mo {p q s v x : Nat} {vs : Nat → Int32} (hv : v < 3) (hx : x < 8) (h : bt (vs (3 * q + v)) x = true) : bt (av_m (3 * p) 3 (av_wv p s vs) vs (3 * q + v)) x = true := by
  by_cases e : q = p
  · subst e
    rw [av_wv_in hv, av_bor (av_v_lt s v) (by omega), h, Bool.true_or]
  · rw [av_wv_out hv e]
    exact h
theorem av_XV_w {w : Nat} {G : Nat → Nat → Nat → Nat → Prop} {vs bd : Nat → Int32} {p s : Nat} (hV : av_XV w G vs bd) (hs : s < 512) (hl : av_L w G p s) : av_XV w G (av_m (3 * p) 3 (av_wv p s vs) vs) (av_m (16 * p) 16 (av_wb p s bd) bd) := by
  refine ⟨fun q v x hq hv hx h => ?_, fun q k hq hk => ?_⟩
  · by_cases e : q = p
    · subst e
      rw [av_wv_in hv, av_bor (av_v_lt s v) (by omega)] at h
      cases hb : bt (vs (3 * q + v)) x
      · rw [hb, Bool.false_or] at h
        exact ⟨s, hs, hl, (of_decide_eq_true h).symm⟩
      · exact hV.1 q v x hq hv hx hb
    · rw [av_wv_out hv e] at h
      exact hV.1 q v x hq hv hx h
  · by_cases e : q = p
    · subst e
      rw [av_wb_in hk]
      split
      · exact Or.inr ⟨s, hs, hl, rfl⟩
      · exact hV.2 q k hq hk
    · rw [av_wb_out hk e]
      exact hV.2 q k hq hk
theorem av_IX_mo {w : Nat} {vs bd : Nat → Int32} {p s q t : Nat} (h : av_IX w vs bd q t) : av_IX w (av_m (3 * p) 3 (av_wv p s vs) vs) (av_m (16 * p) 16 (av_wb p s bd) bd) q t :=
  ⟨fun e v hv => av_wv_mo hv (av_v_lt t v) (h.1 e v hv), fun e k hk h3 => Int32.le_trans (h.2.1 e k hk h3) (av_wb_ge hk), fun e k hk => Int32.le_trans (h.2.2 e k hk) (av_wb_ge hk)⟩
theorem av_IX_s {w : Nat} {vs bd : Nat → Int32} {p s : Nat} : av_IX w (av_m (3 * p) 3 (av_wv p s vs) vs) (av_m (16 * p) 16 (av_wb p s bd) bd) p s :=
  ⟨fun e v hv => by rw [av_wv_in hv, av_bor (av_v_lt s v) (by have := av_v_lt s v; omega), decide_eq_true rfl, Bool.or_true], fun e k hk _ => av_wb_s hk, fun e k hk => av_wb_s hk⟩
theorem av_IX_out {w : Nat} {vs bd : Nat → Int32} {p s q t : Nat} (hq : q ≠ p) (h : av_IX w (av_m (3 * p) 3 (av_wv p s vs) vs) (av_m (16 * p) 16 (av_wb p s bd) bd) q t) : av_IX w vs bd q t :=
  ⟨fun e v hv => by have g := h.1 e v hv; rw [av_wv_out hv hq] at g; exact g, fun e k hk h3 => by have g := h.2.1 e k hk h3; rw [av_wb_out hk hq] at g; exact g, fun e k hk => by have g := h.2.2 e k hk; rw [av_wb_out hk hq] at g; exact g⟩
/-- between two calls of reach -/
def av_XI (w : Nat) (G : Nat → Nat → Nat → Nat → Prop) (f q : Nat → Int32) (m : Nat) (vs bd : Nat → Int32) : Prop :=
  av_XQ w G f q m ∧ (w = 0 ∨ (av_W w ∧ av_XV w G vs bd ∧ ∀ p s, p < 21 → s < 512 → (av_F f w p s ↔ av_IX w vs bd p s)))
/-- within reach, at the place p, the states below i done -/
def av_XJ (w : Nat) (G : Nat → Nat → Nat → Nat → Prop) (p i : Nat) (vs bd f q : Nat → Int32) (m : Nat) : Prop :=
  av_XQ w G f q m ∧ (∀ q s, q < 21 → s < 512 → av_F f w q s → av_IX w vs bd q s) ∧ (∀ q s, q < 21 → s < 512 → q ≠ p → av_IX w vs bd q s → av_F f w q s) ∧ (∀ s, s < i → av_IX w vs bd p s → av_F f w p s)
theorem av_XJ_0 {w : Nat} {G : Nat → Nat → Nat → Nat → Prop} {f q vs bd : Nat → Int32} {m p s : Nat} (hw : av_W w) (h : av_XI w G f q m vs bd) (hs : s < 512) (hl : av_L w G p s) :
    av_XV w G (av_m (3 * p) 3 (av_wv p s vs) vs) (av_m (16 * p) 16 (av_wb p s bd) bd) ∧ av_XJ w G p 0 (av_m (3 * p) 3 (av_wv p s vs) vs) (av_m (16 * p) 16 (av_wb p s bd) bd) f q m := by
  obtain ⟨hQ, h0 | ⟨_, hV, hI⟩⟩ := h
  · subst h0
    rcases hw with z | z | z <;> exact absurd z (by decide)
  · exact ⟨av_XV_w hV hs hl, hQ, fun q t hq ht hF => av_IX_mo ((hI q t hq ht).mp hF), fun q t hq ht hn hx => (hI q t hq ht).mpr (av_IX_out hn hx), fun t ht => absurd ht (by omega)⟩
theorem av_XJ_skip {w : Nat} {G : Nat → Nat → Nat → Nat → Prop} {f q vs bd : Nat → Int32} {m p i : Nat} (h : av_XJ w G p i vs bd f q m) (hi : av_IX w vs bd p i → av_F f w p i) : av_XJ w G p (i + 1) vs bd f q m :=
  ⟨h.1, h.2.1, h.2.2.1, fun s hs hx => by
    by_cases e : s = i
    · subst e
      exact hi hx
    · exact h.2.2.2 s (by omega) hx⟩
theorem av_XJ_add {w : Nat} {G : Nat → Nat → Nat → Nat → Prop} {f q vs bd : Nat → Int32} {m p i : Nat} (hw : av_W w) (hV : av_XV w G vs bd) (h : av_XJ w G p i vs bd f q m) (hp : p < 21) (hi : i < 512) (hx : av_IX w vs bd p i) (hn : f (10752 * w + 512 * p + i) = 0) :
    m < 10752 ∧ av_XJ w G p (i + 1) vs bd (upd f (10752 * w + 512 * p + i) 1) (upd q m (nI (512 * p + i))) (m + 1) ∧ av_XG w f q m (upd f (10752 * w + 512 * p + i) 1) (upd q m (nI (512 * p + i))) (m + 1) := by
  obtain ⟨hQ, h1, h2, h3⟩ := h
  obtain ⟨a, b, c⟩ := av_XQ_add hQ hp hi hn (av_IX_L hw hV hp hi hx)
  refine ⟨a, ⟨b, ?_, ?_, ?_⟩, c⟩
  · intro r s hr hs hF
    rcases (av_F_u hi hs (by decide)).mp hF with g | ⟨e1, e2⟩
    · exact h1 r s hr hs g
    · rw [e1, e2]
      exact hx
  · intro r s hr hs hn2 hx2
    exact c.1 _ (h2 r s hr hs hn2 hx2)
  · intro s hs hx2
    by_cases e : s = i
    · subst e
      exact (av_F_u hi hi (by decide)).mpr (Or.inr ⟨rfl, rfl⟩)
    · exact c.1 _ (h3 s (by omega) hx2)
theorem av_XJ_end {w : Nat} {G : Nat → Nat → Nat → Nat → Prop} {f q vs bd : Nat → Int32} {m p : Nat} (hw : av_W w) (hV : av_XV w G vs bd) (h : av_XJ w G p 512 vs bd f q m) : av_XI w G f q m vs bd :=
  ⟨h.1, Or.inr ⟨hw, hV, fun r s hr hs => ⟨h.2.1 r s hr hs, fun hx => by
    by_cases e : r = p
    · subst e
      exact h.2.2.2 s hs hx
    · exact h.2.2.1 r s hr hs e hx⟩⟩⟩
theorem av_X_end {w : Nat} {G : Nat → Nat → Nat → Nat → Prop} {f q vs bd : Nat → Int32} {m : Nat} (h : av_XI w G f q m vs bd) (h0 : av_F f w 0 0) (hG : ∀ p s q t, p < 21 → s < 512 → av_F f w p s → G p s q t → av_F f w q t) : av_R w G f := by
  intro p s hp hs
  refine ⟨h.1.2.1 p s hp hs, fun l => l (av_F f w) ⟨h0, hG, fun q t hq ht hh => ?_⟩⟩
  rcases h.2 with rfl | ⟨_, _, hI⟩
  · exact av_H_0 hh
  · exact (hI q t hq ht).mpr (av_IX_H (fun r hr hF => (hI q r hq hr).mp hF) hh)
theorem av_X_0 {w : Nat} {G : Nat → Nat → Nat → Nat → Prop} {f q vs bd : Nat → Int32} (hw : w = 0 ∨ av_W w) (hb : av_B f) (hf : ∀ j, j < 10752 → f (10752 * w + j) = 0) (hv : ∀ j, j < 63 → vs j = 0) (hd : ∀ j, j < 336 → bd j = -8) : av_XI w G f q 0 vs bd := by
  have hF : ∀ p s, p < 21 → s < 512 → ¬ av_F f w p s := by
    intro p s hp hs h
    exact h (by rw [Nat.add_assoc]; exact hf _ (by omega))
  refine ⟨⟨hb, fun p s hp hs h => absurd h (hF p s hp hs), (av_c_0 hf).symm, fun j hj => absurd hj (by omega), fun p s hp hs h => absurd h (hF p s hp hs)⟩, ?_⟩
  rcases hw with h0 | hw
  · exact Or.inl h0
  · refine Or.inr ⟨hw, ⟨fun p v x hp hv2 hx h => ?_, fun p k hp hk => Or.inl (hd _ (by omega))⟩, fun p s hp hs => ⟨fun h => absurd h (hF p s hp hs), fun h => ?_⟩⟩
    · rw [hv _ (by omega), b_0] at h
      exact absurd h (by decide)
    · rcases hw with e | e | e
      · have g := h.1 e 0 (by decide)
        rw [hv _ (by omega), b_0] at g
        exact absurd g (by decide)
      · have g := h.2.1 e 15 (by decide) (Or.inl rfl)
        rw [hd _ (by omega)] at g
        exact absurd g (av_lt_ne (av_d_8 s 15))
      · have g := h.2.2 e 15 (by decide)
        rw [hd _ (by omega)] at g
        exact absurd g (av_lt_ne (av_d_8 s 15))
