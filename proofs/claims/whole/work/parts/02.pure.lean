/-! ===== the values in a state, the hull, the least family ===== -/
/-- the value of variable v in state s (v = 3: the number 0) -/
def av_v (s v : Nat) : Nat := if v = 0 then s % 8 else if v = 1 then s / 8 % 8 else if v = 2 then s / 64 % 8 else 0
theorem av_v_lt (s v : Nat) : av_v s v < 8 := by
  unfold av_v
  split
  · omega
  · split
    · omega
    · split
      · omega
      · omega
theorem av_v_3 (s : Nat) : av_v s 3 = 0 := rfl
/-- the state s with x for variable v -/
def av_w (s v x : Nat) : Nat := if v = 0 then s / 8 * 8 + x else if v = 1 then s / 64 * 64 + x * 8 + s % 8 else x * 64 + s % 64
theorem av_w_lt {s v x : Nat} (hs : s < 512) (hx : x < 8) : av_w s v x < 512 := by
  unfold av_w
  split
  · omega
  · split
    · omega
    · omega
/-- the difference of the pair k in state s -/
def av_d (s k : Nat) : Int32 := nI (av_v s (k / 4)) - nI (av_v s (k % 4))
theorem av_d_0 : ∀ a, a < 8 → ∀ b, b < 8 → (-8 : Int32) < nI a - nI b ∧ (-100 : Int32) < nI a - nI b ∧ (-1003 : Int32) < nI a - nI b ∧ ¬ nI a - nI b ≤ (-1000 : Int32) := by decide +kernel
theorem av_d_8 (s k : Nat) : (-8 : Int32) < av_d s k := (av_d_0 _ (av_v_lt s _) _ (av_v_lt s _)).1
theorem av_d_100 (s k : Nat) : (-100 : Int32) < av_d s k := (av_d_0 _ (av_v_lt s _) _ (av_v_lt s _)).2.1
theorem av_d_1003 (s k : Nat) : (-1003 : Int32) < av_d s k := (av_d_0 _ (av_v_lt s _) _ (av_v_lt s _)).2.2.1
theorem av_d_1000 (s k : Nat) : ¬ av_d s k ≤ (-1000 : Int32) := (av_d_0 _ (av_v_lt s _) _ (av_v_lt s _)).2.2.2
theorem av_lt_ne {x y : Int32} (h : x < y) : ¬ y ≤ x := Int32.not_le.mpr h
theorem av_le_of {x y : Int32} (h : ¬ x < y) : y ≤ x := Int32.not_lt.mp h
theorem av_lt_le {x y : Int32} (h : x < y) : x ≤ y := by
  rw [Int32.lt_iff_toInt_lt] at h
  rw [Int32.le_iff_toInt_le]
  omega
theorem av_le_as {x y : Int32} (h : x ≤ y) (g : y ≤ x) : x = y := by
  rw [Int32.le_iff_toInt_le] at h g
  exact Int32.toInt_inj.mp (by omega)
/-- the test k of the way w that t lets s through -/
def av_T (w k s t : Nat) : Prop := (w = 0 → s = t) ∧ (w = 1 → k < 3 → av_v s k = av_v t k) ∧ (w = 2 → (k / 4 = 3 ∨ k % 4 = 3) → av_d s k ≤ av_d t k) ∧ (w = 3 → av_d s k ≤ av_d t k)
theorem av_T_rf (w k s : Nat) : av_T w k s s := ⟨fun _ => rfl, fun _ _ => rfl, fun _ _ => Int32.le_refl _, fun _ => Int32.le_refl _⟩
theorem av_T_tr {w k r s t : Nat} (h : av_T w k r s) (g : av_T w k s t) : av_T w k r t :=
  ⟨fun e => (h.1 e).trans (g.1 e), fun e l => (h.2.1 e l).trans (g.2.1 e l), fun e l => Int32.le_trans (h.2.2.1 e l) (g.2.2.1 e l), fun e => Int32.le_trans (h.2.2.2 e) (g.2.2.2 e)⟩
/-- s is in the hull of A -/
def av_H (w : Nat) (A : Nat → Prop) (s : Nat) : Prop := ∀ k, k < 16 → ∃ t, t < 512 ∧ A t ∧ av_T w k s t
theorem av_H_rf {w : Nat} {A : Nat → Prop} {s : Nat} (hs : s < 512) (h : A s) : av_H w A s := fun k _ => ⟨s, hs, h, av_T_rf w k s⟩
theorem av_H_mo {w : Nat} {A B : Nat → Prop} {s : Nat} (h : ∀ t, t < 512 → A t → B t) (g : av_H w A s) : av_H w B s := fun k hk => by
  obtain ⟨t, ht, ha, e⟩ := g k hk
  exact ⟨t, ht, h t ht ha, e⟩
theorem av_H_tr {w : Nat} {A B : Nat → Prop} {s : Nat} (h : ∀ t, t < 512 → B t → av_H w A t) (g : av_H w B s) : av_H w A s := fun k hk => by
  obtain ⟨t, ht, hb, e⟩ := g k hk
  obtain ⟨r, hr, ha, e2⟩ := h t ht hb k hk
  exact ⟨r, hr, ha, av_T_tr e e2⟩
theorem av_H_0 {A : Nat → Prop} {s : Nat} (g : av_H 0 A s) : A s := by
  obtain ⟨t, _, ha, e⟩ := g 0 (by decide)
  rw [e.1 rfl]
  exact ha
theorem av_H_ne {w : Nat} {A : Nat → Prop} {s : Nat} (g : av_H w A s) : ∃ t, t < 512 ∧ A t := by
  obtain ⟨t, ht, ha, _⟩ := g 0 (by decide)
  exact ⟨t, ht, ha⟩
/-- a family of forms that is closed under the steps G and under the hull -/
def av_C (w : Nat) (G : Nat → Nat → Nat → Nat → Prop) (F : Nat → Nat → Prop) : Prop := F 0 0 ∧ (∀ p s q t, p < 21 → s < 512 → F p s → G p s q t → F q t) ∧ (∀ p s, p < 21 → s < 512 → av_H w (F p) s → F p s)
/-- the least one -/
def av_L (w : Nat) (G : Nat → Nat → Nat → Nat → Prop) (p s : Nat) : Prop := ∀ F : Nat → Nat → Prop, av_C w G F → F p s
theorem av_L_0 {w : Nat} {G : Nat → Nat → Nat → Nat → Prop} : av_L w G 0 0 := fun _ h => h.1
theorem av_L_G {w : Nat} {G : Nat → Nat → Nat → Nat → Prop} {p s q t : Nat} (hp : p < 21) (hs : s < 512) (h : av_L w G p s) (g : G p s q t) : av_L w G q t := fun F c => c.2.1 p s q t hp hs (h F c) g
theorem av_L_H {w : Nat} {G : Nat → Nat → Nat → Nat → Prop} {p s : Nat} (hp : p < 21) (hs : s < 512) (h : av_H w (av_L w G p) s) : av_L w G p s := fun F c => c.2.2 p s hp hs (av_H_mo (fun _ _ ht => ht F c) h)
/-! ===== cells ===== -/
def av_F (f : Nat → Int32) (w p s : Nat) : Prop := ¬ f (10752 * w + 512 * p + s) = 0
def av_B (f : Nat → Int32) : Prop := ∀ j, f j = 0 ∨ f j = 1
def av_R (w : Nat) (G : Nat → Nat → Nat → Nat → Prop) (f : Nat → Int32) : Prop := ∀ p s, p < 21 → s < 512 → (av_F f w p s ↔ av_L w G p s)
/-- alike outside of way w -/
def av_E (w : Nat) (f g : Nat → Int32) : Prop := ∀ j, (j < 10752 * w ∨ 10752 * w + 10752 ≤ j) → g j = f j
theorem av_E_rf (w : Nat) (f : Nat → Int32) : av_E w f f := fun _ _ => rfl
theorem av_E_tr {w : Nat} {f g h : Nat → Int32} (a : av_E w f g) (b : av_E w g h) : av_E w f h := fun j hj => (b j hj).trans (a j hj)
theorem av_E_u {w p s : Nat} {f : Nat → Int32} {x : Int32} (hp : p < 21) (hs : s < 512) : av_E w f (upd f (10752 * w + 512 * p + s) x) := fun j hj => pk_un (by omega)
theorem av_R_E {w v : Nat} {G : Nat → Nat → Nat → Nat → Prop} {f g : Nat → Int32} (h : v ≠ w) (e : av_E w f g) (r : av_R v G f) : av_R v G g := by
  intro p s hp hs
  have e1 : g (10752 * v + 512 * p + s) = f (10752 * v + 512 * p + s) := e _ (by omega)
  have r1 := r p s hp hs
  unfold av_F at r1 ⊢
  rw [e1]
  exact r1
theorem av_B_u {f : Nat → Int32} {k : Nat} (h : av_B f) : av_B (upd f k 1) := by
  intro j
  by_cases e : j = k
  · subst e
    exact Or.inr pk_us
  · rw [pk_un e]
    exact h j
theorem av_F_u {f : Nat → Int32} {w p s q t : Nat} {x : Int32} (hs : s < 512) (ht : t < 512) (hx : ¬ x = 0) : av_F (upd f (10752 * w + 512 * p + s) x) w q t ↔ (av_F f w q t ∨ (q = p ∧ t = s)) := by
  unfold av_F
  by_cases e : 10752 * w + 512 * q + t = 10752 * w + 512 * p + s
  · rw [e, pk_us]
    exact ⟨fun _ => Or.inr (by omega), fun _ => hx⟩
  · rw [pk_un e]
    exact ⟨fun h => Or.inl h, fun h => h.elim id (fun g => absurd (by omega) e)⟩
theorem av_R_eq {w : Nat} {G : Nat → Nat → Nat → Nat → Prop} {f g : Nat → Int32} (hf : av_B f) (hg : av_B g) (r : av_R w G f) (r' : av_R w G g) : ∀ j, j < 10752 → f (10752 * w + j) = g (10752 * w + j) := by
  intro j hj
  have a := (r (j / 512) (j % 512) (by omega) (by omega)).trans (r' (j / 512) (j % 512) (by omega) (by omega)).symm
  unfold av_F at a
  have e : 10752 * w + 512 * (j / 512) + j % 512 = 10752 * w + j := by omega
  rw [e] at a
  rcases hf (10752 * w + j) with h1 | h1 <;> rcases hg (10752 * w + j) with h2 | h2
  · rw [h1, h2]
  · rw [h1, h2] at a
    exact absurd rfl (a.mpr (by decide))
  · rw [h1, h2] at a
    exact absurd rfl (a.mp (by decide))
  · rw [h1, h2]
/-! ===== how many cells are set ===== -/
def av_n (f : Nat → Int32) (o : Nat) : Nat → Nat
  | 0 => 0
  | N + 1 => av_n f o N + (if f (o + N) = 0 then 0 else 1)
theorem av_n_s (f : Nat → Int32) (o N : Nat) : av_n f o (N + 1) = av_n f o N + (if f (o + N) = 0 then 0 else 1) := rfl
theorem av_n_le (f : Nat → Int32) (o : Nat) : ∀ N, av_n f o N ≤ N := by
  intro N
  induction N with
  | zero => exact Nat.le_refl _
  | succ N ih =>
    rw [av_n_s]
    split <;> omega
theorem av_n_cg {f g : Nat → Int32} {o : Nat} : ∀ N, (∀ j, j < N → f (o + j) = g (o + j)) → av_n f o N = av_n g o N := by
  intro N
  induction N with
  | zero => exact fun _ => rfl
  | succ N ih =>
    intro h
    rw [av_n_s, av_n_s, ih (fun j hj => h j (by omega)), h N (by omega)]
theorem av_n_0 {f : Nat → Int32} {o : Nat} : ∀ N, (∀ j, j < N → f (o + j) = 0) → av_n f o N = 0 := by
  intro N
  induction N with
  | zero => exact fun _ => rfl
  | succ N ih =>
    intro h
    rw [av_n_s, ih (fun j hj => h j (by omega)), if_pos (h N (by omega))]
theorem av_n_z {f : Nat → Int32} {o : Nat} : ∀ N, av_n f o N = 0 → ∀ j, j < N → f (o + j) = 0 := by
  intro N
  induction N with
  | zero => exact fun _ j hj => absurd hj (by omega)
  | succ N ih =>
    intro h j hj
    rw [av_n_s] at h
    by_cases e : j = N
    · subst e
      by_cases z : f (o + j) = 0
      · exact z
      · rw [if_neg z] at h
        omega
    · exact ih (by omega) j (by omega)
theorem av_n_lt {f : Nat → Int32} {o k : Nat} : ∀ N, k < N → f (o + k) = 0 → av_n f o N < N := by
  intro N
  induction N with
  | zero => exact fun h _ => absurd h (by omega)
  | succ N ih =>
    intro h z
    rw [av_n_s]
    by_cases e : k = N
    · subst e
      rw [if_pos z]
      have := av_n_le f o k
      omega
    · have := ih (by omega) z
      split <;> omega
theorem av_n_up {f : Nat → Int32} {o k : Nat} {x : Int32} (hx : ¬ x = 0) : ∀ N, k < N → f (o + k) = 0 → av_n (upd f (o + k) x) o N = av_n f o N + 1 := by
  intro N
  induction N with
  | zero => exact fun h _ => absurd h (by omega)
  | succ N ih =>
    intro h z
    rw [av_n_s, av_n_s]
    by_cases e : k = N
    · subst e
      have e1 : av_n (upd f (o + k) x) o k = av_n f o k := av_n_cg k (fun j hj => pk_un (by omega))
      have e2 : (if upd f (o + k) x (o + k) = 0 then 0 else 1) = (1 : Nat) := by rw [pk_us, if_neg hx]
      have e3 : (if f (o + k) = 0 then 0 else 1) = (0 : Nat) := if_pos z
      rw [e1, e2, e3, Nat.add_zero]
    · rw [ih (by omega) z, pk_un (by omega)]
      exact Nat.add_right_comm _ _ _
theorem av_n_dn {f : Nat → Int32} {o k : Nat} : ∀ N, k < N → ¬ f (o + k) = 0 → av_n (upd f (o + k) 0) o N + 1 = av_n f o N := by
  intro N
  induction N with
  | zero => exact fun h _ => absurd h (by omega)
  | succ N ih =>
    intro h z
    rw [av_n_s, av_n_s]
    by_cases e : k = N
    · subst e
      have e1 : av_n (upd f (o + k) 0) o k = av_n f o k := av_n_cg k (fun j hj => pk_un (by omega))
      have e2 : (if upd f (o + k) 0 (o + k) = 0 then 0 else 1) = (0 : Nat) := by
        rw [pk_us]
        exact if_pos rfl
      have e3 : (if f (o + k) = 0 then 0 else 1) = (1 : Nat) := if_neg z
      rw [e1, e2, e3, Nat.add_zero]
    · have g := ih (by omega) z
      rw [pk_un (by omega), ← g]
      exact Nat.add_right_comm _ _ _
theorem av_n_ul {f : Nat → Int32} {o k : Nat} {x : Int32} (N : Nat) (hk : k < N) (hx : ¬ x = 0) : av_n (upd f (o + k) x) o N ≤ av_n f o N + 1 := by
  by_cases z : f (o + k) = 0
  · exact Nat.le_of_eq (av_n_up hx N hk z)
  · have e : ∀ M, av_n (upd f (o + k) x) o M = av_n f o M := by
      intro M
      induction M with
      | zero => rfl
      | succ M ih =>
        rw [av_n_s, av_n_s, ih]
        by_cases e : k = M
        · subst e
          rw [pk_us, if_neg hx, if_neg z]
        · rw [pk_un (by omega)]
    rw [e N]
    exact Nat.le_succ _
/-- the cells of way w that are set -/
def av_c (f : Nat → Int32) (w : Nat) : Nat := av_n f (10752 * w) 10752
theorem av_c_le (f : Nat → Int32) (w : Nat) : av_c f w ≤ 10752 := av_n_le _ _ _
theorem av_c_lt {f : Nat → Int32} {w p s : Nat} (hp : p < 21) (hs : s < 512) (hn : f (10752 * w + 512 * p + s) = 0) : av_c f w < 10752 :=
  av_n_lt (k := 512 * p + s) 10752 (by omega) (by rw [← Nat.add_assoc]; exact hn)
theorem av_c_up {f : Nat → Int32} {w p s : Nat} (hp : p < 21) (hs : s < 512) (hn : f (10752 * w + 512 * p + s) = 0) : av_c (upd f (10752 * w + 512 * p + s) 1) w = av_c f w + 1 := by
  rw [Nat.add_assoc (10752 * w)] at hn ⊢
  exact av_n_up (by decide) 10752 (by omega) hn
theorem av_c_0 {f : Nat → Int32} {w : Nat} (h : ∀ j, j < 10752 → f (10752 * w + j) = 0) : av_c f w = 0 := av_n_0 10752 h
/-- the places that are set -/
def av_g (g : Nat → Int32) : Nat := av_n g 0 21
theorem av_g_ul {g : Nat → Int32} {p : Nat} (hp : p < 21) : av_g (upd g p 1) ≤ av_g g + 1 := by
  have h := av_n_ul (f := g) (o := 0) (k := p) (x := 1) 21 hp (by decide)
  rw [Nat.zero_add] at h
  exact h
theorem av_g_dn {g : Nat → Int32} {p : Nat} (hp : p < 21) (hg : ¬ g p = 0) : av_g (upd g p 0) + 1 = av_g g := by
  have h := av_n_dn (f := g) (o := 0) (k := p) 21 hp (by rw [Nat.zero_add]; exact hg)
  rw [Nat.zero_add] at h
  exact h
/-! ===== runs of stores ===== -/
def av_m (o i : Nat) (g f : Nat → Int32) : Nat → Int32 := fun j => if o ≤ j ∧ j < o + i then g j else f j
theorem av_m_0 (o : Nat) (g f : Nat → Int32) : av_m o 0 g f = f := funext fun j => if_neg (by omega)
theorem av_m_s (o i : Nat) (g f : Nat → Int32) : upd (av_m o i g f) (o + i) (g (o + i)) = av_m o (i + 1) g f := by
  funext j
  by_cases e : j = o + i
  · subst e
    rw [pk_us]
    exact (if_pos (by omega)).symm
  · rw [pk_un e]
    unfold av_m
    by_cases h : o ≤ j ∧ j < o + i
    · rw [if_pos h, if_pos (by omega)]
    · rw [if_neg h, if_neg (by omega)]
theorem av_m_in {o i j : Nat} {g f : Nat → Int32} (h : o ≤ j) (h2 : j < o + i) : av_m o i g f j = g j := if_pos ⟨h, h2⟩
theorem av_m_out {o i j : Nat} {g f : Nat → Int32} (h : j < o ∨ o + i ≤ j) : av_m o i g f j = f j := if_neg (by omega)
/-! ===== statements ===== -/
def av_ok (o a b c : Int32) : Prop :=
  (o = 0 ∧ (∃ i, i < 3 ∧ a = nI i) ∧ (∃ x, x < 8 ∧ c = nI x)) ∨
  (o = 1 ∧ (∃ i, i < 3 ∧ a = nI i) ∧ (∃ j, j < 4 ∧ b = nI j) ∧ -7 ≤ c ∧ c ≤ 7) ∨
  (o = 2 ∧ (∃ i, i < 3 ∧ a = nI i)) ∨
  (o = 3 ∧ (∃ i, i < 4 ∧ a = nI i) ∧ (∃ j, j < 4 ∧ b = nI j) ∧ ¬ a = b ∧ -7 ≤ c ∧ c ≤ 7) ∨
  (o = 4 ∧ (∃ x, x < 21 ∧ c = nI x)) ∨
  (o = 5 ∧ (∃ x, x < 21 ∧ c = nI x)) ∨
  o = 6
/-- how many outcomes a statement has, and the spot 512 * q + t of the k-th -/
def av_oc (o : Int32) : Nat := if o = 2 then 8 else if o = 5 then 2 else if o = 6 then 0 else 1
def av_out (o a b c : Int32) (p s k : Nat) : Option Nat :=
  if o = 0 then some (512 * (p + 1) + av_w s a.toNatClampNeg c.toNatClampNeg)
  else if o = 1 then (if 0 ≤ nI (av_v s b.toNatClampNeg) + c ∧ nI (av_v s b.toNatClampNeg) + c ≤ 7 then some (512 * (p + 1) + av_w s a.toNatClampNeg (nI (av_v s b.toNatClampNeg) + c).toNatClampNeg) else none)
  else if o = 2 then some (512 * (p + 1) + av_w s a.toNatClampNeg k)
  else if o = 3 then (if nI (av_v s a.toNatClampNeg) ≤ nI (av_v s b.toNatClampNeg) + c then some (512 * (p + 1) + s) else none)
  else if o = 4 then some (512 * c.toNatClampNeg + s)
  else if o = 5 then (if k = 0 then some (512 * (p + 1) + s) else some (512 * c.toNatClampNeg + s))
  else none
theorem av_out_0 (a b c : Int32) (p s k : Nat) : av_out 0 a b c p s k = some (512 * (p + 1) + av_w s a.toNatClampNeg c.toNatClampNeg) := if_pos rfl
theorem av_out_1 (a b c : Int32) (p s k : Nat) : av_out 1 a b c p s k = (if 0 ≤ nI (av_v s b.toNatClampNeg) + c ∧ nI (av_v s b.toNatClampNeg) + c ≤ 7 then some (512 * (p + 1) + av_w s a.toNatClampNeg (nI (av_v s b.toNatClampNeg) + c).toNatClampNeg) else none) :=
  (if_neg (by decide)).trans (if_pos rfl)
theorem av_out_2 (a b c : Int32) (p s k : Nat) : av_out 2 a b c p s k = some (512 * (p + 1) + av_w s a.toNatClampNeg k) :=
  (if_neg (by decide)).trans ((if_neg (by decide)).trans (if_pos rfl))
theorem av_out_3 (a b c : Int32) (p s k : Nat) : av_out 3 a b c p s k = (if nI (av_v s a.toNatClampNeg) ≤ nI (av_v s b.toNatClampNeg) + c then some (512 * (p + 1) + s) else none) :=
  (if_neg (by decide)).trans ((if_neg (by decide)).trans ((if_neg (by decide)).trans (if_pos rfl)))
theorem av_out_4 (a b c : Int32) (p s k : Nat) : av_out 4 a b c p s k = some (512 * c.toNatClampNeg + s) :=
  (if_neg (by decide)).trans ((if_neg (by decide)).trans ((if_neg (by decide)).trans ((if_neg (by decide)).trans (if_pos rfl))))
theorem av_out_5 (a b c : Int32) (p s k : Nat) : av_out 5 a b c p s k = (if k = 0 then some (512 * (p + 1) + s) else some (512 * c.toNatClampNeg + s)) :=
  (if_neg (by decide)).trans ((if_neg (by decide)).trans ((if_neg (by decide)).trans ((if_neg (by decide)).trans ((if_neg (by decide)).trans (if_pos rfl)))))
theorem av_out_6 (a b c : Int32) (p s k : Nat) : av_out 6 a b c p s k = none :=
  (if_neg (by decide)).trans ((if_neg (by decide)).trans ((if_neg (by decide)).trans ((if_neg (by decide)).trans ((if_neg (by decide)).trans (if_neg (by decide))))))
def av_P (n : Nat) (o a b c : Nat → Int32) (p s q t : Nat) : Prop := p < n ∧ q < 21 ∧ t < 512 ∧ ∃ k, k < av_oc (o p) ∧ av_out (o p) (a p) (b p) (c p) p s k = some (512 * q + t)
theorem av_nI_inj {a b : Nat} (ha : a < 2 ^ 31) (hb : b < 2 ^ 31) (h : nI a = nI b) : a = b := (nI_eq ha hb).mp h
/-- an int between 0 and 7, between 0 and 3 and the like -/
theorem av_le7 {x : Int32} (h0 : 0 ≤ x) (h7 : x ≤ 7) : ∃ j : Nat, j < 8 ∧ x = nI j := by
  obtain ⟨j, hj, e⟩ := nI_of2 (x := x) (M := 7) (n := 7) (by decide) (Int32.not_lt.mpr h0) h7
  exact ⟨j, by omega, e⟩
theorem av_out_in {o a b c : Int32} {p s k z : Nat} (hok : av_ok o a b c) (hp : p < 20) (hs : s < 512) (hk : k < av_oc o) (h : av_out o a b c p s k = some z) : ∃ q t, q < 21 ∧ t < 512 ∧ z = 512 * q + t := by
  rcases hok with ⟨rfl, ⟨i, hi, rfl⟩, ⟨x, hx, rfl⟩⟩ | ⟨rfl, _⟩ | ⟨rfl, _⟩ | ⟨rfl, _⟩ | ⟨rfl, ⟨x, hx, rfl⟩⟩ | ⟨rfl, ⟨x, hx, rfl⟩⟩ | rfl
  · rw [av_out_0, nI_clamp (n := x) (by omega)] at h
    exact ⟨p + 1, _, by omega, av_w_lt hs hx, (Option.some.inj h).symm⟩
  · rw [av_out_1] at h
    by_cases g : 0 ≤ nI (av_v s b.toNatClampNeg) + c ∧ nI (av_v s b.toNatClampNeg) + c ≤ 7
    · rw [if_pos g] at h
      obtain ⟨j, hj, e⟩ := av_le7 g.1 g.2
      rw [e, nI_clamp (by omega)] at h
      exact ⟨p + 1, _, by omega, av_w_lt hs hj, (Option.some.inj h).symm⟩
    · rw [if_neg g] at h
      exact nomatch h
  · rw [av_out_2] at h
    have hk2 : k < 8 := hk
    exact ⟨p + 1, _, by omega, av_w_lt hs hk2, (Option.some.inj h).symm⟩
  · rw [av_out_3] at h
    by_cases g : nI (av_v s a.toNatClampNeg) ≤ nI (av_v s b.toNatClampNeg) + c
    · rw [if_pos g] at h
      exact ⟨p + 1, s, by omega, hs, (Option.some.inj h).symm⟩
    · rw [if_neg g] at h
      exact nomatch h
  · rw [av_out_4, nI_clamp (by omega)] at h
    exact ⟨x, s, hx, hs, (Option.some.inj h).symm⟩
  · rw [av_out_5, nI_clamp (by omega)] at h
    by_cases g : k = 0
    · rw [if_pos g] at h
      exact ⟨p + 1, s, by omega, hs, (Option.some.inj h).symm⟩
    · rw [if_neg g] at h
      exact ⟨x, s, hx, hs, (Option.some.inj h).symm⟩
  · rw [av_out_6] at h
    exact nomatch h
/-- a loop that stores a run -/
theorem av_run {o e : Nat} {g f : Nat → Int32} (W : Nat → Nat → (Nat → Int32) → Prop) (hx : ∀ n, W (n + 1) e (av_m o e g f)) (hs : ∀ n i, i < e → W n (i + 1) (av_m o (i + 1) g f) → W (n + 1) i (av_m o i g f)) : ∃ n, W n 0 f :=
  loop_0 W (fun i s => s = av_m o i g f) e f (av_m_0 o g f).symm (fun n s h => by rw [h]; exact hx n) (fun n i s hi h k => by rw [h]; exact hs n i hi (k _ rfl))
