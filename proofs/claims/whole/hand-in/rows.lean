section
/-! rows pasted from kit/rows -/
theorem pk_us {f : Nat → Int32} {k : Nat} {x : Int32} : upd f k x k = x := if_pos rfl
theorem pk_un {f : Nat → Int32} {k j : Nat} {x : Int32} (h : j ≠ k) : upd f k x j = f j := if_neg h
theorem pk_sub {a b : Nat} (h : b ≤ a) : nI a - nI b = nI (a - b) := by
  obtain ⟨c, rfl⟩ : ∃ c, a = c + b := ⟨a - b, by omega⟩
  rw [← nI_add, Int32.add_sub_cancel, Nat.add_sub_cancel]
theorem pk_m1 (n : Nat) : nI (n + 1) + (-1) = nI n := by
  rw [← nI_1, Int32.add_assoc, show (1 : Int32) + (-1) = 0 from rfl, Int32.add_zero]
theorem pk_mul (a b : Nat) : nI a * nI b = nI (a * b) := (Int32.ofNat_mul a b).symm
theorem pk_div {a d : Nat} (ha : a < 2 ^ 31) (h0 : 0 < d) (hd : d < 2 ^ 31) : nI a / nI d = nI (a / d) := by
  apply Int32.toInt_inj.mp
  rw [lg_idiv_nonneg (by rw [nI_toInt ha]; omega) (by rw [nI_toInt hd]; omega), nI_toInt ha, nI_toInt hd, nI_toInt (Nat.lt_of_le_of_lt (Nat.div_le_self a d) ha)]
  first | rfl | exact (Int.natCast_ediv _ _).symm
theorem pk_rem {a d : Nat} (ha : a < 2 ^ 31) (h0 : 0 < d) (hd : d < 2 ^ 31) : nI a - nI a / nI d * nI d = nI (a % d) := by
  rw [pk_div ha h0 hd, pk_mul, pk_sub (Nat.div_mul_le_self a d)]
  exact congrArg nI (by have := Nat.div_add_mod' a d; omega)
theorem pk_sub_toInt {a b : Nat} (ha : a < 2 ^ 30) (hb : b < 2 ^ 30) : (nI a - nI b).toInt = (a : Int) - b := by
  rw [Int32.toInt_sub, nI_toInt (by omega), nI_toInt (by omega)]
  exact Int.bmod_eq_of_le (by omega) (by omega)
theorem pk_ix (x : Int32) {n : Nat} (hn : n < 2 ^ 31) : x < 0 ∨ nI n ≤ x ∨ ∃ j : Nat, j < n ∧ x = nI j := by
  by_cases h : x < 0
  · exact Or.inl h
  · obtain ⟨j, hj, rfl⟩ := nI_of h
    by_cases h2 : j < n
    · exact Or.inr (Or.inr ⟨j, h2, rfl⟩)
    · exact Or.inr (Or.inl (nI_le (by omega) hj))
theorem pk_le {x y : Int32} {A B : Prop} (a b : Nat) (f : a ≤ b → A) (g : b < a → B) (hx : x = nI a := by rfl) (hy : y = nI b := by rfl) (ha : a < 2 ^ 31 := by omega) (hb : b < 2 ^ 31 := by omega) : (x ≤ y → A) ∧ (¬ x ≤ y → B) := by
  subst hx hy
  rw [nI_leI ha hb]
  exact ⟨f, fun z => g (by omega)⟩
theorem pk_lt {x y : Int32} {A B : Prop} (a b : Nat) (f : a < b → A) (g : b ≤ a → B) (hx : x = nI a := by rfl) (hy : y = nI b := by rfl) (ha : a < 2 ^ 31 := by omega) (hb : b < 2 ^ 31 := by omega) : (x < y → A) ∧ (¬ x < y → B) := by
  subst hx hy
  rw [nI_ltI ha hb]
  exact ⟨f, fun z => g (by omega)⟩
theorem pk_eq {x y : Int32} {A B : Prop} (a b : Nat) (f : a = b → A) (g : a ≠ b → B) (hx : x = nI a := by rfl) (hy : y = nI b := by rfl) (ha : a < 2 ^ 31 := by omega) (hb : b < 2 ^ 31 := by omega) : (x = y → A) ∧ (¬ x = y → B) := by
  subst hx hy
  rw [nI_eq ha hb]
  exact ⟨f, g⟩
theorem pk_in {x : Int32} (n N : Nat) (h : n < N) (hx : x = nI n := by rfl) (hN : N < 2 ^ 31 := by omega) : vp_in x N := by
  subst hx
  exact vp_in_nI h hN
theorem pk_cl {x : Int32} (n : Nat) (hx : x = nI n := by rfl) (h : n < 2 ^ 31 := by omega) : x.toNatClampNeg = n := by
  subst hx
  exact nI_clamp h
theorem pk_tn {n : Nat} (h : n < 2 ^ 32) : (nI n).toBitVec.toNat = n := Nat.mod_eq_of_lt h
theorem pk_and (x : Int32) {m : Int32} (k : Nat) (hm : m.toBitVec.toNat = 2 ^ k - 1) : x &&& m = nI (x.toBitVec.toNat % 2 ^ k) := by
  apply Int32.toBitVec_inj.mp
  apply BitVec.eq_of_toNat_eq
  rw [Int32.toBitVec_and, BitVec.toNat_and, hm, Nat.and_two_pow_sub_one_eq_mod]
  show _ = (BitVec.ofNat 32 _).toNat
  rw [BitVec.toNat_ofNat]
  exact (Nat.mod_eq_of_lt (Nat.lt_of_le_of_lt (Nat.mod_le _ _) x.toBitVec.isLt)).symm
theorem pk_andN {n : Nat} (h : n < 2 ^ 32) {m : Int32} (k : Nat) (hm : m.toBitVec.toNat = 2 ^ k - 1) : nI n &&& m = nI (n % 2 ^ k) := by
  rw [pk_and _ k hm, pk_tn h]
theorem pk_shl (a s : Int32) (k : Nat) (hs : (s.toBitVec.smod 32).toNat = k) : (a <<< s).toBitVec.toNat = a.toBitVec.toNat * 2 ^ k % 2 ^ 32 := by
  show (a.toBitVec <<< (s.toBitVec.smod 32).toNat).toNat = _
  rw [hs, BitVec.toNat_shiftLeft, Nat.shiftLeft_eq]
theorem pk_shlN {n : Nat} (s : Int32) (k : Nat) (hs : (s.toBitVec.smod 32).toNat = k) (h : n * 2 ^ k < 2 ^ 32) : nI n <<< s = nI (n * 2 ^ k) := by
  apply Int32.toBitVec_inj.mp
  apply BitVec.eq_of_toNat_eq
  have hn : n < 2 ^ 32 := Nat.lt_of_le_of_lt (Nat.le_mul_of_pos_right n (Nat.two_pow_pos k)) h
  rw [pk_shl _ _ k hs, pk_tn hn, pk_tn h, Nat.mod_eq_of_lt h]
theorem pk_shr (a s : Int32) (k : Nat) (hs : (s.toBitVec.smod 32).toNat = k) : (a >>> s).toInt = a.toInt >>> k := by
  show (a.toBitVec.sshiftRight (s.toBitVec.smod 32).toNat).toInt = _
  rw [hs, BitVec.toInt_sshiftRight]
  rfl
theorem pk_shrN {n : Nat} (h : n < 2 ^ 31) (s : Int32) (k : Nat) (hs : (s.toBitVec.smod 32).toNat = k) : nI n >>> s = nI (n / 2 ^ k) := by
  apply Int32.toInt_inj.mp
  have h2 : n / 2 ^ k ≤ n := Nat.div_le_self _ _
  rw [pk_shr _ _ k hs, nI_toInt h, nI_toInt (by omega), Int.shiftRight_eq_div_pow]
  rfl
theorem pk_loop {σ : Type} (W : Nat → Nat → σ → Prop) (I : Nat → σ → Prop) (e i0 : Nat) (s : σ) (hi : i0 ≤ e) (h0 : I i0 s) (hx : ∀ n s, I e s → W (n + 1) e s)
    (hs : ∀ n i s, i < e → I i s → (∀ s', I (i + 1) s' → W n (i + 1) s') → W (n + 1) i s) : ∃ n, W n i0 s :=
  ⟨e + 1, loop_i W I e hx hs (e + 1) i0 s hi (by omega) h0⟩
theorem pk_loopD {σ : Type} (W : Nat → Nat → σ → Prop) (I : Nat → σ → Prop) (hx : ∀ n s, I 0 s → W (n + 1) 0 s)
    (hs : ∀ n i s, I (i + 1) s → (∀ s', I i s' → W n i s') → W (n + 1) (i + 1) s) : ∀ (e : Nat) (s : σ), I e s → W (e + 1) e s := by
  intro e
  induction e with
  | zero => exact fun s h => hx 0 s h
  | succ e ih => exact fun s h => hs (e + 1) e s h (fun s' h' => ih s' h')
def bt (x : Int32) (i : Nat) : Bool := x.toBitVec.getLsbD i
theorem b_ext {x y : Int32} (h : ∀ i, i < 32 → bt x i = bt y i) : x = y := Int32.toBitVec_inj.mp (BitVec.eq_of_getLsbD_eq (fun i hi => h i hi))
theorem b_or (x y : Int32) (i : Nat) : bt (x ||| y) i = (bt x i || bt y i) := by unfold bt; rw [Int32.toBitVec_or, BitVec.getLsbD_or]
theorem b_and (x y : Int32) (i : Nat) : bt (x &&& y) i = (bt x i && bt y i) := by unfold bt; rw [Int32.toBitVec_and, BitVec.getLsbD_and]
theorem b_big {x : Int32} {i : Nat} (h : 32 ≤ i) : bt x i = false := BitVec.getLsbD_of_ge _ _ h
theorem b_0 (i : Nat) : bt 0 i = false := BitVec.getLsbD_zero
theorem s_l : ∀ n, n < 32 → ((nI n &&& 31).toBitVec.smod 32).toNat = n := by decide +kernel
theorem b_shl (n : Nat) (hn : n < 32) (x : Int32) {i : Nat} (hi : i < 32) : bt (x <<< (nI n &&& 31)) i = (decide (n ≤ i) && bt x (i - n)) := by
  unfold bt
  rw [Int32.toBitVec_shiftLeft]
  show (x.toBitVec <<< ((nI n &&& 31).toBitVec.smod 32).toNat).getLsbD i = _
  rw [s_l n hn, BitVec.getLsbD_shiftLeft]
  rcases Nat.lt_or_ge i n with h | h
  · simp [h, Nat.not_le.mpr h]
  · simp [hi, h, Nat.not_lt.mpr h]
theorem b_sshr (n : Nat) (hn : n < 32) (x : Int32) {i : Nat} (hi : i < 32) : bt (x >>> (nI n &&& 31)) i = if n + i < 32 then bt x (n + i) else bt x 31 := by
  unfold bt
  rw [Int32.toBitVec_shiftRight]
  show (x.toBitVec.sshiftRight ((nI n &&& 31).toBitVec.smod 32).toNat).getLsbD i = _
  rw [s_l n hn, BitVec.getLsbD_sshiftRight, BitVec.msb_eq_getLsbD_last]
  simp [hi]
theorem nf_sh : ∀ l, l < 32 → ((1 : Int32) <<< (nI l &&& 31)).toBitVec = BitVec.twoPow 32 l := by decide +kernel
theorem nf_tp : ∀ l, l < 32 → BitVec.twoPow 32 l ≠ 0#32 := by decide +kernel
end
section
/-! ===== the values in a state, the hull, the least family ===== -/
/-- the value of variable v in state s (v = 3: the number 0) -/
def av_v (s v : Nat) : Nat := if v = 0 then s % 8 else if v = 1 then s / 8 % 8 else if v = 2 then s / 64 % 8 else 0
theorem av_v_lt (s v : Nat) : av_v s v < 8 := by
  unfold av_v
  split
  · omega
  · split
    · omega
    · split
      · omega
      · omega
theorem av_v_3 (s : Nat) : av_v s 3 = 0 := rfl
/-- the state s with x for variable v -/
def av_w (s v x : Nat) : Nat := if v = 0 then s / 8 * 8 + x else if v = 1 then s / 64 * 64 + x * 8 + s % 8 else x * 64 + s % 64
theorem av_w_lt {s v x : Nat} (hs : s < 512) (hx : x < 8) : av_w s v x < 512 := by
  unfold av_w
  split
  · omega
  · split
    · omega
    · omega
/-- the difference of the pair k in state s -/
def av_d (s k : Nat) : Int32 := nI (av_v s (k / 4)) - nI (av_v s (k % 4))
theorem av_d_0 : ∀ a, a < 8 → ∀ b, b < 8 → (-8 : Int32) < nI a - nI b ∧ (-100 : Int32) < nI a - nI b ∧ (-1003 : Int32) < nI a - nI b ∧ ¬ nI a - nI b ≤ (-1000 : Int32) := by decide +kernel
theorem av_d_8 (s k : Nat) : (-8 : Int32) < av_d s k := (av_d_0 _ (av_v_lt s _) _ (av_v_lt s _)).1
theorem av_d_100 (s k : Nat) : (-100 : Int32) < av_d s k := (av_d_0 _ (av_v_lt s _) _ (av_v_lt s _)).2.1
theorem av_d_1003 (s k : Nat) : (-1003 : Int32) < av_d s k := (av_d_0 _ (av_v_lt s _) _ (av_v_lt s _)).2.2.1
theorem av_d_1000 (s k : Nat) : ¬ av_d s k ≤ (-1000 : Int32) := (av_d_0 _ (av_v_lt s _) _ (av_v_lt s _)).2.2.2
theorem av_lt_ne {x y : Int32} (h : x < y) : ¬ y ≤ x := Int32.not_le.mpr h
theorem av_le_of {x y : Int32} (h : ¬ x < y) : y ≤ x := Int32.not_lt.mp h
theorem av_lt_le {x y : Int32} (h : x < y) : x ≤ y := by
  rw [Int32.lt_iff_toInt_lt] at h
  rw [Int32.le_iff_toInt_le]
  omega
theorem av_le_as {x y : Int32} (h : x ≤ y) (g : y ≤ x) : x = y := by
  rw [Int32.le_iff_toInt_le] at h g
  exact Int32.toInt_inj.mp (by omega)
/-- the test k of the way w that t lets s through -/
def av_T (w k s t : Nat) : Prop := (w = 0 → s = t) ∧ (w = 1 → k < 3 → av_v s k = av_v t k) ∧ (w = 2 → (k / 4 = 3 ∨ k % 4 = 3) → av_d s k ≤ av_d t k) ∧ (w = 3 → av_d s k ≤ av_d t k)
theorem av_T_rf (w k s : Nat) : av_T w k s s := ⟨fun _ => rfl, fun _ _ => rfl, fun _ _ => Int32.le_refl _, fun _ => Int32.le_refl _⟩
theorem av_T_tr {w k r s t : Nat} (h : av_T w k r s) (g : av_T w k s t) : av_T w k r t :=
  ⟨fun e => (h.1 e).trans (g.1 e), fun e l => (h.2.1 e l).trans (g.2.1 e l), fun e l => Int32.le_trans (h.2.2.1 e l) (g.2.2.1 e l), fun e => Int32.le_trans (h.2.2.2 e) (g.2.2.2 e)⟩
/-- s is in the hull of A -/
def av_H (w : Nat) (A : Nat → Prop) (s : Nat) : Prop := ∀ k, k < 16 → ∃ t, t < 512 ∧ A t ∧ av_T w k s t
theorem av_H_rf {w : Nat} {A : Nat → Prop} {s : Nat} (hs : s < 512) (h : A s) : av_H w A s := fun k _ => ⟨s, hs, h, av_T_rf w k s⟩
theorem av_H_mo {w : Nat} {A B : Nat → Prop} {s : Nat} (h : ∀ t, t < 512 → A t → B t) (g : av_H w A s) : av_H w B s := fun k hk => by
  obtain ⟨t, ht, ha, e⟩ := g k hk
  exact ⟨t, ht, h t ht ha, e⟩
theorem av_H_tr {w : Nat} {A B : Nat → Prop} {s : Nat} (h : ∀ t, t < 512 → B t → av_H w A t) (g : av_H w B s) : av_H w A s := fun k hk => by
  obtain ⟨t, ht, hb, e⟩ := g k hk
  obtain ⟨r, hr, ha, e2⟩ := h t ht hb k hk
  exact ⟨r, hr, ha, av_T_tr e e2⟩
theorem av_H_0 {A : Nat → Prop} {s : Nat} (g : av_H 0 A s) : A s := by
  obtain ⟨t, _, ha, e⟩ := g 0 (by decide)
  rw [e.1 rfl]
  exact ha
theorem av_H_ne {w : Nat} {A : Nat → Prop} {s : Nat} (g : av_H w A s) : ∃ t, t < 512 ∧ A t := by
  obtain ⟨t, ht, ha, _⟩ := g 0 (by decide)
  exact ⟨t, ht, ha⟩
/-- a family of forms that is closed under the steps G and under the hull -/
def av_C (w : Nat) (G : Nat → Nat → Nat → Nat → Prop) (F : Nat → Nat → Prop) : Prop := F 0 0 ∧ (∀ p s q t, p < 21 → s < 512 → F p s → G p s q t → F q t) ∧ (∀ p s, p < 21 → s < 512 → av_H w (F p) s → F p s)
/-- the least one -/
def av_L (w : Nat) (G : Nat → Nat → Nat → Nat → Prop) (p s : Nat) : Prop := ∀ F : Nat → Nat → Prop, av_C w G F → F p s
theorem av_L_0 {w : Nat} {G : Nat → Nat → Nat → Nat → Prop} : av_L w G 0 0 := fun _ h => h.1
theorem av_L_G {w : Nat} {G : Nat → Nat → Nat → Nat → Prop} {p s q t : Nat} (hp : p < 21) (hs : s < 512) (h : av_L w G p s) (g : G p s q t) : av_L w G q t := fun F c => c.2.1 p s q t hp hs (h F c) g
theorem av_L_H {w : Nat} {G : Nat → Nat → Nat → Nat → Prop} {p s : Nat} (hp : p < 21) (hs : s < 512) (h : av_H w (av_L w G p) s) : av_L w G p s := fun F c => c.2.2 p s hp hs (av_H_mo (fun _ _ ht => ht F c) h)
/-! ===== cells ===== -/
def av_F (f : Nat → Int32) (w p s : Nat) : Prop := ¬ f (10752 * w + 512 * p + s) = 0
def av_B (f : Nat → Int32) : Prop := ∀ j, f j = 0 ∨ f j = 1
def av_R (w : Nat) (G : Nat → Nat → Nat → Nat → Prop) (f : Nat → Int32) : Prop := ∀ p s, p < 21 → s < 512 → (av_F f w p s ↔ av_L w G p s)
/-- alike outside of way w -/
def av_E (w : Nat) (f g : Nat → Int32) : Prop := ∀ j, (j < 10752 * w ∨ 10752 * w + 10752 ≤ j) → g j = f j
theorem av_E_rf (w : Nat) (f : Nat → Int32) : av_E w f f := fun _ _ => rfl
theorem av_E_tr {w : Nat} {f g h : Nat → Int32} (a : av_E w f g) (b : av_E w g h) : av_E w f h := fun j hj => (b j hj).trans (a j hj)
theorem av_E_u {w p s : Nat} {f : Nat → Int32} {x : Int32} (hp : p < 21) (hs : s < 512) : av_E w f (upd f (10752 * w + 512 * p + s) x) := fun j hj => pk_un (by omega)
theorem av_R_E {w v : Nat} {G : Nat → Nat → Nat → Nat → Prop} {f g : Nat → Int32} (h : v ≠ w) (e : av_E w f g) (r : av_R v G f) : av_R v G g := by
  intro p s hp hs
  have e1 : g (10752 * v + 512 * p + s) = f (10752 * v + 512 * p + s) := e _ (by omega)
  have r1 := r p s hp hs
  unfold av_F at r1 ⊢
  rw [e1]
  exact r1
theorem av_B_u {f : Nat → Int32} {k : Nat} (h : av_B f) : av_B (upd f k 1) := by
  intro j
  by_cases e : j = k
  · subst e
    exact Or.inr pk_us
  · rw [pk_un e]
    exact h j
theorem av_F_u {f : Nat → Int32} {w p s q t : Nat} {x : Int32} (hs : s < 512) (ht : t < 512) (hx : ¬ x = 0) : av_F (upd f (10752 * w + 512 * p + s) x) w q t ↔ (av_F f w q t ∨ (q = p ∧ t = s)) := by
  unfold av_F
  by_cases e : 10752 * w + 512 * q + t = 10752 * w + 512 * p + s
  · rw [e, pk_us]
    exact ⟨fun _ => Or.inr (by omega), fun _ => hx⟩
  · rw [pk_un e]
    exact ⟨fun h => Or.inl h, fun h => h.elim id (fun g => absurd (by omega) e)⟩
theorem av_R_eq {w : Nat} {G : Nat → Nat → Nat → Nat → Prop} {f g : Nat → Int32} (hf : av_B f) (hg : av_B g) (r : av_R w G f) (r' : av_R w G g) : ∀ j, j < 10752 → f (10752 * w + j) = g (10752 * w + j) := by
  intro j hj
  have a := (r (j / 512) (j % 512) (by omega) (by omega)).trans (r' (j / 512) (j % 512) (by omega) (by omega)).symm
  unfold av_F at a
  have e : 10752 * w + 512 * (j / 512) + j % 512 = 10752 * w + j := by omega
  rw [e] at a
  rcases hf (10752 * w + j) with h1 | h1 <;> rcases hg (10752 * w + j) with h2 | h2
  · rw [h1, h2]
  · rw [h1, h2] at a
    exact absurd rfl (a.mpr (by decide))
  · rw [h1, h2] at a
    exact absurd rfl (a.mp (by decide))
  · rw [h1, h2]
/-! ===== how many cells are set ===== -/
def av_n (f : Nat → Int32) (o : Nat) : Nat → Nat
  | 0 => 0
  | N + 1 => av_n f o N + (if f (o + N) = 0 then 0 else 1)
theorem av_n_s (f : Nat → Int32) (o N : Nat) : av_n f o (N + 1) = av_n f o N + (if f (o + N) = 0 then 0 else 1) := rfl
theorem av_n_le (f : Nat → Int32) (o : Nat) : ∀ N, av_n f o N ≤ N := by
  intro N
  induction N with
  | zero => exact Nat.le_refl _
  | succ N ih =>
    rw [av_n_s]
    split <;> omega
theorem av_n_cg {f g : Nat → Int32} {o : Nat} : ∀ N, (∀ j, j < N → f (o + j) = g (o + j)) → av_n f o N = av_n g o N := by
  intro N
  induction N with
  | zero => exact fun _ => rfl
  | succ N ih =>
    intro h
    rw [av_n_s, av_n_s, ih (fun j hj => h j (by omega)), h N (by omega)]
theorem av_n_0 {f : Nat → Int32} {o : Nat} : ∀ N, (∀ j, j < N → f (o + j) = 0) → av_n f o N = 0 := by
  intro N
  induction N with
  | zero => exact fun _ => rfl
  | succ N ih =>
    intro h
    rw [av_n_s, ih (fun j hj => h j (by omega)), if_pos (h N (by omega))]
theorem av_n_z {f : Nat → Int32} {o : Nat} : ∀ N, av_n f o N = 0 → ∀ j, j < N → f (o + j) = 0 := by
  intro N
  induction N with
  | zero => exact fun _ j hj => absurd hj (by omega)
  | succ N ih =>
    intro h j hj
    rw [av_n_s] at h
    by_cases e : j = N
    · subst e
      by_cases z : f (o + j) = 0
      · exact z
      · rw [if_neg z] at h
        omega
    · exact ih (by omega) j (by omega)
theorem av_n_lt {f : Nat → Int32} {o k : Nat} : ∀ N, k < N → f (o + k) = 0 → av_n f o N < N := by
  intro N
  induction N with
  | zero => exact fun h _ => absurd h (by omega)
  | succ N ih =>
    intro h z
    rw [av_n_s]
    by_cases e : k = N
    · subst e
      rw [if_pos z]
      have := av_n_le f o k
      omega
    · have := ih (by omega) z
      split <;> omega
theorem av_n_up {f : Nat → Int32} {o k : Nat} {x : Int32} (hx : ¬ x = 0) : ∀ N, k < N → f (o + k) = 0 → av_n (upd f (o + k) x) o N = av_n f o N + 1 := by
  intro N
  induction N with
  | zero => exact fun h _ => absurd h (by omega)
  | succ N ih =>
    intro h z
    rw [av_n_s, av_n_s]
    by_cases e : k = N
    · subst e
      have e1 : av_n (upd f (o + k) x) o k = av_n f o k := av_n_cg k (fun j hj => pk_un (by omega))
      have e2 : (if upd f (o + k) x (o + k) = 0 then 0 else 1) = (1 : Nat) := by rw [pk_us, if_neg hx]
      have e3 : (if f (o + k) = 0 then 0 else 1) = (0 : Nat) := if_pos z
      rw [e1, e2, e3, Nat.add_zero]
    · rw [ih (by omega) z, pk_un (by omega)]
      exact Nat.add_right_comm _ _ _
theorem av_n_dn {f : Nat → Int32} {o k : Nat} : ∀ N, k < N → ¬ f (o + k) = 0 → av_n (upd f (o + k) 0) o N + 1 = av_n f o N := by
  intro N
  induction N with
  | zero => exact fun h _ => absurd h (by omega)
  | succ N ih =>
    intro h z
    rw [av_n_s, av_n_s]
    by_cases e : k = N
    · subst e
      have e1 : av_n (upd f (o + k) 0) o k = av_n f o k := av_n_cg k (fun j hj => pk_un (by omega))
      have e2 : (if upd f (o + k) 0 (o + k) = 0 then 0 else 1) = (0 : Nat) := by
        rw [pk_us]
        exact if_pos rfl
      have e3 : (if f (o + k) = 0 then 0 else 1) = (1 : Nat) := if_neg z
      rw [e1, e2, e3, Nat.add_zero]
    · have g := ih (by omega) z
      rw [pk_un (by omega), ← g]
      exact Nat.add_right_comm _ _ _
theorem av_n_ul {f : Nat → Int32} {o k : Nat} {x : Int32} (N : Nat) (hk : k < N) (hx : ¬ x = 0) : av_n (upd f (o + k) x) o N ≤ av_n f o N + 1 := by
  by_cases z : f (o + k) = 0
  · exact Nat.le_of_eq (av_n_up hx N hk z)
  · have e : ∀ M, av_n (upd f (o + k) x) o M = av_n f o M := by
      intro M
      induction M with
      | zero => rfl
      | succ M ih =>
        rw [av_n_s, av_n_s, ih]
        by_cases e : k = M
        · subst e
          rw [pk_us, if_neg hx, if_neg z]
        · rw [pk_un (by omega)]
    rw [e N]
    exact Nat.le_succ _
/-- the cells of way w that are set -/
def av_c (f : Nat → Int32) (w : Nat) : Nat := av_n f (10752 * w) 10752
theorem av_c_le (f : Nat → Int32) (w : Nat) : av_c f w ≤ 10752 := av_n_le _ _ _
theorem av_c_lt {f : Nat → Int32} {w p s : Nat} (hp : p < 21) (hs : s < 512) (hn : f (10752 * w + 512 * p + s) = 0) : av_c f w < 10752 :=
  av_n_lt (k := 512 * p + s) 10752 (by omega) (by rw [← Nat.add_assoc]; exact hn)
theorem av_c_up {f : Nat → Int32} {w p s : Nat} (hp : p < 21) (hs : s < 512) (hn : f (10752 * w + 512 * p + s) = 0) : av_c (upd f (10752 * w + 512 * p + s) 1) w = av_c f w + 1 := by
  rw [Nat.add_assoc (10752 * w)] at hn ⊢
  exact av_n_up (by decide) 10752 (by omega) hn
theorem av_c_0 {f : Nat → Int32} {w : Nat} (h : ∀ j, j < 10752 → f (10752 * w + j) = 0) : av_c f w = 0 := av_n_0 10752 h
/-- the places that are set -/
def av_g (g : Nat → Int32) : Nat := av_n g 0 21
theorem av_g_ul {g : Nat → Int32} {p : Nat} (hp : p < 21) : av_g (upd g p 1) ≤ av_g g + 1 := by
  have h := av_n_ul (f := g) (o := 0) (k := p) (x := 1) 21 hp (by decide)
  rw [Nat.zero_add] at h
  exact h
theorem av_g_dn {g : Nat → Int32} {p : Nat} (hp : p < 21) (hg : ¬ g p = 0) : av_g (upd g p 0) + 1 = av_g g := by
  have h := av_n_dn (f := g) (o := 0) (k := p) 21 hp (by rw [Nat.zero_add]; exact hg)
  rw [Nat.zero_add] at h
  exact h
/-! ===== runs of stores ===== -/
def av_m (o i : Nat) (g f : Nat → Int32) : Nat → Int32 := fun j => if o ≤ j ∧ j < o + i then g j else f j
theorem av_m_0 (o : Nat) (g f : Nat → Int32) : av_m o 0 g f = f := funext fun j => if_neg (by omega)
theorem av_m_s (o i : Nat) (g f : Nat → Int32) : upd (av_m o i g f) (o + i) (g (o + i)) = av_m o (i + 1) g f := by
  funext j
  by_cases e : j = o + i
  · subst e
    rw [pk_us]
    exact (if_pos (by omega)).symm
  · rw [pk_un e]
    unfold av_m
    by_cases h : o ≤ j ∧ j < o + i
    · rw [if_pos h, if_pos (by omega)]
    · rw [if_neg h, if_neg (by omega)]
theorem av_m_in {o i j : Nat} {g f : Nat → Int32} (h : o ≤ j) (h2 : j < o + i) : av_m o i g f j = g j := if_pos ⟨h, h2⟩
theorem av_m_out {o i j : Nat} {g f : Nat → Int32} (h : j < o ∨ o + i ≤ j) : av_m o i g f j = f j := if_neg (by omega)
/-! ===== statements ===== -/
def av_ok (o a b c : Int32) : Prop :=
  (o = 0 ∧ (∃ i, i < 3 ∧ a = nI i) ∧ (∃ x, x < 8 ∧ c = nI x)) ∨
  (o = 1 ∧ (∃ i, i < 3 ∧ a = nI i) ∧ (∃ j, j < 4 ∧ b = nI j) ∧ -7 ≤ c ∧ c ≤ 7) ∨
  (o = 2 ∧ (∃ i, i < 3 ∧ a = nI i)) ∨
  (o = 3 ∧ (∃ i, i < 4 ∧ a = nI i) ∧ (∃ j, j < 4 ∧ b = nI j) ∧ ¬ a = b ∧ -7 ≤ c ∧ c ≤ 7) ∨
  (o = 4 ∧ (∃ x, x < 21 ∧ c = nI x)) ∨
  (o = 5 ∧ (∃ x, x < 21 ∧ c = nI x)) ∨
  o = 6
/-- how many outcomes a statement has, and the spot 512 * q + t of the k-th -/
def av_oc (o : Int32) : Nat := if o = 2 then 8 else if o = 5 then 2 else if o = 6 then 0 else 1
def av_out (o a b c : Int32) (p s k : Nat) : Option Nat :=
  if o = 0 then some (512 * (p + 1) + av_w s a.toNatClampNeg c.toNatClampNeg)
  else if o = 1 then (if 0 ≤ nI (av_v s b.toNatClampNeg) + c ∧ nI (av_v s b.toNatClampNeg) + c ≤ 7 then some (512 * (p + 1) + av_w s a.toNatClampNeg (nI (av_v s b.toNatClampNeg) + c).toNatClampNeg) else none)
  else if o = 2 then some (512 * (p + 1) + av_w s a.toNatClampNeg k)
  else if o = 3 then (if nI (av_v s a.toNatClampNeg) ≤ nI (av_v s b.toNatClampNeg) + c then some (512 * (p + 1) + s) else none)
  else if o = 4 then some (512 * c.toNatClampNeg + s)
  else if o = 5 then (if k = 0 then some (512 * (p + 1) + s) else some (512 * c.toNatClampNeg + s))
  else none
theorem av_out_0 (a b c : Int32) (p s k : Nat) : av_out 0 a b c p s k = some (512 * (p + 1) + av_w s a.toNatClampNeg c.toNatClampNeg) := if_pos rfl
theorem av_out_1 (a b c : Int32) (p s k : Nat) : av_out 1 a b c p s k = (if 0 ≤ nI (av_v s b.toNatClampNeg) + c ∧ nI (av_v s b.toNatClampNeg) + c ≤ 7 then some (512 * (p + 1) + av_w s a.toNatClampNeg (nI (av_v s b.toNatClampNeg) + c).toNatClampNeg) else none) :=
  (if_neg (by decide)).trans (if_pos rfl)
theorem av_out_2 (a b c : Int32) (p s k : Nat) : av_out 2 a b c p s k = some (512 * (p + 1) + av_w s a.toNatClampNeg k) :=
  (if_neg (by decide)).trans ((if_neg (by decide)).trans (if_pos rfl))
theorem av_out_3 (a b c : Int32) (p s k : Nat) : av_out 3 a b c p s k = (if nI (av_v s a.toNatClampNeg) ≤ nI (av_v s b.toNatClampNeg) + c then some (512 * (p + 1) + s) else none) :=
  (if_neg (by decide)).trans ((if_neg (by decide)).trans ((if_neg (by decide)).trans (if_pos rfl)))
theorem av_out_4 (a b c : Int32) (p s k : Nat) : av_out 4 a b c p s k = some (512 * c.toNatClampNeg + s) :=
  (if_neg (by decide)).trans ((if_neg (by decide)).trans ((if_neg (by decide)).trans ((if_neg (by decide)).trans (if_pos rfl))))
theorem av_out_5 (a b c : Int32) (p s k : Nat) : av_out 5 a b c p s k = (if k = 0 then some (512 * (p + 1) + s) else some (512 * c.toNatClampNeg + s)) :=
  (if_neg (by decide)).trans ((if_neg (by decide)).trans ((if_neg (by decide)).trans ((if_neg (by decide)).trans ((if_neg (by decide)).trans (if_pos rfl)))))
theorem av_out_6 (a b c : Int32) (p s k : Nat) : av_out 6 a b c p s k = none :=
  (if_neg (by decide)).trans ((if_neg (by decide)).trans ((if_neg (by decide)).trans ((if_neg (by decide)).trans ((if_neg (by decide)).trans (if_neg (by decide))))))
def av_P (n : Nat) (o a b c : Nat → Int32) (p s q t : Nat) : Prop := p < n ∧ q < 21 ∧ t < 512 ∧ ∃ k, k < av_oc (o p) ∧ av_out (o p) (a p) (b p) (c p) p s k = some (512 * q + t)
theorem av_nI_inj {a b : Nat} (ha : a < 2 ^ 31) (hb : b < 2 ^ 31) (h : nI a = nI b) : a = b := (nI_eq ha hb).mp h
/-- an int between 0 and 7, between 0 and 3 and the like -/
theorem av_le7 {x : Int32} (h0 : 0 ≤ x) (h7 : x ≤ 7) : ∃ j : Nat, j < 8 ∧ x = nI j := by
  obtain ⟨j, hj, e⟩ := nI_of2 (x := x) (M := 7) (n := 7) (by decide) (Int32.not_lt.mpr h0) h7
  exact ⟨j, by omega, e⟩
theorem av_out_in {o a b c : Int32} {p s k z : Nat} (hok : av_ok o a b c) (hp : p < 20) (hs : s < 512) (hk : k < av_oc o) (h : av_out o a b c p s k = some z) : ∃ q t, q < 21 ∧ t < 512 ∧ z = 512 * q + t := by
  rcases hok with ⟨rfl, ⟨i, hi, rfl⟩, ⟨x, hx, rfl⟩⟩ | ⟨rfl, _⟩ | ⟨rfl, _⟩ | ⟨rfl, _⟩ | ⟨rfl, ⟨x, hx, rfl⟩⟩ | ⟨rfl, ⟨x, hx, rfl⟩⟩ | rfl
  · rw [av_out_0, nI_clamp (n := x) (by omega)] at h
    exact ⟨p + 1, _, by omega, av_w_lt hs hx, (Option.some.inj h).symm⟩
  · rw [av_out_1] at h
    by_cases g : 0 ≤ nI (av_v s b.toNatClampNeg) + c ∧ nI (av_v s b.toNatClampNeg) + c ≤ 7
    · rw [if_pos g] at h
      obtain ⟨j, hj, e⟩ := av_le7 g.1 g.2
      rw [e, nI_clamp (by omega)] at h
      exact ⟨p + 1, _, by omega, av_w_lt hs hj, (Option.some.inj h).symm⟩
    · rw [if_neg g] at h
      exact nomatch h
  · rw [av_out_2] at h
    have hk2 : k < 8 := hk
    exact ⟨p + 1, _, by omega, av_w_lt hs hk2, (Option.some.inj h).symm⟩
  · rw [av_out_3] at h
    by_cases g : nI (av_v s a.toNatClampNeg) ≤ nI (av_v s b.toNatClampNeg) + c
    · rw [if_pos g] at h
      exact ⟨p + 1, s, by omega, hs, (Option.some.inj h).symm⟩
    · rw [if_neg g] at h
      exact nomatch h
  · rw [av_out_4, nI_clamp (by omega)] at h
    exact ⟨x, s, hx, hs, (Option.some.inj h).symm⟩
  · rw [av_out_5, nI_clamp (by omega)] at h
    by_cases g : k = 0
    · rw [if_pos g] at h
      exact ⟨p + 1, s, by omega, hs, (Option.some.inj h).symm⟩
    · rw [if_neg g] at h
      exact ⟨x, s, hx, hs, (Option.some.inj h).symm⟩
  · rw [av_out_6] at h
    exact nomatch h
/-- a loop that stores a run -/
theorem av_run {o e : Nat} {g f : Nat → Int32} (W : Nat → Nat → (Nat → Int32) → Prop) (hx : ∀ n, W (n + 1) e (av_m o e g f)) (hs : ∀ n i, i < e → W n (i + 1) (av_m o (i + 1) g f) → W (n + 1) i (av_m o i g f)) : ∃ n, W n 0 f :=
  loop_0 W (fun i s => s = av_m o i g f) e f (av_m_0 o g f).symm (fun n s h => by rw [h]; exact hx n) (fun n i s hi h k => by rw [h]; exact hs n i hi (k _ rfl))
end
section
/-! ===== bits of small sets, values and differences as ints ===== -/
theorem av_b1 : ∀ x, x < 8 → ∀ i, i < 32 → bt ((1 : Int32) <<< (nI x &&& 31)) i = decide (i = x) := by decide +kernel
theorem av_b1' : ∀ i, i < 32 → bt 1 i = decide (i = 0) := by decide +kernel
theorem av_bor {h : Int32} {x i : Nat} (hx : x < 8) (hi : i < 32) : bt (h ||| ((1 : Int32) <<< (nI x &&& 31))) i = (bt h i || decide (i = x)) := by
  rw [b_or, av_b1 x hx i hi]
theorem av_band {h : Int32} {x : Nat} (hx : x < 8) : (h &&& ((1 : Int32) <<< (nI x &&& 31))) = 0 ↔ bt h x = false := by
  constructor
  · intro e
    have e2 : bt (h &&& ((1 : Int32) <<< (nI x &&& 31))) x = bt 0 x := by rw [e]
    rw [b_and, av_b1 x hx x (by omega), b_0, decide_eq_true rfl, Bool.and_true] at e2
    exact e2
  · intro e
    apply b_ext
    intro i hi
    rw [b_and, av_b1 x hx i hi, b_0]
    by_cases z : i = x
    · rw [z, e, Bool.false_and]
    · rw [decide_eq_false z, Bool.and_false]
theorem av_bx {h : Int32} {x : Nat} (hx : x < 8) : ((h >>> (nI x &&& 31)) &&& 1) = if bt h x = true then 1 else 0 := by
  apply b_ext
  intro i hi
  rw [b_and, b_sshr x (by omega) h hi, av_b1' i hi]
  by_cases e : i = 0
  · subst e
    rw [if_pos (by omega), Nat.add_zero, decide_eq_true rfl, Bool.and_true]
    cases hb : bt h x
    · rw [if_neg (by decide), b_0]
    · rw [if_pos rfl]
      decide
  · rw [decide_eq_false e, Bool.and_false]
    cases hb : bt h x
    · rw [if_neg (by decide), b_0]
    · rw [if_pos rfl, av_b1' i hi, decide_eq_false e]
theorem av_bx1 {h : Int32} {x : Nat} (hx : x < 8) : ((h >>> (nI x &&& 31)) &&& 1) = 1 ↔ bt h x = true := by
  rw [av_bx hx]
  cases bt h x
  · decide
  · decide
theorem av_bx0 {h : Int32} {x : Nat} (hx : x < 8) : ((h >>> (nI x &&& 31)) &&& 1) = 0 ↔ bt h x = false := by
  rw [av_bx hx]
  cases bt h x
  · decide
  · decide
theorem av_val : ∀ v, v < 4 → ∀ s, s < 512 → (nI s >>> ((3 * nI v) &&& 31)) &&& 7 = nI (av_v s v) := by decide +kernel
theorem av_wth : ∀ v, v < 3 → ∀ x, x < 8 → ∀ s, s < 512 → (nI s &&& ((7 <<< ((3 * nI v) &&& 31)) ^^^ (-1))) ||| (nI x <<< ((3 * nI v) &&& 31)) = nI (av_w s v x) := by decide +kernel
theorem av_hi : ∀ a, a < 8 → ∀ b, b < 8 → ((nI a - nI 0 ≤ nI b - nI 0 ↔ a ≤ b) ∧ (nI 0 - nI a ≤ nI 0 - nI b ↔ b ≤ a)) := by decide +kernel
theorem av_neg : ∀ a, a < 8 → -(nI 0 - nI a) = nI a ∧ nI a - nI 0 = nI a := by decide +kernel
theorem av_c7 : ∀ x : Nat, x < 8 → nI x &&& 7 = nI x := by decide +kernel
end
section
/-! ===== the component's working out, without the print ===== -/
def av_XQ (w : Nat) (G : Nat → Nat → Nat → Nat → Prop) (f q : Nat → Int32) (m : Nat) : Prop :=
  av_B f ∧ (∀ p s, p < 21 → s < 512 → av_F f w p s → av_L w G p s) ∧ m = av_c f w ∧
  (∀ j, j < m → ∃ p s, p < 21 ∧ s < 512 ∧ q j = nI (512 * p + s) ∧ av_F f w p s) ∧
  (∀ p s, p < 21 → s < 512 → av_F f w p s → ∃ j, j < m ∧ q j = nI (512 * p + s))
theorem av_XQ_le {w : Nat} {G : Nat → Nat → Nat → Nat → Prop} {f q : Nat → Int32} {m : Nat} (h : av_XQ w G f q m) : m ≤ 10752 := by
  rw [h.2.2.1]
  exact av_c_le _ _
/-- what grows -/
def av_XG (w : Nat) (f q : Nat → Int32) (m : Nat) (f' q' : Nat → Int32) (m' : Nat) : Prop :=
  (∀ j, ¬ f j = 0 → ¬ f' j = 0) ∧ (∀ j, j < m → q' j = q j) ∧ m ≤ m' ∧ av_E w f f'
theorem av_XG_rf (w : Nat) (f q : Nat → Int32) (m : Nat) : av_XG w f q m f q m := ⟨fun _ h => h, fun _ _ => rfl, Nat.le_refl _, av_E_rf w f⟩
theorem av_XG_tr {w : Nat} {f q f1 q1 f2 q2 : Nat → Int32} {m m1 m2 : Nat} (a : av_XG w f q m f1 q1 m1) (b : av_XG w f1 q1 m1 f2 q2 m2) : av_XG w f q m f2 q2 m2 :=
  ⟨fun j h => b.1 j (a.1 j h), fun j h => (b.2.1 j (Nat.lt_of_lt_of_le h a.2.2.1)).trans (a.2.1 j h), Nat.le_trans a.2.2.1 b.2.2.1, av_E_tr a.2.2.2 b.2.2.2⟩
theorem av_up1 {f : Nat → Int32} {k : Nat} : ∀ j, ¬ f j = 0 → ¬ upd f k 1 j = 0 := by
  intro j h
  by_cases e : j = k
  · rw [e, pk_us]
    decide
  · rw [pk_un e]
    exact h
theorem av_XQ_add {w : Nat} {G : Nat → Nat → Nat → Nat → Prop} {f q : Nat → Int32} {m p s : Nat} (h : av_XQ w G f q m) (hp : p < 21) (hs : s < 512) (hn : f (10752 * w + 512 * p + s) = 0) (hl : av_L w G p s) :
    m < 10752 ∧ av_XQ w G (upd f (10752 * w + 512 * p + s) 1) (upd q m (nI (512 * p + s))) (m + 1) ∧ av_XG w f q m (upd f (10752 * w + 512 * p + s) 1) (upd q m (nI (512 * p + s))) (m + 1) := by
  obtain ⟨hb, hL, hm, h1, h2⟩ := h
  have hlt : m < 10752 := by
    rw [hm]
    exact av_c_lt hp hs hn
  refine ⟨hlt, ⟨av_B_u hb, ?_, ?_, ?_, ?_⟩, av_up1, fun j hj => pk_un (by omega), by omega, av_E_u hp hs⟩
  · intro q' t hq ht hF
    rcases (av_F_u hs ht (by decide)).mp hF with g | ⟨e1, e2⟩
    · exact hL q' t hq ht g
    · rw [e1, e2]
      exact hl
  · rw [hm, av_c_up hp hs hn]
  · intro j hj
    by_cases ej : j = m
    · exact ⟨p, s, hp, hs, by rw [ej, pk_us], (av_F_u hs hs (by decide)).mpr (Or.inr ⟨rfl, rfl⟩)⟩
    · obtain ⟨p', s', hp', hs', eq, hF⟩ := h1 j (by omega)
      exact ⟨p', s', hp', hs', by rw [pk_un ej]; exact eq, (av_F_u hs hs' (by decide)).mpr (Or.inl hF)⟩
  · intro p' s' hp' hs' hF
    rcases (av_F_u hs hs' (by decide)).mp hF with g | ⟨e1, e2⟩
    · obtain ⟨j, hj, eq⟩ := h2 p' s' hp' hs' g
      exact ⟨j, by omega, by rw [pk_un (by omega)]; exact eq⟩
    · exact ⟨m, by omega, by rw [pk_us, e1, e2]⟩
def av_XV (w : Nat) (G : Nat → Nat → Nat → Nat → Prop) (vs bd : Nat → Int32) : Prop :=
  (∀ p v x, p < 21 → v < 3 → x < 8 → bt (vs (3 * p + v)) x = true → ∃ t, t < 512 ∧ av_L w G p t ∧ av_v t v = x) ∧
  (∀ p k, p < 21 → k < 16 → bd (16 * p + k) = -8 ∨ ∃ t, t < 512 ∧ av_L w G p t ∧ bd (16 * p + k) = av_d t k)
def av_IX (w : Nat) (vs bd : Nat → Int32) (p s : Nat) : Prop :=
  (w = 1 → ∀ v, v < 3 → bt (vs (3 * p + v)) (av_v s v) = true) ∧
  (w = 2 → ∀ k, k < 16 → (k / 4 = 3 ∨ k % 4 = 3) → av_d s k ≤ bd (16 * p + k)) ∧
  (w = 3 → ∀ k, k < 16 → av_d s k ≤ bd (16 * p + k))
def av_W (w : Nat) : Prop := w = 1 ∨ w = 2 ∨ w = 3
theorem av_XV_b {w : Nat} {G : Nat → Nat → Nat → Nat → Prop} {vs bd : Nat → Int32} {p k s : Nat} (hV : av_XV w G vs bd) (hp : p < 21) (hk : k < 16) (h : av_d s k ≤ bd (16 * p + k)) : ∃ t, t < 512 ∧ av_L w G p t ∧ av_d s k ≤ av_d t k := by
  rcases hV.2 p k hp hk with e | ⟨t, ht, hl, e⟩
  · rw [e] at h
    exact absurd h (av_lt_ne (av_d_8 s k))
  · exact ⟨t, ht, hl, by rw [← e]; exact h⟩
theorem av_IX_L {w : Nat} {G : Nat → Nat → Nat → Nat → Prop} {vs bd : Nat → Int32} {p s : Nat} (hw : av_W w) (hV : av_XV w G vs bd) (hp : p < 21) (hs : s < 512) (h : av_IX w vs bd p s) : av_L w G p s := by
  refine av_L_H hp hs (fun k hk => ?_)
  rcases hw with rfl | rfl | rfl
  · by_cases h3 : k < 3
    · obtain ⟨t, ht, hl, e⟩ := hV.1 p k _ hp h3 (av_v_lt s k) (h.1 rfl k h3)
      exact ⟨t, ht, hl, fun z => absurd z (by decide), fun _ _ => e.symm, fun z => absurd z (by decide), fun z => absurd z (by decide)⟩
    · obtain ⟨t, ht, hl, e⟩ := hV.1 p 0 _ hp (by decide) (av_v_lt s 0) (h.1 rfl 0 (by decide))
      exact ⟨t, ht, hl, fun z => absurd z (by decide), fun _ z => absurd z h3, fun z => absurd z (by decide), fun z => absurd z (by decide)⟩
  · by_cases h3 : k / 4 = 3 ∨ k % 4 = 3
    · obtain ⟨t, ht, hl, e⟩ := av_XV_b hV hp hk (h.2.1 rfl k hk h3)
      exact ⟨t, ht, hl, fun z => absurd z (by decide), fun z => absurd z (by decide), fun _ _ => e, fun z => absurd z (by decide)⟩
    · obtain ⟨t, ht, hl, e⟩ := av_XV_b (k := 15) hV hp (by decide) (h.2.1 rfl 15 (by decide) (Or.inl rfl))
      exact ⟨t, ht, hl, fun z => absurd z (by decide), fun z => absurd z (by decide), fun _ z => absurd z h3, fun z => absurd z (by decide)⟩
  · obtain ⟨t, ht, hl, e⟩ := av_XV_b hV hp hk (h.2.2 rfl k hk)
    exact ⟨t, ht, hl, fun z => absurd z (by decide), fun z => absurd z (by decide), fun z => absurd z (by decide), fun _ => e⟩
theorem av_IX_H {w : Nat} {vs bd : Nat → Int32} {p s : Nat} {A : Nat → Prop} (hF : ∀ t, t < 512 → A t → av_IX w vs bd p t) (h : av_H w A s) : av_IX w vs bd p s := by
  refine ⟨fun e v hv => ?_, fun e k hk h3 => ?_, fun e k hk => ?_⟩
  · obtain ⟨t, ht, ha, g⟩ := h v (by omega)
    rw [g.2.1 e hv]
    exact (hF t ht ha).1 e v hv
  · obtain ⟨t, ht, ha, g⟩ := h k hk
    exact Int32.le_trans (g.2.2.1 e h3) ((hF t ht ha).2.1 e k hk h3)
  · obtain ⟨t, ht, ha, g⟩ := h k hk
    exact Int32.le_trans (g.2.2.2 e) ((hF t ht ha).2.2 e k hk)
/-! ===== widening ===== -/
def av_wv (p s : Nat) (vs : Nat → Int32) : Nat → Int32 := fun j => vs j ||| ((1 : Int32) <<< (nI (av_v s (j - 3 * p)) &&& 31))
def av_wb (p s : Nat) (bd : Nat → Int32) : Nat → Int32 := fun j => if bd j < av_d s (j - 16 * p) then av_d s (j - 16 * p) else bd j
theorem av_m_k {o i : Nat} {g f : Nat → Int32} (h : g (o + i) = f (o + i)) : av_m o i g f = av_m o (i + 1) g f := by
  funext j
  by_cases e : j = o + i
  · subst e
    rw [av_m_out (by omega), av_m_in (by omega) (by omega), h]
  · by_cases h2 : o ≤ j ∧ j < o + i
    · rw [av_m_in h2.1 h2.2, av_m_in h2.1 (by omega)]
    · rw [av_m_out (by omega), av_m_out (by omega)]
theorem av_wv_at (p s v : Nat) (vs : Nat → Int32) : av_wv p s vs (3 * p + v) = vs (3 * p + v) ||| ((1 : Int32) <<< (nI (av_v s v) &&& 31)) := by
  unfold av_wv
  rw [Nat.add_sub_cancel_left]
theorem av_wb_at (p s k : Nat) (bd : Nat → Int32) : av_wb p s bd (16 * p + k) = if bd (16 * p + k) < av_d s k then av_d s k else bd (16 * p + k) := by
  unfold av_wb
  rw [Nat.add_sub_cancel_left]
theorem av_wv_in {p s v : Nat} {vs : Nat → Int32} (hv : v < 3) : av_m (3 * p) 3 (av_wv p s vs) vs (3 * p + v) = vs (3 * p + v) ||| ((1 : Int32) <<< (nI (av_v s v) &&& 31)) := by
  rw [av_m_in (by omega) (by omega), av_wv_at]
theorem av_wv_out {p q s v : Nat} {vs : Nat → Int32} (hv : v < 3) (h : q ≠ p) : av_m (3 * p) 3 (av_wv p s vs) vs (3 * q + v) = vs (3 * q + v) := av_m_out (by omega)
theorem av_wb_in {p s k : Nat} {bd : Nat → Int32} (hk : k < 16) : av_m (16 * p) 16 (av_wb p s bd) bd (16 * p + k) = if bd (16 * p + k) < av_d s k then av_d s k else bd (16 * p + k) := by
  rw [av_m_in (by omega) (by omega), av_wb_at]
theorem av_wb_out {p q s k : Nat} {bd : Nat → Int32} (hk : k < 16) (h : q ≠ p) : av_m (16 * p) 16 (av_wb p s bd) bd (16 * q + k) = bd (16 * q + k) := av_m_out (by omega)
theorem av_wb_ge {p q s k : Nat} {bd : Nat → Int32} (hk : k < 16) : bd (16 * q + k) ≤ av_m (16 * p) 16 (av_wb p s bd) bd (16 * q + k) := by
  by_cases e : q = p
  · subst e
    rw [av_wb_in hk]
    split
    · rename_i h
      exact av_lt_le h
    · exact Int32.le_refl _
  · rw [av_wb_out hk e]
    exact Int32.le_refl _
theorem av_wb_s {p s k : Nat} {bd : Nat → Int32} (hk : k < 16) : av_d s k ≤ av_m (16 * p) 16 (av_wb p s bd) bd (16 * p + k) := by
  rw [av_wb_in hk]
  split
  · exact Int32.le_refl _
  · rename_i h
    exact av_le_of h
theorem av_wv_mo {p q s v x : Nat} {vs : Nat → Int32} (hv : v < 3) (hx : x < 8) (h : bt (vs (3 * q + v)) x = true) : bt (av_m (3 * p) 3 (av_wv p s vs) vs (3 * q + v)) x = true := by
  by_cases e : q = p
  · subst e
    rw [av_wv_in hv, av_bor (av_v_lt s v) (by omega), h, Bool.true_or]
  · rw [av_wv_out hv e]
    exact h
theorem av_XV_w {w : Nat} {G : Nat → Nat → Nat → Nat → Prop} {vs bd : Nat → Int32} {p s : Nat} (hV : av_XV w G vs bd) (hs : s < 512) (hl : av_L w G p s) : av_XV w G (av_m (3 * p) 3 (av_wv p s vs) vs) (av_m (16 * p) 16 (av_wb p s bd) bd) := by
  refine ⟨fun q v x hq hv hx h => ?_, fun q k hq hk => ?_⟩
  · by_cases e : q = p
    · subst e
      rw [av_wv_in hv, av_bor (av_v_lt s v) (by omega)] at h
      cases hb : bt (vs (3 * q + v)) x
      · rw [hb, Bool.false_or] at h
        exact ⟨s, hs, hl, (of_decide_eq_true h).symm⟩
      · exact hV.1 q v x hq hv hx hb
    · rw [av_wv_out hv e] at h
      exact hV.1 q v x hq hv hx h
  · by_cases e : q = p
    · subst e
      rw [av_wb_in hk]
      split
      · exact Or.inr ⟨s, hs, hl, rfl⟩
      · exact hV.2 q k hq hk
    · rw [av_wb_out hk e]
      exact hV.2 q k hq hk
theorem av_IX_mo {w : Nat} {vs bd : Nat → Int32} {p s q t : Nat} (h : av_IX w vs bd q t) : av_IX w (av_m (3 * p) 3 (av_wv p s vs) vs) (av_m (16 * p) 16 (av_wb p s bd) bd) q t :=
  ⟨fun e v hv => av_wv_mo hv (av_v_lt t v) (h.1 e v hv), fun e k hk h3 => Int32.le_trans (h.2.1 e k hk h3) (av_wb_ge hk), fun e k hk => Int32.le_trans (h.2.2 e k hk) (av_wb_ge hk)⟩
theorem av_IX_s {w : Nat} {vs bd : Nat → Int32} {p s : Nat} : av_IX w (av_m (3 * p) 3 (av_wv p s vs) vs) (av_m (16 * p) 16 (av_wb p s bd) bd) p s :=
  ⟨fun e v hv => by rw [av_wv_in hv, av_bor (av_v_lt s v) (by have := av_v_lt s v; omega), decide_eq_true rfl, Bool.or_true], fun e k hk _ => av_wb_s hk, fun e k hk => av_wb_s hk⟩
theorem av_IX_out {w : Nat} {vs bd : Nat → Int32} {p s q t : Nat} (hq : q ≠ p) (h : av_IX w (av_m (3 * p) 3 (av_wv p s vs) vs) (av_m (16 * p) 16 (av_wb p s bd) bd) q t) : av_IX w vs bd q t :=
  ⟨fun e v hv => by have g := h.1 e v hv; rw [av_wv_out hv hq] at g; exact g, fun e k hk h3 => by have g := h.2.1 e k hk h3; rw [av_wb_out hk hq] at g; exact g, fun e k hk => by have g := h.2.2 e k hk; rw [av_wb_out hk hq] at g; exact g⟩
/-- between two calls of reach -/
def av_XI (w : Nat) (G : Nat → Nat → Nat → Nat → Prop) (f q : Nat → Int32) (m : Nat) (vs bd : Nat → Int32) : Prop :=
  av_XQ w G f q m ∧ (w = 0 ∨ (av_W w ∧ av_XV w G vs bd ∧ ∀ p s, p < 21 → s < 512 → (av_F f w p s ↔ av_IX w vs bd p s)))
/-- within reach, at the place p, the states below i done -/
def av_XJ (w : Nat) (G : Nat → Nat → Nat → Nat → Prop) (p i : Nat) (vs bd f q : Nat → Int32) (m : Nat) : Prop :=
  av_XQ w G f q m ∧ (∀ q s, q < 21 → s < 512 → av_F f w q s → av_IX w vs bd q s) ∧ (∀ q s, q < 21 → s < 512 → q ≠ p → av_IX w vs bd q s → av_F f w q s) ∧ (∀ s, s < i → av_IX w vs bd p s → av_F f w p s)
theorem av_XJ_0 {w : Nat} {G : Nat → Nat → Nat → Nat → Prop} {f q vs bd : Nat → Int32} {m p s : Nat} (hw : av_W w) (h : av_XI w G f q m vs bd) (hs : s < 512) (hl : av_L w G p s) :
    av_XV w G (av_m (3 * p) 3 (av_wv p s vs) vs) (av_m (16 * p) 16 (av_wb p s bd) bd) ∧ av_XJ w G p 0 (av_m (3 * p) 3 (av_wv p s vs) vs) (av_m (16 * p) 16 (av_wb p s bd) bd) f q m := by
  obtain ⟨hQ, h0 | ⟨_, hV, hI⟩⟩ := h
  · subst h0
    rcases hw with z | z | z <;> exact absurd z (by decide)
  · exact ⟨av_XV_w hV hs hl, hQ, fun q t hq ht hF => av_IX_mo ((hI q t hq ht).mp hF), fun q t hq ht hn hx => (hI q t hq ht).mpr (av_IX_out hn hx), fun t ht => absurd ht (by omega)⟩
theorem av_XJ_skip {w : Nat} {G : Nat → Nat → Nat → Nat → Prop} {f q vs bd : Nat → Int32} {m p i : Nat} (h : av_XJ w G p i vs bd f q m) (hi : av_IX w vs bd p i → av_F f w p i) : av_XJ w G p (i + 1) vs bd f q m :=
  ⟨h.1, h.2.1, h.2.2.1, fun s hs hx => by
    by_cases e : s = i
    · subst e
      exact hi hx
    · exact h.2.2.2 s (by omega) hx⟩
theorem av_XJ_add {w : Nat} {G : Nat → Nat → Nat → Nat → Prop} {f q vs bd : Nat → Int32} {m p i : Nat} (hw : av_W w) (hV : av_XV w G vs bd) (h : av_XJ w G p i vs bd f q m) (hp : p < 21) (hi : i < 512) (hx : av_IX w vs bd p i) (hn : f (10752 * w + 512 * p + i) = 0) :
    m < 10752 ∧ av_XJ w G p (i + 1) vs bd (upd f (10752 * w + 512 * p + i) 1) (upd q m (nI (512 * p + i))) (m + 1) ∧ av_XG w f q m (upd f (10752 * w + 512 * p + i) 1) (upd q m (nI (512 * p + i))) (m + 1) := by
  obtain ⟨hQ, h1, h2, h3⟩ := h
  obtain ⟨a, b, c⟩ := av_XQ_add hQ hp hi hn (av_IX_L hw hV hp hi hx)
  refine ⟨a, ⟨b, ?_, ?_, ?_⟩, c⟩
  · intro r s hr hs hF
    rcases (av_F_u hi hs (by decide)).mp hF with g | ⟨e1, e2⟩
    · exact h1 r s hr hs g
    · rw [e1, e2]
      exact hx
  · intro r s hr hs hn2 hx2
    exact c.1 _ (h2 r s hr hs hn2 hx2)
  · intro s hs hx2
    by_cases e : s = i
    · subst e
      exact (av_F_u hi hi (by decide)).mpr (Or.inr ⟨rfl, rfl⟩)
    · exact c.1 _ (h3 s (by omega) hx2)
theorem av_XJ_end {w : Nat} {G : Nat → Nat → Nat → Nat → Prop} {f q vs bd : Nat → Int32} {m p : Nat} (hw : av_W w) (hV : av_XV w G vs bd) (h : av_XJ w G p 512 vs bd f q m) : av_XI w G f q m vs bd :=
  ⟨h.1, Or.inr ⟨hw, hV, fun r s hr hs => ⟨h.2.1 r s hr hs, fun hx => by
    by_cases e : r = p
    · subst e
      exact h.2.2.2 s hs hx
    · exact h.2.2.1 r s hr hs e hx⟩⟩⟩
theorem av_X_end {w : Nat} {G : Nat → Nat → Nat → Nat → Prop} {f q vs bd : Nat → Int32} {m : Nat} (h : av_XI w G f q m vs bd) (h0 : av_F f w 0 0) (hG : ∀ p s q t, p < 21 → s < 512 → av_F f w p s → G p s q t → av_F f w q t) : av_R w G f := by
  intro p s hp hs
  refine ⟨h.1.2.1 p s hp hs, fun l => l (av_F f w) ⟨h0, hG, fun q t hq ht hh => ?_⟩⟩
  rcases h.2 with rfl | ⟨_, _, hI⟩
  · exact av_H_0 hh
  · exact (hI q t hq ht).mpr (av_IX_H (fun r hr hF => (hI q r hq hr).mp hF) hh)
theorem av_X_0 {w : Nat} {G : Nat → Nat → Nat → Nat → Prop} {f q vs bd : Nat → Int32} (hw : w = 0 ∨ av_W w) (hb : av_B f) (hf : ∀ j, j < 10752 → f (10752 * w + j) = 0) (hv : ∀ j, j < 63 → vs j = 0) (hd : ∀ j, j < 336 → bd j = -8) : av_XI w G f q 0 vs bd := by
  have hF : ∀ p s, p < 21 → s < 512 → ¬ av_F f w p s := by
    intro p s hp hs h
    exact h (by rw [Nat.add_assoc]; exact hf _ (by omega))
  refine ⟨⟨hb, fun p s hp hs h => absurd h (hF p s hp hs), (av_c_0 hf).symm, fun j hj => absurd hj (by omega), fun p s hp hs h => absurd h (hF p s hp hs)⟩, ?_⟩
  rcases hw with h0 | hw
  · exact Or.inl h0
  · refine Or.inr ⟨hw, ⟨fun p v x hp hv2 hx h => ?_, fun p k hp hk => Or.inl (hd _ (by omega))⟩, fun p s hp hs => ⟨fun h => absurd h (hF p s hp hs), fun h => ?_⟩⟩
    · rw [hv _ (by omega), b_0] at h
      exact absurd h (by decide)
    · rcases hw with e | e | e
      · have g := h.1 e 0 (by decide)
        rw [hv _ (by omega), b_0] at g
        exact absurd g (by decide)
      · have g := h.2.1 e 15 (by decide) (Or.inl rfl)
        rw [hd _ (by omega)] at g
        exact absurd g (av_lt_ne (av_d_8 s 15))
      · have g := h.2.2 e 15 (by decide)
        rw [hd _ (by omega)] at g
        exact absurd g (av_lt_ne (av_d_8 s 15))
end
section
/-! ===== the reference's working out, without the print ===== -/
def av_YG (w : Nat) (G : Nat → Nat → Nat → Nat → Prop) (D : Nat → Prop) (f g f' g' : Nat → Int32) : Prop :=
  (∀ j, ¬ f j = 0 → ¬ f' j = 0) ∧
  (∀ p s, p < 21 → s < 512 → av_F f' w p s → av_F f w p s ∨ (D p ∧ ¬ g' p = 0 ∧ av_L w G p s)) ∧
  (∀ p, ¬ g p = 0 → ¬ g' p = 0) ∧ av_E w f f' ∧ (av_B f → av_B f') ∧
  av_g g' + av_c f w ≤ av_g g + av_c f' w
theorem av_YG_rf (w : Nat) (G : Nat → Nat → Nat → Nat → Prop) (D : Nat → Prop) (f g : Nat → Int32) : av_YG w G D f g f g :=
  ⟨fun _ h => h, fun _ _ _ _ h => Or.inl h, fun _ h => h, av_E_rf w f, id, Nat.le_refl _⟩
theorem av_YG_tr {w : Nat} {G : Nat → Nat → Nat → Nat → Prop} {D1 D2 D : Nat → Prop} {f g f1 g1 f2 g2 : Nat → Int32} (a : av_YG w G D1 f g f1 g1) (b : av_YG w G D2 f1 g1 f2 g2) (h1 : ∀ p, D1 p → D p) (h2 : ∀ p, D2 p → D p) : av_YG w G D f g f2 g2 := by
  obtain ⟨a1, a2, a3, a4, a5, a6⟩ := a
  obtain ⟨b1, b2, b3, b4, b5, b6⟩ := b
  refine ⟨fun j h => b1 j (a1 j h), fun p s hp hs h => ?_, fun p h => b3 p (a3 p h), av_E_tr a4 b4, fun h => b5 (a5 h), by omega⟩
  rcases b2 p s hp hs h with h | ⟨d, e, l⟩
  · rcases a2 p s hp hs h with h | ⟨d, e, l⟩
    · exact Or.inl h
    · exact Or.inr ⟨h1 p d, b3 p e, l⟩
  · exact Or.inr ⟨h2 p d, e, l⟩
theorem av_YG_u {w : Nat} {G : Nat → Nat → Nat → Nat → Prop} {f g : Nat → Int32} {p s : Nat} (hp : p < 21) (hs : s < 512) (hn : f (10752 * w + 512 * p + s) = 0) (hl : av_L w G p s) : av_YG w G (fun r => r = p) f g (upd f (10752 * w + 512 * p + s) 1) (upd g p 1) := by
  refine ⟨av_up1, fun r t hr ht h => ?_, av_up1, av_E_u hp hs, av_B_u, ?_⟩
  · rcases (av_F_u hs ht (by decide)).mp h with h | ⟨e1, e2⟩
    · exact Or.inl h
    · refine Or.inr ⟨e1, ?_, ?_⟩
      · rw [e1, pk_us]
        decide
      · rw [e1, e2]
        exact hl
  · rw [av_c_up hp hs hn]
    have h2 := av_g_ul (g := g) hp
    omega
def av_YL (w : Nat) (G : Nat → Nat → Nat → Nat → Prop) (f : Nat → Int32) : Prop := av_B f ∧ av_F f w 0 0 ∧ ∀ p s, p < 21 → s < 512 → av_F f w p s → av_L w G p s
def av_Yv (w : Nat) (G : Nat → Nat → Nat → Nat → Prop) (f g : Nat → Int32) (p i : Nat) : Prop := ¬ g p = 0 ∨ ∀ s q t, s < i → av_F f w p s → G p s q t → av_F f w q t
def av_Yh (w : Nat) (f : Nat → Int32) (p : Nat) : Prop := ∀ s, s < 512 → av_H w (av_F f w p) s → av_F f w p s
theorem av_YL_mo {w : Nat} {G : Nat → Nat → Nat → Nat → Prop} {D : Nat → Prop} {f g f' g' : Nat → Int32} (a : av_YG w G D f g f' g') (h : av_YL w G f) : av_YL w G f' :=
  ⟨a.2.2.2.2.1 h.1, a.1 _ h.2.1, fun p s hp hs hF => (a.2.1 p s hp hs hF).elim (h.2.2 p s hp hs) (fun z => z.2.2)⟩
theorem av_Yv_mo {w : Nat} {G : Nat → Nat → Nat → Nat → Prop} {D : Nat → Prop} {f g f' g' : Nat → Int32} {p i : Nat} (hp : p < 21) (hi : i ≤ 512) (a : av_YG w G D f g f' g') (h : av_Yv w G f g p i) : av_Yv w G f' g' p i := by
  by_cases z : g' p = 0
  · refine Or.inr (fun s q t hs hF hG => ?_)
    rcases h with h | h
    · exact absurd z (a.2.2.1 p h)
    · rcases a.2.1 p s hp (by omega) hF with hF | ⟨_, e, _⟩
      · exact a.1 _ (h s q t hs hF hG)
      · exact absurd z e
  · exact Or.inl z
theorem av_Yh_mo {w : Nat} {G : Nat → Nat → Nat → Nat → Prop} {D : Nat → Prop} {f g f' g' : Nat → Int32} {p : Nat} (hp : p < 21) (hD : ¬ D p) (a : av_YG w G D f g f' g') (h : av_Yh w f p) : av_Yh w f' p := fun s hs hh =>
  a.1 _ (h s hs (av_H_mo (fun t ht hF => (a.2.1 p t hp ht hF).elim id (fun z => absurd z.1 hD)) hh))
theorem av_Yv_s {w : Nat} {G : Nat → Nat → Nat → Nat → Prop} {f g : Nat → Int32} {p i : Nat} (h : av_Yv w G f g p i) (hi : av_F f w p i → ∀ q t, G p i q t → av_F f w q t) : av_Yv w G f g p (i + 1) := by
  rcases h with h | h
  · exact Or.inl h
  · refine Or.inr (fun s q t hs hF hG => ?_)
    by_cases e : s = i
    · subst e
      exact hi hF q t hG
    · exact h s q t (by omega) hF hG
theorem av_Y_end {w : Nat} {G : Nat → Nat → Nat → Nat → Prop} {f : Nat → Int32} (h : av_YL w G f) (hG : ∀ p s q t, p < 21 → s < 512 → av_F f w p s → G p s q t → av_F f w q t) (hh : ∀ p, p < 21 → av_Yh w f p) : av_R w G f :=
  fun p s hp hs => ⟨h.2.2 p s hp hs, fun l => l (av_F f w) ⟨h.2.1, hG, fun q t hq ht g => hh q hq t ht g⟩⟩
/-! ===== filling a place ===== -/
def av_YK (w : Nat) (G : Nat → Nat → Nat → Nat → Prop) (p i : Nat) (f g f' g' : Nat → Int32) : Prop :=
  av_YG w G (fun r => r = p) f g f' g' ∧ (∀ s, s < 512 → av_F f' w p s → av_H w (av_F f w p) s) ∧ (∀ s, s < i → av_H w (av_F f w p) s → av_F f' w p s)
theorem av_YK_0 (w : Nat) (G : Nat → Nat → Nat → Nat → Prop) (p : Nat) (f g : Nat → Int32) : av_YK w G p 0 f g f g :=
  ⟨av_YG_rf w G _ f g, fun _ hs h => av_H_rf hs h, fun _ hs => absurd hs (by omega)⟩
theorem av_YK_skip {w : Nat} {G : Nat → Nat → Nat → Nat → Prop} {p i : Nat} {f g f' g' : Nat → Int32} (h : av_YK w G p i f g f' g') (hi : av_H w (av_F f w p) i → av_F f' w p i) : av_YK w G p (i + 1) f g f' g' :=
  ⟨h.1, h.2.1, fun s hs hh => by
    by_cases e : s = i
    · subst e
      exact hi hh
    · exact h.2.2 s (by omega) hh⟩
theorem av_YK_add {w : Nat} {G : Nat → Nat → Nat → Nat → Prop} {p i : Nat} {f g f' g' : Nat → Int32} (h : av_YK w G p i f g f' g') (hL : ∀ s, s < 512 → av_F f w p s → av_L w G p s) (hp : p < 21) (hi : i < 512) (hh : av_H w (av_F f w p) i) (hn : f' (10752 * w + 512 * p + i) = 0) : av_YK w G p (i + 1) f g (upd f' (10752 * w + 512 * p + i) 1) (upd g' p 1) := by
  have a := av_YG_u (g := g') hp hi hn (av_L_H hp hi (av_H_mo hL hh))
  refine ⟨av_YG_tr h.1 a (fun _ z => z) (fun _ z => z), fun s hs hF => ?_, fun s hs hh2 => ?_⟩
  · rcases (av_F_u hi hs (by decide)).mp hF with g1 | ⟨_, e2⟩
    · exact h.2.1 s hs g1
    · rw [e2]
      exact hh
  · by_cases e : s = i
    · subst e
      exact (av_F_u hi hi (by decide)).mpr (Or.inr ⟨rfl, rfl⟩)
    · exact a.1 _ (h.2.2 s (by omega) hh2)
theorem av_YK_end {w : Nat} {G : Nat → Nat → Nat → Nat → Prop} {p : Nat} {f g f' g' : Nat → Int32} (h : av_YK w G p 512 f g f' g') : av_Yh w f' p := fun s hs hh =>
  h.2.2 s hs (av_H_tr h.2.1 hh)
/-! ===== looking at a place ===== -/
def av_LK (w : Nat) (f : Nat → Int32) (p i : Nat) (hv fr : Nat → Int32) : Prop :=
  (∀ v x, v < 3 → x < 8 → (bt (hv v) x = true ↔ ∃ s, s < i ∧ av_F f w p s ∧ av_v s v = x)) ∧
  (∀ k, k < 16 → (∀ s, s < i → av_F f w p s → av_d s k ≤ fr k) ∧ (fr k = -100 ∨ ∃ s, s < i ∧ av_F f w p s ∧ fr k = av_d s k))
theorem av_LK_0 {w : Nat} {f : Nat → Int32} {p : Nat} {hv fr : Nat → Int32} (h1 : ∀ v, v < 3 → hv v = 0) (h2 : ∀ k, k < 16 → fr k = -100) : av_LK w f p 0 hv fr := by
  refine ⟨fun v x hv2 hx => ?_, fun k hk => ⟨fun s hs => absurd hs (by omega), Or.inl (h2 k hk)⟩⟩
  rw [h1 v hv2, b_0]
  exact ⟨fun z => absurd z (by decide), fun ⟨s, hs, _⟩ => absurd hs (by omega)⟩
theorem av_LK_n {w : Nat} {f : Nat → Int32} {p i : Nat} {hv fr : Nat → Int32} (h : av_LK w f p i hv fr) (hn : ¬ av_F f w p i) : av_LK w f p (i + 1) hv fr := by
  have ne : ∀ s, s < i + 1 → av_F f w p s → s < i := fun s hs hF => by
    by_cases e : s = i
    · subst e
      exact absurd hF hn
    · omega
  refine ⟨fun v x hv2 hx => (h.1 v x hv2 hx).trans ⟨fun ⟨s, hs, hF, e⟩ => ⟨s, by omega, hF, e⟩, fun ⟨s, hs, hF, e⟩ => ⟨s, ne s hs hF, hF, e⟩⟩, fun k hk => ⟨fun s hs hF => (h.2 k hk).1 s (ne s hs hF) hF, ?_⟩⟩
  rcases (h.2 k hk).2 with e | ⟨s, hs, hF, e⟩
  · exact Or.inl e
  · exact Or.inr ⟨s, by omega, hF, e⟩
theorem av_LK_s {w : Nat} {f : Nat → Int32} {p i : Nat} {hv fr : Nat → Int32} (h : av_LK w f p i hv fr) (hF : av_F f w p i) : av_LK w f p (i + 1) (av_m 0 3 (av_wv 0 i hv) hv) (av_m 0 16 (av_wb 0 i fr) fr) := by
  refine ⟨fun v x hv2 hx => ?_, fun k hk => ?_⟩
  · have e : av_m 0 3 (av_wv 0 i hv) hv v = hv v ||| ((1 : Int32) <<< (nI (av_v i v) &&& 31)) := by
      rw [av_m_in (by omega) (by omega)]
      show hv v ||| ((1 : Int32) <<< (nI (av_v i (v - 3 * 0)) &&& 31)) = _
      rw [Nat.mul_zero, Nat.sub_zero]
    rw [e, av_bor (av_v_lt i v) (by omega)]
    constructor
    · intro g
      cases hb : bt (hv v) x
      · rw [hb, Bool.false_or] at g
        exact ⟨i, by omega, hF, (of_decide_eq_true g).symm⟩
      · obtain ⟨s, hs, hF2, e2⟩ := (h.1 v x hv2 hx).mp hb
        exact ⟨s, by omega, hF2, e2⟩
    · intro ⟨s, hs, hF2, e2⟩
      by_cases es : s = i
      · subst es
        rw [decide_eq_true e2.symm, Bool.or_true]
      · rw [(h.1 v x hv2 hx).mpr ⟨s, by omega, hF2, e2⟩, Bool.true_or]
  · have e : av_m 0 16 (av_wb 0 i fr) fr k = if fr k < av_d i k then av_d i k else fr k := by
      rw [av_m_in (by omega) (by omega)]
      show (if fr k < av_d i (k - 16 * 0) then av_d i (k - 16 * 0) else fr k) = _
      rw [Nat.mul_zero, Nat.sub_zero]
    rw [e]
    have g := h.2 k hk
    by_cases z : fr k < av_d i k
    · rw [if_pos z]
      refine ⟨fun s hs hF2 => ?_, Or.inr ⟨i, by omega, hF, rfl⟩⟩
      by_cases es : s = i
      · rw [es]
        exact Int32.le_refl _
      · exact Int32.le_trans (g.1 s (by omega) hF2) (av_lt_le z)
    · rw [if_neg z]
      refine ⟨fun s hs hF2 => ?_, ?_⟩
      · by_cases es : s = i
        · rw [es]
          exact av_le_of z
        · exact g.1 s (by omega) hF2
      · rcases g.2 with e2 | ⟨s, hs, hF2, e2⟩
        · exact Or.inl e2
        · exact Or.inr ⟨s, by omega, hF2, e2⟩
theorem av_LK_cg {w : Nat} {f f' : Nat → Int32} {p : Nat} {hv fr : Nat → Int32} (e : ∀ s, s < 512 → (av_F f w p s ↔ av_F f' w p s)) (h : av_LK w f p 512 hv fr) : av_LK w f' p 512 hv fr := by
  refine ⟨fun v x hv2 hx => (h.1 v x hv2 hx).trans ⟨fun ⟨s, hs, hF, g⟩ => ⟨s, hs, (e s hs).mp hF, g⟩, fun ⟨s, hs, hF, g⟩ => ⟨s, hs, (e s hs).mpr hF, g⟩⟩, fun k hk => ⟨fun s hs hF => (h.2 k hk).1 s hs ((e s hs).mpr hF), ?_⟩⟩
  rcases (h.2 k hk).2 with g | ⟨s, hs, hF, g⟩
  · exact Or.inl g
  · exact Or.inr ⟨s, hs, (e s hs).mp hF, g⟩
/-- the least and the greatest member of a set of bits -/
def av_Lo (h : Int32) (y : Nat) : Prop := y < 8 ∧ bt h y = true ∧ ∀ x, x < 8 → bt h x = true → y ≤ x
def av_Hi (h : Int32) (y : Nat) : Prop := y < 8 ∧ bt h y = true ∧ ∀ x, x < 8 → bt h x = true → x ≤ y
theorem av_d_v3 (s v : Nat) : av_d s (4 * v + 3) = nI (av_v s v) - nI 0 := by
  unfold av_d
  rw [show (4 * v + 3) / 4 = v from by omega, show (4 * v + 3) % 4 = 3 from by omega]
  rfl
theorem av_d_3v {s v : Nat} (h : v < 4) : av_d s (12 + v) = nI 0 - nI (av_v s v) := by
  unfold av_d
  rw [show (12 + v) / 4 = 3 from by omega, show (12 + v) % 4 = v from by omega]
  rfl
theorem av_in1 {f : Nat → Int32} {p s : Nat} {hv fr : Nat → Int32} (hK : av_LK 1 f p 512 hv fr) : av_H 1 (av_F f 1 p) s ↔ ∀ v, v < 3 → bt (hv v) (av_v s v) = true := by
  constructor
  · intro h v hv2
    obtain ⟨t, ht, hF, g⟩ := h v (by omega)
    exact (hK.1 v _ hv2 (av_v_lt s v)).mpr ⟨t, ht, hF, (g.2.1 rfl hv2).symm⟩
  · intro h k hk
    by_cases h3 : k < 3
    · obtain ⟨t, ht, hF, e⟩ := (hK.1 k _ h3 (av_v_lt s k)).mp (h k h3)
      exact ⟨t, ht, hF, fun z => absurd z (by decide), fun _ _ => e.symm, fun z => absurd z (by decide), fun z => absurd z (by decide)⟩
    · obtain ⟨t, ht, hF, e⟩ := (hK.1 0 _ (by decide) (av_v_lt s 0)).mp (h 0 (by decide))
      exact ⟨t, ht, hF, fun z => absurd z (by decide), fun _ z => absurd z h3, fun z => absurd z (by decide), fun z => absurd z (by decide)⟩
theorem av_in3 {f : Nat → Int32} {p s : Nat} {hv fr : Nat → Int32} (hK : av_LK 3 f p 512 hv fr) : av_H 3 (av_F f 3 p) s ↔ ∀ k, k < 16 → av_d s k ≤ fr k := by
  constructor
  · intro h k hk
    obtain ⟨t, ht, hF, g⟩ := h k hk
    exact Int32.le_trans (g.2.2.2 rfl) ((hK.2 k hk).1 t ht hF)
  · intro h k hk
    rcases (hK.2 k hk).2 with e | ⟨t, ht, hF, e⟩
    · have g := h k hk
      rw [e] at g
      exact absurd g (av_lt_ne (av_d_100 s k))
    · exact ⟨t, ht, hF, fun z => absurd z (by decide), fun z => absurd z (by decide), fun z => absurd z (by decide), fun _ => by rw [← e]; exact h k hk⟩
theorem av_in2 {f : Nat → Int32} {p s : Nat} {hv fr : Nat → Int32} (hK : av_LK 2 f p 512 hv fr) {lo hi : Nat → Nat} (hlo : ∀ v, v < 3 → av_Lo (hv v) (lo v)) (hhi : ∀ v, v < 3 → av_Hi (hv v) (hi v)) : av_H 2 (av_F f 2 p) s ↔ ∀ v, v < 3 → lo v ≤ av_v s v ∧ av_v s v ≤ hi v := by
  constructor
  · intro h v hv2
    obtain ⟨t, ht, hF, g⟩ := h (4 * v + 3) (by omega)
    obtain ⟨t', ht', hF', g'⟩ := h (12 + v) (by omega)
    have a := g.2.2.1 rfl (Or.inr (by omega))
    have b := g'.2.2.1 rfl (Or.inl (by omega))
    rw [av_d_v3, av_d_v3, (av_hi _ (av_v_lt s v) _ (av_v_lt t v)).1] at a
    rw [av_d_3v (by omega), av_d_3v (by omega), (av_hi _ (av_v_lt s v) _ (av_v_lt t' v)).2] at b
    have c := (hhi v hv2).2.2 _ (av_v_lt t v) ((hK.1 v _ hv2 (av_v_lt t v)).mpr ⟨t, ht, hF, rfl⟩)
    have d := (hlo v hv2).2.2 _ (av_v_lt t' v) ((hK.1 v _ hv2 (av_v_lt t' v)).mpr ⟨t', ht', hF', rfl⟩)
    omega
  · intro h k hk
    by_cases h3 : k / 4 = 3
    · obtain ⟨v, rfl⟩ : ∃ v, k = 12 + v := ⟨k - 12, by omega⟩
      by_cases hv3 : v < 3
      · obtain ⟨t, ht, hF, e⟩ := (hK.1 v _ hv3 (hlo v hv3).1).mp (hlo v hv3).2.1
        refine ⟨t, ht, hF, fun z => absurd z (by decide), fun z => absurd z (by decide), fun _ _ => ?_, fun z => absurd z (by decide)⟩
        rw [av_d_3v (by omega), av_d_3v (by omega), (av_hi _ (av_v_lt s v) _ (av_v_lt t v)).2, e]
        exact (h v hv3).1
      · obtain ⟨t, ht, hF, e⟩ := (hK.1 0 _ (by decide) (hlo 0 (by decide)).1).mp (hlo 0 (by decide)).2.1
        have ev : v = 3 := by omega
        subst ev
        refine ⟨t, ht, hF, fun z => absurd z (by decide), fun z => absurd z (by decide), fun _ _ => ?_, fun z => absurd z (by decide)⟩
        rw [av_d_3v (by omega), av_d_3v (by omega)]
        exact Int32.le_refl _
    · by_cases h4 : k % 4 = 3
      · obtain ⟨v, rfl⟩ : ∃ v, k = 4 * v + 3 := ⟨k / 4, by omega⟩
        have hv3 : v < 3 := by omega
        obtain ⟨t, ht, hF, e⟩ := (hK.1 v _ hv3 (hhi v hv3).1).mp (hhi v hv3).2.1
        refine ⟨t, ht, hF, fun z => absurd z (by decide), fun z => absurd z (by decide), fun _ _ => ?_, fun z => absurd z (by decide)⟩
        rw [av_d_v3, av_d_v3, (av_hi _ (av_v_lt s v) _ (av_v_lt t v)).1, e]
        exact (h v hv3).2
      · obtain ⟨t, ht, hF, e⟩ := (hK.1 0 _ (by decide) (hlo 0 (by decide)).1).mp (hlo 0 (by decide)).2.1
        exact ⟨t, ht, hF, fun z => absurd z (by decide), fun z => absurd z (by decide), fun _ z => absurd z (by omega), fun z => absurd z (by decide)⟩
/-! ===== the greatest difference ===== -/
def av_Gt (w : Nat) (f : Nat → Int32) (p k i : Nat) (g : Int32) : Prop :=
  (∀ s, s < i → av_F f w p s → av_d s k ≤ g) ∧ ((g = -1003 ∧ ∀ s, s < i → ¬ av_F f w p s) ∨ ∃ s, s < i ∧ av_F f w p s ∧ g = av_d s k)
theorem av_Gt_0 (w : Nat) (f : Nat → Int32) (p k : Nat) : av_Gt w f p k 0 (-1003) := ⟨fun _ h => absurd h (by omega), Or.inl ⟨rfl, fun _ h => absurd h (by omega)⟩⟩
theorem av_Gt_n {w : Nat} {f : Nat → Int32} {p k i : Nat} {g : Int32} (h : av_Gt w f p k i g) (hn : av_F f w p i → av_d i k ≤ g) : av_Gt w f p k (i + 1) g := by
  refine ⟨fun s hs hF => ?_, ?_⟩
  · by_cases e : s = i
    · subst e
      exact hn hF
    · exact h.1 s (by omega) hF
  · rcases h.2 with ⟨e, hz⟩ | ⟨s, hs, hF, e⟩
    · refine Or.inl ⟨e, fun s hs hF => ?_⟩
      by_cases e2 : s = i
      · subst e2
        have z := hn hF
        rw [e] at z
        exact absurd z (av_lt_ne (av_d_1003 s k))
      · exact hz s (by omega) hF
    · exact Or.inr ⟨s, by omega, hF, e⟩
theorem av_Gt_s {w : Nat} {f : Nat → Int32} {p k i : Nat} {g : Int32} (h : av_Gt w f p k i g) (hF : av_F f w p i) (hg : g < av_d i k) : av_Gt w f p k (i + 1) (av_d i k) := by
  refine ⟨fun s hs hF2 => ?_, Or.inr ⟨i, by omega, hF, rfl⟩⟩
  by_cases e : s = i
  · rw [e]
    exact Int32.le_refl _
  · exact Int32.le_trans (h.1 s (by omega) hF2) (av_lt_le hg)
theorem av_Gt_most {w : Nat} {f : Nat → Int32} {p k : Nat} {g : Int32} {hv fr : Nat → Int32} (h : av_Gt w f p k 512 g) (hK : av_LK w f p 512 hv fr) (hk : k < 16) (hx : ∃ s, s < 512 ∧ av_F f w p s) : g = fr k ∧ ∃ s, s < 512 ∧ av_F f w p s ∧ g = av_d s k := by
  obtain ⟨t, ht, hF⟩ := hx
  rcases h.2 with ⟨_, hz⟩ | ⟨s, hs, hFs, e⟩
  · exact absurd hF (hz t ht)
  · refine ⟨av_le_as ?_ ?_, s, hs, hFs, e⟩
    · rw [e]
      exact (hK.2 k hk).1 s hs hFs
    · rcases (hK.2 k hk).2 with e2 | ⟨r, hr, hFr, e2⟩
      · have z := (hK.2 k hk).1 t ht hF
        rw [e2] at z
        exact absurd z (av_lt_ne (av_d_100 t k))
      · rw [e2]
        exact h.1 r hr hFr
theorem av_Gt_hi {w : Nat} {f : Nat → Int32} {p v y : Nat} {g : Int32} {hv fr : Nat → Int32} (h : av_Gt w f p (4 * v + 3) 512 g) (hK : av_LK w f p 512 hv fr) (hv3 : v < 3) (hy : av_Hi (hv v) y) : g = nI y := by
  obtain ⟨t, ht, hF, et⟩ := (hK.1 v _ hv3 hy.1).mp hy.2.1
  obtain ⟨_, s, hs, hFs, e⟩ := av_Gt_most h hK (by omega) ⟨t, ht, hF⟩
  have a := h.1 t ht hF
  rw [e, av_d_v3, av_d_v3, (av_hi _ (av_v_lt t v) _ (av_v_lt s v)).1, et] at a
  have b := hy.2.2 _ (av_v_lt s v) ((hK.1 v _ hv3 (av_v_lt s v)).mpr ⟨s, hs, hFs, rfl⟩)
  rw [e, av_d_v3, (av_neg _ (av_v_lt s v)).2, show av_v s v = y from by omega]
theorem av_Gt_lo {w : Nat} {f : Nat → Int32} {p v y : Nat} {g : Int32} {hv fr : Nat → Int32} (h : av_Gt w f p (12 + v) 512 g) (hK : av_LK w f p 512 hv fr) (hv3 : v < 3) (hy : av_Lo (hv v) y) : -g = nI y := by
  obtain ⟨t, ht, hF, et⟩ := (hK.1 v _ hv3 hy.1).mp hy.2.1
  obtain ⟨_, s, hs, hFs, e⟩ := av_Gt_most h hK (by omega) ⟨t, ht, hF⟩
  have a := h.1 t ht hF
  rw [e, av_d_3v (by omega), av_d_3v (by omega), (av_hi _ (av_v_lt t v) _ (av_v_lt s v)).2, et] at a
  have b := hy.2.2 _ (av_v_lt s v) ((hK.1 v _ hv3 (av_v_lt s v)).mpr ⟨s, hs, hFs, rfl⟩)
  rw [e, av_d_3v (by omega), (av_neg _ (av_v_lt s v)).1, show av_v s v = y from by omega]
end
section
/-! ===== the component's small methods ===== -/
theorem av_m_st {o i j : Nat} {g f : Nat → Int32} {x : Int32} (hj : j = o + i) (hx : x = g (o + i)) : upd (av_m o i g f) j x = av_m o (i + 1) g f := by
  rw [hj, hx]
  exact av_m_s o i g f
theorem av_nar0 : vp_nar .boolean 0 = 0 := rfl
theorem av_nar1 : vp_nar .boolean 1 = 1 := rfl
theorem av_nb0 : narrow .boolean (.int 0) = .int 0 := rfl
theorem av_nb1 : narrow .boolean (.int 1) = .int 1 := rfl
theorem av_i3 (p i : Nat) : nI p * 3 + nI i = nI (3 * p + i) := by
  show nI p * nI 3 + nI i = _
  rw [pk_mul, nI_add]
  exact congrArg nI (by omega)
theorem av_i16 (p i : Nat) : nI p * 16 + nI i = nI (16 * p + i) := by
  show nI p * nI 16 + nI i = _
  rw [pk_mul, nI_add]
  exact congrArg nI (by omega)
theorem av_i512 (p i : Nat) : nI p * 512 + nI i = nI (512 * p + i) := by
  show nI p * nI 512 + nI i = _
  rw [pk_mul, nI_add]
  exact congrArg nI (by omega)
theorem av_ixz (w z : Nat) : nI w * 10752 + nI z = nI (10752 * w + z) := by
  show nI w * nI 10752 + nI z = _
  rw [pk_mul, nI_add]
  exact congrArg nI (by omega)
theorem av_ixw (w p s : Nat) : nI w * 10752 + nI (512 * p + s) = nI (10752 * w + 512 * p + s) := by
  rw [av_ixz, Nat.add_assoc]
theorem av_ixp (w p : Nat) : nI w * 10752 + nI p * 512 = nI (10752 * w + 512 * p) := by
  show nI w * nI 10752 + nI p * nI 512 = _
  rw [pk_mul, pk_mul, nI_add]
  exact congrArg nI (by omega)
theorem av_iyp (w p : Nat) : 10752 * nI w + 512 * nI p = nI (10752 * w + 512 * p) := by
  show nI 10752 * nI w + nI 512 * nI p = _
  rw [pk_mul, pk_mul, nI_add]
theorem av_iyw (w p s : Nat) : 10752 * nI w + 512 * nI p + nI s = nI (10752 * w + 512 * p + s) := by
  rw [av_iyp, nI_add]
theorem av_div4 {i : Nat} (h : i < 2 ^ 31) : nI i / 4 = nI (i / 4) := pk_div (d := 4) h (by decide) (by decide)
theorem av_rem4 {i : Nat} (h : i < 2 ^ 31) : nI i - nI i / 4 * 4 = nI (i % 4) := pk_rem (d := 4) h (by decide) (by decide)
theorem av_div512 {i : Nat} (h : i < 2 ^ 31) : nI i / 512 = nI (i / 512) := pk_div (d := 512) h (by decide) (by decide)
theorem av_rem512 {i : Nat} (h : i < 2 ^ 31) : nI i - nI i / 512 * 512 = nI (i % 512) := pk_rem (d := 512) h (by decide) (by decide)
theorem ax_val {post : Int32 → Prop} {x y : Int32} (s v : Nat) (hx : x = nI s) (hy : y = nI v) (hs : s < 512) (hv : v < 4) (k : post (nI (av_v s v))) : wpX_value post x y := by
  subst hx hy
  unfold wpX_value
  rw [av_val v hv s hs]
  exact k
theorem ax_with {post : Int32 → Prop} {x y z : Int32} (s v t : Nat) (hx : x = nI s) (hy : y = nI v) (hz : z = nI t) (hs : s < 512) (hv : v < 3) (ht : t < 8) (k : post (nI (av_w s v t))) : wpX_withValue post x y z := by
  subst hx hy hz
  unfold wpX_withValue
  rw [av_wth v hv t ht s hs]
  exact k
section
variable {N L M : Int32} {o a b c K f q V D : Nat → Int32}
theorem ax_drop {post : SX → Prop} (k : post (N, L, M, o, a, b, c, av_m 0 4 (fun _ => 0) K, f, q, V, D, 43008)) : wpX_dropResults post (N, L, M, o, a, b, c, K, f, q, V, D, 43008) :=
  av_run (o := 0) (e := 4) (g := fun _ => 0) (f := K) (fun n i s => wX_dropResults_2 post N L M 43008 n (nI i) o a b c s f q V D)
    (fun n => pk_le 4 4 (fun _ => k) (fun z => absurd z (by omega)))
    (fun n i hi h => pk_le 4 i (fun z => absurd z (by omega)) (fun _ => ⟨pk_in i 4 hi, nm_r (e' := av_m 0 (i + 1) (fun _ => 0) K) (by rw [nI_clamp (by omega), av_nar0]; exact av_m_st (by omega) rfl) (nm_r (nI_1 i) h)⟩))
theorem ax_clear {post : SX → Prop} {w : Nat} (hw : w < 4) (k : post (N, L, 0, o, a, b, c, K, av_m (10752 * w) 10752 (fun _ => 0) f, q, av_m 0 63 (fun _ => 0) V, av_m 0 336 (fun _ => -8) D, 43008)) : wpX_clear post (N, L, M, o, a, b, c, K, f, q, V, D, 43008) (nI w) := by
  have k3 : ∃ n, wX_clear_51 post N L M 43008 n (nI 0) o a b c K (av_m (10752 * w) 10752 (fun _ => 0) f) q (av_m 0 63 (fun _ => 0) V) D :=
    av_run (o := 0) (e := 336) (g := fun _ => -8) (f := D) (fun n i s => wX_clear_51 post N L M 43008 n (nI i) o a b c K (av_m (10752 * w) 10752 (fun _ => 0) f) q (av_m 0 63 (fun _ => 0) V) s)
      (fun n => pk_le 336 336 (fun _ => k) (fun z => absurd z (by omega)))
      (fun n i hi h => pk_le 336 i (fun z => absurd z (by omega)) (fun _ => ⟨pk_in i 336 hi, nm_r (e' := av_m 0 (i + 1) (fun _ => -8) D) (by rw [nI_clamp (by omega)]; exact av_m_st (by omega) rfl) (nm_r (nI_1 i) h)⟩))
  have k2 : ∃ n, wX_clear_30 post N L M 43008 n (nI 0) o a b c K (av_m (10752 * w) 10752 (fun _ => 0) f) q V D :=
    av_run (o := 0) (e := 63) (g := fun _ => 0) (f := V) (fun n i s => wX_clear_30 post N L M 43008 n (nI i) o a b c K (av_m (10752 * w) 10752 (fun _ => 0) f) q s D)
      (fun n => pk_le 63 63 (fun _ => k3) (fun z => absurd z (by omega)))
      (fun n i hi h => pk_le 63 i (fun z => absurd z (by omega)) (fun _ => ⟨pk_in i 63 hi, nm_r (e' := av_m 0 (i + 1) (fun _ => 0) V) (by rw [nI_clamp (by omega)]; exact av_m_st (by omega) rfl) (nm_r (nI_1 i) h)⟩))
  exact av_run (o := 10752 * w) (e := 10752) (g := fun _ => 0) (f := f) (fun n i s => wX_clear_2 post (nI w) N L M 43008 n (nI i) o a b c K s q V D)
      (fun n => pk_le 10752 10752 (fun _ => k2) (fun z => absurd z (by omega)))
      (fun n i hi h => pk_le 10752 i (fun z => absurd z (by omega)) (fun _ => ⟨pk_in (10752 * w + i) 43008 (by omega) (av_ixz w i), nm_r (e' := av_m (10752 * w) (i + 1) (fun _ => 0) f) (by rw [av_ixz, nI_clamp (by omega), av_nar0]; exact av_m_st rfl rfl) (nm_r (nI_1 i) h)⟩))
theorem ax_add {post : SX → Prop} {w p s m : Nat} (hw : w < 4) (hp : p < 21) (hs : s < 512) (hm : m < 10752) (k : post (N, L, nI (m + 1), o, a, b, c, K, upd f (10752 * w + 512 * p + s) 1, upd q m (nI (512 * p + s)), V, D, 43008)) : wpX_add post (N, L, nI m, o, a, b, c, K, f, q, V, D, 43008) (nI w) (nI (512 * p + s)) :=
  ⟨pk_in (10752 * w + 512 * p + s) 43008 (by omega) (av_ixw w p s), nm_r (e' := upd f (10752 * w + 512 * p + s) 1) (by rw [av_ixw, nI_clamp (by omega), av_nar1])
    (pk_le 10752 m (fun z => absurd z (by omega)) (fun _ => ⟨pk_in m 10752 hm, nm_r (e' := upd q m (nI (512 * p + s))) (by rw [nI_clamp (by omega)]) (nm_r (nI_1 m) k)⟩))⟩
theorem ax_widen {post : SX → Prop} {p s : Nat} (hp : p < 21) (hs : s < 512) (k : post (N, L, M, o, a, b, c, K, f, q, av_m (3 * p) 3 (av_wv p s V) V, av_m (16 * p) 16 (av_wb p s D) D, 43008)) : wpX_widen post (N, L, M, o, a, b, c, K, f, q, V, D, 43008) (nI p) (nI s) := by
  have k2 : ∃ n, wX_widen_35 post (nI p) (nI s) N L M 43008 n (nI 0) o a b c K f q (av_m (3 * p) 3 (av_wv p s V) V) D := by
    refine av_run (o := 16 * p) (e := 16) (g := av_wb p s D) (f := D) (fun n i r => wX_widen_35 post (nI p) (nI s) N L M 43008 n (nI i) o a b c K f q (av_m (3 * p) 3 (av_wv p s V) V) r) (fun n => pk_le 16 16 (fun _ => k) (fun z => absurd z (by omega))) (fun n i hi h => pk_le 16 i (fun z => absurd z (by omega)) (fun _ => ⟨by decide, ax_val s (i / 4) rfl (av_div4 (by omega)) hs (by omega) ⟨by decide, ax_val s (i % 4) rfl (av_rem4 (by omega)) hs (by omega) (nm_r (e' := av_d s i) rfl ⟨pk_in (16 * p + i) 336 (by omega) (av_i16 p i), br_c (fun z => nm_r (nI_1 i) ?_) (fun z => ⟨pk_in (16 * p + i) 336 (by omega) (av_i16 p i), nm_r (e' := av_m (16 * p) (i + 1) (av_wb p s D) D) ?_ (nm_r (nI_1 i) h)⟩)⟩)⟩⟩))
    · rw [av_i16, nI_clamp (by omega), av_m_out (by omega)] at z
      have e : av_m (16 * p) i (av_wb p s D) D = av_m (16 * p) (i + 1) (av_wb p s D) D := av_m_k (by rw [av_wb_at, if_neg (Int32.not_lt.mpr z)])
      rw [e]
      exact h
    · rw [av_i16, nI_clamp (by omega), av_m_out (by omega)] at z
      rw [av_i16, nI_clamp (by omega)]
      exact av_m_st rfl (by rw [av_wb_at, if_pos (Int32.not_le.mp z)])
  exact av_run (o := 3 * p) (e := 3) (g := av_wv p s V) (f := V) (fun n i r => wX_widen_2 post (nI p) (nI s) N L M 43008 n (nI i) o a b c K f q r D)
      (fun n => pk_le 3 3 (fun _ => k2) (fun z => absurd z (by omega)))
      (fun n i hi h => pk_le 3 i (fun z => absurd z (by omega)) (fun _ => ⟨pk_in (3 * p + i) 63 (by omega) (av_i3 p i), ax_val s i rfl rfl hs (by omega) ⟨pk_in (3 * p + i) 63 (by omega) (av_i3 p i), nm_r (e' := av_m (3 * p) (i + 1) (av_wv p s V) V) (by rw [av_i3, nI_clamp (by omega)]; exact av_m_st rfl (by rw [av_m_out (by omega), av_wv_at])) (nm_r (nI_1 i) h)⟩⟩))
theorem ax_widen2 {post : SX → Prop} {y : Int32} {p s : Nat} (hp : p < 21) (hs : s < 512) (hy : y = nI s) (k : post (N, L, M, o, a, b, c, K, f, q, av_m (3 * p) 3 (av_wv p s V) V, av_m (16 * p) 16 (av_wb p s D) D, 43008)) : wpX_widen post (N, L, M, o, a, b, c, K, f, q, V, D, 43008) (nI p) y := by
  rw [hy]
  exact ax_widen hp hs k
end
end
section
/-! ===== the component: hull, reach ===== -/
section
variable {N L M : Int32} {o a b c K f q V D : Nat → Int32}
theorem ax_inV {post : Int32 → Prop} {p s : Nat} (hp : p < 21) (hs : s < 512) (k1 : (∀ v, v < 3 → bt (V (3 * p + v)) (av_v s v) = true) → post 1) (k0 : ¬ (∀ v, v < 3 → bt (V (3 * p + v)) (av_v s v) = true) → post 0) : wpX_inValueSets post (N, L, M, o, a, b, c, K, f, q, V, D, 43008) (nI p) (nI s) := by
  refine loop_0 (σ := Unit) (fun n i _ => wX_inValueSets_2 post (nI p) (nI s) N L M o a b c K f q V D 43008 n (nI i)) (fun i _ => ∀ v, v < i → bt (V (3 * p + v)) (av_v s v) = true) 3 () (fun v hv => absurd hv (by omega)) (fun n _ h => pk_le 3 3 (fun _ => k1 h) (fun z => absurd z (by omega))) (fun n i _ hi hI hk => pk_le 3 i (fun z => absurd z (by omega)) (fun _ => ax_val s i rfl rfl hs (by omega) (nm_e ⟨pk_in (3 * p + i) 63 (by omega) (av_i3 p i), br_c (fun z => k0 (fun g => ?_)) (fun z => nm_r (nI_1 i) (hk () (fun v hv => ?_)))⟩)))
  · rw [av_i3, nI_clamp (by omega), av_band (av_v_lt s i)] at z
    rw [g i hi] at z
    exact absurd z (by decide)
  · rw [av_i3, nI_clamp (by omega), av_band (av_v_lt s i)] at z
    by_cases e : v = i
    · subst e
      cases hb : bt (V (3 * p + v)) (av_v s v)
      · exact absurd hb z
      · rfl
    · exact hI v (by omega)
theorem ax_inB1 {post J : Int32 → Prop} {x1 : Int32} {p s i : Nat} (hp : p < 21) (hs : s < 512) (hi : i < 16) (hJ : av_d s i ≤ D (16 * p + i) → J (nI (i + 1))) (h0 : ¬ av_d s i ≤ D (16 * p + i) → post 0) : wX_inBounds_39 post J x1 (nI p) (nI s) (nI i) (nI (i / 4)) (nI (i % 4)) N L M o a b c K f q V D 43008 := by
  refine br_f (by decide) (ax_val s (i / 4) rfl rfl hs (by omega) (ax_val s (i % 4) rfl rfl hs (by omega) ⟨pk_in (16 * p + i) 336 (by omega) (av_i16 p i), br_c (fun z => nm_r (nI_1 i) (hJ ?_)) (fun z => h0 ?_)⟩))
  · rw [av_i16, nI_clamp (by omega)] at z
    exact z
  · rw [av_i16, nI_clamp (by omega)] at z
    exact z
theorem ax_inB {post : Int32 → Prop} {w p s : Nat} (hw : w < 4) (hp : p < 21) (hs : s < 512) (k1 : (∀ k, k < 16 → (w = 2 → (k / 4 = 3 ∨ k % 4 = 3)) → av_d s k ≤ D (16 * p + k)) → post 1) (k0 : ¬ (∀ k, k < 16 → (w = 2 → (k / 4 = 3 ∨ k % 4 = 3)) → av_d s k ≤ D (16 * p + k)) → post 0) : wpX_inBounds post (N, L, M, o, a, b, c, K, f, q, V, D, 43008) (nI w) (nI p) (nI s) := by
  refine loop_0 (σ := Unit) (fun n i _ => wX_inBounds_3 post (nI w) (nI p) (nI s) N L M o a b c K f q V D 43008 n (nI i)) (fun i _ => ∀ k, k < i → (w = 2 → (k / 4 = 3 ∨ k % 4 = 3)) → av_d s k ≤ D (16 * p + k)) 16 () (fun v hv => absurd hv (by omega)) (fun n _ h => pk_le 16 16 (fun _ => k1 h) (fun z => absurd z (by omega))) ?_
  intro n i _ hi hI hk
  have hJ : (w = 2 → (i / 4 = 3 ∨ i % 4 = 3)) → wX_inBounds_39 post (wX_inBounds_3 post (nI w) (nI p) (nI s) N L M o a b c K f q V D 43008 n) (nI w) (nI p) (nI s) (nI i) (nI (i / 4)) (nI (i % 4)) N L M o a b c K f q V D 43008 := by
    intro h3
    refine ax_inB1 hp hs hi (fun z => hk () (fun k hk2 h4 => ?_)) (fun z => k0 (fun g => z (g i hi h3)))
    by_cases e : k = i
    · rw [e]
      exact z
    · exact hI k (by omega) h4
  have hS : ¬ (w = 2 → (i / 4 = 3 ∨ i % 4 = 3)) → wX_inBounds_44 post (wX_inBounds_3 post (nI w) (nI p) (nI s) N L M o a b c K f q V D 43008 n) (nI w) (nI p) (nI s) (nI i) (nI (i / 4)) (nI (i % 4)) 0 N L M o a b c K f q V D 43008 := by
    intro h3
    refine br_t rfl (nm_r (nI_1 i) (hk () (fun k hk2 h4 => ?_)))
    by_cases e : k = i
    · rw [e] at h4
      exact absurd h4 h3
    · exact hI k (by omega) h4
  exact pk_le 16 i (fun z => absurd z (by omega)) (fun _ => ⟨by decide, nm_r (av_div4 (by omega)) ⟨by decide, nm_r (av_rem4 (by omega)) (pk_eq w 2 (fun hw2 => pk_eq (i / 4) 3 (fun h3 => hJ (fun _ => Or.inl h3)) (fun h3 => pk_eq (i % 4) 3 (fun h4 => hJ (fun _ => Or.inr h4)) (fun h4 => hS (fun z => (z hw2).elim h3 h4)))) (fun hw2 => hJ (fun z => absurd z hw2)))⟩⟩)
theorem ax_reach {post : SX → Prop} {G : Nat → Nat → Nat → Nat → Prop} {w p s m : Nat} (hw : w < 4) (hp : p < 21) (hs : s < 512) (hI : av_XI w G f q m V D) (hl : av_L w G p s) (k : ∀ (f' q' : Nat → Int32) (m' : Nat) (V' D' : Nat → Int32), av_XI w G f' q' m' V' D' → av_XG w f q m f' q' m' → av_F f' w p s → post (N, L, nI m', o, a, b, c, K, f', q', V', D', 43008)) : wpX_reach post (N, L, nI m, o, a, b, c, K, f, q, V, D, 43008) (nI w) (nI (512 * p + s)) := by
  have e1 : (512 * p + s) / 512 = p := by omega
  have e2 : (512 * p + s) % 512 = s := by omega
  refine ⟨pk_in (10752 * w + 512 * p + s) 43008 (by omega) (av_ixw w p s), br_c (fun z => ?_) (fun z => ?_)⟩
  · rw [av_ixw, nI_clamp (by omega)] at z
    refine pk_eq w 0 (fun h0 => ?_) (fun h0 => ⟨by decide, nm_r ((av_div512 (by omega)).trans (congrArg nI e1)) ⟨by decide, ax_widen2 hp hs ((av_rem512 (by omega)).trans (congrArg nI e2)) ?_⟩⟩)
    · obtain ⟨a1, a2, a3⟩ := av_XQ_add hI.1 hp hs z hl
      exact ax_add hw hp hs a1 (k _ _ _ _ _ ⟨a2, Or.inl h0⟩ a3 ((av_F_u hs hs (by decide)).mpr (Or.inr ⟨rfl, rfl⟩)))
    · have hW : av_W w := by
        unfold av_W
        omega
      obtain ⟨hV', hJ0⟩ := av_XJ_0 (p := p) (s := s) hW hI hs hl
      refine loop_0 (σ := (Nat → Int32) × (Nat → Int32) × Nat) (fun n i t => wX_reach_46 post (nI w) (nI p) n (nI i) N L (nI t.2.2) o a b c K (t.1) (t.2.1) (av_m (3 * p) 3 (av_wv p s V) V) (av_m (16 * p) 16 (av_wb p s D) D) 43008)
        (fun i t => av_XJ w G p i (av_m (3 * p) 3 (av_wv p s V) V) (av_m (16 * p) 16 (av_wb p s D) D) t.1 t.2.1 t.2.2 ∧ av_XG w f q m t.1 t.2.1 t.2.2) 512 (f, q, m) ⟨hJ0, av_XG_rf w f q m⟩ (fun n t h => pk_le 512 512 (fun _ => k _ _ _ _ _ (av_XJ_end hW hV' h.1) h.2 (h.1.2.2.2 s hs av_IX_s)) (fun z => absurd z (by omega))) ?_
      intro n i t hi hh hk
      obtain ⟨hJ, hG⟩ := hh
      have h1 : av_IX w (av_m (3 * p) 3 (av_wv p s V) V) (av_m (16 * p) 16 (av_wb p s D) D) p i → wX_reach_87 post (wX_reach_46 post (nI w) (nI p) n) (nI w) (nI p) (nI i) (nI (512 * p + i)) 1 N L (nI t.2.2) o a b c K (t.1) (t.2.1) (av_m (3 * p) 3 (av_wv p s V) V) (av_m (16 * p) 16 (av_wb p s D) D) 43008 := by
        intro hx
        refine br_f (by decide) ⟨pk_in (10752 * w + 512 * p + i) 43008 (by omega) (av_ixw w p i), br_c (fun z2 => ?_) (fun z2 => ?_)⟩
        · rw [av_ixw, nI_clamp (by omega)] at z2
          obtain ⟨a1, a2, a3⟩ := av_XJ_add hW hV' hJ hp hi hx z2
          exact ax_add hw hp hi a1 (nm_r (nI_1 i) (hk (upd t.1 (10752 * w + 512 * p + i) 1, upd t.2.1 t.2.2 (nI (512 * p + i)), t.2.2 + 1) ⟨a2, av_XG_tr hG a3⟩))
        · rw [av_ixw, nI_clamp (by omega)] at z2
          exact nm_r (nI_1 i) (hk t ⟨av_XJ_skip hJ (fun _ => z2), hG⟩)
      have h0' : ¬ av_IX w (av_m (3 * p) 3 (av_wv p s V) V) (av_m (16 * p) 16 (av_wb p s D) D) p i → wX_reach_87 post (wX_reach_46 post (nI w) (nI p) n) (nI w) (nI p) (nI i) (nI (512 * p + i)) 0 N L (nI t.2.2) o a b c K (t.1) (t.2.1) (av_m (3 * p) 3 (av_wv p s V) V) (av_m (16 * p) 16 (av_wb p s D) D) 43008 := fun hx =>
        br_t rfl (nm_r (nI_1 i) (hk t ⟨av_XJ_skip hJ (fun y => absurd y hx), hG⟩))
      refine pk_le 512 i (fun z2 => absurd z2 (by omega)) (fun _ => nm_r (av_i512 p i) (pk_eq w 1 (fun hw1 => ax_inV hp hi (fun g => h1 ⟨fun _ => g, fun e => absurd e (by omega), fun e => absurd e (by omega)⟩) (fun g => h0' (fun y => g (y.1 hw1)))) (fun hw1 => ax_inB hw hp hi (fun g => h1 ⟨fun e => absurd e hw1, fun e j hj h3 => g j hj (fun _ => h3), fun e j hj => g j hj (fun e2 => absurd e2 (by omega))⟩) (fun g => h0' (fun y => g (fun j hj h3 => ?_))))))
      rcases hW with e | e | e
      · exact absurd e hw1
      · exact y.2.1 e j hj (h3 e)
      · exact y.2.2 e j hj
  · rw [av_ixw, nI_clamp (by omega)] at z
    exact k f q m V D hI (av_XG_rf w f q m) z
end
end
section
/-! ===== the component: outcomes, the working out ===== -/
theorem av_nI_m1 {z : Nat} (h : z < 2 ^ 31) : ¬ nI z = (-1 : Int32) := by
  intro e
  have g := nI_pos h
  rw [e] at g
  exact g (by decide)
theorem av_p512 (p : Nat) : (nI p + 1) * 512 = nI (512 * (p + 1)) := by
  show (nI p + 1) * nI 512 = _
  rw [nI_1, pk_mul, Nat.mul_comm]
section
variable {N L M : Int32} {o a b c K f q V D : Nat → Int32}
theorem ax_oc {post : Int32 → Prop} {p : Nat} (hp : p < 20) (hok : av_ok (o p) (a p) (b p) (c p)) (k : post (nI (av_oc (o p)))) : wpX_outcomesOf post (N, L, M, o, a, b, c, K, f, q, V, D, 43008) (nI p) := by
  obtain ⟨O, hO⟩ : ∃ O, O = o p := ⟨_, rfl⟩
  rw [← hO] at hok k
  refine ⟨pk_in p 20 hp, nm_r (e' := O) (by rw [nI_clamp (by omega)]; exact hO.symm) ?_⟩
  rcases hok with ⟨rfl, _⟩ | ⟨rfl, _⟩ | ⟨rfl, _⟩ | ⟨rfl, _⟩ | ⟨rfl, _⟩ | ⟨rfl, _⟩ | rfl
  · exact br_t (by decide) k
  · exact br_t (by decide) k
  · exact br_f (by decide) (br_f (by decide) (br_t rfl k))
  · exact br_f (by decide) (br_f (by decide) (br_f (by decide) (br_t rfl k)))
  · exact br_f (by decide) (br_f (by decide) (br_f (by decide) (br_f (by decide) (br_t rfl k))))
  · exact br_f (by decide) (br_f (by decide) (br_f (by decide) (br_f (by decide) (br_f (by decide) (br_t rfl k)))))
  · exact br_f (by decide) (br_f (by decide) (br_f (by decide) (br_f (by decide) (br_f (by decide) (br_f (by decide) (br_t rfl k))))))
theorem ax_out {post : Int32 → Prop} {p s j : Nat} (hp : p < 20) (hs : s < 512) (hj : j < av_oc (o p)) (hok : av_ok (o p) (a p) (b p) (c p)) (k1 : ∀ z, av_out (o p) (a p) (b p) (c p) p s j = some z → post (nI z)) (k0 : av_out (o p) (a p) (b p) (c p) p s j = none → post (-1)) : wpX_outcome post (N, L, M, o, a, b, c, K, f, q, V, D, 43008) (nI p) (nI s) (nI j) := by
  obtain ⟨O, hO⟩ : ∃ O, O = o p := ⟨_, rfl⟩
  obtain ⟨A, hA⟩ : ∃ A, A = a p := ⟨_, rfl⟩
  obtain ⟨B, hB⟩ : ∃ B, B = b p := ⟨_, rfl⟩
  obtain ⟨C, hC⟩ : ∃ C, C = c p := ⟨_, rfl⟩
  rw [← hO, ← hA, ← hB, ← hC] at hok k1 k0
  rw [← hO] at hj
  refine ⟨pk_in p 20 hp, nm_r (e' := A) (by rw [nI_clamp (by omega)]; exact hA.symm) ⟨pk_in p 20 hp, nm_r (e' := B) (by rw [nI_clamp (by omega)]; exact hB.symm) ⟨pk_in p 20 hp, nm_r (e' := C) (by rw [nI_clamp (by omega)]; exact hC.symm) (nm_r (av_p512 p) ⟨pk_in p 20 hp, nm_r (e' := O) (by rw [nI_clamp (by omega)]; exact hO.symm) ?_⟩)⟩⟩⟩
  clear hO hA hB hC
  rcases hok with ⟨rfl, ⟨i, hi, rfl⟩, ⟨x, hx, rfl⟩⟩ | ⟨rfl, ⟨i, hi, rfl⟩, ⟨y, hy, rfl⟩, _⟩ | ⟨rfl, ⟨i, hi, rfl⟩⟩ | ⟨rfl, ⟨i, hi, rfl⟩, ⟨y, hy, rfl⟩, _⟩ | ⟨rfl, ⟨x, hx, rfl⟩⟩ | ⟨rfl, ⟨x, hx, rfl⟩⟩ | rfl
  · refine br_f (by decide) (br_f (by decide) (br_t rfl (ax_with s i x rfl rfl rfl hs hi hx ?_)))
    show post (nI (512 * (p + 1)) + nI (av_w s i x))
    rw [nI_add]
    exact k1 _ (by rw [av_out_0, nI_clamp (by omega), nI_clamp (by omega)])
  · refine br_f (by decide) (br_f (by decide) (br_f (by decide) (br_t rfl (ax_val s y rfl rfl hs hy (nm_e (br_c (fun z => ?_) (fun z => br_c (fun z2 => ?_) (fun z2 => ?_))))))))
    · refine k0 ?_
      rw [av_out_1, nI_clamp (by omega)]
      exact if_neg (fun g => Int32.not_lt.mpr g.1 z)
    · refine k0 ?_
      rw [av_out_1, nI_clamp (by omega)]
      exact if_neg (fun g => Int32.not_lt.mpr g.2 z2)
    · obtain ⟨t, ht, e⟩ := av_le7 (Int32.not_lt.mp z) (Int32.not_lt.mp z2)
      refine ax_with s i t rfl rfl e hs hi ht ?_
      show post (nI (512 * (p + 1)) + nI (av_w s i t))
      rw [nI_add]
      refine k1 _ ?_
      rw [av_out_1, nI_clamp (n := i) (by omega), nI_clamp (n := y) (by omega), if_pos ⟨Int32.not_lt.mp z, Int32.not_lt.mp z2⟩, e, nI_clamp (by omega)]
  · refine br_f (by decide) (br_f (by decide) (br_f (by decide) (br_f (by decide) (br_t rfl (ax_with s i j rfl rfl rfl hs hi hj ?_)))))
    show post (nI (512 * (p + 1)) + nI (av_w s i j))
    rw [nI_add]
    exact k1 _ (by rw [av_out_2, nI_clamp (by omega)])
  · refine br_f (by decide) (br_f (by decide) (br_f (by decide) (br_f (by decide) (br_f (by decide) (br_t rfl (ax_val s i rfl rfl hs hi (ax_val s y rfl rfl hs hy (br_c (fun z => ?_) (fun z => ?_)))))))))
    · refine k0 ?_
      rw [av_out_3, nI_clamp (n := i) (by omega), nI_clamp (n := y) (by omega)]
      exact if_neg (fun g => Int32.not_lt.mpr g z)
    · show post (nI (512 * (p + 1)) + nI s)
      rw [nI_add]
      refine k1 _ ?_
      rw [av_out_3, nI_clamp (n := i) (by omega), nI_clamp (n := y) (by omega)]
      exact if_pos (Int32.not_lt.mp z)
  · refine br_f (by decide) (br_f (by decide) (br_f (by decide) (br_f (by decide) (br_f (by decide) (br_f (by decide) (br_t rfl ?_))))))
    show post (nI x * 512 + nI s)
    rw [av_i512]
    exact k1 _ (by rw [av_out_4, nI_clamp (by omega)])
  · refine br_f (by decide) (br_f (by decide) (br_f (by decide) (br_f (by decide) (br_f (by decide) (br_f (by decide) (br_f (by decide) (br_t rfl (pk_eq j 0 (fun h0 => ?_) (fun h0 => ?_) rfl rfl (by have g : j < 2 := hj; omega)))))))))
    · show post (nI (512 * (p + 1)) + nI s)
      rw [nI_add]
      exact k1 _ (by rw [av_out_5, if_pos h0])
    · show post (nI x * 512 + nI s)
      rw [av_i512]
      exact k1 _ (by rw [av_out_5, if_neg h0, nI_clamp (by omega)])
  · exact br_f (by decide) (br_t (by decide) (k0 (av_out_6 _ _ _ _ _ _)))
theorem av_F_z {w z q t : Nat} {f : Nat → Int32} (h : z = 512 * q + t) : av_F f w q t ↔ ¬ f (10752 * w + z) = 0 := by
  subst h
  unfold av_F
  rw [Nat.add_assoc]
theorem ax_w91 {post : SX → Prop} {J : Int32 → Int32 → Int32 → Int32 → (Nat → Int32) → (Nat → Int32) → (Nat → Int32) → (Nat → Int32) → (Nat → Int32) → (Nat → Int32) → (Nat → Int32) → (Nat → Int32) → (Nat → Int32) → Nat → Prop} {n w p s m h : Nat} (hw : w < 4) (hn : n ≤ 20) (hpn : p < n) (hs : s < 512) (hok : av_ok (o p) (a p) (b p) (c p)) (hI : av_XI w (av_P n o a b c) f q m V D) (hl : av_L w (av_P n o a b c) p s)
    (k : ∀ (f' q' : Nat → Int32) (m' : Nat) (V' D' : Nat → Int32), av_XI w (av_P n o a b c) f' q' m' V' D' → av_XG w f q m f' q' m' → (∀ r t, av_P n o a b c p s r t → av_F f' w r t) → J (nI (h + 1)) N L (nI m') o a b c K f' q' V' D' 43008) :
    ∃ n91, wX_workOut_91 post J (nI w) (nI h) (nI p) (nI s) (nI (av_oc (o p))) n91 0 N L (nI m) o a b c K f q V D 43008 := by
  have hoc : av_oc (o p) ≤ 8 := by
    unfold av_oc
    split
    · omega
    · split
      · omega
      · split
        · omega
        · omega
  refine loop_0 (σ := (Nat → Int32) × (Nat → Int32) × Nat × (Nat → Int32) × (Nat → Int32)) (fun n91 i t => wX_workOut_91 post J (nI w) (nI h) (nI p) (nI s) (nI (av_oc (o p))) n91 (nI i) N L (nI t.2.2.1) o a b c K (t.1) (t.2.1) (t.2.2.2.1) (t.2.2.2.2) 43008)
    (fun i t => av_XI w (av_P n o a b c) t.1 t.2.1 t.2.2.1 t.2.2.2.1 t.2.2.2.2 ∧ av_XG w f q m t.1 t.2.1 t.2.2.1 ∧ ∀ j z, j < i → av_out (o p) (a p) (b p) (c p) p s j = some z → ¬ t.1 (10752 * w + z) = 0) (av_oc (o p)) (f, q, m, V, D) ⟨hI, av_XG_rf w f q m, fun j z hj => absurd hj (by omega)⟩ ?_ ?_
  · intro n91 t hh
    refine pk_le (av_oc (o p)) (av_oc (o p)) (fun _ => nm_r (nI_1 h) (k _ _ _ _ _ hh.1 hh.2.1 (fun r t hP => ?_))) (fun z => absurd z (by omega))
    obtain ⟨_, hr, ht, j, hj, e⟩ := hP
    exact (av_F_z rfl).mpr (hh.2.2 j _ hj e)
  · intro n91 i t hi hh hk
    refine pk_le (av_oc (o p)) i (fun z => absurd z (by omega)) (fun _ => ax_out (by omega) hs hi hok (fun z hz => ?_) (fun hz => br_t rfl (nm_r (nI_1 i) (hk t ⟨hh.1, hh.2.1, fun j z hj e => ?_⟩))))
    · obtain ⟨r, t', hr, ht', e⟩ := av_out_in hok (by omega) hs hi hz
      refine br_f (av_nI_m1 (by omega)) ?_
      rw [e] at hz ⊢
      refine ax_reach hw hr ht' hh.1 (av_L_G (by omega) hs hl ⟨hpn, hr, ht', i, hi, hz⟩) (fun f' q' m' V' D' hX hG hF => nm_r (nI_1 i) (hk (f', q', m', V', D') ⟨hX, av_XG_tr hh.2.1 hG, fun j z2 hj e2 => ?_⟩))
      by_cases ej : j = i
      · rw [ej, hz] at e2
        exact (av_F_z (Option.some.inj e2).symm).mp hF
      · exact hG.1 _ (hh.2.2 j z2 (by omega) e2)
    · by_cases ej : j = i
      · rw [ej, hz] at e
        exact nomatch e
      · exact hh.2.2 j z (by omega) e
theorem ax_w91n {post : SX → Prop} {J : Int32 → Int32 → Int32 → Int32 → (Nat → Int32) → (Nat → Int32) → (Nat → Int32) → (Nat → Int32) → (Nat → Int32) → (Nat → Int32) → (Nat → Int32) → (Nat → Int32) → (Nat → Int32) → Nat → Prop} {x3 x4 : Int32} {w h : Nat} (k : J (nI (h + 1)) N L M o a b c K f q V D 43008) : ∃ n91, wX_workOut_91 post J (nI w) (nI h) x3 x4 0 n91 0 N L M o a b c K f q V D 43008 :=
  ⟨1, br_t (by decide) (nm_r (nI_1 h) k)⟩
theorem ax_work {post : SX → Prop} {n w : Nat} (hw : w < 4) (hn : n ≤ 20) (hok : ∀ p, p < n → av_ok (o p) (a p) (b p) (c p)) (hB : av_B f) (hK : ∀ v, v < 4 → ¬ K v = 0 → av_R v (av_P n o a b c) f)
    (k : ∀ (M' : Int32) (K' f' q' V' D' : Nat → Int32), av_B f' → (∀ v, v < 4 → ¬ K' v = 0 → av_R v (av_P n o a b c) f') → ¬ K' w = 0 → (∀ v, ¬ K v = 0 → ¬ K' v = 0) → post (nI n, L, M', o, a, b, c, K', f', q', V', D', 43008)) : wpX_workOut post (nI n, L, M, o, a, b, c, K, f, q, V, D, 43008) (nI w) := by
  have hend : ∀ (f' q' V' D' : Nat → Int32) (m' : Nat), av_E w f f' → av_XI w (av_P n o a b c) f' q' m' V' D' → av_F f' w 0 0 → (∀ p s r t, p < 21 → s < 512 → av_F f' w p s → av_P n o a b c p s r t → av_F f' w r t) → vp_in (nI w) 4 ∧ ∀ x : Nat → Int32, x = upd K (nI w).toNatClampNeg (vp_nar .boolean 1) → post (nI n, L, nI m', o, a, b, c, x, f', q', V', D', 43008) := by
    intro f' q' V' D' m' hE hX h0 hG
    refine ⟨pk_in w 4 hw, nm_r (e' := upd K w 1) (by rw [nI_clamp (by omega), av_nar1]) (k _ _ _ _ _ _ hX.1.1 (fun v hv hk2 => ?_) (by rw [pk_us]; decide) av_up1)⟩
    by_cases e : v = w
    · rw [e]
      exact av_X_end hX h0 hG
    · rw [pk_un e] at hk2
      exact av_R_E e hE (hK v hv hk2)
  have h18 : wX_workOut_18 post (nI w) (nI n) L M o a b c K f q V D 43008 := by
    refine ax_clear hw ?_
    have hB0 : av_B (av_m (10752 * w) 10752 (fun _ => 0) f) := by
      intro j
      by_cases g : 10752 * w ≤ j ∧ j < 10752 * w + 10752
      · rw [av_m_in g.1 g.2]
        exact Or.inl rfl
      · rw [av_m_out (by omega)]
        exact hB j
    have hX0 : av_XI w (av_P n o a b c) (av_m (10752 * w) 10752 (fun _ => 0) f) q 0 (av_m 0 63 (fun _ => 0) V) (av_m 0 336 (fun _ => -8) D) :=
      av_X_0 (by unfold av_W; omega) hB0 (fun j hj => av_m_in (by omega) (by omega)) (fun j hj => av_m_in (by omega) (by omega)) (fun j hj => av_m_in (by omega) (by omega))
    have hE0 : av_E w f (av_m (10752 * w) 10752 (fun _ => 0) f) := fun j hj => av_m_out hj
    refine ax_reach (p := 0) (s := 0) (m := 0) hw (by omega) (by omega) hX0 av_L_0 (fun f1 q1 m1 V1 D1 hX1 hG1 hF1 => ?_)
    refine loop_m (σ := Nat × (Nat → Int32) × (Nat → Int32) × Nat × (Nat → Int32) × (Nat → Int32)) (fun n31 t => wX_workOut_31 post (nI w) n31 (nI t.1) (nI n) L (nI t.2.2.2.1) o a b c K (t.2.1) (t.2.2.1) (t.2.2.2.2.1) (t.2.2.2.2.2) 43008)
      (fun t => av_XI w (av_P n o a b c) t.2.1 t.2.2.1 t.2.2.2.1 t.2.2.2.2.1 t.2.2.2.2.2 ∧ av_E w f t.2.1 ∧ av_F t.2.1 w 0 0 ∧ t.1 ≤ t.2.2.2.1 ∧ ∀ j p s r u, j < t.1 → p < 21 → s < 512 → t.2.2.1 j = nI (512 * p + s) → av_P n o a b c p s r u → av_F t.2.1 w r u) (fun t => 10752 - t.1) ?_ (0, f1, q1, m1, V1, D1) ⟨hX1, av_E_tr hE0 hG1.2.2.2, hF1, Nat.zero_le _, fun j p s r u hj => absurd hj (by omega)⟩
    intro n31 t hh hk
    obtain ⟨hd, f2, q2, m2, V2, D2⟩ := t
    obtain ⟨hX, hE, hF, hm, hfol⟩ := hh
    have hX' : av_XI w (av_P n o a b c) f2 q2 m2 V2 D2 := hX
    have hm' : hd ≤ m2 := hm
    have hmm : m2 ≤ 10752 := av_XQ_le hX'.1
    have hexit : m2 ≤ hd → (∀ p s r t, p < 21 → s < 512 → av_F f2 w p s → av_P n o a b c p s r t → av_F f2 w r t) := by
      intro hle p s r u hp hs hFp hP
      obtain ⟨j, hj, e⟩ := hX'.1.2.2.2.2 p s hp hs hFp
      exact hfol j p s r u (by show j < hd; omega) hp hs e hP
    refine pk_le 10752 hd (fun z => hend f2 q2 V2 D2 m2 hE hX hF (hexit (by omega))) (fun z => pk_le m2 hd (fun z2 => hend f2 q2 V2 D2 m2 hE hX hF (hexit z2)) (fun z2 => ?_))
    obtain ⟨p, s, hp, hs, e, hFp⟩ := hX'.1.2.2.2.1 hd z2
    have e0 : q2 (nI hd).toNatClampNeg = nI (512 * p + s) := by
      rw [nI_clamp (by omega)]
      exact e
    have e1 : q2 (nI hd).toNatClampNeg / 512 = nI p := by
      rw [e0, av_div512 (by omega)]
      exact congrArg nI (by omega)
    have e2 : q2 (nI hd).toNatClampNeg - q2 (nI hd).toNatClampNeg / 512 * 512 = nI s := by
      rw [e0, av_rem512 (by omega)]
      exact congrArg nI (by omega)
    have hnext : ∀ (f' q' : Nat → Int32) (m' : Nat) (V' D' : Nat → Int32), av_XI w (av_P n o a b c) f' q' m' V' D' → av_XG w f2 q2 m2 f' q' m' → (∀ r t, av_P n o a b c p s r t → av_F f' w r t) → wX_workOut_31 post (nI w) n31 (nI (hd + 1)) (nI n) L (nI m') o a b c K f' q' V' D' 43008 := by
      intro f' q' m' V' D' hX3 hG3 hP3
      refine hk (hd + 1, f', q', m', V', D') ⟨hX3, av_E_tr hE hG3.2.2.2, hG3.1 _ hF, ?_, ?_⟩ ?_
      · show hd + 1 ≤ m'
        have := hG3.2.2.1
        omega
      · intro j p' s' r u hj hp' hs' ej hP
        have hj' : j < hd + 1 := hj
        have ej' : q' j = nI (512 * p' + s') := ej
        rw [hG3.2.1 j (by omega)] at ej'
        by_cases eq : j = hd
        · rw [eq, e] at ej'
          have ee := av_nI_inj (by omega) (by omega) ej'
          have ep : p' = p := by omega
          have es : s' = s := by omega
          rw [ep, es] at hP
          exact hP3 r u hP
        · exact hG3.1 _ (hfol j p' s' r u (by show j < hd; omega) hp' hs' ej' hP)
      · show 10752 - (hd + 1) < 10752 - hd
        omega
    refine ⟨pk_in hd 10752 (by omega), by decide, nm_r e1 ⟨pk_in hd 10752 (by omega), by decide, nm_r e2 (pk_le n p (fun z3 => ?_) (fun z3 => ?_))⟩⟩
    · exact ax_w91n (hnext f2 q2 m2 V2 D2 hX (av_XG_rf w f2 q2 m2) (fun r t hP => absurd hP.1 (by omega)))
    · exact ax_oc (by omega) (hok p z3) (ax_w91 hw hn z3 hs (hok p z3) hX (hX'.1.2.1 p s hp hs hFp) hnext)
  refine br_c (fun z => ⟨pk_in w 4 hw, br_c (fun z2 => h18) (fun z2 => ?_)⟩) (fun z => h18)
  rw [nI_clamp (by omega)] at z2
  exact k M K f q V D hB hK z2 (fun _ g => g)
end
end
section
/-! ===== the reference's small methods ===== -/
theorem av_YG_D {w : Nat} {G : Nat → Nat → Nat → Nat → Prop} {D1 D : Nat → Prop} {f g f' g' : Nat → Int32} (h : av_YG w G D1 f g f' g') (hd : ∀ p, D1 p → D p) : av_YG w G D f g f' g' :=
  ⟨h.1, fun p s hp hs hF => (h.2.1 p s hp hs hF).imp id (fun z => ⟨hd p z.1, z.2⟩), h.2.2⟩
section
variable {N : Int32} {o a b c f k g h r : Nat → Int32}
theorem ay_in {post : Int32 → Prop} {x lo hi : Int32} (k1 : lo ≤ x → x ≤ hi → post 1) (k0 : (x < lo ∨ hi < x) → post 0) : wpY_in post (N, o, a, b, c, f, k, g, h, r, 43008) x lo hi :=
  br_c (fun z => k0 (Or.inl z)) (fun z => br_c (fun z2 => k0 (Or.inr z2)) (fun z2 => k1 (Int32.not_lt.mp z) (Int32.not_lt.mp z2)))
theorem ay_val {post : Int32 → Prop} {x y : Int32} (s v : Nat) (hx : x = nI s) (hy : y = nI v) (hs : s < 512) (hv : v < 4) (k1 : post (nI (av_v s v))) : wpY_value post (N, o, a, b, c, f, k, g, h, r, 43008) x y := by
  subst hx hy
  refine pk_eq v 3 (fun e => ?_) (fun e => ?_)
  · rw [e, av_v_3] at k1
    exact k1
  · rw [av_val v hv s hs]
    exact k1
theorem ay_with {post : Int32 → Prop} {x y z : Int32} (s v t : Nat) (hx : x = nI s) (hy : y = nI v) (hz : z = nI t) (hs : s < 512) (hv : v < 3) (ht : t < 8) (k1 : post (nI (av_w s v t))) : wpY_with post (N, o, a, b, c, f, k, g, h, r, 43008) x y z := by
  subst hx hy hz
  unfold wpY_with
  dsimp only
  rw [av_wth v hv t ht s hs]
  exact k1
theorem ay_withany {post : Int32 → Prop} {x y z : Int32} (k1 : ∀ t, post t) : wpY_with post (N, o, a, b, c, f, k, g, h, r, 43008) x y z := k1 _
theorem ay_giveu {post : SY → Prop} {w p s : Nat} {x y z : Int32} (hx : x = nI w) (hy : y = nI p) (hz : z = nI s) (hw : w < 4) (hp : p < 21) (hs : s < 512) (kz : f (10752 * w + 512 * p + s) = 0 → post (N, o, a, b, c, upd f (10752 * w + 512 * p + s) 1, k, upd g p 1, h, r, 43008)) (kn : ¬ f (10752 * w + 512 * p + s) = 0 → post (N, o, a, b, c, f, k, g, h, r, 43008)) : wpY_give post (N, o, a, b, c, f, k, g, h, r, 43008) x y z := by
  subst hx hy hz
  refine nm_r (av_iyw w p s) ⟨pk_in (10752 * w + 512 * p + s) 43008 (by omega), br_c (fun e => ?_) (fun e => ?_)⟩
  · rw [nI_clamp (by omega)] at e
    exact ⟨pk_in (10752 * w + 512 * p + s) 43008 (by omega), nm_r (e' := upd f (10752 * w + 512 * p + s) 1) (by rw [nI_clamp (by omega), av_nar1]) ⟨pk_in p 21 hp, nm_r (e' := upd g p 1) (by rw [nI_clamp (by omega), av_nar1]) (kz e)⟩⟩
  · rw [nI_clamp (by omega)] at e
    exact kn e
theorem ay_give {post : SY → Prop} {G : Nat → Nat → Nat → Nat → Prop} {w p s : Nat} {x y z : Int32} (hx : x = nI w) (hy : y = nI p) (hz : z = nI s) (hw : w < 4) (hp : p < 21) (hs : s < 512) (hl : av_L w G p s) (kk : ∀ (f' g' : Nat → Int32), av_YG w G (fun t => t = p) f g f' g' → av_F f' w p s → post (N, o, a, b, c, f', k, g', h, r, 43008)) : wpY_give post (N, o, a, b, c, f, k, g, h, r, 43008) x y z :=
  ay_giveu hx hy hz hw hp hs (fun e => kk _ _ (av_YG_u hp hs e hl) ((av_F_u hs hs (by decide)).mpr (Or.inr ⟨rfl, rfl⟩))) (fun e => kk f g (av_YG_rf w G _ f g) e)
theorem ay_act {post : SY → Prop} {n w p s : Nat} (hw : w < 4) (hn : n ≤ 20) (hpn : p < n) (hs : s < 512) (hok : av_ok (o p) (a p) (b p) (c p)) (hl : av_L w (av_P n o a b c) p s)
    (kk : ∀ (f' g' : Nat → Int32), av_YG w (av_P n o a b c) (fun t => t = p + 1 ∨ ((o p = 4 ∨ o p = 5) ∧ c p = nI t)) f g f' g' → (∀ q t, av_P n o a b c p s q t → av_F f' w q t) → post (nI n, o, a, b, c, f', k, g', h, r, 43008)) : wpY_act post (nI n, o, a, b, c, f, k, g, h, r, 43008) (nI w) (nI p) (nI s) := by
  obtain ⟨O, hO⟩ : ∃ O, O = o p := ⟨_, rfl⟩
  obtain ⟨A, hA⟩ : ∃ A, A = a p := ⟨_, rfl⟩
  obtain ⟨B, hB⟩ : ∃ B, B = b p := ⟨_, rfl⟩
  obtain ⟨C, hC⟩ : ∃ C, C = c p := ⟨_, rfl⟩
  have hPs : ∀ j q t, j < av_oc O → q < 21 → t < 512 → av_out O A B C p s j = some (512 * q + t) → av_L w (av_P n o a b c) q t := by
    intro j q t hj hq ht e
    rw [hO, hA, hB, hC] at e
    rw [hO] at hj
    exact av_L_G (by omega) hs hl ⟨hpn, hq, ht, j, hj, e⟩
  have hk : ∀ (f' g' : Nat → Int32), av_YG w (av_P n o a b c) (fun t => t = p + 1 ∨ ((O = 4 ∨ O = 5) ∧ C = nI t)) f g f' g' → (∀ q t j, t < 512 → j < av_oc O → av_out O A B C p s j = some (512 * q + t) → av_F f' w q t) → post (nI n, o, a, b, c, f', k, g', h, r, 43008) := by
    intro f' g' hY hF
    refine kk f' g' (by rw [hO, hC] at hY; exact hY) (fun q t hP => ?_)
    obtain ⟨_, _, ht, j, hj, e⟩ := hP
    exact hF q t j ht (by rw [hO]; exact hj) (by rw [hO, hA, hB, hC]; exact e)
  have hbp : b (nI p).toNatClampNeg = B := by
    rw [nI_clamp (by omega)]
    exact hB.symm
  rw [← hO, ← hA, ← hB, ← hC] at hok
  refine ⟨pk_in p 20 (by omega), nm_r (e' := O) (by rw [nI_clamp (by omega)]; exact hO.symm) ⟨pk_in p 20 (by omega), nm_r (e' := A) (by rw [nI_clamp (by omega)]; exact hA.symm) ⟨pk_in p 20 (by omega), nm_r (e' := C) (by rw [nI_clamp (by omega)]; exact hC.symm) ?_⟩⟩⟩
  clear kk hl hO hA hB hC
  rcases hok with ⟨rfl, ⟨i, hi, rfl⟩, ⟨x, hx, rfl⟩⟩ | ⟨rfl, ⟨i, hi, rfl⟩, ⟨y, hy, rfl⟩, _⟩ | ⟨rfl, ⟨i, hi, rfl⟩⟩ | ⟨rfl, ⟨i, hi, rfl⟩, ⟨y, hy, rfl⟩, _⟩ | ⟨rfl, ⟨x, hx, rfl⟩⟩ | ⟨rfl, ⟨x, hx, rfl⟩⟩ | rfl
  · have hW := av_w_lt (v := i) hs hx
    have e0 : ∀ j, av_out 0 (nI i) B (nI x) p s j = some (512 * (p + 1) + av_w s i x) := fun j => by rw [av_out_0, nI_clamp (by omega), nI_clamp (by omega)]
    refine br_t rfl (ay_with s i x rfl rfl rfl hs hi hx (ay_give rfl (nI_1 p) rfl hw (by omega) hW (hPs 0 (p + 1) _ (by decide) (by omega) hW (e0 0)) (fun f' g' hY hF => hk f' g' (av_YG_D hY (fun t e => Or.inl e)) (fun q t j ht hj e => ?_))))
    have e1 := Option.some.inj ((e0 j).symm.trans e)
    have e2 : q = p + 1 := by omega
    have e3 : t = av_w s i x := by omega
    rw [e2, e3]
    exact hF
  · refine br_f (by decide) (br_t rfl ⟨pk_in p 20 (by omega), ay_val s y rfl hbp hs hy (nm_e ?_)⟩)
    by_cases hr : 0 ≤ nI (av_v s y) + C ∧ nI (av_v s y) + C ≤ 7
    · obtain ⟨x, hx, ex⟩ := av_le7 hr.1 hr.2
      have hW := av_w_lt (v := i) hs hx
      have e0 : ∀ j, av_out 1 (nI i) (nI y) C p s j = some (512 * (p + 1) + av_w s i x) := fun j => by rw [av_out_1, nI_clamp (n := i) (by omega), nI_clamp (n := y) (by omega), if_pos hr, ex, nI_clamp (by omega)]
      refine ay_with s i x rfl rfl (by rw [ex, av_c7 x hx]) hs hi hx (ay_in (fun _ _ => br_f (by decide) (ay_give rfl (nI_1 p) rfl hw (by omega) hW (hPs 0 (p + 1) _ (by decide) (by omega) hW (e0 0)) (fun f' g' hY hF => hk f' g' (av_YG_D hY (fun t e => Or.inl e)) (fun q t j ht hj e => ?_)))) (fun z => absurd hr (fun g2 => z.elim (fun z1 => Int32.not_lt.mpr g2.1 z1) (fun z1 => Int32.not_lt.mpr g2.2 z1))))
      have e1 := Option.some.inj ((e0 j).symm.trans e)
      have e2 : q = p + 1 := by omega
      have e3 : t = av_w s i x := by omega
      rw [e2, e3]
      exact hF
    · refine ay_withany (fun t => ay_in (fun z1 z2 => absurd ⟨z1, z2⟩ hr) (fun _ => br_t rfl (hk f g (av_YG_rf w _ _ f g) (fun q t j ht hj e => ?_))))
      rw [av_out_1, nI_clamp (n := y) (by omega), if_neg hr] at e
      exact nomatch e
  · have e0 : ∀ j, av_out 2 (nI i) B C p s j = some (512 * (p + 1) + av_w s i j) := fun j => by rw [av_out_2, nI_clamp (by omega)]
    refine br_f (by decide) (br_f (by decide) (br_t rfl ?_))
    refine loop_0 (σ := (Nat → Int32) × (Nat → Int32)) (fun n1 x t => wY_act_123 post (nI w) (nI p) (nI s) (nI i) n1 (nI x) (nI n) o a b c (t.1) k (t.2) h r 43008)
      (fun x t => av_YG w (av_P n o a b c) (fun t => t = p + 1 ∨ (((2 : Int32) = 4 ∨ (2 : Int32) = 5) ∧ C = nI t)) f g t.1 t.2 ∧ ∀ j, j < x → av_F t.1 w (p + 1) (av_w s i j)) 8 (f, g) ⟨av_YG_rf w _ _ f g, fun j hj => absurd hj (by omega)⟩ ?_ ?_
    · intro n1 t hh
      refine pk_le 8 8 (fun _ => hk _ _ hh.1 (fun q u j hu hj e => ?_)) (fun z => absurd z (by omega))
      have hj8 : j < 8 := hj
      have hW := av_w_lt (v := i) hs hj8
      have e1 := Option.some.inj ((e0 j).symm.trans e)
      have e2 : q = p + 1 := by omega
      have e3 : u = av_w s i j := by omega
      rw [e2, e3]
      exact hh.2 j hj8
    · intro n1 x t hx hh hk2
      have hW := av_w_lt (v := i) hs hx
      refine pk_le 8 x (fun z => absurd z (by omega)) (fun _ => ay_with s i x rfl rfl rfl hs hi hx (ay_give rfl (nI_1 p) rfl hw (by omega) hW (hPs x (p + 1) _ hx (by omega) hW (e0 x)) (fun f' g' hY hF => nm_r (nI_1 x) (hk2 (f', g') ⟨av_YG_tr hh.1 hY (fun _ e => e) (fun _ e => Or.inl e), fun j hj => ?_⟩))))
      by_cases ej : j = x
      · rw [ej]
        exact hF
      · exact hY.1 _ (hh.2 j (by omega))
  · refine br_f (by decide) (br_f (by decide) (br_f (by decide) (br_t rfl (ay_val s i rfl rfl hs hi ⟨pk_in p 20 (by omega), ay_val s y rfl hbp hs hy (br_c (fun z => ?_) (fun z => ?_))⟩))))
    · refine hk f g (av_YG_rf w _ _ f g) (fun q t j ht hj e => ?_)
      rw [av_out_3, nI_clamp (n := i) (by omega), nI_clamp (n := y) (by omega), if_neg (fun g2 => Int32.not_lt.mpr g2 z)] at e
      exact nomatch e
    · have e0 : ∀ j, av_out 3 (nI i) (nI y) C p s j = some (512 * (p + 1) + s) := fun j => by rw [av_out_3, nI_clamp (n := i) (by omega), nI_clamp (n := y) (by omega), if_pos (Int32.not_lt.mp z)]
      refine ay_give rfl (nI_1 p) rfl hw (by omega) hs (hPs 0 (p + 1) _ (by decide) (by omega) hs (e0 0)) (fun f' g' hY hF => hk f' g' (av_YG_D hY (fun t e => Or.inl e)) (fun q t j ht hj e => ?_))
      have e1 := Option.some.inj ((e0 j).symm.trans e)
      have e2 : q = p + 1 := by omega
      have e3 : t = s := by omega
      rw [e2, e3]
      exact hF
  · have e0 : ∀ j, av_out 4 A B (nI x) p s j = some (512 * x + s) := fun j => by rw [av_out_4, nI_clamp (by omega)]
    refine br_f (by decide) (br_f (by decide) (br_f (by decide) (br_f (by decide) (br_t rfl (ay_give rfl rfl rfl hw hx hs (hPs 0 x _ (by decide) hx hs (e0 0)) (fun f' g' hY hF => br_f (by decide) (hk f' g' (av_YG_D hY (fun t e => Or.inr ⟨Or.inl rfl, by rw [e]⟩)) (fun q t j ht hj e => ?_))))))))
    have e1 := Option.some.inj ((e0 j).symm.trans e)
    have e2 : q = x := by omega
    have e3 : t = s := by omega
    rw [e2, e3]
    exact hF
  · have e0 : ∀ j, av_out 5 A B (nI x) p s j = (if j = 0 then some (512 * (p + 1) + s) else some (512 * x + s)) := fun j => by rw [av_out_5, nI_clamp (by omega)]
    refine br_f (by decide) (br_f (by decide) (br_f (by decide) (br_f (by decide) (br_f (by decide) (br_t rfl (ay_give rfl rfl rfl hw hx hs (hPs 1 x _ (by decide) hx hs (by rw [e0, if_neg (by decide)])) (fun f' g' hY hF => br_t rfl (ay_give rfl (nI_1 p) rfl hw (by omega) hs (hPs 0 (p + 1) _ (by decide) (by omega) hs (by rw [e0, if_pos rfl])) (fun f2 g2 hY2 hF2 => hk f2 g2 (av_YG_tr hY hY2 (fun t e => Or.inr ⟨Or.inr rfl, by rw [e]⟩) (fun t e => Or.inl e)) (fun q t j ht hj e => ?_))))))))))
    rw [e0] at e
    by_cases ej : j = 0
    · rw [if_pos ej] at e
      have e1 := Option.some.inj e
      have e2 : q = p + 1 := by omega
      have e3 : t = s := by omega
      rw [e2, e3]
      exact hF2
    · rw [if_neg ej] at e
      have e1 := Option.some.inj e
      have e2 : q = x := by omega
      have e3 : t = s := by omega
      rw [e2, e3]
      exact hY2.1 _ hF
  · refine br_f (by decide) (br_f (by decide) (br_f (by decide) (br_f (by decide) (br_f (by decide) (br_f (by decide) (br_f (by decide) (hk f g (av_YG_rf w _ _ f g) (fun q t j ht hj e => ?_))))))))
    rw [av_out_6] at e
    exact nomatch e
end
end
section
/-! ===== the reference: looking at a place, the hull, filling ===== -/
theorem pk_least (P : Nat → Prop) (h : ∃ k, P k) : ∃ k, P k ∧ ∀ j, j < k → ¬ P j := by
  obtain ⟨n, hn⟩ := h
  have key : ∀ m, (∃ k, P k ∧ ∀ j, j < k → ¬ P j) ∨ ∀ j, j < m → ¬ P j := by
    intro m
    induction m with
    | zero => exact Or.inr (fun j hj => absurd hj (by omega))
    | succ m ih =>
      rcases ih with h | h
      · exact Or.inl h
      · by_cases z : P m
        · exact Or.inl ⟨m, z, h⟩
        · refine Or.inr (fun j hj => ?_)
          by_cases e : j = m
          · rw [e]
            exact z
          · exact h j (by omega)
  rcases key (n + 1) with h | h
  · exact h
  · exact absurd hn (h n (by omega))
theorem av_Lo_u {h : Int32} {y y' : Nat} (e1 : av_Lo h y) (e2 : av_Lo h y') : y = y' := Nat.le_antisymm (e1.2.2 y' e2.1 e2.2.1) (e2.2.2 y e1.1 e1.2.1)
theorem av_Hi_u {h : Int32} {y y' : Nat} (e1 : av_Hi h y) (e2 : av_Hi h y') : y = y' := Nat.le_antisymm (e2.2.2 y e1.1 e1.2.1) (e1.2.2 y' e2.1 e2.2.1)
theorem av_Lo_ex {h : Int32} (e : ∃ y, y < 8 ∧ bt h y = true) : ∃ y, av_Lo h y := by
  obtain ⟨y, ⟨hy, hb⟩, hm⟩ := pk_least (fun y => y < 8 ∧ bt h y = true) e
  refine ⟨y, hy, hb, fun x hx hbx => ?_⟩
  by_cases z : x < y
  · exact absurd ⟨hx, hbx⟩ (hm x z)
  · omega
theorem av_Hi_ex {h : Int32} (e : ∃ y, y < 8 ∧ bt h y = true) : ∃ y, av_Hi h y := by
  obtain ⟨y0, hy0, hb0⟩ := e
  obtain ⟨d, ⟨hd, hb⟩, hm⟩ := pk_least (fun d => d < 8 ∧ bt h (7 - d) = true) ⟨7 - y0, by omega, by rw [show 7 - (7 - y0) = y0 from by omega]; exact hb0⟩
  refine ⟨7 - d, by omega, hb, fun x hx hbx => ?_⟩
  by_cases z : 7 - d < x
  · exact absurd ⟨by omega, by rw [show 7 - (7 - x) = x from by omega]; exact hbx⟩ (hm (7 - x) (by omega))
  · omega
theorem av_ch {P : Nat → Nat → Prop} (h : ∀ v, v < 3 → ∃ y, P v y) : ∃ l : Nat → Nat, ∀ v, v < 3 → P v (l v) := by
  obtain ⟨y0, h0⟩ := h 0 (by decide)
  obtain ⟨y1, h1⟩ := h 1 (by decide)
  obtain ⟨y2, h2⟩ := h 2 (by decide)
  refine ⟨fun v => if v = 0 then y0 else if v = 1 then y1 else y2, fun v hv => ?_⟩
  rcases (by omega : v = 0 ∨ v = 1 ∨ v = 2) with rfl | rfl | rfl
  · exact h0
  · exact h1
  · exact h2
theorem av_in2r {f : Nat → Int32} {p s : Nat} {hv fr : Nat → Int32} (hK : av_LK 2 f p 512 hv fr) (hlo : ∀ v, v < 3 → ∃ y, av_Lo (hv v) y) (hhi : ∀ v, v < 3 → ∃ y, av_Hi (hv v) y) : av_H 2 (av_F f 2 p) s ↔ ∀ v, v < 3 → (∀ y, av_Lo (hv v) y → y ≤ av_v s v) ∧ (∀ y, av_Hi (hv v) y → av_v s v ≤ y) := by
  obtain ⟨lo, hl⟩ := av_ch hlo
  obtain ⟨hi, hh⟩ := av_ch hhi
  refine (av_in2 hK hl hh).trans ⟨fun g v hv3 => ⟨fun y hy => ?_, fun y hy => ?_⟩, fun g v hv3 => ⟨(g v hv3).1 _ (hl v hv3), (g v hv3).2 _ (hh v hv3)⟩⟩
  · rw [av_Lo_u hy (hl v hv3)]
    exact (g v hv3).1
  · rw [av_Hi_u hy (hh v hv3)]
    exact (g v hv3).2
section
variable {N : Int32} {o a b c f k g h r : Nat → Int32}
theorem ay_note {post : SY → Prop} {s : Nat} (hs : s < 512) (kk : post (N, o, a, b, c, f, k, g, av_m 0 3 (av_wv 0 s h) h, av_m 0 16 (av_wb 0 s r) r, 43008)) : wpY_note post (N, o, a, b, c, f, k, g, h, r, 43008) (nI s) := by
  have k2 : ∃ n, wY_note_36 post (nI s) N 43008 n (nI 0) o a b c f k g (av_m 0 3 (av_wv 0 s h) h) r := by
    refine av_run (o := 0) (e := 16) (g := av_wb 0 s r) (f := r) (fun n i t => wY_note_36 post (nI s) N 43008 n (nI i) o a b c f k g (av_m 0 3 (av_wv 0 s h) h) t) (fun n => pk_le 16 16 (fun _ => kk) (fun z => absurd z (by omega))) (fun n i hi hh => pk_le 16 i (fun z => absurd z (by omega)) (fun _ => ⟨by decide, ay_val s (i / 4) rfl (av_div4 (by omega)) hs (by omega) ⟨by decide, ay_val s (i % 4) rfl (av_rem4 (by omega)) hs (by omega) (nm_r (e' := av_d s i) rfl ⟨pk_in i 16 hi, br_c (fun z => nm_r (nI_1 i) ?_) (fun z => ⟨pk_in i 16 hi, nm_r (e' := av_m 0 (i + 1) (av_wb 0 s r) r) ?_ (nm_r (nI_1 i) hh)⟩)⟩)⟩⟩))
    · rw [nI_clamp (by omega), av_m_out (by omega)] at z
      have e1 : av_wb 0 s r (0 + i) = r (0 + i) := by
        have e2 := av_wb_at 0 s i r
        rw [Nat.mul_zero] at e2
        rw [e2, Nat.zero_add, if_neg (Int32.not_lt.mpr z)]
      rw [av_m_k e1]
      exact hh
    · rw [nI_clamp (by omega), av_m_out (by omega)] at z
      rw [nI_clamp (by omega)]
      refine av_m_st (by omega) ?_
      have e2 := av_wb_at 0 s i r
      rw [Nat.mul_zero] at e2
      rw [e2, Nat.zero_add, if_pos (Int32.not_le.mp z)]
  refine av_run (o := 0) (e := 3) (g := av_wv 0 s h) (f := h) (fun n i t => wY_note_2 post (nI s) N 43008 n (nI i) o a b c f k g t r)
      (fun n => pk_le 3 3 (fun _ => k2) (fun z => absurd z (by omega)))
      (fun n i hi hh => pk_le 3 i (fun z => absurd z (by omega)) (fun _ => ⟨pk_in i 3 hi, ay_val s i rfl rfl hs (by omega) ⟨pk_in i 3 hi, nm_r (e' := av_m 0 (i + 1) (av_wv 0 s h) h) ?_ (nm_r (nI_1 i) hh)⟩⟩))
  rw [nI_clamp (by omega)]
  refine av_m_st (by omega) ?_
  have e2 := av_wv_at 0 s i h
  rw [Nat.mul_zero] at e2
  rw [e2, av_m_out (by omega), Nat.zero_add]
theorem ay_look {post : Int32 → SY → Prop} {w p : Nat} {x y : Int32} (hx : x = nI w) (hy : y = nI p) (hw : w < 4) (hp : p < 21) (kk : ∀ (z : Int32) (h' r' : Nat → Int32), av_LK w f p 512 h' r' → ((z = 0 ∧ ∀ s, s < 512 → ¬ av_F f w p s) ∨ (z = 1 ∧ ∃ s, s < 512 ∧ av_F f w p s)) → post z (N, o, a, b, c, f, k, g, h', r', 43008)) : wpY_look post (N, o, a, b, c, f, k, g, h, r, 43008) x y := by
  subst hx hy
  have hl0 : av_LK w f p 0 (av_m 0 3 (fun _ => 0) h) (av_m 0 16 (fun _ => -100) r) := av_LK_0 (fun v hv => av_m_in (by omega) (by omega)) (fun v hv => av_m_in (by omega) (by omega))
  have k3 : ∃ n, wY_look_53 post (nI w) (nI p) n 0 (nI 0) N o a b c f k g (av_m 0 3 (fun _ => 0) h) (av_m 0 16 (fun _ => -100) r) 43008 := by
    refine loop_0 (σ := Int32 × (Nat → Int32) × (Nat → Int32)) (fun n i t => wY_look_53 post (nI w) (nI p) n t.1 (nI i) N o a b c f k g (t.2.1) (t.2.2) 43008)
      (fun i t => av_LK w f p i t.2.1 t.2.2 ∧ ((t.1 = 0 ∧ ∀ s, s < i → ¬ av_F f w p s) ∨ (t.1 = 1 ∧ ∃ s, s < i ∧ av_F f w p s))) 512 (0, av_m 0 3 (fun _ => 0) h, av_m 0 16 (fun _ => -100) r) ⟨hl0, Or.inl ⟨rfl, fun s hs => absurd hs (by omega)⟩⟩ ?_ ?_
    · intro n t hh
      refine pk_le 512 512 (fun _ => ⟨?_, kk _ _ _ hh.1 hh.2⟩) (fun z => absurd z (by omega))
      rcases hh.2 with e | e
      · rw [e.1]
        exact av_nb0
      · rw [e.1]
        exact av_nb1
    · intro n i t hi hh hk
      refine pk_le 512 i (fun z => absurd z (by omega)) (fun _ => ⟨pk_in (10752 * w + 512 * p + i) 43008 (by omega) (av_iyw w p i), br_c (fun z => ?_) (fun z => ?_)⟩)
      · rw [av_iyw, nI_clamp (by omega)] at z
        refine nm_r (nI_1 i) (hk t ⟨av_LK_n hh.1 (fun g2 => g2 z), ?_⟩)
        rcases hh.2 with e | ⟨e1, s, hs, hF⟩
        · refine Or.inl ⟨e.1, fun s hs hF => ?_⟩
          by_cases es : s = i
          · rw [es] at hF
            exact hF z
          · exact e.2 s (by omega) hF
        · exact Or.inr ⟨e1, s, by omega, hF⟩
      · rw [av_iyw, nI_clamp (by omega)] at z
        exact ay_note hi (nm_r (nI_1 i) (hk (1, av_m 0 3 (av_wv 0 i t.2.1) t.2.1, av_m 0 16 (av_wb 0 i t.2.2) t.2.2) ⟨av_LK_s hh.1 z, Or.inr ⟨rfl, i, by omega, z⟩⟩))
  have k2 : ∃ n, wY_look_28 post (nI w) (nI p) 0 N 43008 n (nI 0) o a b c f k g (av_m 0 3 (fun _ => 0) h) r :=
    av_run (o := 0) (e := 16) (g := fun _ => -100) (f := r) (fun n i t => wY_look_28 post (nI w) (nI p) 0 N 43008 n (nI i) o a b c f k g (av_m 0 3 (fun _ => 0) h) t)
      (fun n => pk_le 16 16 (fun _ => k3) (fun z => absurd z (by omega)))
      (fun n i hi hh => pk_le 16 i (fun z => absurd z (by omega)) (fun _ => ⟨pk_in i 16 hi, nm_r (e' := av_m 0 (i + 1) (fun _ => -100) r) (by rw [nI_clamp (by omega)]; exact av_m_st (by omega) rfl) (nm_r (nI_1 i) hh)⟩))
  exact av_run (o := 0) (e := 3) (g := fun _ => 0) (f := h) (fun n i t => wY_look_5 post (nI w) (nI p) 0 N 43008 n (nI i) o a b c f k g t r)
      (fun n => pk_le 3 3 (fun _ => k2) (fun z => absurd z (by omega)))
      (fun n i hi hh => pk_le 3 i (fun z => absurd z (by omega)) (fun _ => ⟨pk_in i 3 hi, nm_r (e' := av_m 0 (i + 1) (fun _ => 0) h) (by rw [nI_clamp (by omega)]; exact av_m_st (by omega) rfl) (nm_r (nI_1 i) hh)⟩))
theorem ay_low {post : Int32 → Prop} {z : Int32} (hz : ∃ y, y < 8 ∧ bt z y = true) (kk : ∀ y, av_Lo z y → post (nI y)) : wpY_low post (N, o, a, b, c, f, k, g, h, r, 43008) z := by
  have hh : wY_low_5 post z N o a b c f k g h r 43008 9 0 (nI 8 + (-1)) := by
    refine pk_loopD (σ := Int32) (fun n i t => wY_low_5 post z N o a b c f k g h r 43008 n t (nI i + (-1))) (fun i t => i ≤ 8 ∧ ((∃ y, i ≤ y ∧ y < 8 ∧ bt z y = true) → ∃ y, t = nI y ∧ i ≤ y ∧ y < 8 ∧ bt z y = true ∧ ∀ x, i ≤ x → x < 8 → bt z x = true → y ≤ x)) ?_ ?_ 8 0 ⟨Nat.le_refl _, fun ⟨y, h1, h2, _⟩ => absurd h2 (by omega)⟩
    · intro n t hI
      obtain ⟨y, hy, hb⟩ := hz
      obtain ⟨y1, e, _, h2, h3, h4⟩ := hI.2 ⟨y, by omega, hy, hb⟩
      refine br_t (by decide) ?_
      rw [e]
      exact kk y1 ⟨h2, h3, fun x hx hbx => h4 x (by omega) hx hbx⟩
    · intro n i t hI hk
      have e0 : nI (i + 1) + (-1) = nI i := pk_m1 i
      have hi8 : i < 8 := hI.1
      refine br_f (by rw [e0]; exact nI_pos (by omega)) (br_c (fun g1 => nm_r (e' := nI i + (-1)) (by rw [e0]) (hk _ ⟨by omega, fun _ => ⟨i, e0, by omega, hi8, ?_, fun x hx _ _ => hx⟩⟩)) (fun g1 => nm_r (e' := nI i + (-1)) (by rw [e0]) (hk _ ⟨by omega, fun ⟨y, h1, h2, h3⟩ => ?_⟩)))
      · rw [e0] at g1
        exact (av_bx1 hi8).mp g1
      · rw [e0] at g1
        have hne : ¬ bt z i = true := fun g2 => g1 ((av_bx1 hi8).mpr g2)
        have hyi : y ≠ i := fun e => hne (by rw [← e]; exact h3)
        obtain ⟨y1, e, g2, g3, g4, g5⟩ := hI.2 ⟨y, by omega, h2, h3⟩
        refine ⟨y1, e, by omega, g3, g4, fun x hx1 hx2 hx3 => g5 x ?_ hx2 hx3⟩
        have hxi : x ≠ i := fun e => hne (by rw [← e]; exact hx3)
        omega
  have e7 : nI 8 + (-1) = 7 := by decide
  rw [e7] at hh
  exact ⟨9, hh⟩
theorem ay_high {post : Int32 → Prop} {z : Int32} (hz : ∃ y, y < 8 ∧ bt z y = true) (kk : ∀ y, av_Hi z y → post (nI y)) : wpY_high post (N, o, a, b, c, f, k, g, h, r, 43008) z := by
  refine loop_0 (σ := Int32) (fun n i t => wY_high_4 post z N o a b c f k g h r 43008 n t (nI i)) (fun i t => (∃ y, y < i ∧ bt z y = true) → ∃ y, t = nI y ∧ y < i ∧ bt z y = true ∧ ∀ x, x < i → bt z x = true → x ≤ y) 8 0 (fun ⟨y, h1, _⟩ => absurd h1 (by omega)) ?_ ?_
  · intro n t hI
    obtain ⟨y1, e, h2, h3, h4⟩ := hI hz
    refine pk_le 8 8 (fun _ => ?_) (fun z => absurd z (by omega))
    rw [e]
    exact kk y1 ⟨h2, h3, h4⟩
  · intro n i t hi hI hk
    refine pk_le 8 i (fun z => absurd z (by omega)) (fun _ => br_c (fun g1 => nm_r (nI_1 i) (hk _ (fun _ => ⟨i, rfl, by omega, (av_bx1 hi).mp g1, fun x hx _ => by omega⟩))) (fun g1 => nm_r (nI_1 i) (hk _ (fun ⟨y, h1, h3⟩ => ?_))))
    have hne : ¬ bt z i = true := fun g2 => g1 ((av_bx1 hi).mpr g2)
    have hyi : y ≠ i := fun e => hne (by rw [← e]; exact h3)
    obtain ⟨y1, e, g3, g4, g5⟩ := hI ⟨y, by omega, h3⟩
    refine ⟨y1, e, by omega, g4, fun x hx1 hx3 => g5 x ?_ hx3⟩
    have hxi : x ≠ i := fun e => hne (by rw [← e]; exact hx3)
    omega
end
end
section
/-! ===== the reference: the hull, filling, visiting ===== -/
section
variable {N : Int32} {o a b c f k g h r : Nat → Int32}
theorem ay_within {post : Int32 → Prop} {w p s : Nat} {f0 : Nat → Int32} (hW : av_W w) (hs : s < 512) (hK : av_LK w f0 p 512 h r) (hne : ∃ t, t < 512 ∧ av_F f0 w p t) (k1 : av_H w (av_F f0 w p) s → post 1) (k0 : ¬ av_H w (av_F f0 w p) s → post 0) : wpY_isWithin post (N, o, a, b, c, f, k, g, h, r, 43008) (nI w) (nI s) := by
  have hw : w < 4 := by
    unfold av_W at hW
    omega
  refine pk_eq w 3 (fun h3 => ?_) (fun h3 => ?_)
  · subst h3
    refine loop_0 (σ := Unit) (fun n i _ => wY_isWithin_7 post (nI s) N o a b c f k g h r 43008 n (nI i)) (fun i _ => ∀ j, j < i → av_d s j ≤ r j) 16 () (fun j hj => absurd hj (by omega)) (fun n _ hI => pk_le 16 16 (fun _ => k1 ((av_in3 hK).mpr hI)) (fun z => absurd z (by omega))) (fun n i _ hi hI hk => pk_le 16 i (fun z => absurd z (by omega)) (fun _ => ⟨by decide, ay_val s (i / 4) rfl (av_div4 (by omega)) hs (by omega) ⟨by decide, ay_val s (i % 4) rfl (av_rem4 (by omega)) hs (by omega) ⟨pk_in i 16 hi, br_c (fun z => nm_r (nI_1 i) (hk () (fun j hj => ?_))) (fun z => k0 (fun g2 => ?_))⟩⟩⟩))
    · rw [nI_clamp (by omega)] at z
      by_cases e : j = i
      · rw [e]
        exact z
      · exact hI j (by omega)
    · rw [nI_clamp (by omega)] at z
      exact z ((av_in3 hK).mp g2 i hi)
  · obtain ⟨t0, ht0, hF0⟩ := hne
    have hbit : ∀ v, v < 3 → ∃ y, y < 8 ∧ bt (h v) y = true := fun v hv => ⟨av_v t0 v, av_v_lt t0 v, (hK.1 v _ hv (av_v_lt t0 v)).mpr ⟨t0, ht0, hF0, rfl⟩⟩
    have hiff : av_H w (av_F f0 w p) s ↔ ∀ v, v < 3 → (w = 1 → bt (h v) (av_v s v) = true) ∧ (w = 2 → (∀ y, av_Lo (h v) y → y ≤ av_v s v) ∧ (∀ y, av_Hi (h v) y → av_v s v ≤ y)) := by
      rcases hW with e | e | e
      · subst e
        exact (av_in1 hK).trans ⟨fun g2 v hv => ⟨fun _ => g2 v hv, fun z => absurd z (by decide)⟩, fun g2 v hv => (g2 v hv).1 rfl⟩
      · subst e
        exact (av_in2r hK (fun v hv => av_Lo_ex (hbit v hv)) (fun v hv => av_Hi_ex (hbit v hv))).trans ⟨fun g2 v hv => ⟨fun z => absurd z (by decide), fun _ => g2 v hv⟩, fun g2 v hv => (g2 v hv).2 rfl⟩
      · exact absurd e h3
    refine loop_0 (σ := Unit) (fun n i _ => wY_isWithin_51 post (nI w) (nI s) N o a b c f k g h r 43008 n (nI i)) (fun i _ => ∀ v, v < i → (w = 1 → bt (h v) (av_v s v) = true) ∧ (w = 2 → (∀ y, av_Lo (h v) y → y ≤ av_v s v) ∧ (∀ y, av_Hi (h v) y → av_v s v ≤ y))) 3 () (fun v hv => absurd hv (by omega)) (fun n _ hI => pk_le 3 3 (fun _ => k1 (hiff.mpr hI)) (fun z => absurd z (by omega))) ?_
    intro n i _ hi hI hk
    have hvl := av_v_lt s i
    have e0 : h (nI i).toNatClampNeg = h i := by rw [nI_clamp (by omega)]
    have hnext : (w = 1 → bt (h i) (av_v s i) = true) → (w = 2 → (∀ y, av_Lo (h i) y → y ≤ av_v s i) ∧ (∀ y, av_Hi (h i) y → av_v s i ≤ y)) → wY_isWithin_51 post (nI w) (nI s) N o a b c f k g h r 43008 n (nI (i + 1)) := by
      intro g1 g2
      refine hk () (fun v hv => ?_)
      by_cases e : v = i
      · rw [e]
        exact ⟨g1, g2⟩
      · exact hI v (by omega)
    have h83 : (w = 1 → bt (h i) (av_v s i) = true) → wY_isWithin_83 post (wY_isWithin_51 post (nI w) (nI s) N o a b c f k g h r 43008 n) (nI w) (nI s) (nI i) (nI (av_v s i)) N o a b c f k g h r 43008 := by
      intro g1
      refine pk_eq w 2 (fun h2 => ⟨pk_in i 3 hi, ay_low (by rw [e0]; exact hbit i hi) (fun y hy => pk_lt (av_v s i) y (fun z => k0 (fun g2 => ?_)) (fun z => ⟨pk_in i 3 hi, ay_high (by rw [e0]; exact hbit i hi) (fun y2 hy2 => pk_le (av_v s i) y2 (fun z2 => nm_r (nI_1 i) (hnext g1 (fun _ => ⟨fun y3 hy3 => ?_, fun y3 hy3 => ?_⟩))) (fun z2 => k0 (fun g2 => ?_)) rfl rfl (by omega) (by have := hy2.1; omega))⟩) rfl rfl (by omega) (by have := hy.1; omega))⟩) (fun h2 => nm_r (nI_1 i) (hnext g1 (fun z => absurd z h2)))
      · rw [e0] at hy
        have g3 := ((hiff.mp g2 i hi).2 h2).1 y hy
        omega
      · rw [e0] at hy
        rw [av_Lo_u hy3 hy]
        exact z
      · rw [e0] at hy2
        rw [av_Hi_u hy3 hy2]
        exact z2
      · rw [e0] at hy2
        have g3 := ((hiff.mp g2 i hi).2 h2).2 y2 hy2
        omega
    refine pk_le 3 i (fun z => absurd z (by omega)) (fun _ => ay_val s i rfl rfl hs (by omega) (pk_eq w 1 (fun h1 => ⟨pk_in i 3 hi, br_c (fun z => k0 (fun g2 => ?_)) (fun z => h83 (fun _ => ?_))⟩) (fun h1 => h83 (fun z => absurd z h1))))
    · rw [e0, av_bx0 hvl, (hiff.mp g2 i hi).1 h1] at z
      exact absurd z (by decide)
    · rw [e0, av_bx0 hvl] at z
      cases hb : bt (h i) (av_v s i)
      · exact absurd hb z
      · rfl
theorem ay_fill {post : SY → Prop} {G : Nat → Nat → Nat → Nat → Prop} {w p : Nat} {y : Int32} (hy : y = nI p) (hw : w < 4) (hp : p < 21) (hL : ∀ s, s < 512 → av_F f w p s → av_L w G p s) (kk : ∀ (f' g' h' r' : Nat → Int32), av_YG w G (fun t => t = p) f g f' g' → av_Yh w f' p → post (N, o, a, b, c, f', k, g', h', r', 43008)) : wpY_fill post (N, o, a, b, c, f, k, g, h, r, 43008) (nI w) y := by
  subst hy
  refine pk_eq w 0 (fun h0 => ?_) (fun h0 => ay_look rfl rfl hw hp (fun z h' r' hK hz => br_c (fun ez => ?_) (fun ez => ?_)))
  · refine kk f g h r (av_YG_rf w G _ f g) (fun s hs hh => ?_)
    rw [h0] at hh ⊢
    exact av_H_0 hh
  · refine kk f g h' r' (av_YG_rf w G _ f g) (fun s hs hh => ?_)
    obtain ⟨t, ht, hF⟩ := av_H_ne hh
    rcases hz with e | e
    · exact absurd hF (e.2 t ht)
    · rw [e.1] at ez
      exact absurd ez (by decide)
  · have hne : ∃ s, s < 512 ∧ av_F f w p s := by
      rcases hz with e | e
      · exact absurd e.1 ez
      · exact e.2
    have hW : av_W w := by
      unfold av_W
      omega
    refine loop_0 (σ := (Nat → Int32) × (Nat → Int32)) (fun n i t => wY_fill_16 post (nI w) (nI p) n (nI i) N o a b c (t.1) k (t.2) h' r' 43008) (fun i t => av_YK w G p i f g t.1 t.2) 512 (f, g) (av_YK_0 w G p f g) (fun n t hh => pk_le 512 512 (fun _ => kk _ _ _ _ hh.1 (av_YK_end hh)) (fun z => absurd z (by omega))) ?_
    intro n i t hi hh hk
    refine pk_le 512 i (fun z => absurd z (by omega)) (fun _ => ⟨pk_in (10752 * w + 512 * p + i) 43008 (by omega) (av_iyw w p i), br_c (fun z => ay_within hW hi hK hne (fun g2 => br_f (by decide) (ay_giveu rfl rfl rfl hw hp hi (fun e => nm_r (nI_1 i) (hk (upd t.1 (10752 * w + 512 * p + i) 1, upd t.2 p 1) (av_YK_add hh hL hp hi g2 e))) (fun e => nm_r (nI_1 i) (hk t (av_YK_skip hh (fun _ => e)))))) (fun g2 => br_t rfl (nm_r (nI_1 i) (hk t (av_YK_skip hh (fun g3 => absurd g3 g2)))))) (fun z => nm_r (nI_1 i) (hk t (av_YK_skip hh (fun _ => ?_))))⟩)
    rw [av_iyw, nI_clamp (by omega)] at z
    exact z
theorem ay_visit {post : SY → Prop} {n w p : Nat} (hw : w < 4) (hn : n ≤ 20) (hpn : p < n) (hok : av_ok (o p) (a p) (b p) (c p)) (hL : av_YL w (av_P n o a b c) f) (hv : ∀ t, t < 21 → av_Yv w (av_P n o a b c) f g t 512) (hh : ∀ t, t < 21 → av_Yh w f t) (hg : ¬ g p = 0)
    (kk : ∀ (f' g' h' r' : Nat → Int32), av_YL w (av_P n o a b c) f' → (∀ t, t < 21 → av_Yv w (av_P n o a b c) f' g' t 512) → (∀ t, t < 21 → av_Yh w f' t) → av_E w f f' → av_g g' + 1 + av_c f w ≤ av_g g + av_c f' w → post (nI n, o, a, b, c, f', k, g', h', r', 43008)) : wpY_visit post (nI n, o, a, b, c, f, k, g, h, r, 43008) (nI w) (nI p) := by
  have hp : p < 21 := by omega
  have hg1 := av_g_dn hp hg
  have hfin : ∀ (D2 : Nat → Prop) (f1 g1 f2 g2 h2 r2 : Nat → Int32), av_YG w (av_P n o a b c) (fun t => t = p + 1 ∨ ((o p = 4 ∨ o p = 5) ∧ c p = nI t)) f (upd g p 0) f1 g1 → av_Yv w (av_P n o a b c) f1 g1 p 512 → av_YG w (av_P n o a b c) D2 f1 g1 f2 g2 → (∀ t, t < 21 → t ≠ p + 1 → (((o p = 4 ∨ o p = 5) ∧ c p = nI t) → av_Yh w f2 t) ∧ (¬ ((o p = 4 ∨ o p = 5) ∧ c p = nI t) → ¬ D2 t)) → wY_visit_81 post (nI w) (nI p) (nI n) o a b c f2 k g2 h2 r2 43008 := by
    intro D2 f1 g1 f2 g2 h2 r2 hY1 hv1 hY2 hD2
    have hL2 := av_YL_mo hY2 (av_YL_mo hY1 hL)
    refine pk_le n p (fun z => absurd z (by omega)) (fun _ => ay_fill (G := av_P n o a b c) (p := p + 1) (nI_1 p) hw (by omega) (fun s hs hF => hL2.2.2 _ s (by omega) hs hF) (fun f3 g3 h3 r3 hY3 hh3 => kk f3 g3 h3 r3 (av_YL_mo hY3 hL2) (fun t ht => ?_) (fun t ht => ?_) (av_E_tr (av_E_tr hY1.2.2.2.1 hY2.2.2.2.1) hY3.2.2.2.1) ?_))
    · refine av_Yv_mo ht (by omega) hY3 (av_Yv_mo ht (by omega) hY2 ?_)
      by_cases e : t = p
      · rw [e]
        exact hv1
      · refine av_Yv_mo ht (by omega) hY1 ?_
        have g4 := hv t ht
        unfold av_Yv at g4 ⊢
        rw [pk_un e]
        exact g4
    · by_cases e : t = p + 1
      · rw [e]
        exact hh3
      · refine av_Yh_mo ht e hY3 ?_
        by_cases e2 : (o p = 4 ∨ o p = 5) ∧ c p = nI t
        · exact (hD2 t ht e).1 e2
        · exact av_Yh_mo ht ((hD2 t ht e).2 e2) hY2 (av_Yh_mo ht (fun z => z.elim e e2) hY1 (hh t ht))
    · have c1 := hY1.2.2.2.2.2
      have c2 := hY2.2.2.2.2.2
      have c3 := hY3.2.2.2.2.2
      omega
  refine ⟨pk_in p 21 hp, nm_r (e' := upd g p 0) (by rw [nI_clamp (by omega), av_nar0]) ?_⟩
  refine loop_0 (σ := (Nat → Int32) × (Nat → Int32)) (fun n1 i t => wY_visit_9 post (nI w) (nI p) n1 (nI i) (nI n) o a b c (t.1) k (t.2) h r 43008) (fun i t => av_YG w (av_P n o a b c) (fun t => t = p + 1 ∨ ((o p = 4 ∨ o p = 5) ∧ c p = nI t)) f (upd g p 0) t.1 t.2 ∧ av_Yv w (av_P n o a b c) t.1 t.2 p i) 512 (f, upd g p 0) ⟨av_YG_rf w _ _ f _, Or.inr (fun s q t hs => absurd hs (by omega))⟩ ?_ ?_
  · intro n1 t hI
    obtain ⟨f1, g1⟩ := t
    obtain ⟨hY1, hv1⟩ := hI
    have hY1' : av_YG w (av_P n o a b c) (fun t => t = p + 1 ∨ ((o p = 4 ∨ o p = 5) ∧ c p = nI t)) f (upd g p 0) f1 g1 := hY1
    have e0 : o (nI p).toNatClampNeg = o p := by rw [nI_clamp (by omega)]
    have e1 : c (nI p).toNatClampNeg = c p := by rw [nI_clamp (by omega)]
    have h70 : (o p = 4 ∨ o p = 5) → wY_visit_70 post (nI w) (nI p) (nI n) o a b c f1 k g1 h r 43008 := by
      intro h45
      obtain ⟨x, hx, ex⟩ : ∃ x, x < 21 ∧ c p = nI x := by
        rcases hok with ⟨e, _⟩ | ⟨e, _⟩ | ⟨e, _⟩ | ⟨e, _⟩ | ⟨_, x, hx, ex⟩ | ⟨_, x, hx, ex⟩ | e
        · rw [e] at h45
          exact absurd h45 (by decide)
        · rw [e] at h45
          exact absurd h45 (by decide)
        · rw [e] at h45
          exact absurd h45 (by decide)
        · rw [e] at h45
          exact absurd h45 (by decide)
        · exact ⟨x, hx, ex⟩
        · exact ⟨x, hx, ex⟩
        · rw [e] at h45
          exact absurd h45 (by decide)
      have hL1 := av_YL_mo hY1' hL
      refine ⟨pk_in p 20 (by omega), ay_fill (G := av_P n o a b c) (p := x) (e1.trans ex) hw hx (fun s hs hF => hL1.2.2 _ s hx hs hF) (fun f2 g2 h2 r2 hY2 hh2 => hfin (fun t => t = x) f1 g1 f2 g2 h2 r2 hY1' hv1 hY2 (fun t ht hne => ⟨fun e => ?_, fun e e2 => ?_⟩))⟩
      · have e3 : x = t := av_nI_inj (by omega) (by omega) (ex.symm.trans e.2)
        rw [← e3]
        exact hh2
      · exact e ⟨h45, by rw [e2]; exact ex⟩
    refine pk_le 512 512 (fun _ => ⟨pk_in p 20 (by omega), br_c (fun z => h70 (Or.inl (by rw [e0] at z; exact z))) (fun z => ⟨pk_in p 20 (by omega), br_c (fun z2 => h70 (Or.inr (by rw [e0] at z2; exact z2))) (fun z2 => ?_)⟩)⟩) (fun z => absurd z (by omega))
    rw [e0] at z z2
    exact hfin (fun _ => False) f1 g1 f1 g1 h r hY1' hv1 (av_YG_rf w _ _ f1 g1) (fun t ht hne => ⟨fun e => absurd e.1 (fun e2 => e2.elim z z2), fun _ e => e⟩)
  · intro n1 i t hi hI hk
    have hL1 := av_YL_mo hI.1 hL
    refine pk_le 512 i (fun z => absurd z (by omega)) (fun _ => ⟨pk_in (10752 * w + 512 * p + i) 43008 (by omega) (av_iyw w p i), br_c (fun z => nm_r (nI_1 i) (hk t ⟨hI.1, av_Yv_s hI.2 (fun hF => ?_)⟩)) (fun z => ?_)⟩)
    · rw [av_iyw, nI_clamp (by omega)] at z
      exact absurd z hF
    · rw [av_iyw, nI_clamp (by omega)] at z
      exact ay_act hw hn hpn hi hok (hL1.2.2 p i hp hi z) (fun f' g' hY hF => nm_r (nI_1 i) (hk (f', g') ⟨av_YG_tr hI.1 hY (fun _ e => e) (fun _ e => e), av_Yv_s (av_Yv_mo hp (by omega) hY hI.2) (fun _ q t hP => hF q t hP)⟩))
end
end
section
/-! ===== the reference: working out ===== -/
theorem av_H_one {w s : Nat} {A : Nat → Prop} (hw : w < 4) (hs : s < 512) (hA : ∀ t, t < 512 → A t → t = 0) (h : av_H w A s) : s = 0 := by
  have hT : ∀ k, k < 16 → av_T w k s 0 := by
    intro k hk
    obtain ⟨t, ht, hF, g⟩ := h k hk
    rw [hA t ht hF] at g
    exact g
  have hz : ∀ v, v < 3 → av_v 0 v = 0 := by decide
  have hall : w = 0 ∨ ∀ v, v < 3 → av_v s v = 0 := by
    rcases (by omega : w = 0 ∨ w = 1 ∨ w = 2 ∨ w = 3) with e | e | e | e
    · exact Or.inl e
    · exact Or.inr (fun v hv => ((hT v (by omega)).2.1 e hv).trans (hz v hv))
    · refine Or.inr (fun v hv => ?_)
      have g := (hT (4 * v + 3) (by omega)).2.2.1 e (Or.inr (by omega))
      rw [av_d_v3, av_d_v3, (av_hi _ (av_v_lt s v) _ (av_v_lt 0 v)).1, hz v hv] at g
      omega
    · refine Or.inr (fun v hv => ?_)
      have g := (hT (4 * v + 3) (by omega)).2.2.2 e
      rw [av_d_v3, av_d_v3, (av_hi _ (av_v_lt s v) _ (av_v_lt 0 v)).1, hz v hv] at g
      omega
  rcases hall with e | e
  · exact (hT 0 (by decide)).1 e
  · have e0 : s % 8 = 0 := e 0 (by decide)
    have e1 : s / 8 % 8 = 0 := e 1 (by decide)
    have e2 : s / 64 % 8 = 0 := e 2 (by decide)
    omega
theorem av_10 : ¬ (1 : Int32) = 0 := by decide
theorem av_iy0 (w : Nat) : 10752 * nI w = nI (10752 * w) := by
  show nI 10752 * nI w = _
  exact pk_mul _ _
theorem av_iy1 (w : Nat) : 10752 * nI w + 10752 = nI (10752 * w + 10752) := by
  rw [av_iy0]
  show nI (10752 * w) + nI 10752 = _
  exact nI_add _ _
section
variable {N : Int32} {o a b c f k g h r : Nat → Int32}
theorem ay_init {n w : Nat} (hw : w < 4) (hB : av_B f) :
    av_YL w (av_P n o a b c) (upd (av_m (10752 * w) 10752 (fun _ => 0) f) (10752 * w + 512 * 0 + 0) 1) ∧ (∀ t, t < 21 → av_Yv w (av_P n o a b c) (upd (av_m (10752 * w) 10752 (fun _ => 0) f) (10752 * w + 512 * 0 + 0) 1) (upd (av_m 0 21 (fun _ => 0) g) 0 1) t 512) ∧ (∀ t, t < 21 → av_Yh w (upd (av_m (10752 * w) 10752 (fun _ => 0) f) (10752 * w + 512 * 0 + 0) 1) t) ∧ av_E w f (upd (av_m (10752 * w) 10752 (fun _ => 0) f) (10752 * w + 512 * 0 + 0) 1) ∧ 0 + av_g (upd (av_m 0 21 (fun _ => 0) g) 0 1) ≤ av_c (upd (av_m (10752 * w) 10752 (fun _ => 0) f) (10752 * w + 512 * 0 + 0) 1) w := by
  have hz : ∀ p s, p < 21 → s < 512 → ¬ av_F (av_m (10752 * w) 10752 (fun _ => 0) f) w p s := fun p s hp hs hF => hF (av_m_in (by omega) (by omega))
  have hF1 : ∀ p s, p < 21 → s < 512 → (av_F (upd (av_m (10752 * w) 10752 (fun _ => 0) f) (10752 * w + 512 * 0 + 0) 1) w p s ↔ (p = 0 ∧ s = 0)) := fun p s hp hs => (av_F_u (by omega) hs (by decide)).trans ⟨fun e => e.elim (fun e2 => absurd e2 (hz p s hp hs)) id, Or.inr⟩
  have hB0 : av_B (av_m (10752 * w) 10752 (fun _ => 0) f) := by
    intro j
    by_cases e : 10752 * w ≤ j ∧ j < 10752 * w + 10752
    · rw [av_m_in e.1 e.2]
      exact Or.inl rfl
    · rw [av_m_out (by omega)]
      exact hB j
  refine ⟨⟨av_B_u hB0, (hF1 0 0 (by omega) (by omega)).mpr ⟨rfl, rfl⟩, fun p s hp hs hF => ?_⟩, fun t ht => ?_, fun t ht s hs hh => ?_, ?_, ?_⟩
  · obtain ⟨e1, e2⟩ := (hF1 p s hp hs).mp hF
    rw [e1, e2]
    exact av_L_0
  · by_cases e : t = 0
    · refine Or.inl ?_
      rw [e, pk_us]
      decide
    · exact Or.inr (fun s q u hs hF => absurd ((hF1 t s ht hs).mp hF).1 e)
  · obtain ⟨u, hu, hF⟩ := av_H_ne hh
    have et := ((hF1 t u ht hu).mp hF).1
    exact (hF1 t s ht hs).mpr ⟨et, av_H_one hw hs (fun v hv hFv => ((hF1 t v ht hv).mp hFv).2) hh⟩
  · exact av_E_tr (fun j hj => av_m_out hj) (av_E_u (by omega) (by omega))
  · have c0 : av_c (av_m (10752 * w) 10752 (fun _ => 0) f) w = 0 := av_c_0 (fun j hj => av_m_in (by omega) (by omega))
    have c1 : av_g (av_m 0 21 (fun _ => 0) g) = 0 := av_n_0 21 (fun j hj => av_m_in (by omega) (by omega))
    have c2 := av_g_ul (g := av_m 0 21 (fun _ => 0) g) (p := 0) (by omega)
    have c3 := av_c_up (f := av_m (10752 * w) 10752 (fun _ => 0) f) (w := w) (p := 0) (s := 0) (by omega) (by omega) (av_m_in (by omega) (by omega))
    omega
theorem ay_work {post : SY → Prop} {n w : Nat} {x : Int32} (hx : x = nI w) (hw : w < 4) (hn : n ≤ 20) (hok : ∀ p, p < n → av_ok (o p) (a p) (b p) (c p)) (hB : av_B f) (hK : ∀ v, v < 4 → ¬ k v = 0 → av_R v (av_P n o a b c) f)
    (kk : ∀ (k' f' g' h' r' : Nat → Int32), av_B f' → (∀ v, v < 4 → ¬ k' v = 0 → av_R v (av_P n o a b c) f') → ¬ k' w = 0 → (∀ v, ¬ k v = 0 → ¬ k' v = 0) → post (nI n, o, a, b, c, f', k', g', h', r', 43008)) : wpY_workOut post (nI n, o, a, b, c, f, k, g, h, r, 43008) x := by
  subst hx
  have hend : ∀ (f' g' h' r' : Nat → Int32), av_E w f f' → av_YL w (av_P n o a b c) f' → (∀ t, t < 21 → av_Yv w (av_P n o a b c) f' g' t 512) → (∀ t, t < 21 → av_Yh w f' t) → (∀ i, i < n → g' i = 0) → post (nI n, o, a, b, c, f', upd k w 1, g', h', r', 43008) := by
    intro f' g' h' r' hE hL hv hh hg
    refine kk _ _ _ _ _ hL.1 (fun v hv2 hk2 => ?_) (by rw [pk_us]; decide) av_up1
    by_cases e : v = w
    · rw [e]
      refine av_Y_end hL (fun p s q t hp hs hF hP => ?_) hh
      rcases hv p hp with g1 | g1
      · exact absurd (hg p hP.1) g1
      · exact g1 s q t hs hF hP
    · rw [pk_un e] at hk2
      exact av_R_E e hE (hK v hv2 hk2)
  have k81 : ∃ n81, wY_workOut_81 post (nI w) n81 1 0 (nI n) o a b c (upd (av_m (10752 * w) 10752 (fun _ => 0) f) (10752 * w + 512 * 0 + 0) 1) (upd k w 1) (upd (av_m 0 21 (fun _ => 0) g) 0 1) h r 43008 := by
    obtain ⟨i1, i2, i3, i4, i5⟩ := ay_init (n := n) (o := o) (a := a) (b := b) (c := c) (f := f) (g := g) hw hB
    refine loop_m (σ := Int32 × Nat × (Nat → Int32) × (Nat → Int32) × (Nat → Int32) × (Nat → Int32)) (fun n81 t => wY_workOut_81 post (nI w) n81 t.1 (nI t.2.1) (nI n) o a b c (t.2.2.1) (upd k w 1) (t.2.2.2.1) (t.2.2.2.2.1) (t.2.2.2.2.2) 43008)
      (fun t => av_YL w (av_P n o a b c) t.2.2.1 ∧ (∀ u, u < 21 → av_Yv w (av_P n o a b c) t.2.2.1 t.2.2.2.1 u 512) ∧ (∀ u, u < 21 → av_Yh w t.2.2.1 u) ∧ av_E w f t.2.2.1 ∧ t.2.1 ≤ 10753 ∧ (t.1 = 0 → ∀ i, i < n → t.2.2.2.1 i = 0) ∧ (¬ t.1 = 0 → t.2.1 + av_g t.2.2.2.1 ≤ av_c t.2.2.1 w)) (fun t => 10753 - t.2.1) ?_ (1, 0, upd (av_m (10752 * w) 10752 (fun _ => 0) f) (10752 * w + 512 * 0 + 0) 1, upd (av_m 0 21 (fun _ => 0) g) 0 1, h, r) ⟨i1, i2, i3, i4, Nat.zero_le _, fun z => absurd z av_10, fun _ => i5⟩
    intro n81 t hI hk
    obtain ⟨x, rd, f2, g2, h2, r2⟩ := t
    obtain ⟨hL, hv, hh, hE, hrd, hx0, hx1⟩ := hI
    have hrd' : rd ≤ 10753 := hrd
    refine pk_le 10753 rd (fun z => ?_) (fun z => br_c (fun z2 => hend f2 g2 h2 r2 hE hL hv hh (hx0 z2)) (fun z2 => ?_))
    · by_cases ex : x = 0
      · exact hend f2 g2 h2 r2 hE hL hv hh (hx0 ex)
      · have c1 : rd + av_g g2 ≤ av_c f2 w := hx1 ex
        have c2 := av_c_le f2 w
        exact absurd z (by omega)
    · have c1 : rd + av_g g2 ≤ av_c f2 w := hx1 z2
      refine loop_0 (σ := Int32 × (Nat → Int32) × (Nat → Int32) × (Nat → Int32) × (Nat → Int32)) (fun n97 i t => wY_workOut_97 post (wY_workOut_81 post (nI w) n81) (nI w) (nI rd) n97 t.1 (nI i) (nI n) o a b c (t.2.1) (upd k w 1) (t.2.2.1) (t.2.2.2.1) (t.2.2.2.2) 43008)
        (fun i t => av_YL w (av_P n o a b c) t.2.1 ∧ (∀ u, u < 21 → av_Yv w (av_P n o a b c) t.2.1 t.2.2.1 u 512) ∧ (∀ u, u < 21 → av_Yh w t.2.1 u) ∧ av_E w f t.2.1 ∧ (t.1 = 0 → (∀ j, j < i → t.2.2.1 j = 0) ∧ rd + av_g t.2.2.1 ≤ av_c t.2.1 w) ∧ (¬ t.1 = 0 → rd + 1 + av_g t.2.2.1 ≤ av_c t.2.1 w)) n (0, f2, g2, h2, r2) ⟨hL, hv, hh, hE, fun _ => ⟨fun j hj => absurd hj (by omega), c1⟩, fun z3 => absurd rfl z3⟩ ?_ ?_
      · intro n97 t hI2
        obtain ⟨j1, j2, j3, j4, j5, j6⟩ := hI2
        refine pk_le n n (fun _ => nm_r (nI_1 rd) (hk (t.1, rd + 1, t.2.1, t.2.2.1, t.2.2.2.1, t.2.2.2.2) ⟨j1, j2, j3, j4, ?_, fun e => (j5 e).1, j6⟩ ?_)) (fun z3 => absurd z3 (by omega))
        · show rd + 1 ≤ 10753
          omega
        · show 10753 - (rd + 1) < 10753 - rd
          omega
      · intro n97 i t hi hI2 hk2
        obtain ⟨j1, j2, j3, j4, j5, j6⟩ := hI2
        refine pk_le n i (fun z3 => absurd z3 (by omega)) (fun _ => ⟨pk_in i 21 (by omega), br_c (fun z3 => nm_r (nI_1 i) (hk2 t ⟨j1, j2, j3, j4, fun e => ⟨fun j hj => ?_, (j5 e).2⟩, j6⟩)) (fun z3 => ?_)⟩)
        · rw [nI_clamp (by omega)] at z3
          by_cases ej : j = i
          · rw [ej]
            exact z3
          · exact (j5 e).1 j (by omega)
        · rw [nI_clamp (by omega)] at z3
          refine ay_visit hw hn hi (hok i hi) j1 j2 j3 z3 (fun f3 g3 h3 r3 l1 l2 l3 l4 l5 => nm_r (nI_1 i) (hk2 (1, f3, g3, h3, r3) ⟨l1, l2, l3, av_E_tr j4 l4, fun e => absurd e av_10, fun _ => ?_⟩))
          show rd + 1 + av_g g3 ≤ av_c f3 w
          by_cases ex : t.1 = 0
          · have := (j5 ex).2
            omega
          · have := j6 ex
            omega
  have k51 : ∃ n51, wY_workOut_51 post (nI w) (nI n) 43008 n51 (nI 0) o a b c (av_m (10752 * w) 10752 (fun _ => 0) f) (upd k w 1) g h r :=
    av_run (o := 0) (e := 21) (g := fun _ => 0) (f := g) (fun n51 i t => wY_workOut_51 post (nI w) (nI n) 43008 n51 (nI i) o a b c (av_m (10752 * w) 10752 (fun _ => 0) f) (upd k w 1) t h r)
      (fun n51 => pk_lt 20 21 (fun _ => ay_giveu (p := 0) (s := 0) rfl rfl rfl hw (by omega) (by omega) (fun _ => k81) (fun e => absurd (av_m_in (by omega) (by omega)) e)) (fun z => absurd z (by omega)))
      (fun n51 i hi hh => pk_lt 20 i (fun z => absurd z (by omega)) (fun _ => ⟨pk_in i 21 hi, nm_r (e' := av_m 0 (i + 1) (fun _ => 0) g) (by rw [nI_clamp (by omega), av_nar0]; exact av_m_st (by omega) rfl) (nm_r (nI_1 i) hh)⟩))
  have k23 : ∃ n23, wY_workOut_23 post (nI w) (nI n) 43008 n23 (nI (10752 * w)) o a b c f (upd k w 1) g h r :=
    av_run (o := 10752 * w) (e := 10752) (g := fun _ => 0) (f := f) (fun n23 i t => wY_workOut_23 post (nI w) (nI n) 43008 n23 (nI (10752 * w + i)) o a b c t (upd k w 1) g h r)
      (fun n23 => pk_le (10752 * w + 10752) (10752 * w + 10752) (fun _ => k51) (fun z => absurd z (by omega)) (av_iy1 w))
      (fun n23 i hi hh => pk_le (10752 * w + 10752) (10752 * w + i) (fun z => absurd z (by omega)) (fun _ => ⟨pk_in (10752 * w + i) 43008 (by omega), nm_r (e' := av_m (10752 * w) (i + 1) (fun _ => 0) f) (by rw [nI_clamp (by omega), av_nar0]; exact av_m_st rfl rfl) (nm_r (nI_1 (10752 * w + i)) hh)⟩) (av_iy1 w))
  refine ⟨pk_in w 4 hw, br_c (fun z => ⟨pk_in w 4 hw, nm_r (e' := upd k w 1) (by rw [nI_clamp (by omega), av_nar1]) (nm_r (av_iy0 w) k23)⟩) (fun z => ?_)⟩
  rw [nI_clamp (by omega)] at z
  exact kk k f g h r hB hK z (fun _ e => e)
end
end
section
/-! ===== the relation; statements ===== -/
def av_J (n : Nat) (o a b c K f k y : Nat → Int32) : Prop :=
  n ≤ 20 ∧ (∀ p, p < n → av_ok (o p) (a p) (b p) (c p)) ∧ av_B f ∧ av_B y ∧ (∀ w, w < 4 → ¬ K w = 0 → av_R w (av_P n o a b c) f) ∧ (∀ w, w < 4 → ¬ k w = 0 → av_R w (av_P n o a b c) y)
/-- the same statements on both sides; each kept result is the least family of forms of its way -/
def i_Rel (_ : Nat) (u : SX) (v : SY) : Prop :=
  ∃ (n : Nat) (L M : Int32) (o a b c K f q V D y k g h r : Nat → Int32), u = (nI n, L, M, o, a, b, c, K, f, q, V, D, 43008) ∧ v = (nI n, o, a, b, c, y, k, g, h, r, 43008) ∧ av_J n o a b c K f k y
theorem i_up {k : Nat} {u : SX} {v : SY} (h : i_Rel k u v) : i_Rel (k + 5) u v := h
theorem av_Rel {j n : Nat} {L M : Int32} {o a b c K f q V D y k g h r : Nat → Int32} (hJ : av_J n o a b c K f k y) : i_Rel j (nI n, L, M, o, a, b, c, K, f, q, V, D, 43008) (nI n, o, a, b, c, y, k, g, h, r, 43008) :=
  ⟨n, L, M, o, a, b, c, K, f, q, V, D, y, k, g, h, r, rfl, rfl, hJ⟩
theorem av_43 : (43008 : Int32).toNatClampNeg = 43008 := by decide
theorem i_vc0 : wpX_init (fun u => wpY_init (fun v => i_Rel 0 u v)) :=
  ⟨by decide, nm_r av_43 ⟨Nat.le_refl _, ⟨by decide, nm_r av_43 ⟨Nat.le_refl _, av_Rel (n := 0) ⟨by omega, fun p hp => absurd hp (by omega), fun _ => Or.inl rfl, fun _ => Or.inl rfl, fun w _ hk => absurd rfl hk, fun w _ hk => absurd rfl hk⟩⟩⟩⟩⟩
/-! ===== ranges ===== -/
theorem av_rng {x : Int32} (m : Nat) (hm : m < 2 ^ 31) (h0 : ¬ x < 0) (h1 : ¬ nI m ≤ x) : ∃ i, i < m ∧ x = nI i := by
  obtain ⟨j, hj, e⟩ := nI_of h0
  refine ⟨j, ?_, e⟩
  by_cases g : m ≤ j
  · rw [e] at h1
    exact absurd (nI_le g hj) h1
  · omega
theorem av_rngl {x : Int32} (m : Nat) (hm : m + 1 < 2 ^ 31) (h0 : ¬ x < 0) (h1 : ¬ nI m < x) : ∃ i, i < m + 1 ∧ x = nI i := by
  obtain ⟨j, hj, e⟩ := nI_of h0
  refine ⟨j, ?_, e⟩
  by_cases g : m < j
  · rw [e] at h1
    exact absurd (nI_lt g hj) h1
  · omega
theorem av_rng0 {x : Int32} {m : Nat} (hm : m < 2 ^ 31) (h : ∃ i, i < m ∧ x = nI i) : ¬ x < 0 ∧ ¬ nI m ≤ x := by
  obtain ⟨i, hi, e⟩ := h
  rw [e]
  exact ⟨nI_pos (by omega), nI_ge hi hm⟩
theorem av_rngl0 {x : Int32} {m : Nat} (hm : m < 2 ^ 31) (h : ∃ i, i < m + 1 ∧ x = nI i) : ¬ x < 0 ∧ ¬ nI m < x := by
  obtain ⟨i, hi, e⟩ := h
  rw [e]
  exact ⟨nI_pos (by omega), nI_nlt (by omega) hm⟩
theorem av_ok_op {o a b c : Int32} (h : av_ok o a b c) : o = 0 ∨ o = 1 ∨ o = 2 ∨ o = 3 ∨ o = 4 ∨ o = 5 ∨ o = 6 := by
  rcases h with h | h | h | h | h | h | h
  · exact Or.inl h.1
  · exact Or.inr (Or.inl h.1)
  · exact Or.inr (Or.inr (Or.inl h.1))
  · exact Or.inr (Or.inr (Or.inr (Or.inl h.1)))
  · exact Or.inr (Or.inr (Or.inr (Or.inr (Or.inl h.1))))
  · exact Or.inr (Or.inr (Or.inr (Or.inr (Or.inr (Or.inl h.1)))))
  · exact Or.inr (Or.inr (Or.inr (Or.inr (Or.inr (Or.inr h)))))
theorem av_ok_0 {a b c : Int32} : av_ok 0 a b c ↔ ((∃ i, i < 3 ∧ a = nI i) ∧ (∃ x, x < 8 ∧ c = nI x)) := by
  refine ⟨fun h => ?_, fun h => Or.inl ⟨rfl, h⟩⟩
  rcases h with h | ⟨e, _⟩ | ⟨e, _⟩ | ⟨e, _⟩ | ⟨e, _⟩ | ⟨e, _⟩ | e
  · exact h.2
  · exact absurd e (by decide)
  · exact absurd e (by decide)
  · exact absurd e (by decide)
  · exact absurd e (by decide)
  · exact absurd e (by decide)
  · exact absurd e (by decide)
theorem av_ok_1 {a b c : Int32} : av_ok 1 a b c ↔ ((∃ i, i < 3 ∧ a = nI i) ∧ (∃ j, j < 4 ∧ b = nI j) ∧ -7 ≤ c ∧ c ≤ 7) := by
  refine ⟨fun h => ?_, fun h => Or.inr (Or.inl ⟨rfl, h⟩)⟩
  rcases h with ⟨e, _⟩ | h | ⟨e, _⟩ | ⟨e, _⟩ | ⟨e, _⟩ | ⟨e, _⟩ | e
  · exact absurd e (by decide)
  · exact h.2
  · exact absurd e (by decide)
  · exact absurd e (by decide)
  · exact absurd e (by decide)
  · exact absurd e (by decide)
  · exact absurd e (by decide)
theorem av_ok_2 {a b c : Int32} : av_ok 2 a b c ↔ (∃ i, i < 3 ∧ a = nI i) := by
  refine ⟨fun h => ?_, fun h => Or.inr (Or.inr (Or.inl ⟨rfl, h⟩))⟩
  rcases h with ⟨e, _⟩ | ⟨e, _⟩ | h | ⟨e, _⟩ | ⟨e, _⟩ | ⟨e, _⟩ | e
  · exact absurd e (by decide)
  · exact absurd e (by decide)
  · exact h.2
  · exact absurd e (by decide)
  · exact absurd e (by decide)
  · exact absurd e (by decide)
  · exact absurd e (by decide)
theorem av_ok_3 {a b c : Int32} : av_ok 3 a b c ↔ ((∃ i, i < 4 ∧ a = nI i) ∧ (∃ j, j < 4 ∧ b = nI j) ∧ ¬ a = b ∧ -7 ≤ c ∧ c ≤ 7) := by
  refine ⟨fun h => ?_, fun h => Or.inr (Or.inr (Or.inr (Or.inl ⟨rfl, h⟩)))⟩
  rcases h with ⟨e, _⟩ | ⟨e, _⟩ | ⟨e, _⟩ | h | ⟨e, _⟩ | ⟨e, _⟩ | e
  · exact absurd e (by decide)
  · exact absurd e (by decide)
  · exact absurd e (by decide)
  · exact h.2
  · exact absurd e (by decide)
  · exact absurd e (by decide)
  · exact absurd e (by decide)
theorem av_ok_4 {a b c : Int32} : av_ok 4 a b c ↔ (∃ x, x < 21 ∧ c = nI x) := by
  refine ⟨fun h => ?_, fun h => Or.inr (Or.inr (Or.inr (Or.inr (Or.inl ⟨rfl, h⟩))))⟩
  rcases h with ⟨e, _⟩ | ⟨e, _⟩ | ⟨e, _⟩ | ⟨e, _⟩ | h | ⟨e, _⟩ | e
  · exact absurd e (by decide)
  · exact absurd e (by decide)
  · exact absurd e (by decide)
  · exact absurd e (by decide)
  · exact h.2
  · exact absurd e (by decide)
  · exact absurd e (by decide)
theorem av_ok_5 {a b c : Int32} : av_ok 5 a b c ↔ (∃ x, x < 21 ∧ c = nI x) := by
  refine ⟨fun h => ?_, fun h => Or.inr (Or.inr (Or.inr (Or.inr (Or.inr (Or.inl ⟨rfl, h⟩)))))⟩
  rcases h with ⟨e, _⟩ | ⟨e, _⟩ | ⟨e, _⟩ | ⟨e, _⟩ | ⟨e, _⟩ | h | e
  · exact absurd e (by decide)
  · exact absurd e (by decide)
  · exact absurd e (by decide)
  · exact absurd e (by decide)
  · exact absurd e (by decide)
  · exact h.2
  · exact absurd e (by decide)
theorem av_ok_6 {a b c : Int32} : av_ok 6 a b c := Or.inr (Or.inr (Or.inr (Or.inr (Or.inr (Or.inr rfl)))))
theorem ax_isV {post : Int32 → Prop} {x : Int32} (k1 : (∃ i, i < 3 ∧ x = nI i) → post 1) (k0 : ¬ (∃ i, i < 3 ∧ x = nI i) → post 0) : wpX_isVariable post x :=
  br_c (fun z => k0 (fun g => (av_rng0 (by decide) g).1 z)) (fun z => br_c (fun z2 => k0 (fun g => (av_rng0 (by decide) g).2 z2)) (fun z2 => k1 (av_rng 3 (by decide) z z2)))
theorem ax_isW {post : Int32 → Prop} {x : Int32} (k1 : (∃ i, i < 4 ∧ x = nI i) → post 1) (k0 : ¬ (∃ i, i < 4 ∧ x = nI i) → post 0) : wpX_isVariableOrZero post x :=
  br_c (fun z => k0 (fun g => (av_rngl0 (m := 3) (by decide) g).1 z)) (fun z => br_c (fun z2 => k0 (fun g => (av_rngl0 (m := 3) (by decide) g).2 z2)) (fun z2 => k1 (av_rngl 3 (by decide) z z2)))
theorem ax_isP {post : Int32 → Prop} {x : Int32} (k1 : (∃ i, i < 16 ∧ x = nI i) → post 1) (k0 : ¬ (∃ i, i < 16 ∧ x = nI i) → post 0) : wpX_isPair post x :=
  br_c (fun z => k0 (fun g => (av_rng0 (by decide) g).1 z)) (fun z => br_c (fun z2 => k0 (fun g => (av_rng0 (by decide) g).2 z2)) (fun z2 => k1 (av_rng 16 (by decide) z z2)))
theorem ax_147 {post : Int32 → Prop} {x : Int32} (k1 : (∃ i, i < 21 ∧ x = nI i) → post 1) (k0 : ¬ (∃ i, i < 21 ∧ x = nI i) → post 0) : wX_isStatement_147 post x :=
  br_c (fun z => k0 (fun g => (av_rngl0 (m := 20) (by decide) g).1 z)) (fun z => br_c (fun z2 => k0 (fun g => (av_rngl0 (m := 20) (by decide) g).2 z2)) (fun z2 => k1 (av_rngl 20 (by decide) z z2)))
theorem ax_17 {post : Int32 → Prop} {x0 x1 x2 x3 z0 : Int32} (hz : (z0 = 0 ∧ ¬ (-7 ≤ x3 ∧ x3 ≤ 7)) ∨ (z0 = 1 ∧ -7 ≤ x3 ∧ x3 ≤ 7)) (k1 : av_ok x0 x1 x2 x3 → post 1) (k0 : ¬ av_ok x0 x1 x2 x3 → post 0) : wX_isStatement_17 post x0 x1 x2 x3 z0 := by
  have hz0 : z0 = 0 → ¬ (-7 ≤ x3 ∧ x3 ≤ 7) := fun e => by
    rcases hz with g | g
    · exact g.2
    · rw [g.1] at e
      exact absurd e (by decide)
  have hz1 : ¬ z0 = 0 → (-7 ≤ x3 ∧ x3 ≤ 7) := fun e => by
    rcases hz with g | g
    · exact absurd g.1 e
    · exact g.2
  refine br_c (fun z => k0 (fun g => ?_)) (fun z => br_c (fun z2 => k0 (fun g => ?_)) (fun z2 => br_c (fun e => ?_) (fun e0 => br_c (fun e => ?_) (fun e1 => br_c (fun e => ?_) (fun e2 => br_c (fun e => ?_) (fun e3 => br_c (fun e => ?_) (fun e4 => br_c (fun e => ?_) (fun e5 => br_c (fun e => ?_) (fun _ => trivial)))))))))
  · rcases av_ok_op g with e | e | e | e | e | e | e <;> rw [e] at z <;> exact absurd z (by decide)
  · rcases av_ok_op g with e | e | e | e | e | e | e <;> rw [e] at z2 <;> exact absurd z2 (by decide)
  · subst e
    rw [av_ok_0] at k1 k0
    exact ax_isV (fun h1 => br_f (by decide) (br_c (fun z3 => k0 (fun g => (av_rngl0 (m := 7) (by decide) g.2).1 z3)) (fun z3 => br_c (fun z4 => k0 (fun g => (av_rngl0 (m := 7) (by decide) g.2).2 z4)) (fun z4 => k1 ⟨h1, av_rngl 7 (by decide) z3 z4⟩)))) (fun h1 => br_t rfl (k0 (fun g => h1 g.1)))
  · subst e
    rw [av_ok_1] at k1 k0
    exact ax_isV (fun h1 => br_f (by decide) (ax_isW (fun h2 => br_f (by decide) (br_c (fun z3 => k0 (fun g => hz0 z3 g.2.2)) (fun z3 => k1 ⟨h1, h2, hz1 z3⟩))) (fun h2 => br_t rfl (k0 (fun g => h2 g.2.1))))) (fun h1 => br_t rfl (k0 (fun g => h1 g.1)))
  · subst e
    rw [av_ok_2] at k1 k0
    exact ax_isV (fun h1 => ⟨av_nb1, k1 h1⟩) (fun h1 => ⟨av_nb0, k0 h1⟩)
  · subst e
    rw [av_ok_3] at k1 k0
    exact ax_isW (fun h1 => br_f (by decide) (ax_isW (fun h2 => br_f (by decide) (br_c (fun z3 => k0 (fun g => g.2.2.1 z3)) (fun z3 => br_c (fun z4 => k0 (fun g => hz0 z4 g.2.2.2)) (fun z4 => k1 ⟨h1, h2, z3, hz1 z4⟩)))) (fun h2 => br_t rfl (k0 (fun g => h2 g.2.1))))) (fun h1 => br_t rfl (k0 (fun g => h1 g.1)))
  · subst e
    rw [av_ok_4] at k1 k0
    exact ax_147 k1 k0
  · subst e
    rw [av_ok_5] at k1 k0
    exact ax_147 k1 k0
  · subst e
    exact k1 av_ok_6
theorem ax_isS {post : Int32 → Prop} {x0 x1 x2 x3 : Int32} (k1 : av_ok x0 x1 x2 x3 → post 1) (k0 : ¬ av_ok x0 x1 x2 x3 → post 0) : wpX_isStatement post x0 x1 x2 x3 :=
  br_c (fun z => ax_17 (Or.inl ⟨rfl, fun g => Int32.not_lt.mpr g.1 z⟩) k1 k0) (fun z => br_c (fun z2 => ax_17 (Or.inl ⟨rfl, fun g => Int32.not_lt.mpr g.2 z2⟩) k1 k0) (fun z2 => ax_17 (Or.inr ⟨rfl, Int32.not_lt.mp z, Int32.not_lt.mp z2⟩) k1 k0))
section
variable {N : Int32} {o a b c f k g h r : Nat → Int32}
theorem ay_inr {post : Int32 → Prop} {x : Int32} (m : Nat) (hm : m + 1 < 2 ^ 31) (k1 : (∃ i, i < m + 1 ∧ x = nI i) → post 1) (k0 : ¬ (∃ i, i < m + 1 ∧ x = nI i) → post 0) : wpY_in post (N, o, a, b, c, f, k, g, h, r, 43008) x 0 (nI m) :=
  ay_in (fun z z2 => k1 (av_rngl m hm (Int32.not_lt.mpr z) (Int32.not_lt.mpr z2))) (fun z => k0 (fun g2 => z.elim (av_rngl0 (by omega) g2).1 (av_rngl0 (by omega) g2).2))
theorem ay_in7 {post : Int32 → Prop} {x : Int32} (k1 : (-7 ≤ x ∧ x ≤ 7) → post 1) (k0 : ¬ (-7 ≤ x ∧ x ≤ 7) → post 0) : wpY_in post (N, o, a, b, c, f, k, g, h, r, 43008) x (-7) 7 :=
  ay_in (fun z z2 => k1 ⟨z, z2⟩) (fun z => k0 (fun g2 => z.elim (fun z1 => Int32.not_lt.mpr g2.1 z1) (fun z1 => Int32.not_lt.mpr g2.2 z1)))
theorem ay_fits {post : Int32 → Prop} {x0 x1 x2 x3 : Int32} (k1 : av_ok x0 x1 x2 x3 → post 1) (k0 : ¬ av_ok x0 x1 x2 x3 → post 0) : wpY_fits post (N, o, a, b, c, f, k, g, h, r, 43008) x0 x1 x2 x3 := by
  refine br_c (fun e => ?_) (fun e0 => br_c (fun e => ?_) (fun e1 => br_c (fun e => ?_) (fun e2 => br_c (fun e => ?_) (fun e3 => br_c (fun e => ?_) (fun e4 => br_c (fun e => ?_) (fun e5 => br_c (fun e => ?_) (fun e6 => k0 (fun g2 => ?_))))))))
  · subst e
    rw [av_ok_0] at k1 k0
    exact ay_inr 2 (by decide) (fun h1 => br_f (by decide) (ay_inr 7 (by decide) (fun h2 => br_f (by decide) (k1 ⟨h1, h2⟩)) (fun h2 => br_t rfl (k0 (fun g2 => h2 g2.2))))) (fun h1 => br_t rfl (k0 (fun g2 => h1 g2.1)))
  · subst e
    rw [av_ok_1] at k1 k0
    exact ay_inr 2 (by decide) (fun h1 => br_f (by decide) (ay_inr 3 (by decide) (fun h2 => br_f (by decide) (ay_in7 (fun h3 => br_f (by decide) (k1 ⟨h1, h2, h3⟩)) (fun h3 => br_t rfl (k0 (fun g2 => h3 g2.2.2))))) (fun h2 => br_t rfl (k0 (fun g2 => h2 g2.2.1))))) (fun h1 => br_t rfl (k0 (fun g2 => h1 g2.1)))
  · subst e
    rw [av_ok_2] at k1 k0
    exact ay_inr 2 (by decide) (fun h1 => ⟨av_nb1, k1 h1⟩) (fun h1 => ⟨av_nb0, k0 h1⟩)
  · subst e
    rw [av_ok_3] at k1 k0
    exact ay_inr 3 (by decide) (fun h1 => br_f (by decide) (ay_inr 3 (by decide) (fun h2 => br_f (by decide) (br_c (fun z3 => k0 (fun g2 => g2.2.2.1 z3)) (fun z3 => ay_in7 (fun h3 => br_f (by decide) (k1 ⟨h1, h2, z3, h3⟩)) (fun h3 => br_t rfl (k0 (fun g2 => h3 g2.2.2.2)))))) (fun h2 => br_t rfl (k0 (fun g2 => h2 g2.2.1))))) (fun h1 => br_t rfl (k0 (fun g2 => h1 g2.1)))
  · subst e
    rw [av_ok_4] at k1 k0
    exact ay_inr 20 (by decide) (fun h1 => ⟨av_nb1, k1 h1⟩) (fun h1 => ⟨av_nb0, k0 h1⟩)
  · subst e
    rw [av_ok_5] at k1 k0
    exact ay_inr 20 (by decide) (fun h1 => ⟨av_nb1, k1 h1⟩) (fun h1 => ⟨av_nb0, k0 h1⟩)
  · subst e
    exact k1 av_ok_6
  · rcases av_ok_op g2 with e | e | e | e | e | e | e
    · exact e0 e
    · exact e1 e
    · exact e2 e
    · exact e3 e
    · exact e4 e
    · exact e5 e
    · exact e6 e
theorem ay_drop {post : SY → Prop} (kk : post (N, o, a, b, c, f, av_m 0 4 (fun _ => 0) k, g, h, r, 43008)) : wpY_forget post (N, o, a, b, c, f, k, g, h, r, 43008) :=
  av_run (o := 0) (e := 4) (g := fun _ => 0) (f := k) (fun n i s => wY_forget_2 post N 43008 n (nI i) o a b c f s g h r)
    (fun n => pk_le 4 4 (fun _ => kk) (fun z => absurd z (by omega)))
    (fun n i hi hh => pk_le 4 i (fun z => absurd z (by omega)) (fun _ => ⟨pk_in i 4 hi, nm_r (e' := av_m 0 (i + 1) (fun _ => 0) k) (by rw [nI_clamp (by omega), av_nar0]; exact av_m_st (by omega) rfl) (nm_r (nI_1 i) hh)⟩))
theorem ay_put {post : SY → Prop} {i : Nat} {x1 x2 x3 x4 : Int32} (hi : i < 20) (kk : post (N, upd o i x1, upd a i x2, upd b i x3, upd c i x4, f, av_m 0 4 (fun _ => 0) k, g, h, r, 43008)) : wpY_put post (N, o, a, b, c, f, k, g, h, r, 43008) (nI i) x1 x2 x3 x4 :=
  ⟨pk_in i 20 hi, nm_r (e' := upd o i x1) (by rw [nI_clamp (by omega)]) ⟨pk_in i 20 hi, nm_r (e' := upd a i x2) (by rw [nI_clamp (by omega)]) ⟨pk_in i 20 hi, nm_r (e' := upd b i x3) (by rw [nI_clamp (by omega)]) ⟨pk_in i 20 hi, nm_r (e' := upd c i x4) (by rw [nI_clamp (by omega)]) (ay_drop kk)⟩⟩⟩⟩
end
section
variable {N L M : Int32} {o a b c K f q V D : Nat → Int32}
theorem ax_store {post : SX → Prop} {i : Nat} {x1 x2 x3 x4 : Int32} (hi : i < 20) (kk : post (N, L, M, upd o i x1, upd a i x2, upd b i x3, upd c i x4, av_m 0 4 (fun _ => 0) K, f, q, V, D, 43008)) : wpX_store post (N, L, M, o, a, b, c, K, f, q, V, D, 43008) (nI i) x1 x2 x3 x4 :=
  ⟨pk_in i 20 hi, nm_r (e' := upd o i x1) (by rw [nI_clamp (by omega)]) ⟨pk_in i 20 hi, nm_r (e' := upd a i x2) (by rw [nI_clamp (by omega)]) ⟨pk_in i 20 hi, nm_r (e' := upd b i x3) (by rw [nI_clamp (by omega)]) ⟨pk_in i 20 hi, nm_r (e' := upd c i x4) (by rw [nI_clamp (by omega)]) (ax_drop kk)⟩⟩⟩⟩
end
end
section
/-! ===== emit, replace, retract, valid, level ===== -/
theorem av_m4 {K : Nat → Int32} {w : Nat} (hw : w < 4) : av_m 0 4 (fun _ => 0) K w = 0 := av_m_in (by omega) (by omega)
theorem av_J_st {n m i : Nat} {o a b c K f k y : Nat → Int32} {x1 x2 x3 x4 : Int32} (hJ : av_J n o a b c K f k y) (hm : m ≤ 20) (hmn : m ≤ n + 1) (hi : m = n + 1 → i = n) (hok : av_ok x1 x2 x3 x4) : av_J m (upd o i x1) (upd a i x2) (upd b i x3) (upd c i x4) (av_m 0 4 (fun _ => 0) K) f (av_m 0 4 (fun _ => 0) k) y := by
  refine ⟨hm, fun p hp => ?_, hJ.2.2.1, hJ.2.2.2.1, fun w hw hk => absurd (av_m4 hw) hk, fun w hw hk => absurd (av_m4 hw) hk⟩
  by_cases e : p = i
  · rw [e, pk_us, pk_us, pk_us, pk_us]
    exact hok
  · rw [pk_un e, pk_un e, pk_un e, pk_un e]
    exact hJ.2.1 p (by omega)
theorem i_vc_emit {k : Nat} {u : SX} {v : SY} (I : i_Rel k u v) (hk : k + 5 ≤ 2560) (v1 : Int32) (v2 : Int32) (v3 : Int32) (v4 : Int32) : wpX_emit (fun r u' => wpY_emit (fun r' v' => r' = r ∧ i_Rel (k + 5) u' v') v v1 v2 v3 v4) u v1 v2 v3 v4 := by
  obtain ⟨n, L, M, o, a, b, c, K, f, q, V, D, y, kn, g, h, r, rfl, rfl, J⟩ := I
  have hn := J.1
  refine pk_lt n 20 (fun hlt => ax_isS (fun hok => br_f (by decide) (ax_store hlt (nm_r (nI_1 n) ?_))) (fun hok => br_t rfl ?_)) (fun hge => ?_)
  · exact pk_eq n 20 (fun e => absurd e (by omega)) (fun _ => ay_fits (fun _ => br_f (by decide) (ay_put hlt (nm_r (nI_1 n) ⟨rfl, av_Rel (av_J_st J (by omega) (by omega) (fun _ => rfl) hok)⟩))) (fun hno => absurd hok hno))
  · exact pk_eq n 20 (fun e => absurd e (by omega)) (fun _ => ay_fits (fun hy => absurd hy hok) (fun _ => br_t rfl ⟨rfl, av_Rel J⟩))
  · exact pk_eq n 20 (fun _ => ⟨rfl, av_Rel J⟩) (fun e => absurd e (by omega))
theorem av_nm1 {n j : Nat} (hn : n ≤ 20) (hj : j < 2 ^ 31) : nI j ≤ nI n - 1 ↔ j < n := by
  cases n with
  | zero =>
    refine ⟨fun z => ?_, fun z => absurd z (by omega)⟩
    rw [show nI 0 - 1 = (-1 : Int32) from by decide, Int32.le_iff_toInt_le, nI_toInt hj, show (-1 : Int32).toInt = -1 from by decide] at z
    omega
  | succ m =>
    rw [nI_pred, nI_leI hj (by omega)]
    omega
section
variable {N : Int32} {o a b c f k g h r : Nat → Int32}
theorem ay_rep {post : Int32 → SY → Prop} {n : Nat} {x1 x2 x3 x4 : Int32} (hn : n ≤ 20) (k0 : ¬ ((∃ j, j < n ∧ x1 = nI j) ∧ (∃ i, i < 16 ∧ x3 = nI i) ∧ av_ok x2 (x3 / 4) (x3 - x3 / 4 * 4) x4) → post 0 (nI n, o, a, b, c, f, k, g, h, r, 43008)) (k1 : ∀ j, j < n → x1 = nI j → (∃ i, i < 16 ∧ x3 = nI i) → av_ok x2 (x3 / 4) (x3 - x3 / 4 * 4) x4 → post 1 (nI n, upd o j x2, upd a j (x3 / 4), upd b j (x3 - x3 / 4 * 4), upd c j x4, f, av_m 0 4 (fun _ => 0) k, g, h, r, 43008)) : wpY_replace post (nI n, o, a, b, c, f, k, g, h, r, 43008) x1 x2 x3 x4 := by
  unfold wpY_replace
  dsimp only
  refine ay_in (fun z z2 => br_f (by decide) ?_) (fun z => br_t rfl (k0 (fun g2 => ?_)))
  · obtain ⟨j, hj, rfl⟩ := nI_of (Int32.not_lt.mpr z)
    have hjn := (av_nm1 hn hj).mp z2
    exact ay_inr 15 (by decide) (fun h16 => br_f (by decide) ⟨by decide, by decide, ay_fits (fun hok => br_f (by decide) ⟨by decide, by decide, ay_put (by omega) (k1 j hjn rfl h16 hok)⟩) (fun hno => br_t rfl (k0 (fun g2 => hno g2.2.2)))⟩) (fun hno => br_t rfl (k0 (fun g2 => hno g2.2.1)))
  · obtain ⟨⟨j, hj, e⟩, _⟩ := g2
    subst e
    exact z.elim (nI_pos (by omega)) (Int32.not_lt.mpr ((av_nm1 hn (by omega)).mpr hj))
end
theorem i_vc_replace {k : Nat} {u : SX} {v : SY} (I : i_Rel k u v) (hk : k + 5 ≤ 2560) (v1 : Int32) (v2 : Int32) (v3 : Int32) (v4 : Int32) : wpX_replace (fun r u' => wpY_replace (fun r' v' => r' = r ∧ i_Rel (k + 5) u' v') v v1 v2 v3 v4) u v1 v2 v3 v4 := by
  obtain ⟨n, L, M, o, a, b, c, K, f, q, V, D, y, kn, g, h, r, rfl, rfl, J⟩ := I
  have hn := J.1
  refine br_c (fun z => ?_) (fun z => ?_)
  · exact ay_rep hn (fun _ => ⟨rfl, av_Rel J⟩) (fun j hj e _ _ => absurd z (by rw [e]; exact nI_pos (by omega)))
  · obtain ⟨j, hj, rfl⟩ := nI_of z
    refine pk_le n j (fun z2 => ?_) (fun z2 => ax_isP (fun h16 => br_f (by decide) ⟨by decide, nm_e ⟨by decide, nm_e (ax_isS (fun hok => br_f (by decide) (ax_store (by omega) ?_)) (fun hok => br_t rfl ?_))⟩⟩) (fun h16 => br_t rfl ?_))
    · exact ay_rep hn (fun _ => ⟨rfl, av_Rel J⟩) (fun i hi e _ _ => absurd (av_nI_inj hj (by omega) e) (by omega))
    · refine ay_rep hn (fun hno => absurd ⟨⟨j, z2, rfl⟩, h16, hok⟩ hno) (fun i hi e _ _ => ?_)
      have e2 := av_nI_inj hj (by omega) e
      rw [← e2]
      exact ⟨rfl, av_Rel (av_J_st J hn (by omega) (fun e3 => absurd e3 (by omega)) hok)⟩
    · exact ay_rep hn (fun _ => ⟨rfl, av_Rel J⟩) (fun i hi e _ hy => absurd hy hok)
    · exact ay_rep hn (fun _ => ⟨rfl, av_Rel J⟩) (fun i hi e hy _ => absurd hy h16)
theorem i_vc_retract {k : Nat} {u : SX} {v : SY} (I : i_Rel k u v) (hk : k + 5 ≤ 2560) : wpX_retract (fun r u' => wpY_retract (fun r' v' => r' = r ∧ i_Rel (k + 5) u' v') v) u := by
  obtain ⟨n, L, M, o, a, b, c, K, f, q, V, D, y, kn, g, h, r, rfl, rfl, J⟩ := I
  have hn := J.1
  refine pk_eq n 0 (fun e => ?_) (fun e => ?_)
  · exact pk_eq n 0 (fun _ => ⟨rfl, av_Rel J⟩) (fun e2 => absurd e e2)
  · obtain ⟨m, rfl⟩ : ∃ m, n = m + 1 := ⟨n - 1, by omega⟩
    have J2 : av_J m o a b c (av_m 0 4 (fun _ => 0) K) f (av_m 0 4 (fun _ => 0) kn) y := ⟨by omega, fun p hp => J.2.1 p (by omega), J.2.2.1, J.2.2.2.1, fun w hw hk2 => absurd (av_m4 hw) hk2, fun w hw hk2 => absurd (av_m4 hw) hk2⟩
    refine nm_r (nI_pred m) (ax_drop ?_)
    exact pk_eq (m + 1) 0 (fun e2 => absurd e2 e) (fun _ => nm_r (nI_pred m) (ay_drop ⟨rfl, av_Rel J2⟩))
theorem av_valid {n : Nat} {L M : Int32} {o a b c K f q V D y kn g h r : Nat → Int32} (hn : n ≤ 20) : ∃ rv : Int32, (rv = 0 ∨ rv = 1) ∧ (∀ post : Int32 → Prop, post rv → wpX_valid post (nI n, L, M, o, a, b, c, K, f, q, V, D, 43008)) ∧ (∀ post : Int32 → Prop, post rv → wpY_valid post (nI n, o, a, b, c, y, kn, g, h, r, 43008)) := by
  have key : ∀ d j, j + d = n → ∃ rv : Int32, (rv = 0 ∨ rv = 1) ∧ (∀ post : Int32 → Prop, post rv → wX_valid_2 post (nI n) L M o a b c K f q V D 43008 (d + 1) (nI j)) ∧ (∀ post : Int32 → Prop, post rv → wY_valid_2 post (nI n) o a b c y kn g h r 43008 (d + 1) (nI j)) := by
    intro d
    induction d with
    | zero =>
      intro j hj
      exact ⟨1, Or.inr rfl, fun post hp => pk_le n j (fun _ => hp) (fun z => absurd z (by omega)), fun post hp => pk_le n j (fun _ => hp) (fun z => absurd z (by omega))⟩
    | succ d ih =>
      intro j hj
      obtain ⟨rv, h01, hX, hY⟩ := ih (j + 1) (by omega)
      have hi : ∀ N2, j < N2 → N2 < 2 ^ 31 → vp_in (nI j) N2 := fun N2 h1 h2 => vp_in_nI h1 h2
      by_cases h4 : o (nI j).toNatClampNeg = 4
      · by_cases hc : c (nI j).toNatClampNeg ≤ nI n
        · exact ⟨rv, h01, fun post hp => pk_le n j (fun z => absurd z (by omega)) (fun _ => ⟨pk_in j 20 (by omega), br_t h4 (br_f (by decide) ⟨pk_in j 20 (by omega), br_t hc (nm_r (nI_1 j) (hX post hp))⟩)⟩), fun post hp => pk_le n j (fun z => absurd z (by omega)) (fun _ => ⟨pk_in j 20 (by omega), br_t h4 ⟨pk_in j 20 (by omega), br_t hc (nm_r (nI_1 j) (hY post hp))⟩⟩)⟩
        · exact ⟨0, Or.inl rfl, fun post hp => pk_le n j (fun z => absurd z (by omega)) (fun _ => ⟨pk_in j 20 (by omega), br_t h4 (br_f (by decide) ⟨pk_in j 20 (by omega), br_f hc hp⟩)⟩), fun post hp => pk_le n j (fun z => absurd z (by omega)) (fun _ => ⟨pk_in j 20 (by omega), br_t h4 ⟨pk_in j 20 (by omega), br_f hc hp⟩⟩)⟩
      · by_cases h5 : o (nI j).toNatClampNeg = 5
        · by_cases hc : c (nI j).toNatClampNeg ≤ nI n
          · exact ⟨rv, h01, fun post hp => pk_le n j (fun z => absurd z (by omega)) (fun _ => ⟨pk_in j 20 (by omega), br_f h4 ⟨pk_in j 20 (by omega), br_t h5 (br_f (by decide) ⟨pk_in j 20 (by omega), br_t hc (nm_r (nI_1 j) (hX post hp))⟩)⟩⟩), fun post hp => pk_le n j (fun z => absurd z (by omega)) (fun _ => ⟨pk_in j 20 (by omega), br_f h4 ⟨pk_in j 20 (by omega), br_t h5 ⟨pk_in j 20 (by omega), br_t hc (nm_r (nI_1 j) (hY post hp))⟩⟩⟩)⟩
          · exact ⟨0, Or.inl rfl, fun post hp => pk_le n j (fun z => absurd z (by omega)) (fun _ => ⟨pk_in j 20 (by omega), br_f h4 ⟨pk_in j 20 (by omega), br_t h5 (br_f (by decide) ⟨pk_in j 20 (by omega), br_f hc hp⟩)⟩⟩), fun post hp => pk_le n j (fun z => absurd z (by omega)) (fun _ => ⟨pk_in j 20 (by omega), br_f h4 ⟨pk_in j 20 (by omega), br_t h5 ⟨pk_in j 20 (by omega), br_f hc hp⟩⟩⟩)⟩
        · exact ⟨rv, h01, fun post hp => pk_le n j (fun z => absurd z (by omega)) (fun _ => ⟨pk_in j 20 (by omega), br_f h4 ⟨pk_in j 20 (by omega), br_f h5 (br_t rfl (nm_r (nI_1 j) (hX post hp)))⟩⟩), fun post hp => pk_le n j (fun z => absurd z (by omega)) (fun _ => ⟨pk_in j 20 (by omega), br_f h4 ⟨pk_in j 20 (by omega), br_f h5 (nm_r (nI_1 j) (hY post hp))⟩⟩)⟩
  obtain ⟨rv, h01, hX, hY⟩ := key n 0 (by omega)
  exact ⟨rv, h01, fun post hp => ⟨n + 1, hX post hp⟩, fun post hp => ⟨n + 1, hY post hp⟩⟩
theorem i_vc_valid {k : Nat} {u : SX} {v : SY} (I : i_Rel k u v) (hk : k + 5 ≤ 2560) : wpX_valid (fun r => wpY_valid (fun r' => r' = r ∧ i_Rel (k + 5) u v) v) u := by
  have I2 : i_Rel (k + 5) u v := I
  obtain ⟨n, L, M, o, a, b, c, K, f, q, V, D, y, kn, g, h, r, rfl, rfl, J⟩ := I
  obtain ⟨rv, h01, hX, hY⟩ := av_valid (L := L) (M := M) (o := o) (a := a) (b := b) (c := c) (K := K) (f := f) (q := q) (V := V) (D := D) (y := y) (kn := kn) (g := g) (h := h) (r := r) J.1
  exact hX _ (hY _ ⟨rfl, I2⟩)
theorem i_vc_level {k : Nat} {u : SX} {v : SY} (I : i_Rel k u v) (hk : k + 5 ≤ 2560) (v1 : Int32) : wpX_level (fun r u' => wpY_level (fun r' => r' = r ∧ i_Rel (k + 5) u' v) v v1) u v1 := by
  obtain ⟨n, L, M, o, a, b, c, K, f, q, V, D, y, kn, g, h, r, rfl, rfl, J⟩ := I
  refine br_c (fun z => ?_) (fun z => ?_)
  · refine br_f (fun e => ?_) (br_f (fun e => ?_) ⟨rfl, av_Rel J⟩)
    · rw [e] at z
      exact absurd z (by decide)
    · rw [e] at z
      exact absurd z (by decide)
  · obtain ⟨j, hj, rfl⟩ := nI_of z
    refine pk_le j 1 (fun z2 => ?_) (fun z2 => ?_)
    · exact pk_eq j 0 (fun _ => ⟨rfl, av_Rel J⟩) (fun e => pk_eq j 1 (fun _ => ⟨rfl, av_Rel J⟩) (fun e2 => absurd z2 (by omega)))
    · exact pk_eq j 0 (fun e => absurd z2 (by omega)) (fun _ => pk_eq j 1 (fun e => absurd z2 (by omega)) (fun _ => ⟨rfl, av_Rel J⟩))
end
section
/-! ===== the questions' gate; count, has ===== -/
def av_good (n : Nat) (x1 x2 : Int32) : Prop := (∃ w, w < 4 ∧ x1 = nI w) ∧ (∃ p, p < n + 1 ∧ x2 = nI p)
theorem av_gate (n : Nat) (x1 x2 rv : Int32) : ¬ av_good n x1 x2 ∨ (av_good n x1 x2 ∧ rv = 0) ∨ ∃ w p, w < 4 ∧ p < n + 1 ∧ x1 = nI w ∧ x2 = nI p ∧ ¬ rv = 0 := by
  by_cases hg : av_good n x1 x2
  · by_cases hr : rv = 0
    · exact Or.inr (Or.inl ⟨hg, hr⟩)
    · obtain ⟨⟨w, hw, e1⟩, ⟨p, hp, e2⟩⟩ := hg
      exact Or.inr (Or.inr ⟨w, p, hw, hp, e1, e2, hr⟩)
  · exact Or.inl hg
section
variable {N L M : Int32} {o a b c K f q V D : Nat → Int32}
theorem ax_ref {post : Int32 → Prop} {n : Nat} {rv x1 x2 : Int32} (hn : n ≤ 20) (hv : ∀ post : Int32 → Prop, post rv → wpX_valid post (nI n, L, M, o, a, b, c, K, f, q, V, D, 43008)) (kb : ¬ av_good n x1 x2 → post (-1000)) (ki : av_good n x1 x2 → rv = 0 → post (-1002)) (kg : av_good n x1 x2 → ¬ rv = 0 → post 0) : wpX_refusalOf post (nI n, L, M, o, a, b, c, K, f, q, V, D, 43008) x1 x2 :=
  br_c (fun z => kb (fun g2 => (av_rng0 (by decide) g2.1).1 z)) (fun z => br_c (fun z2 => kb (fun g2 => (av_rng0 (by decide) g2.1).2 z2)) (fun z2 => br_c (fun z3 => kb (fun g2 => (av_rngl0 (by omega) g2.2).1 z3)) (fun z3 => br_c (fun z4 => hv _ (br_c (fun e => ki ⟨av_rng 4 (by decide) z z2, av_rngl n (by omega) z3 (Int32.not_lt.mpr z4)⟩ e) (fun e => kg ⟨av_rng 4 (by decide) z z2, av_rngl n (by omega) z3 (Int32.not_lt.mpr z4)⟩ e))) (fun z4 => kb (fun g2 => z4 (Int32.not_lt.mp (av_rngl0 (by omega) g2.2).2))))))
theorem ax_rb {post : Int32 → Prop} {n : Nat} {rv x1 x2 : Int32} (hn : n ≤ 20) (hv : ∀ post : Int32 → Prop, post rv → wpX_valid post (nI n, L, M, o, a, b, c, K, f, q, V, D, 43008)) (hb : ¬ av_good n x1 x2) (kk : post (-1000)) : wpX_refusalOf post (nI n, L, M, o, a, b, c, K, f, q, V, D, 43008) x1 x2 :=
  ax_ref hn hv (fun _ => kk) (fun g2 _ => absurd g2 hb) (fun g2 _ => absurd g2 hb)
theorem ax_ri {post : Int32 → Prop} {n : Nat} {rv x1 x2 : Int32} (hn : n ≤ 20) (hv : ∀ post : Int32 → Prop, post rv → wpX_valid post (nI n, L, M, o, a, b, c, K, f, q, V, D, 43008)) (hg : av_good n x1 x2) (hr : rv = 0) (kk : post (-1002)) : wpX_refusalOf post (nI n, L, M, o, a, b, c, K, f, q, V, D, 43008) x1 x2 :=
  ax_ref hn hv (fun hb => absurd hg hb) (fun _ _ => kk) (fun _ hr2 => absurd hr hr2)
theorem ax_rg {post : Int32 → Prop} {n w p : Nat} {rv : Int32} (hn : n ≤ 20) (hv : ∀ post : Int32 → Prop, post rv → wpX_valid post (nI n, L, M, o, a, b, c, K, f, q, V, D, 43008)) (hw : w < 4) (hp : p < n + 1) (hr : ¬ rv = 0) (kk : post 0) : wpX_refusalOf post (nI n, L, M, o, a, b, c, K, f, q, V, D, 43008) (nI w) (nI p) :=
  ax_ref hn hv (fun hb => absurd ⟨⟨w, hw, rfl⟩, ⟨p, hp, rfl⟩⟩ hb) (fun _ hr2 => absurd hr2 hr) (fun _ _ => kk)
theorem ax_size {post : Int32 → Prop} {w p : Nat} (hw : w < 4) (hp : p < 21) (kk : post (nI (av_n f (10752 * w + 512 * p) 512))) : wpX_sizeOf post (N, L, M, o, a, b, c, K, f, q, V, D, 43008) (nI w) (nI p) := by
  refine nm_r (av_ixp w p) (loop_0 (σ := Unit) (fun n i _ => wX_sizeOf_18 post (nI (10752 * w + 512 * p)) N L M o a b c K f q V D 43008 n (nI (av_n f (10752 * w + 512 * p) i)) (nI i)) (fun _ _ => True) 512 () trivial (fun n _ _ => pk_le 512 512 (fun _ => kk) (fun z => absurd z (by omega))) (fun n i _ hi _ hk => pk_le 512 i (fun z => absurd z (by omega)) (fun _ => ⟨pk_in (10752 * w + 512 * p + i) 43008 (by omega) (nI_add _ _), br_c (fun z => nm_r (nI_1 i) ?_) (fun z => nm_r (nI_1 _) (nm_r (nI_1 i) ?_))⟩)))
  · rw [nI_add, nI_clamp (by omega)] at z
    have h2 := hk () trivial
    rw [av_n_s, if_pos z, Nat.add_zero] at h2
    exact h2
  · rw [nI_add, nI_clamp (by omega)] at z
    have h2 := hk () trivial
    rw [av_n_s, if_neg z] at h2
    exact h2
end
section
variable {N : Int32} {o a b c f k g h r : Nat → Int32}
theorem ay_open {post : Int32 → SY → Prop} {n : Nat} {rv x1 x2 x3 : Int32} (hn : n ≤ 20) (hok : ∀ p, p < n → av_ok (o p) (a p) (b p) (c p)) (hB : av_B f) (hK : ∀ v, v < 4 → ¬ k v = 0 → av_R v (av_P n o a b c) f) (hv : ∀ post : Int32 → Prop, post rv → wpY_valid post (nI n, o, a, b, c, f, k, g, h, r, 43008))
    (kb : ¬ (av_good n x1 x2 ∧ ¬ x3 = 0) → post (-1000) (nI n, o, a, b, c, f, k, g, h, r, 43008)) (ki : (av_good n x1 x2 ∧ ¬ x3 = 0) → rv = 0 → post (-1002) (nI n, o, a, b, c, f, k, g, h, r, 43008))
    (kg : ∀ w p, w < 4 → p < n + 1 → x1 = nI w → x2 = nI p → ¬ x3 = 0 → ¬ rv = 0 → ∀ (k' f' g' h' r' : Nat → Int32), av_B f' → (∀ v, v < 4 → ¬ k' v = 0 → av_R v (av_P n o a b c) f') → ¬ k' w = 0 → post 0 (nI n, o, a, b, c, f', k', g', h', r', 43008)) : wpY_open post (nI n, o, a, b, c, f, k, g, h, r, 43008) x1 x2 x3 := by
  unfold wpY_open
  dsimp only
  refine ay_inr 3 (by decide) (fun h1 => br_f (by decide) (ay_inr n (by omega) (fun h2 => br_f (by decide) (br_c (fun z => kb (fun g2 => g2.2 z)) (fun z => hv _ (br_c (fun e => ki ⟨⟨h1, h2⟩, z⟩ e) (fun e => ?_))))) (fun h2 => br_t rfl (kb (fun g2 => h2 g2.1.2))))) (fun h1 => br_t rfl (kb (fun g2 => h1 g2.1.1)))
  obtain ⟨w, hw, e1⟩ := h1
  obtain ⟨p, hp, e2⟩ := h2
  exact ay_work e1 hw hn hok hB hK (fun k' f' g' h' r' c1 c2 c3 c4 => kg w p hw hp e1 e2 z e k' f' g' h' r' c1 c2 c3)
theorem ay_ob {post : Int32 → SY → Prop} {n : Nat} {rv x1 x2 x3 : Int32} (hn : n ≤ 20) (hok : ∀ p, p < n → av_ok (o p) (a p) (b p) (c p)) (hB : av_B f) (hK : ∀ v, v < 4 → ¬ k v = 0 → av_R v (av_P n o a b c) f) (hv : ∀ post : Int32 → Prop, post rv → wpY_valid post (nI n, o, a, b, c, f, k, g, h, r, 43008)) (hb : ¬ av_good n x1 x2 ∨ x3 = 0) (kk : post (-1000) (nI n, o, a, b, c, f, k, g, h, r, 43008)) : wpY_open post (nI n, o, a, b, c, f, k, g, h, r, 43008) x1 x2 x3 :=
  ay_open hn hok hB hK hv (fun _ => kk) (fun g2 _ => absurd hb (fun e => e.elim (fun e2 => e2 g2.1) g2.2)) (fun w p hw hp e1 e2 h3 _ => absurd hb (fun e => e.elim (fun e3 => e3 ⟨⟨w, hw, e1⟩, ⟨p, hp, e2⟩⟩) h3))
theorem ay_oi {post : Int32 → SY → Prop} {n : Nat} {rv x1 x2 x3 : Int32} (hn : n ≤ 20) (hok : ∀ p, p < n → av_ok (o p) (a p) (b p) (c p)) (hB : av_B f) (hK : ∀ v, v < 4 → ¬ k v = 0 → av_R v (av_P n o a b c) f) (hv : ∀ post : Int32 → Prop, post rv → wpY_valid post (nI n, o, a, b, c, f, k, g, h, r, 43008)) (hg : av_good n x1 x2) (h3 : ¬ x3 = 0) (hr : rv = 0) (kk : post (-1002) (nI n, o, a, b, c, f, k, g, h, r, 43008)) : wpY_open post (nI n, o, a, b, c, f, k, g, h, r, 43008) x1 x2 x3 :=
  ay_open hn hok hB hK hv (fun hb => absurd ⟨hg, h3⟩ hb) (fun _ _ => kk) (fun w p hw hp e1 e2 _ hr2 => absurd hr hr2)
theorem ay_og {post : Int32 → SY → Prop} {n w p : Nat} {rv x3 : Int32} (hn : n ≤ 20) (hok : ∀ p, p < n → av_ok (o p) (a p) (b p) (c p)) (hB : av_B f) (hK : ∀ v, v < 4 → ¬ k v = 0 → av_R v (av_P n o a b c) f) (hv : ∀ post : Int32 → Prop, post rv → wpY_valid post (nI n, o, a, b, c, f, k, g, h, r, 43008)) (hw : w < 4) (hp : p < n + 1) (h3 : ¬ x3 = 0) (hr : ¬ rv = 0)
    (kk : ∀ (k' f' g' h' r' : Nat → Int32), av_B f' → (∀ v, v < 4 → ¬ k' v = 0 → av_R v (av_P n o a b c) f') → ¬ k' w = 0 → post 0 (nI n, o, a, b, c, f', k', g', h', r', 43008)) : wpY_open post (nI n, o, a, b, c, f, k, g, h, r, 43008) (nI w) (nI p) x3 :=
  ay_open hn hok hB hK hv (fun hb => absurd ⟨⟨⟨w, hw, rfl⟩, ⟨p, hp, rfl⟩⟩, h3⟩ hb) (fun _ hr2 => absurd hr2 hr) (fun w2 p2 hw2 hp2 e1 e2 _ _ => by
    have e3 := av_nI_inj (by omega) (by omega) e1
    subst e3
    exact kk)
theorem ay_cnt {post : Int32 → SY → Prop} {w p : Nat} (hw : w < 4) (hp : p < 21) (kk : post (nI (av_n f (10752 * w + 512 * p) 512)) (N, o, a, b, c, f, k, g, h, r, 43008)) : ∃ n20, wY_count_20 post (nI w) (nI p) N o a b c f k g h r 43008 n20 0 0 := by
  refine loop_0 (σ := Unit) (fun n i _ => wY_count_20 post (nI w) (nI p) N o a b c f k g h r 43008 n (nI (av_n f (10752 * w + 512 * p) i)) (nI i)) (fun _ _ => True) 512 () trivial (fun n _ _ => pk_le 512 512 (fun _ => kk) (fun z => absurd z (by omega))) (fun n i _ hi _ hk => pk_le 512 i (fun z => absurd z (by omega)) (fun _ => ⟨pk_in (10752 * w + 512 * p + i) 43008 (by omega) (av_iyw w p i), br_c (fun z => nm_r (nI_1 i) ?_) (fun z => nm_r (nI_1 _) (nm_r (nI_1 i) ?_))⟩))
  · rw [av_iyw, nI_clamp (by omega)] at z
    have h2 := hk () trivial
    rw [av_n_s, if_pos z, Nat.add_zero] at h2
    exact h2
  · rw [av_iyw, nI_clamp (by omega)] at z
    have h2 := hk () trivial
    rw [av_n_s, if_neg z] at h2
    exact h2
end
theorem av_cell {n w p s : Nat} {o a b c f y : Nat → Int32} (hf : av_B f) (hy : av_B y) (h1 : av_R w (av_P n o a b c) f) (h2 : av_R w (av_P n o a b c) y) (hp : p < 21) (hs : s < 512) : f (10752 * w + 512 * p + s) = y (10752 * w + 512 * p + s) := by
  have e := av_R_eq hf hy h1 h2 (512 * p + s) (by omega)
  rw [← Nat.add_assoc] at e
  exact e
theorem i_vc_count {k : Nat} {u : SX} {v : SY} (I : i_Rel k u v) (hk : k + 5 ≤ 2560) (v1 : Int32) (v2 : Int32) : wpX_count (fun r u' => wpY_count (fun r' v' => r' = r ∧ i_Rel (k + 5) u' v') v v1 v2) u v1 v2 := by
  obtain ⟨n, L, M, o, a, b, c, K, f, q, V, D, y, kn, g, h, r, rfl, rfl, J⟩ := I
  obtain ⟨rv, h01, hX, hY⟩ := av_valid (L := L) (M := M) (o := o) (a := a) (b := b) (c := c) (K := K) (f := f) (q := q) (V := V) (D := D) (y := y) (kn := kn) (g := g) (h := h) (r := r) J.1
  obtain ⟨hn, hok, hBf, hBy, hKf, hKy⟩ := J
  have J : av_J n o a b c K f kn y := ⟨hn, hok, hBf, hBy, hKf, hKy⟩
  unfold wpX_count wpY_count
  dsimp only
  rcases av_gate n v1 v2 rv with hb | ⟨hg, hr⟩ | ⟨w, p, hw, hp, rfl, rfl, hr⟩
  · exact ax_rb hn hX hb (br_f (by decide) (ay_ob hn hok hBy hKy hY (Or.inl hb) (br_f (by decide) ⟨rfl, av_Rel J⟩)))
  · exact ax_ri hn hX hg hr (br_f (by decide) (ay_oi hn hok hBy hKy hY hg (by decide) hr (br_f (by decide) ⟨rfl, av_Rel J⟩)))
  · refine ax_rg hn hX hw hp hr (br_t rfl (ax_work hw hn hok hBf hKf (fun M' K' f' q' V' D' c1 c2 c3 c4 => ax_size hw (by omega) (ay_og hn hok hBy hKy hY hw hp (by decide) hr (fun k' y' g' h' r' d1 d2 d3 => br_t (by decide) (ay_cnt hw (by omega) ⟨congrArg nI (av_n_cg 512 (fun j hj => ?_)), av_Rel ⟨hn, hok, c1, d1, c2, d2⟩⟩))))))
    exact (av_cell c1 d1 (c2 w hw c3) (d2 w hw d3) (by omega) hj).symm
theorem i_vc_has {k : Nat} {u : SX} {v : SY} (I : i_Rel k u v) (hk : k + 5 ≤ 2560) (v1 : Int32) (v2 : Int32) (v3 : Int32) : wpX_has (fun r u' => wpY_has (fun r' v' => r' = r ∧ i_Rel (k + 5) u' v') v v1 v2 v3) u v1 v2 v3 := by
  obtain ⟨n, L, M, o, a, b, c, K, f, q, V, D, y, kn, g, h, r, rfl, rfl, J⟩ := I
  obtain ⟨rv, h01, hX, hY⟩ := av_valid (L := L) (M := M) (o := o) (a := a) (b := b) (c := c) (K := K) (f := f) (q := q) (V := V) (D := D) (y := y) (kn := kn) (g := g) (h := h) (r := r) J.1
  obtain ⟨hn, hok, hBf, hBy, hKf, hKy⟩ := J
  have J : av_J n o a b c K f kn y := ⟨hn, hok, hBf, hBy, hKf, hKy⟩
  unfold wpX_has wpY_has
  dsimp only
  by_cases hs : ∃ s, s < 512 ∧ v3 = nI s
  · refine br_f (av_rng0 (m := 512) (by decide) hs).1 (br_f (av_rng0 (m := 512) (by decide) hs).2 ?_)
    rcases av_gate n v1 v2 rv with hb | ⟨hg, hr⟩ | ⟨w, p, hw, hp, rfl, rfl, hr⟩
    · exact ax_rb hn hX hb (br_f (by decide) (ay_inr 511 (by decide) (fun _ => ay_ob hn hok hBy hKy hY (Or.inl hb) (br_f (by decide) ⟨rfl, av_Rel J⟩)) (fun e => absurd hs e)))
    · exact ax_ri hn hX hg hr (br_f (by decide) (ay_inr 511 (by decide) (fun _ => ay_oi hn hok hBy hKy hY hg (by decide) hr (br_f (by decide) ⟨rfl, av_Rel J⟩)) (fun e => absurd hs e)))
    · obtain ⟨s, hs2, rfl⟩ := hs
      have ex : nI w * 10752 + nI p * 512 + nI s = nI (10752 * w + 512 * p + s) := by rw [av_ixp, nI_add]
      refine ax_rg hn hX hw hp hr (br_t rfl (ax_work hw hn hok hBf hKf (fun M' K' f' q' V' D' c1 c2 c3 c4 => ⟨pk_in (10752 * w + 512 * p + s) 43008 (by omega) ex, ?_, ay_inr 511 (by decide) (fun _ => ay_og hn hok hBy hKy hY hw hp (by decide) hr (fun k' y' g' h' r' d1 d2 d3 => br_t rfl ⟨pk_in (10752 * w + 512 * p + s) 43008 (by omega) (av_iyw w p s), br_c (fun z => ⟨?_, av_Rel ⟨hn, hok, c1, d1, c2, d2⟩⟩) (fun z => ⟨?_, av_Rel ⟨hn, hok, c1, d1, c2, d2⟩⟩)⟩)) (fun e => absurd ⟨s, hs2, rfl⟩ e)⟩)))
      · dsimp only
        rcases c1 (nI w * 10752 + nI p * 512 + nI s).toNatClampNeg with e | e
        · rw [e]
          exact av_nb0
        · rw [e]
          exact av_nb1
      · have ec := av_cell c1 d1 (c2 w hw c3) (d2 w hw d3) (p := p) (by omega) hs2
        dsimp only at z ⊢
        rw [av_iyw, nI_clamp (by omega)] at z
        rw [ex, nI_clamp (by omega), ec, z]
      · have ec := av_cell c1 d1 (c2 w hw c3) (d2 w hw d3) (p := p) (by omega) hs2
        dsimp only at z ⊢
        rw [av_iyw, nI_clamp (by omega)] at z
        rw [ex, nI_clamp (by omega), ec]
        rcases d1 (10752 * w + 512 * p + s) with e | e
        · exact absurd e z
        · exact e.symm
  · have hY0 : wpY_has (fun r' v' => r' = 0 ∧ i_Rel (k + 5) (nI n, L, M, o, a, b, c, K, f, q, V, D, 43008) v') (nI n, o, a, b, c, y, kn, g, h, r, 43008) v1 v2 v3 := by
      unfold wpY_has
      dsimp only
      exact ay_inr 511 (by decide) (fun e => absurd e hs) (fun _ => ay_ob hn hok hBy hKy hY (Or.inr rfl) (br_f (by decide) ⟨rfl, av_Rel J⟩))
    unfold wpY_has at hY0
    dsimp only at hY0
    exact br_c (fun _ => hY0) (fun z => br_c (fun _ => hY0) (fun z2 => absurd (av_rng 512 (by decide) z z2) hs))
end
section
/-! ===== lowest, highest, most ===== -/
section
variable {N L M : Int32} {o a b c K f q V D : Nat → Int32}
theorem ax_great {post : Int32 → SX → Prop} {w p t : Nat} (hw : w < 4) (hp : p < 21) (ht : t < 16) (kk : ∀ g, av_Gt w f p t 512 g → post g (N, L, M, o, a, b, c, K, f, q, V, D, 43008)) : ∃ n42, wX_greatestOf_42 post (nI t) (nI (10752 * w + 512 * p)) N L M o a b c K f q V D 43008 n42 (-1003) 0 := by
  refine loop_0 (σ := Int32) (fun n i g => wX_greatestOf_42 post (nI t) (nI (10752 * w + 512 * p)) N L M o a b c K f q V D 43008 n g (nI i)) (fun i g => av_Gt w f p t i g) 512 (-1003) (av_Gt_0 w f p t) (fun n g hI => pk_le 512 512 (fun _ => kk g hI) (fun z => absurd z (by omega))) (fun n i g hi hI hk => pk_le 512 i (fun z => absurd z (by omega)) (fun _ => ⟨by decide, ax_val i (t / 4) rfl (av_div4 (by omega)) hi (by omega) ⟨by decide, ax_val i (t % 4) rfl (av_rem4 (by omega)) hi (by omega) (nm_r (e' := av_d i t) rfl ⟨pk_in (10752 * w + 512 * p + i) 43008 (by omega) (nI_add _ _), br_c (fun z => nm_r (nI_1 i) (hk g (av_Gt_n hI (fun hF => ?_)))) (fun z => br_c (fun z2 => nm_r (nI_1 i) (hk g (av_Gt_n hI (fun _ => z2)))) (fun z2 => nm_r (nI_1 i) (hk _ (av_Gt_s hI ?_ (Int32.not_le.mp z2)))))⟩)⟩⟩))
  · rw [nI_add, nI_clamp (by omega)] at z
    exact absurd z hF
  · rw [nI_add, nI_clamp (by omega)] at z
    exact z
theorem ax_gb {post : Int32 → SX → Prop} {n : Nat} {rv x1 x2 x3 : Int32} (hn : n ≤ 20) (hv : ∀ post : Int32 → Prop, post rv → wpX_valid post (nI n, L, M, o, a, b, c, K, f, q, V, D, 43008)) (hb : ¬ av_good n x1 x2) (kk : post (-1000) (nI n, L, M, o, a, b, c, K, f, q, V, D, 43008)) : wpX_greatestOf post (nI n, L, M, o, a, b, c, K, f, q, V, D, 43008) x1 x2 x3 := by
  unfold wpX_greatestOf
  dsimp only
  exact ax_rb hn hv hb (br_f (by decide) kk)
theorem ax_gi {post : Int32 → SX → Prop} {n : Nat} {rv x1 x2 x3 : Int32} (hn : n ≤ 20) (hv : ∀ post : Int32 → Prop, post rv → wpX_valid post (nI n, L, M, o, a, b, c, K, f, q, V, D, 43008)) (hg : av_good n x1 x2) (hr : rv = 0) (kk : post (-1002) (nI n, L, M, o, a, b, c, K, f, q, V, D, 43008)) : wpX_greatestOf post (nI n, L, M, o, a, b, c, K, f, q, V, D, 43008) x1 x2 x3 := by
  unfold wpX_greatestOf
  dsimp only
  exact ax_ri hn hv hg hr (br_f (by decide) kk)
theorem ax_gg {post : Int32 → SX → Prop} {n w p t : Nat} {rv x3 : Int32} (h3 : x3 = nI t) (ht : t < 16) (hn : n ≤ 20) (hok : ∀ p, p < n → av_ok (o p) (a p) (b p) (c p)) (hB : av_B f) (hK : ∀ v, v < 4 → ¬ K v = 0 → av_R v (av_P n o a b c) f) (hv : ∀ post : Int32 → Prop, post rv → wpX_valid post (nI n, L, M, o, a, b, c, K, f, q, V, D, 43008)) (hw : w < 4) (hp : p < n + 1) (hr : ¬ rv = 0)
    (kk : ∀ (M' : Int32) (K' f' q' V' D' : Nat → Int32), av_B f' → (∀ v, v < 4 → ¬ K' v = 0 → av_R v (av_P n o a b c) f') → ¬ K' w = 0 → ∀ g, av_Gt w f' p t 512 g → post g (nI n, L, M', o, a, b, c, K', f', q', V', D', 43008)) : wpX_greatestOf post (nI n, L, M, o, a, b, c, K, f, q, V, D, 43008) (nI w) (nI p) x3 := by
  subst h3
  unfold wpX_greatestOf
  dsimp only
  exact ax_rg hn hv hw hp hr (br_t rfl (ax_work hw hn hok hB hK (fun M' K' f' q' V' D' c1 c2 c3 c4 => nm_r (av_ixp w p) (ax_great hw (by omega) ht (kk M' K' f' q' V' D' c1 c2 c3)))))
end
theorem av_Fcell {n w p s : Nat} {o a b c f y : Nat → Int32} (hf : av_B f) (hy : av_B y) (h1 : av_R w (av_P n o a b c) f) (h2 : av_R w (av_P n o a b c) y) (hp : p < 21) (hs : s < 512) : av_F y w p s ↔ av_F f w p s := by
  unfold av_F
  rw [av_cell hf hy h1 h2 hp hs]
theorem av_12 (v : Nat) : 12 + nI v = nI (12 + v) := by
  show nI 12 + nI v = _
  exact nI_add _ _
theorem av_43v (v : Nat) : nI v * 4 + 3 = nI (4 * v + 3) := by
  show nI v * nI 4 + nI 3 = _
  rw [pk_mul, nI_add, Nat.mul_comm]
theorem av_gt1000 {s k : Nat} {g : Int32} (e : g = av_d s k) : (-1000 : Int32) < g := by
  rw [e]
  exact Int32.not_le.mp (av_d_1000 s k)
theorem i_vc_lowest {k : Nat} {u : SX} {v : SY} (I : i_Rel k u v) (hk : k + 5 ≤ 2560) (v1 : Int32) (v2 : Int32) (v3 : Int32) : wpX_lowest (fun r u' => wpY_lowest (fun r' v' => r' = r ∧ i_Rel (k + 5) u' v') v v1 v2 v3) u v1 v2 v3 := by
  obtain ⟨n, L, M, o, a, b, c, K, f, q, V, D, y, kn, g, h, r, rfl, rfl, J⟩ := I
  obtain ⟨rv, h01, hX, hY⟩ := av_valid (L := L) (M := M) (o := o) (a := a) (b := b) (c := c) (K := K) (f := f) (q := q) (V := V) (D := D) (y := y) (kn := kn) (g := g) (h := h) (r := r) J.1
  obtain ⟨hn, hok, hBf, hBy, hKf, hKy⟩ := J
  have J : av_J n o a b c K f kn y := ⟨hn, hok, hBf, hBy, hKf, hKy⟩
  unfold wpX_lowest wpY_lowest
  dsimp only
  refine ax_isV (fun hs => br_f (by decide) ?_) (fun hs => br_t rfl (ay_inr 2 (by decide) (fun e => absurd e hs) (fun _ => ay_ob hn hok hBy hKy hY (Or.inr rfl) (br_f (by decide) ⟨rfl, av_Rel J⟩))))
  rcases av_gate n v1 v2 rv with hb | ⟨hg, hr⟩ | ⟨w, p, hw, hp, rfl, rfl, hr⟩
  · exact ax_gb hn hX hb (br_f (by decide) (ay_inr 2 (by decide) (fun _ => ay_ob hn hok hBy hKy hY (Or.inl hb) (br_f (by decide) ⟨rfl, av_Rel J⟩)) (fun e => absurd hs e)))
  · exact ax_gi hn hX hg hr (br_f (by decide) (ay_inr 2 (by decide) (fun _ => ay_oi hn hok hBy hKy hY hg (by decide) hr (br_f (by decide) ⟨rfl, av_Rel J⟩)) (fun e => absurd hs e)))
  · obtain ⟨t, ht, rfl⟩ := hs
    refine ax_gg (av_12 t) (by omega) hn hok hBf hKf hX hw hp hr (fun M' K' f' q' V' D' c1 c2 c3 gt hG => ?_)
    rcases hG.2 with ⟨eg, hz⟩ | ⟨s0, hs0, hF0, eg⟩
    · subst eg
      refine br_f (by decide) (ay_inr 2 (by decide) (fun _ => ay_og hn hok hBy hKy hY hw hp (by decide) hr (fun k' y' g' h' r' d1 d2 d3 => br_t (by decide) (ay_look rfl rfl hw (by omega) (fun z h2 r2 hK hzz => br_c (fun ez => ⟨rfl, av_Rel ⟨hn, hok, c1, d1, c2, d2⟩⟩) (fun ez => ?_))))) (fun e => absurd ⟨t, ht, rfl⟩ e))
      rcases hzz with e | ⟨_, s1, hs1, hF1⟩
      · exact absurd e.1 ez
      · exact absurd ((av_Fcell c1 d1 (c2 w hw c3) (d2 w hw d3) (by omega) hs1).mp hF1) (hz s1 hs1)
    · refine br_t (av_gt1000 eg) (ay_inr 2 (by decide) (fun _ => ay_og hn hok hBy hKy hY hw hp (by decide) hr (fun k' y' g' h' r' d1 d2 d3 => br_t (by decide) (ay_look rfl rfl hw (by omega) (fun z h2 r2 hK hzz => br_c (fun ez => ?_) (fun ez => ?_))))) (fun e => absurd ⟨t, ht, rfl⟩ e))
      · rcases hzz with e | ⟨e, _⟩
        · exact absurd ((av_Fcell c1 d1 (c2 w hw c3) (d2 w hw d3) (by omega) hs0).mpr hF0) (e.2 s0 hs0)
        · rw [e] at ez
          exact absurd ez (by decide)
      · have hK2 := av_LK_cg (fun s hs => av_Fcell c1 d1 (c2 w hw c3) (d2 w hw d3) (by omega) hs) hK
        have e0 : h2 (nI t).toNatClampNeg = h2 t := by rw [nI_clamp (by omega)]
        refine ⟨pk_in t 3 ht, ay_low (by dsimp only; rw [e0]; exact ⟨_, av_v_lt s0 t, (hK2.1 t _ ht (av_v_lt s0 t)).mpr ⟨s0, hs0, hF0, rfl⟩⟩) (fun x hx => ⟨?_, av_Rel ⟨hn, hok, c1, d1, c2, d2⟩⟩)⟩
        dsimp only at hx
        rw [e0] at hx
        exact (av_Gt_lo hG hK2 ht hx).symm
theorem i_vc_highest {k : Nat} {u : SX} {v : SY} (I : i_Rel k u v) (hk : k + 5 ≤ 2560) (v1 : Int32) (v2 : Int32) (v3 : Int32) : wpX_highest (fun r u' => wpY_highest (fun r' v' => r' = r ∧ i_Rel (k + 5) u' v') v v1 v2 v3) u v1 v2 v3 := by
  obtain ⟨n, L, M, o, a, b, c, K, f, q, V, D, y, kn, g, h, r, rfl, rfl, J⟩ := I
  obtain ⟨rv, h01, hX, hY⟩ := av_valid (L := L) (M := M) (o := o) (a := a) (b := b) (c := c) (K := K) (f := f) (q := q) (V := V) (D := D) (y := y) (kn := kn) (g := g) (h := h) (r := r) J.1
  obtain ⟨hn, hok, hBf, hBy, hKf, hKy⟩ := J
  have J : av_J n o a b c K f kn y := ⟨hn, hok, hBf, hBy, hKf, hKy⟩
  unfold wpX_highest wpY_highest
  dsimp only
  refine ax_isV (fun hs => br_f (by decide) ?_) (fun hs => br_t rfl (ay_inr 2 (by decide) (fun e => absurd e hs) (fun _ => ay_ob hn hok hBy hKy hY (Or.inr rfl) (br_f (by decide) ⟨rfl, av_Rel J⟩))))
  rcases av_gate n v1 v2 rv with hb | ⟨hg, hr⟩ | ⟨w, p, hw, hp, rfl, rfl, hr⟩
  · exact ax_gb hn hX hb ((ay_inr 2 (by decide) (fun _ => ay_ob hn hok hBy hKy hY (Or.inl hb) (br_f (by decide) ⟨rfl, av_Rel J⟩)) (fun e => absurd hs e)))
  · exact ax_gi hn hX hg hr ((ay_inr 2 (by decide) (fun _ => ay_oi hn hok hBy hKy hY hg (by decide) hr (br_f (by decide) ⟨rfl, av_Rel J⟩)) (fun e => absurd hs e)))
  · obtain ⟨t, ht, rfl⟩ := hs
    refine ax_gg (av_43v t) (by omega) hn hok hBf hKf hX hw hp hr (fun M' K' f' q' V' D' c1 c2 c3 gt hG => ?_)
    rcases hG.2 with ⟨eg, hz⟩ | ⟨s0, hs0, hF0, eg⟩
    · subst eg
      refine (ay_inr 2 (by decide) (fun _ => ay_og hn hok hBy hKy hY hw hp (by decide) hr (fun k' y' g' h' r' d1 d2 d3 => br_t (by decide) (ay_look rfl rfl hw (by omega) (fun z h2 r2 hK hzz => br_c (fun ez => ⟨rfl, av_Rel ⟨hn, hok, c1, d1, c2, d2⟩⟩) (fun ez => ?_))))) (fun e => absurd ⟨t, ht, rfl⟩ e))
      rcases hzz with e | ⟨_, s1, hs1, hF1⟩
      · exact absurd e.1 ez
      · exact absurd ((av_Fcell c1 d1 (c2 w hw c3) (d2 w hw d3) (by omega) hs1).mp hF1) (hz s1 hs1)
    · refine (ay_inr 2 (by decide) (fun _ => ay_og hn hok hBy hKy hY hw hp (by decide) hr (fun k' y' g' h' r' d1 d2 d3 => br_t (by decide) (ay_look rfl rfl hw (by omega) (fun z h2 r2 hK hzz => br_c (fun ez => ?_) (fun ez => ?_))))) (fun e => absurd ⟨t, ht, rfl⟩ e))
      · rcases hzz with e | ⟨e, _⟩
        · exact absurd ((av_Fcell c1 d1 (c2 w hw c3) (d2 w hw d3) (by omega) hs0).mpr hF0) (e.2 s0 hs0)
        · rw [e] at ez
          exact absurd ez (by decide)
      · have hK2 := av_LK_cg (fun s hs => av_Fcell c1 d1 (c2 w hw c3) (d2 w hw d3) (by omega) hs) hK
        have e0 : h2 (nI t).toNatClampNeg = h2 t := by rw [nI_clamp (by omega)]
        refine ⟨pk_in t 3 ht, ay_high (by dsimp only; rw [e0]; exact ⟨_, av_v_lt s0 t, (hK2.1 t _ ht (av_v_lt s0 t)).mpr ⟨s0, hs0, hF0, rfl⟩⟩) (fun x hx => ⟨?_, av_Rel ⟨hn, hok, c1, d1, c2, d2⟩⟩)⟩
        dsimp only at hx
        rw [e0] at hx
        exact (av_Gt_hi hG hK2 ht hx).symm
theorem i_vc_most {k : Nat} {u : SX} {v : SY} (I : i_Rel k u v) (hk : k + 5 ≤ 2560) (v1 : Int32) (v2 : Int32) (v3 : Int32) : wpX_most (fun r u' => wpY_most (fun r' v' => r' = r ∧ i_Rel (k + 5) u' v') v v1 v2 v3) u v1 v2 v3 := by
  obtain ⟨n, L, M, o, a, b, c, K, f, q, V, D, y, kn, g, h, r, rfl, rfl, J⟩ := I
  obtain ⟨rv, h01, hX, hY⟩ := av_valid (L := L) (M := M) (o := o) (a := a) (b := b) (c := c) (K := K) (f := f) (q := q) (V := V) (D := D) (y := y) (kn := kn) (g := g) (h := h) (r := r) J.1
  obtain ⟨hn, hok, hBf, hBy, hKf, hKy⟩ := J
  have J : av_J n o a b c K f kn y := ⟨hn, hok, hBf, hBy, hKf, hKy⟩
  unfold wpX_most wpY_most
  dsimp only
  refine ax_isP (fun hs => br_f (by decide) ?_) (fun hs => br_t rfl (ay_inr 15 (by decide) (fun e => absurd e hs) (fun _ => ay_ob hn hok hBy hKy hY (Or.inr rfl) (br_f (by decide) ⟨rfl, av_Rel J⟩))))
  rcases av_gate n v1 v2 rv with hb | ⟨hg, hr⟩ | ⟨w, p, hw, hp, rfl, rfl, hr⟩
  · exact ax_gb hn hX hb ((ay_inr 15 (by decide) (fun _ => ay_ob hn hok hBy hKy hY (Or.inl hb) (br_f (by decide) ⟨rfl, av_Rel J⟩)) (fun e => absurd hs e)))
  · exact ax_gi hn hX hg hr ((ay_inr 15 (by decide) (fun _ => ay_oi hn hok hBy hKy hY hg (by decide) hr (br_f (by decide) ⟨rfl, av_Rel J⟩)) (fun e => absurd hs e)))
  · obtain ⟨t, ht, rfl⟩ := hs
    refine ax_gg (rfl) (by omega) hn hok hBf hKf hX hw hp hr (fun M' K' f' q' V' D' c1 c2 c3 gt hG => ?_)
    rcases hG.2 with ⟨eg, hz⟩ | ⟨s0, hs0, hF0, eg⟩
    · subst eg
      refine (ay_inr 15 (by decide) (fun _ => ay_og hn hok hBy hKy hY hw hp (by decide) hr (fun k' y' g' h' r' d1 d2 d3 => br_t (by decide) (ay_look rfl rfl hw (by omega) (fun z h2 r2 hK hzz => br_c (fun ez => ⟨rfl, av_Rel ⟨hn, hok, c1, d1, c2, d2⟩⟩) (fun ez => ?_))))) (fun e => absurd ⟨t, ht, rfl⟩ e))
      rcases hzz with e | ⟨_, s1, hs1, hF1⟩
      · exact absurd e.1 ez
      · exact absurd ((av_Fcell c1 d1 (c2 w hw c3) (d2 w hw d3) (by omega) hs1).mp hF1) (hz s1 hs1)
    · refine (ay_inr 15 (by decide) (fun _ => ay_og hn hok hBy hKy hY hw hp (by decide) hr (fun k' y' g' h' r' d1 d2 d3 => br_t (by decide) (ay_look rfl rfl hw (by omega) (fun z h2 r2 hK hzz => br_c (fun ez => ?_) (fun ez => ?_))))) (fun e => absurd ⟨t, ht, rfl⟩ e))
      · rcases hzz with e | ⟨e, _⟩
        · exact absurd ((av_Fcell c1 d1 (c2 w hw c3) (d2 w hw d3) (by omega) hs0).mpr hF0) (e.2 s0 hs0)
        · rw [e] at ez
          exact absurd ez (by decide)
      · have hK2 := av_LK_cg (fun s hs => av_Fcell c1 d1 (c2 w hw c3) (d2 w hw d3) (by omega) hs) hK
        refine ⟨pk_in t 16 ht, ?_, av_Rel ⟨hn, hok, c1, d1, c2, d2⟩⟩
        dsimp only
        rw [nI_clamp (by omega)]
        exact (av_Gt_most hG hK2 ht ⟨s0, hs0, hF0⟩).1.symm
end
section
/-! ===== exact, unreached ===== -/
theorem av_iy512 (p s : Nat) : 512 * nI p + nI s = nI (512 * p + s) := by
  show nI 512 * nI p + nI s = _
  rw [pk_mul, nI_add]
theorem av_ix0 (p : Nat) : 0 + nI p * 512 = nI (512 * p) := by
  show nI 0 + nI p * nI 512 = _
  rw [pk_mul, nI_add]
  exact congrArg nI (by omega)
def av_e (f : Nat → Int32) (w : Nat) : Nat → Nat
  | 0 => 0
  | i + 1 => av_e f w i + (if av_n f (10752 * w + 512 * i) 512 = 0 then 1 else 0)
theorem av_e_s (f : Nat → Int32) (w i : Nat) : av_e f w (i + 1) = av_e f w i + (if av_n f (10752 * w + 512 * i) 512 = 0 then 1 else 0) := rfl
theorem av_e_cg {f y : Nat → Int32} {w : Nat} : ∀ m, (∀ i, i < m → av_n f (10752 * w + 512 * i) 512 = av_n y (10752 * w + 512 * i) 512) → av_e f w m = av_e y w m := by
  intro m
  induction m with
  | zero => exact fun _ => rfl
  | succ m ih =>
    intro h
    rw [av_e_s, av_e_s, ih (fun i hi => h i (by omega)), h m (by omega)]
section
variable {N L M : Int32} {o a b c K f q V D : Nat → Int32}
theorem ax_ex {post : Int32 → SX → Prop} {w p : Nat} (hw : w < 4) (hp : p < 21) (k1 : (∀ s, s < 512 → f (10752 * w + 512 * p + s) = f (512 * p + s)) → post 1 (N, L, M, o, a, b, c, K, f, q, V, D, 43008)) (k0 : ¬ (∀ s, s < 512 → f (10752 * w + 512 * p + s) = f (512 * p + s)) → post 0 (N, L, M, o, a, b, c, K, f, q, V, D, 43008)) : ∃ n45, wX_exact_45 post (nI (10752 * w + 512 * p)) (nI (512 * p)) N L M o a b c K f q V D 43008 n45 0 := by
  refine loop_0 (σ := Unit) (fun n i _ => wX_exact_45 post (nI (10752 * w + 512 * p)) (nI (512 * p)) N L M o a b c K f q V D 43008 n (nI i)) (fun i _ => ∀ s, s < i → f (10752 * w + 512 * p + s) = f (512 * p + s)) 512 () (fun s hs => absurd hs (by omega)) (fun n _ hI => pk_le 512 512 (fun _ => k1 hI) (fun z => absurd z (by omega))) (fun n i _ hi hI hk => pk_le 512 i (fun z => absurd z (by omega)) (fun _ => ⟨pk_in (10752 * w + 512 * p + i) 43008 (by omega) (nI_add _ _), pk_in (512 * p + i) 43008 (by omega) (nI_add _ _), br_c (fun z => nm_r (nI_1 i) (hk () (fun s hs => ?_))) (fun z => k0 (fun g2 => ?_))⟩))
  · rw [nI_add, nI_add, nI_clamp (by omega), nI_clamp (by omega)] at z
    by_cases e : s = i
    · rw [e]
      exact z
    · exact hI s (by omega)
  · rw [nI_add, nI_add, nI_clamp (by omega), nI_clamp (by omega)] at z
    exact z (g2 i hi)
theorem ax_unr {post : Int32 → SX → Prop} {n w : Nat} (hn : n ≤ 20) (hw : w < 4) (kk : post (nI (av_e f w (n + 1))) (nI n, L, M, o, a, b, c, K, f, q, V, D, 43008)) : ∃ n23, wX_unreached_23 post (nI w) (nI n) L M o a b c K f q V D 43008 n23 0 0 := by
  refine loop_0 (σ := Unit) (fun n23 i _ => wX_unreached_23 post (nI w) (nI n) L M o a b c K f q V D 43008 n23 (nI (av_e f w i)) (nI i)) (fun _ _ => True) (n + 1) () trivial (fun n23 _ _ => pk_lt n (n + 1) (fun _ => kk) (fun z => absurd z (by omega))) (fun n23 i _ hi _ hk => pk_lt n i (fun z => absurd z (by omega)) (fun _ => ax_size hw (by omega) (pk_eq (av_n f (10752 * w + 512 * i) 512) 0 (fun e => nm_r (nI_1 _) (nm_r (nI_1 i) ?_)) (fun e => nm_r (nI_1 i) ?_) rfl rfl (by have := av_n_le f (10752 * w + 512 * i) 512; omega))))
  · have h2 := hk () trivial
    rw [av_e_s, if_pos e] at h2
    exact h2
  · have h2 := hk () trivial
    rw [av_e_s, if_neg e, Nat.add_zero] at h2
    exact h2
end
section
variable {N : Int32} {o a b c f k g h r : Nat → Int32}
theorem ay_ex {post : Int32 → SY → Prop} {w p : Nat} (hw : w < 4) (hp : p < 21) (k1 : (∀ s, s < 512 → f (10752 * w + 512 * p + s) = f (512 * p + s)) → post 1 (N, o, a, b, c, f, k, g, h, r, 43008)) (k0 : ¬ (∀ s, s < 512 → f (10752 * w + 512 * p + s) = f (512 * p + s)) → post 0 (N, o, a, b, c, f, k, g, h, r, 43008)) : ∃ n19, wY_exact_19 post (nI w) (nI p) N o a b c f k g h r 43008 n19 0 := by
  refine loop_0 (σ := Unit) (fun n i _ => wY_exact_19 post (nI w) (nI p) N o a b c f k g h r 43008 n (nI i)) (fun i _ => ∀ s, s < i → f (10752 * w + 512 * p + s) = f (512 * p + s)) 512 () (fun s hs => absurd hs (by omega)) (fun n _ hI => pk_le 512 512 (fun _ => k1 hI) (fun z => absurd z (by omega))) (fun n i _ hi hI hk => pk_le 512 i (fun z => absurd z (by omega)) (fun _ => ⟨pk_in (10752 * w + 512 * p + i) 43008 (by omega) (av_iyw w p i), pk_in (512 * p + i) 43008 (by omega) (av_iy512 p i), br_c (fun z => nm_r (nI_1 i) (hk () (fun s hs => ?_))) (fun z => k0 (fun g2 => ?_))⟩))
  · rw [av_iyw, av_iy512, nI_clamp (by omega), nI_clamp (by omega)] at z
    by_cases e : s = i
    · rw [e]
      exact z
    · exact hI s (by omega)
  · rw [av_iyw, av_iy512, nI_clamp (by omega), nI_clamp (by omega)] at z
    exact z (g2 i hi)
theorem ay_unr {post : Int32 → SY → Prop} {n w : Nat} (hn : n ≤ 20) (hw : w < 4) (kk : ∀ (h' r' : Nat → Int32), post (nI (av_e f w (n + 1))) (nI n, o, a, b, c, f, k, g, h', r', 43008)) : ∃ n19, wY_unreached_19 post (nI w) n19 0 0 (nI n) o a b c f k g h r 43008 := by
  refine loop_0 (σ := (Nat → Int32) × (Nat → Int32)) (fun n19 i t => wY_unreached_19 post (nI w) n19 (nI (av_e f w i)) (nI i) (nI n) o a b c f k g (t.1) (t.2) 43008) (fun _ _ => True) (n + 1) (h, r) trivial (fun n19 t _ => pk_lt n (n + 1) (fun _ => kk _ _) (fun z => absurd z (by omega))) (fun n19 i t hi _ hk => pk_lt n i (fun z => absurd z (by omega)) (fun _ => ay_look rfl rfl hw (by omega) (fun z h' r' hK hz => br_c (fun ez => nm_r (nI_1 _) (nm_r (nI_1 i) ?_)) (fun ez => nm_r (nI_1 i) ?_))))
  · have h2 := hk (h', r') trivial
    have e0 : av_n f (10752 * w + 512 * i) 512 = 0 := by
      refine av_n_0 512 (fun s hs => ?_)
      rcases hz with e | e
      · exact Classical.byContradiction (fun g2 => e.2 s hs g2)
      · rw [e.1] at ez
        exact absurd ez (by decide)
    rw [av_e_s, if_pos e0] at h2
    exact h2
  · have h2 := hk (h', r') trivial
    have e0 : ¬ av_n f (10752 * w + 512 * i) 512 = 0 := by
      intro e0
      rcases hz with e | ⟨_, s, hs, hF⟩
      · exact ez e.1
      · exact hF (av_n_z 512 e0 s hs)
    rw [av_e_s, if_neg e0, Nat.add_zero] at h2
    exact h2
end
theorem av_cell0 {n p s : Nat} {o a b c f y : Nat → Int32} (hf : av_B f) (hy : av_B y) (h1 : av_R 0 (av_P n o a b c) f) (h2 : av_R 0 (av_P n o a b c) y) (hp : p < 21) (hs : s < 512) : f (512 * p + s) = y (512 * p + s) := by
  have e := av_cell hf hy h1 h2 hp hs
  rw [Nat.mul_zero, Nat.zero_add] at e
  exact e
theorem i_vc_exact {k : Nat} {u : SX} {v : SY} (I : i_Rel k u v) (hk : k + 5 ≤ 2560) (v1 : Int32) (v2 : Int32) : wpX_exact (fun r u' => wpY_exact (fun r' v' => r' = r ∧ i_Rel (k + 5) u' v') v v1 v2) u v1 v2 := by
  obtain ⟨n, L, M, o, a, b, c, K, f, q, V, D, y, kn, g, h, r, rfl, rfl, J⟩ := I
  obtain ⟨rv, h01, hX, hY⟩ := av_valid (L := L) (M := M) (o := o) (a := a) (b := b) (c := c) (K := K) (f := f) (q := q) (V := V) (D := D) (y := y) (kn := kn) (g := g) (h := h) (r := r) J.1
  obtain ⟨hn, hok, hBf, hBy, hKf, hKy⟩ := J
  have J : av_J n o a b c K f kn y := ⟨hn, hok, hBf, hBy, hKf, hKy⟩
  unfold wpX_exact wpY_exact
  dsimp only
  rcases av_gate n v1 v2 rv with hb | ⟨hg, hr⟩ | ⟨w, p, hw, hp, rfl, rfl, hr⟩
  · exact ax_rb hn hX hb (br_f (by decide) (ay_ob hn hok hBy hKy hY (Or.inl hb) (br_f (by decide) ⟨rfl, av_Rel J⟩)))
  · exact ax_ri hn hX hg hr (br_f (by decide) (ay_oi hn hok hBy hKy hY hg (by decide) hr (br_f (by decide) ⟨rfl, av_Rel J⟩)))
  · refine ax_rg hn hX hw hp hr (br_t rfl (ax_work (w := 0) (by omega) hn hok hBf hKf (fun M1 K1 f1 q1 V1 D1 c1 c2 c3 c4 => ax_work hw hn hok c1 c2 (fun M2 K2 f2 q2 V2 D2 e1 e2 e3 e4 => nm_r (av_ixp w p) (nm_r (av_ix0 p) (ax_ex hw (by omega) (fun hall => ?_) (fun hall => ?_)))))))
    · refine ay_og hn hok hBy hKy hY hw hp (by decide) hr (fun k1 y1 g1 h1 r1 d1 d2 d3 => br_t rfl (ay_work (w := 0) rfl (by omega) hn hok d1 d2 (fun k2 y2 g2 h2 r2 i1 i2 i3 i4 => ay_ex hw (by omega) (fun _ => ⟨rfl, av_Rel ⟨hn, hok, e1, i1, e2, i2⟩⟩) (fun hno => absurd (fun s hs => ?_) hno))))
      dsimp only
      rw [← av_cell e1 i1 (e2 w hw e3) (i2 w hw (i4 w d3)) (by omega) hs, ← av_cell0 e1 i1 (e2 0 (by omega) (e4 0 c3)) (i2 0 (by omega) i3) (by omega) hs]
      exact hall s hs
    · refine ay_og hn hok hBy hKy hY hw hp (by decide) hr (fun k1 y1 g1 h1 r1 d1 d2 d3 => br_t rfl (ay_work (w := 0) rfl (by omega) hn hok d1 d2 (fun k2 y2 g2 h2 r2 i1 i2 i3 i4 => ay_ex hw (by omega) (fun hyes => absurd (fun s hs => ?_) hall) (fun _ => ⟨rfl, av_Rel ⟨hn, hok, e1, i1, e2, i2⟩⟩))))
      dsimp only
      rw [av_cell e1 i1 (e2 w hw e3) (i2 w hw (i4 w d3)) (by omega) hs, av_cell0 e1 i1 (e2 0 (by omega) (e4 0 c3)) (i2 0 (by omega) i3) (by omega) hs]
      exact hyes s hs
theorem i_vc_unreached {k : Nat} {u : SX} {v : SY} (I : i_Rel k u v) (hk : k + 5 ≤ 2560) (v1 : Int32) : wpX_unreached (fun r u' => wpY_unreached (fun r' v' => r' = r ∧ i_Rel (k + 5) u' v') v v1) u v1 := by
  obtain ⟨n, L, M, o, a, b, c, K, f, q, V, D, y, kn, g, h, r, rfl, rfl, J⟩ := I
  obtain ⟨rv, h01, hX, hY⟩ := av_valid (L := L) (M := M) (o := o) (a := a) (b := b) (c := c) (K := K) (f := f) (q := q) (V := V) (D := D) (y := y) (kn := kn) (g := g) (h := h) (r := r) J.1
  obtain ⟨hn, hok, hBf, hBy, hKf, hKy⟩ := J
  have J : av_J n o a b c K f kn y := ⟨hn, hok, hBf, hBy, hKf, hKy⟩
  unfold wpX_unreached wpY_unreached
  dsimp only
  rcases av_gate n v1 0 rv with hb | ⟨hg, hr⟩ | ⟨w, p, hw, hp, rfl, _, hr⟩
  · exact ax_rb hn hX hb (br_f (by decide) (ay_ob hn hok hBy hKy hY (Or.inl hb) (br_f (by decide) ⟨rfl, av_Rel J⟩)))
  · exact ax_ri hn hX hg hr (br_f (by decide) (ay_oi hn hok hBy hKy hY hg (by decide) hr (br_f (by decide) ⟨rfl, av_Rel J⟩)))
  · refine ax_rg (p := 0) hn hX hw (by omega) hr (br_t rfl (ax_work hw hn hok hBf hKf (fun M' K' f' q' V' D' c1 c2 c3 c4 => ax_unr hn hw (ay_og (p := 0) hn hok hBy hKy hY hw (by omega) (by decide) hr (fun k' y' g' h' r' d1 d2 d3 => br_t (by decide) (ay_unr hn hw (fun h2 r2 => ⟨congrArg nI (av_e_cg (n + 1) (fun i hi => av_n_cg 512 (fun j hj => ?_))), av_Rel ⟨hn, hok, c1, d1, c2, d2⟩⟩)))))))
    exact (av_cell c1 d1 (c2 w hw c3) (d2 w hw d3) (by omega) hj).symm
end
