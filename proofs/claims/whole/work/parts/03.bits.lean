/-! ===== bits of small sets, values and differences as ints ===== -/
theorem av_b1 : ∀ x, x < 8 → ∀ i, i < 32 → bt ((1 : Int32) <<< (nI x &&& 31)) i = decide (i = x) := by decide +kernel
theorem av_b1' : ∀ i, i < 32 → bt 1 i = decide (i = 0) := by decide +kernel
theorem av_bor {h : Int32} {x i : Nat} (hx : x < 8) (hi : i < 32) : bt (h ||| ((1 : Int32) <<< (nI x &&& 31))) i = (bt h i || decide (i = x)) := by
  rw [b_or, av_b1 x hx i hi]
theorem av_band {h : Int32} {x : Nat} (hx : x < 8) : (h &&& ((1 : Int32) <<< (nI x &&& 31))) = 0 ↔ bt h x = false := by
  constructor
  · intro e
    have e2 : bt (h &&& ((1 : Int32) <<< (nI x &&& 31))) x = bt 0 x := by rw [e]
    rw [b_and, av_b1 x hx x (by omega), b_0, decide_eq_true rfl, Bool.and_true] at e2
    exact e2
  · intro e
    apply b_ext
    intro i hi
    rw [b_and, av_b1 x hx i hi, b_0]
    by_cases z : i = x
    · rw [z, e, Bool.false_and]
    · rw [decide_eq_false z, Bool.and_false]
theorem av_bx {h : Int32} {x : Nat} (hx : x < 8) : ((h >>> (nI x &&& 31)) &&& 1) = if bt h x = true then 1 else 0 := by
  apply b_ext
  intro i hi
  rw [b_and, b_sshr x (by omega) h hi, av_b1' i hi]
  by_cases e : i = 0
  · subst e
    rw [if_pos (by omega), Nat.add_zero, decide_eq_true rfl, Bool.and_true]
    cases hb : bt h x
    · rw [if_neg (by decide), b_0]
    · rw [if_pos rfl]
      decide
  · rw [decide_eq_false e, Bool.and_false]
    cases hb : bt h x
    · rw [if_neg (by decide), b_0]
    · rw [if_pos rfl, av_b1' i hi, decide_eq_false e]
theorem av_bx1 {h : Int32} {x : Nat} (hx : x < 8) : ((h >>> (nI x &&& 31)) &&& 1) = 1 ↔ bt h x = true := by
  rw [av_bx hx]
  cases bt h x
  · decide
  · decide
theorem av_bx0 {h : Int32} {x : Nat} (hx : x < 8) : ((h >>> (nI x &&& 31)) &&& 1) = 0 ↔ bt h x = false := by
  rw [av_bx hx]
  cases bt h x
  · decide
  · decide
theorem av_val : ∀ v, v < 4 → ∀ s, s < 512 → (nI s >>> ((3 * nI v) &&& 31)) &&& 7 = nI (av_v s v) := by decide +kernel
theorem av_wth : ∀ v, v < 3 → ∀ x, x < 8 → ∀ s, s < 512 → (nI s &&& ((7 <<< ((3 * nI v) &&& 31)) ^^^ (-1))) ||| (nI x <<< ((3 * nI v) &&& 31)) = nI (av_w s v x) := by decide +kernel
theorem av_hi : ∀ a, a < 8 → ∀ b, b < 8 → ((nI a - nI 0 ≤ nI b - nI 0 ↔ a ≤ b) ∧ (nI 0 - nI a ≤ nI 0 - nI b ↔ b ≤ a)) := by decide +kernel
theorem av_neg : ∀ a, a < 8 → -(nI 0 - nI a) = nI a ∧ nI a - nI 0 = nI a := by decide +kernel
theorem av_c7 : ∀ x : Nat, x < 8 → nI x &&& 7 = nI x := by decide +kernel
