/-! ===== the component's small methods ===== -/
theorem av_m_st {o i j : Nat} {g f : Nat → Int32} {x : Int32} (hj : j = o + i) (hx : x = g (o + i)) : upd (av_m o i g f) j x = av_m o (i + 1) g f := by
  rw [hj, hx]
  exact av_m_s o i g f
theorem av_nar0 : vp_nar .boolean 0 = 0 := rfl
theorem av_nar1 : vp_nar .boolean 1 = 1 := rfl
theorem av_nb0 : narrow .boolean (.int 0) = .int 0 := rfl
theorem av_nb1 : narrow .boolean (.int 1) = .int 1 := rfl
theorem av_i3 (p i : Nat) : nI p * 3 + nI i = nI (3 * p + i) := by
  show nI p * nI 3 + nI i = _
  rw [pk_mul, nI_add]
  exact congrArg nI (by omega)
theorem av_i16 (p i : Nat) : nI p * 16 + nI i = nI (16 * p + i) := by
  show nI p * nI 16 + nI i = _
  rw [pk_mul, nI_add]
  exact congrArg nI (by omega)
theorem av_i512 (p i : Nat) : nI p * 512 + nI i = nI (512 * p + i) := by
  show nI p * nI 512 + nI i = _
  rw [pk_mul, nI_add]
  exact congrArg nI (by omega)
theorem av_ixz (w z : Nat) : nI w * 10752 + nI z = nI (10752 * w + z) := by
  show nI w * nI 10752 + nI z = _
  rw [pk_mul, nI_add]
  exact congrArg nI (by omega)
theorem av_ixw (w p s : Nat) : nI w * 10752 + nI (512 * p + s) = nI (10752 * w + 512 * p + s) := by
  rw [av_ixz, Nat.add_assoc]
theorem av_ixp (w p : Nat) : nI w * 10752 + nI p * 512 = nI (10752 * w + 512 * p) := by
  show nI w * nI 10752 + nI p * nI 512 = _
  rw [pk_mul, pk_mul, nI_add]
  exact congrArg nI (by omega)
theorem av_iyp (w p : Nat) : 10752 * nI w + 512 * nI p = nI (10752 * w + 512 * p) := by
  show nI 10752 * nI w + nI 512 * nI p = _
  rw [pk_mul, pk_mul, nI_add]
theorem av_iyw (w p s : Nat) : 10752 * nI w + 512 * nI p + nI s = nI (10752 * w + 512 * p + s) := by
  rw [av_iyp, nI_add]
theorem av_div4 {i : Nat} (h : i < 2 ^ 31) : nI i / 4 = nI (i / 4) := pk_div (d := 4) h (by decide) (by decide)
theorem av_rem4 {i : Nat} (h : i < 2 ^ 31) : nI i - nI i / 4 * 4 = nI (i % 4) := pk_rem (d := 4) h (by decide) (by decide)
theorem av_div512 {i : Nat} (h : i < 2 ^ 31) : nI i / 512 = nI (i / 512) := pk_div (d := 512) h (by decide) (by decide)
theorem av_rem512 {i : Nat} (h : i < 2 ^ 31) : nI i - nI i / 512 * 512 = nI (i % 512) := pk_rem (d := 512) h (by decide) (by decide)
theorem ax_val {post : Int32 → Prop} {x y : Int32} (s v : Nat) (hx : x = nI s) (hy : y = nI v) (hs : s < 512) (hv : v < 4) (k : post (nI (av_v s v))) : wpX_value post x y := by
  subst hx hy
  unfold wpX_value
  rw [av_val v hv s hs]
  exact k
theorem ax_with {post : Int32 → Prop} {x y z : Int32} (s v t : Nat) (hx : x = nI s) (hy : y = nI v) (hz : z = nI t) (hs : s < 512) (hv : v < 3) (ht : t < 8) (k : post (nI (av_w s v t))) : wpX_withValue post x y z := by
  subst hx hy hz
  unfold wpX_withValue
  rw [av_wth v hv t ht s hs]
  exact k
section
variable {N L M : Int32} {o a b c K f q V D : Nat → Int32}
theorem ax_drop {post : SX → Prop} (k : post (N, L, M, o, a, b, c, av_m 0 4 (fun _ => 0) K, f, q, V, D, 43008)) : wpX_dropResults post (N, L, M, o, a, b, c, K, f, q, V, D, 43008) :=
  av_run (o := 0) (e := 4) (g := fun _ => 0) (f := K) (fun n i s => wX_dropResults_2 post N L M 43008 n (nI i) o a b c s f q V D)
    (fun n => pk_le 4 4 (fun _ => k) (fun z => absurd z (by omega)))
    (fun n i hi h => pk_le 4 i (fun z => absurd z (by omega)) (fun _ => ⟨pk_in i 4 hi, nm_r (e' := av_m 0 (i + 1) (fun _ => 0) K) (by rw [nI_clamp (by omega), av_nar0]; exact av_m_st (by omega) rfl) (nm_r (nI_1 i) h)⟩))
theorem ax_clear {post : SX → Prop} {w : Nat} (hw : w < 4) (k : post (N, L, 0, o, a, b, c, K, av_m (10752 * w) 10752 (fun _ => 0) f, q, av_m 0 63 (fun _ => 0) V, av_m 0 336 (fun _ => -8) D, 43008)) : wpX_clear post (N, L, M, o, a, b, c, K, f, q, V, D, 43008) (nI w) := by
  have k3 : ∃ n, wX_clear_51 post N L M 43008 n (nI 0) o a b c K (av_m (10752 * w) 10752 (fun _ => 0) f) q (av_m 0 63 (fun _ => 0) V) D :=
    av_run (o := 0) (e := 336) (g := fun _ => -8) (f := D) (fun n i s => wX_clear_51 post N L M 43008 n (nI i) o a b c K (av_m (10752 * w) 10752 (fun _ => 0) f) q (av_m 0 63 (fun _ => 0) V) s)
      (fun n => pk_le 336 336 (fun _ => k) (fun z => absurd z (by omega)))
      (fun n i hi h => pk_le 336 i (fun z => absurd z (by omega)) (fun _ => ⟨pk_in i 336 hi, nm_r (e' := av_m 0 (i + 1) (fun _ => -8) D) (by rw [nI_clamp (by omega)]; exact av_m_st (by omega) rfl) (nm_r (nI_1 i) h)⟩))
  have k2 : ∃ n, wX_clear_30 post N L M 43008 n (nI 0) o a b c K (av_m (10752 * w) 10752 (fun _ => 0) f) q V D :=
    av_run (o := 0) (e := 63) (g := fun _ => 0) (f := V) (fun n i s => wX_clear_30 post N L M 43008 n (nI i) o a b c K (av_m (10752 * w) 10752 (fun _ => 0) f) q s D)
      (fun n => pk_le 63 63 (fun _ => k3) (fun z => absurd z (by omega)))
      (fun n i hi h => pk_le 63 i (fun z => absurd z (by omega)) (fun _ => ⟨pk_in i 63 hi, nm_r (e' := av_m 0 (i + 1) (fun _ => 0) V) (by rw [nI_clamp (by omega)]; exact av_m_st (by omega) rfl) (nm_r (nI_1 i) h)⟩))
  exact av_run (o := 10752 * w) (e := 10752) (g := fun _ => 0) (f := f) (fun n i s => wX_clear_2 post (nI w) N L M 43008 n (nI i) o a b c K s q V D)
      (fun n => pk_le 10752 10752 (fun _ => k2) (fun z => absurd z (by omega)))
      (fun n i hi h => pk_le 10752 i (fun z => absurd z (by omega)) (fun _ => ⟨pk_in (10752 * w + i) 43008 (by omega) (av_ixz w i), nm_r (e' := av_m (10752 * w) (i + 1) (fun _ => 0) f) (by rw [av_ixz, nI_clamp (by omega), av_nar0]; exact av_m_st rfl rfl) (nm_r (nI_1 i) h)⟩))
theorem ax_add {post : SX → Prop} {w p s m : Nat} (hw : w < 4) (hp : p < 21) (hs : s < 512) (hm : m < 10752) (k : post (N, L, nI (m + 1), o, a, b, c, K, upd f (10752 * w + 512 * p + s) 1, upd q m (nI (512 * p + s)), V, D, 43008)) : wpX_add post (N, L, nI m, o, a, b, c, K, f, q, V, D, 43008) (nI w) (nI (512 * p + s)) :=
  ⟨pk_in (10752 * w + 512 * p + s) 43008 (by omega) (av_ixw w p s), nm_r (e' := upd f (10752 * w + 512 * p + s) 1) (by rw [av_ixw, nI_clamp (by omega), av_nar1])
    (pk_le 10752 m (fun z => absurd z (by omega)) (fun _ => ⟨pk_in m 10752 hm, nm_r (e' := upd q m (nI (512 * p + s))) (by rw [nI_clamp (by omega)]) (nm_r (nI_1 m) k)⟩))⟩
theorem ax_widen {post : SX → Prop} {p s : Nat} (hp : p < 21) (hs : s < 512) (k : post (N, L, M, o, a, b, c, K, f, q, av_m (3 * p) 3 (av_wv p s V) V, av_m (16 * p) 16 (av_wb p s D) D, 43008)) : wpX_widen post (N, L, M, o, a, b, c, K, f, q, V, D, 43008) (nI p) (nI s) := by
  have k2 : ∃ n, wX_widen_35 post (nI p) (nI s) N L M 43008 n (nI 0) o a b c K f q (av_m (3 * p) 3 (av_wv p s V) V) D := by
    refine av_run (o := 16 * p) (e := 16) (g := av_wb p s D) (f := D) (fun n i r => wX_widen_35 post (nI p) (nI s) N L M 43008 n (nI i) o a b c K f q (av_m (3 * p) 3 (av_wv p s V) V) r) (fun n => pk_le 16 16 (fun _ => k) (fun z => absurd z (by omega))) (fun n i hi h => pk_le 16 i (fun z => absurd z (by omega)) (fun _ => ⟨by decide, ax_val s (i / 4) rfl (av_div4 (by omega)) hs (by omega) ⟨by decide, ax_val s (i % 4) rfl (av_rem4 (by omega)) hs (by omega) (nm_r (e' := av_d s i) rfl ⟨pk_in (16 * p + i) 336 (by omega) (av_i16 p i), br_c (fun z => nm_r (nI_1 i) ?_) (fun z => ⟨pk_in (16 * p + i) 336 (by omega) (av_i16 p i), nm_r (e' := av_m (16 * p) (i + 1) (av_wb p s D) D) ?_ (nm_r (nI_1 i) h)⟩)⟩)⟩⟩))
    · rw [av_i16, nI_clamp (by omega), av_m_out (by omega)] at z
      have e : av_m (16 * p) i (av_wb p s D) D = av_m (16 * p) (i + 1) (av_wb p s D) D := av_m_k (by rw [av_wb_at, if_neg (Int32.not_lt.mpr z)])
      rw [e]
      exact h
    · rw [av_i16, nI_clamp (by omega), av_m_out (by omega)] at z
      rw [av_i16, nI_clamp (by omega)]
      exact av_m_st rfl (by rw [av_wb_at, if_pos (Int32.not_le.mp z)])
  exact av_run (o := 3 * p) (e := 3) (g := av_wv p s V) (f := V) (fun n i r => wX_widen_2 post (nI p) (nI s) N L M 43008 n (nI i) o a b c K f q r D)
      (fun n => pk_le 3 3 (fun _ => k2) (fun z => absurd z (by omega)))
      (fun n i hi h => pk_le 3 i (fun z => absurd z (by omega)) (fun _ => ⟨pk_in (3 * p + i) 63 (by omega) (av_i3 p i), ax_val s i rfl rfl hs (by omega) ⟨pk_in (3 * p + i) 63 (by omega) (av_i3 p i), nm_r (e' := av_m (3 * p) (i + 1) (av_wv p s V) V) (by rw [av_i3, nI_clamp (by omega)]; exact av_m_st rfl (by rw [av_m_out (by omega), av_wv_at])) (nm_r (nI_1 i) h)⟩⟩))
theorem ax_widen2 {post : SX → Prop} {y : Int32} {p s : Nat} (hp : p < 21) (hs : s < 512) (hy : y = nI s) (k : post (N, L, M, o, a, b, c, K, f, q, av_m (3 * p) 3 (av_wv p s V) V, av_m (16 * p) 16 (av_wb p s D) D, 43008)) : wpX_widen post (N, L, M, o, a, b, c, K, f, q, V, D, 43008) (nI p) y := by
  rw [hy]
  exact ax_widen hp hs k
end
