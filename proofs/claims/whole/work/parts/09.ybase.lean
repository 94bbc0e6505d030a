/-! ===== the reference's small methods ===== -/
theorem av_YG_D {w : Nat} {G : Nat → Nat → Nat → Nat → Prop} {D1 D : Nat → Prop} {f g f' g' : Nat → Int32} (h : av_YG w G D1 f g f' g') (hd : ∀ p, D1 p → D p) : av_YG w G D f g f' g' :=
  ⟨h.1, fun p s hp hs hF => (h.2.1 p s hp hs hF).imp id (fun z => ⟨hd p z.1, z.2⟩), h.2.2⟩
section
variable {N : Int32} {o a b c f k g h r : Nat → Int32}
theorem ay_in {post : Int32 → Prop} {x lo hi : Int32} (k1 : lo ≤ x → x ≤ hi → post 1) (k0 : (x < lo ∨ hi < x) → post 0) : wpY_in post (N, o, a, b, c, f, k, g, h, r, 43008) x lo hi :=
  br_c (fun z => k0 (Or.inl z)) (fun z => br_c (fun z2 => k0 (Or.inr z2)) (fun z2 => k1 (Int32.not_lt.mp z) (Int32.not_lt.mp z2)))
theorem ay_val {post : Int32 → Prop} {x y : Int32} (s v : Nat) (hx : x = nI s) (hy : y = nI v) (hs : s < 512) (hv : v < 4) (k1 : post (nI (av_v s v))) : wpY_value post (N, o, a, b, c, f, k, g, h, r, 43008) x y := by
  subst hx hy
  refine pk_eq v 3 (fun e => ?_) (fun e => ?_)
  · rw [e, av_v_3] at k1
    exact k1
  · rw [av_val v hv s hs]
    exact k1
theorem ay_with {post : Int32 → Prop} {x y z : Int32} (s v t : Nat) (hx : x = nI s) (hy : y = nI v) (hz : z = nI t) (hs : s < 512) (hv : v < 3) (ht : t < 8) (k1 : post (nI (av_w s v t))) : wpY_with post (N, o, a, b, c, f, k, g, h, r, 43008) x y z := by
  subst hx hy hz
  unfold wpY_with
  dsimp only
  rw [av_wth v hv t ht s hs]
  exact k1
theorem ay_withany {post : Int32 → Prop} {x y z : Int32} (k1 : ∀ t, post t) : wpY_with post (N, o, a, b, c, f, k, g, h, r, 43008) x y z := k1 _
theorem ay_giveu {post : SY → Prop} {w p s : Nat} {x y z : Int32} (hx : x = nI w) (hy : y = nI p) (hz : z = nI s) (hw : w < 4) (hp : p < 21) (hs : s < 512) (kz : f (10752 * w + 512 * p + s) = 0 → post (N, o, a, b, c, upd f (10752 * w + 512 * p + s) 1, k, upd g p 1, h, r, 43008)) (kn : ¬ f (10752 * w + 512 * p + s) = 0 → post (N, o, a, b, c, f, k, g, h, r, 43008)) : wpY_give post (N, o, a, b, c, f, k, g, h, r, 43008) x y z := by
  subst hx hy hz
  refine nm_r (av_iyw w p s) ⟨pk_in (10752 * w + 512 * p + s) 43008 (by omega), br_c (fun e => ?_) (fun e => ?_)⟩
  · rw [nI_clamp (by omega)] at e
    exact ⟨pk_in (10752 * w + 512 * p + s) 43008 (by omega), nm_r (e' := upd f (10752 * w + 512 * p + s) 1) (by rw [nI_clamp (by omega), av_nar1]) ⟨pk_in p 21 hp, nm_r (e' := upd g p 1) (by rw [nI_clamp (by omega), av_nar1]) (kz e)⟩⟩
  · rw [nI_clamp (by omega)] at e
    exact kn e
theorem ay_give {post : SY → Prop} {G : Nat → Nat → Nat → Nat → Prop} {w p s : Nat} {x y z : Int32} (hx : x = nI w) (hy : y = nI p) (hz : z = nI s) (hw : w < 4) (hp : p < 21) (hs : s < 512) (hl : av_L w G p s) (kk : ∀ (f' g' : Nat → Int32), av_YG w G (fun t => t = p) f g f' g' → av_F f' w p s → post (N, o, a, b, c, f', k, g', h, r, 43008)) : wpY_give post (N, o, a, b, c, f, k, g, h, r, 43008) x y z :=
  ay_giveu hx hy hz hw hp hs (fun e => kk _ _ (av_YG_u hp hs e hl) ((av_F_u hs hs (by decide)).mpr (Or.inr ⟨rfl, rfl⟩))) (fun e => kk f g (av_YG_rf w G _ f g) e)
theorem ay_act {post : SY → Prop} {n w p s : Nat} (hw : w < 4) (hn : n ≤ 20) (hpn : p < n) (hs : s < 512) (hok : av_ok (o p) (a p) (b p) (c p)) (hl : av_L w (av_P n o a b c) p s)
    (kk : ∀ (f' g' : Nat → Int32), av_YG w (av_P n o a b c) (fun t => t = p + 1 ∨ ((o p = 4 ∨ o p = 5) ∧ c p = nI t)) f g f' g' → (∀ q t, av_P n o a b c p s q t → av_F f' w q t) → post (nI n, o, a, b, c, f', k, g', h, r, 43008)) : wpY_act post (nI n, o, a, b, c, f, k, g, h, r, 43008) (nI w) (nI p) (nI s) := by
  obtain ⟨O, hO⟩ : ∃ O, O = o p := ⟨_, rfl⟩
  obtain ⟨A, hA⟩ : ∃ A, A = a p := ⟨_, rfl⟩
  obtain ⟨B, hB⟩ : ∃ B, B = b p := ⟨_, rfl⟩
  obtain ⟨C, hC⟩ : ∃ C, C = c p := ⟨_, rfl⟩
  have hPs : ∀ j q t, j < av_oc O → q < 21 → t < 512 → av_out O A B C p s j = some (512 * q + t) → av_L w (av_P n o a b c) q t := by
    intro j q t hj hq ht e
    rw [hO, hA, hB, hC] at e
    rw [hO] at hj
    exact av_L_G (by omega) hs hl ⟨hpn, hq, ht, j, hj, e⟩
  have hk : ∀ (f' g' : Nat → Int32), av_YG w (av_P n o a b c) (fun t => t = p + 1 ∨ ((O = 4 ∨ O = 5) ∧ C = nI t)) f g f' g' → (∀ q t j, t < 512 → j < av_oc O → av_out O A B C p s j = some (512 * q + t) → av_F f' w q t) → post (nI n, o, a, b, c, f', k, g', h, r, 43008) := by
    intro f' g' hY hF
    refine kk f' g' (by rw [hO, hC] at hY; exact hY) (fun q t hP => ?_)
    obtain ⟨_, _, ht, j, hj, e⟩ := hP
    exact hF q t j ht (by rw [hO]; exact hj) (by rw [hO, hA, hB, hC]; exact e)
  have hbp : b (nI p).toNatClampNeg = B := by
    rw [nI_clamp (by omega)]
    exact hB.symm
  rw [← hO, ← hA, ← hB, ← hC] at hok
  refine ⟨pk_in p 20 (by omega), nm_r (e' := O) (by rw [nI_clamp (by omega)]; exact hO.symm) ⟨pk_in p 20 (by omega), nm_r (e' := A) (by rw [nI_clamp (by omega)]; exact hA.symm) ⟨pk_in p 20 (by omega), nm_r (e' := C) (by rw [nI_clamp (by omega)]; exact hC.symm) ?_⟩⟩⟩
  clear kk hl hO hA hB hC
  rcases hok with ⟨rfl, ⟨i, hi, rfl⟩, ⟨x, hx, rfl⟩⟩ | ⟨rfl, ⟨i, hi, rfl⟩, ⟨y, hy, rfl⟩, _⟩ | ⟨rfl, ⟨i, hi, rfl⟩⟩ | ⟨rfl, ⟨i, hi, rfl⟩, ⟨y, hy, rfl⟩, _⟩ | ⟨rfl, ⟨x, hx, rfl⟩⟩ | ⟨rfl, ⟨x, hx, rfl⟩⟩ | rfl
  · have hW := av_w_lt (v := i) hs hx
    have e0 : ∀ j, av_out 0 (nI i) B (nI x) p s j = some (512 * (p + 1) + av_w s i x) := fun j => by rw [av_out_0, nI_clamp (by omega), nI_clamp (by omega)]
    refine br_t rfl (ay_with s i x rfl rfl rfl hs hi hx (ay_give rfl (nI_1 p) rfl hw (by omega) hW (hPs 0 (p + 1) _ (by decide) (by omega) hW (e0 0)) (fun f' g' hY hF => hk f' g' (av_YG_D hY (fun t e => Or.inl e)) (fun q t j ht hj e => ?_))))
    have e1 := Option.some.inj ((e0 j).symm.trans e)
    have e2 : q = p + 1 := by omega
    have e3 : t = av_w s i x := by omega
    rw [e2, e3]
    exact hF
  · refine br_f (by decide) (br_t rfl ⟨pk_in p 20 (by omega), ay_val s y rfl hbp hs hy (nm_e ?_)⟩)
    by_cases hr : 0 ≤ nI (av_v s y) + C ∧ nI (av_v s y) + C ≤ 7
    · obtain ⟨x, hx, ex⟩ := av_le7 hr.1 hr.2
      have hW := av_w_lt (v := i) hs hx
      have e0 : ∀ j, av_out 1 (nI i) (nI y) C p s j = some (512 * (p + 1) + av_w s i x) := fun j => by rw [av_out_1, nI_clamp (n := i) (by omega), nI_clamp (n := y) (by omega), if_pos hr, ex, nI_clamp (by omega)]
      refine ay_with s i x rfl rfl (by rw [ex, av_c7 x hx]) hs hi hx (ay_in (fun _ _ => br_f (by decide) (ay_give rfl (nI_1 p) rfl hw (by omega) hW (hPs 0 (p + 1) _ (by decide) (by omega) hW (e0 0)) (fun f' g' hY hF => hk f' g' (av_YG_D hY (fun t e => Or.inl e)) (fun q t j ht hj e => ?_)))) (fun z => absurd hr (fun g2 => z.elim (fun z1 => Int32.not_lt.mpr g2.1 z1) (fun z1 => Int32.not_lt.mpr g2.2 z1))))
      have e1 := Option.some.inj ((e0 j).symm.trans e)
      have e2 : q = p + 1 := by omega
      have e3 : t = av_w s i x := by omega
      rw [e2, e3]
      exact hF
    · refine ay_withany (fun t => ay_in (fun z1 z2 => absurd ⟨z1, z2⟩ hr) (fun _ => br_t rfl (hk f g (av_YG_rf w _ _ f g) (fun q t j ht hj e => ?_))))
      rw [av_out_1, nI_clamp (n := y) (by omega), if_neg hr] at e
      exact nomatch e
  · have e0 : ∀ j, av_out 2 (nI i) B C p s j = some (512 * (p + 1) + av_w s i j) := fun j => by rw [av_out_2, nI_clamp (by omega)]
    refine br_f (by decide) (br_f (by decide) (br_t rfl ?_))
    refine loop_0 (σ := (Nat → Int32) × (Nat → Int32)) (fun n1 x t => wY_act_123 post (nI w) (nI p) (nI s) (nI i) n1 (nI x) (nI n) o a b c (t.1) k (t.2) h r 43008)
      (fun x t => av_YG w (av_P n o a b c) (fun t => t = p + 1 ∨ (((2 : Int32) = 4 ∨ (2 : Int32) = 5) ∧ C = nI t)) f g t.1 t.2 ∧ ∀ j, j < x → av_F t.1 w (p + 1) (av_w s i j)) 8 (f, g) ⟨av_YG_rf w _ _ f g, fun j hj => absurd hj (by omega)⟩ ?_ ?_
    · intro n1 t hh
      refine pk_le 8 8 (fun _ => hk _ _ hh.1 (fun q u j hu hj e => ?_)) (fun z => absurd z (by omega))
      have hj8 : j < 8 := hj
      have hW := av_w_lt (v := i) hs hj8
      have e1 := Option.some.inj ((e0 j).symm.trans e)
      have e2 : q = p + 1 := by omega
      have e3 : u = av_w s i j := by omega
      rw [e2, e3]
      exact hh.2 j hj8
    · intro n1 x t hx hh hk2
      have hW := av_w_lt (v := i) hs hx
      refine pk_le 8 x (fun z => absurd z (by omega)) (fun _ => ay_with s i x rfl rfl rfl hs hi hx (ay_give rfl (nI_1 p) rfl hw (by omega) hW (hPs x (p + 1) _ hx (by omega) hW (e0 x)) (fun f' g' hY hF => nm_r (nI_1 x) (hk2 (f', g') ⟨av_YG_tr hh.1 hY (fun _ e => e) (fun _ e => Or.inl e), fun j hj => ?_⟩))))
      by_cases ej : j = x
      · rw [ej]
        exact hF
      · exact hY.1 _ (hh.2 j (by omega))
  · refine br_f (by decide) (br_f (by decide) (br_f (by decide) (br_t rfl (ay_val s i rfl rfl hs hi ⟨pk_in p 20 (by omega), ay_val s y rfl hbp hs hy (br_c (fun z => ?_) (fun z => ?_))⟩))))
    · refine hk f g (av_YG_rf w _ _ f g) (fun q t j ht hj e => ?_)
      rw [av_out_3, nI_clamp (n := i) (by omega), nI_clamp (n := y) (by omega), if_neg (fun g2 => Int32.not_lt.mpr g2 z)] at e
      exact nomatch e
    · have e0 : ∀ j, av_out 3 (nI i) (nI y) C p s j = some (512 * (p + 1) + s) := fun j => by rw [av_out_3, nI_clamp (n := i) (by omega), nI_clamp (n := y) (by omega), if_pos (Int32.not_lt.mp z)]
      refine ay_give rfl (nI_1 p) rfl hw (by omega) hs (hPs 0 (p + 1) _ (by decide) (by omega) hs (e0 0)) (fun f' g' hY hF => hk f' g' (av_YG_D hY (fun t e => Or.inl e)) (fun q t j ht hj e => ?_))
      have e1 := Option.some.inj ((e0 j).symm.trans e)
      have e2 : q = p + 1 := by omega
      have e3 : t = s := by omega
      rw [e2, e3]
      exact hF
  · have e0 : ∀ j, av_out 4 A B (nI x) p s j = some (512 * x + s) := fun j => by rw [av_out_4, nI_clamp (by omega)]
    refine br_f (by decide) (br_f (by decide) (br_f (by decide) (br_f (by decide) (br_t rfl (ay_give rfl rfl rfl hw hx hs (hPs 0 x _ (by decide) hx hs (e0 0)) (fun f' g' hY hF => br_f (by decide) (hk f' g' (av_YG_D hY (fun t e => Or.inr ⟨Or.inl rfl, by rw [e]⟩)) (fun q t j ht hj e => ?_))))))))
    have e1 := Option.some.inj ((e0 j).symm.trans e)
    have e2 : q = x := by omega
    have e3 : t = s := by omega
    rw [e2, e3]
    exact hF
  · have e0 : ∀ j, av_out 5 A B (nI x) p s j = (if j = 0 then some (512 * (p + 1) + s) else some (512 * x + s)) := fun j => by rw [av_out_5, nI_clamp (by omega)]
    refine br_f (by decide) (br_f (by decide) (br_f (by decide) (br_f (by decide) (br_f (by decide) (br_t rfl (ay_give rfl rfl rfl hw hx hs (hPs 1 x _ (by decide) hx hs (by rw [e0, if_neg (by decide)])) (fun f' g' hY hF => br_t rfl (ay_give rfl (nI_1 p) rfl hw (by omega) hs (hPs 0 (p + 1) _ (by decide) (by omega) hs (by rw [e0, if_pos rfl])) (fun f2 g2 hY2 hF2 => hk f2 g2 (av_YG_tr hY hY2 (fun t e => Or.inr ⟨Or.inr rfl, by rw [e]⟩) (fun t e => Or.inl e)) (fun q t j ht hj e => ?_))))))))))
    rw [e0] at e
    by_cases ej : j = 0
    · rw [if_pos ej] at e
      have e1 := Option.some.inj e
      have e2 : q = p + 1 := by omega
      have e3 : t = s := by omega
      rw [e2, e3]
      exact hF2
    · rw [if_neg ej] at e
      have e1 := Option.some.inj e
      have e2 : q = x := by omega
      have e3 : t = s := by omega
      rw [e2, e3]
      exact hY2.1 _ hF
  · refine br_f (by decide) (br_f (by decide) (br_f (by decide) (br_f (by decide) (br_f (by decide) (br_f (by decide) (br_f (by decide) (hk f g (av_YG_rf w _ _ f g) (fun q t j ht hj e => ?_))))))))
    rw [av_out_6] at e
    exact nomatch e
end
