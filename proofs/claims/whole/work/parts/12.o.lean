/-! images -/
section PI
variable {T T' : Nat → Int32} {n nf np nu h mb kN fN : Nat} {yN tN nN wN : Nat → Nat}
variable {kd : Int32} {fg : Int32} {he : Int32} {se : Int32} {cr : Int32} {sz : Int32} {ya : Nat → Int32} {tr : Nat → Int32} {no : Nat → Int32} {wo : Nat → Int32} {mu : Nat → Int32} {fs : Int32} {fe : Nat → Int32} {ps : Int32} {pr : Nat → Int32} {us : Int32} {pa : Nat → Int32}
variable {kd0 : Int32} {fg0 : Int32} {he0 : Int32} {se0 : Int32} {cr0 : Int32} {sz0 : Int32} {ya0 : Nat → Int32} {tr0 : Nat → Int32} {no0 : Nat → Int32} {wo0 : Nat → Int32} {mu0 : Nat → Int32} {fs0 : Int32} {fe0 : Nat → Int32} {ps0 : Int32} {pr0 : Nat → Int32} {us0 : Int32} {pa0 : Nat → Int32}
variable {kd1 : Int32} {fg1 : Int32} {he1 : Int32} {se1 : Int32} {cr1 : Int32} {sz1 : Int32} {ya1 : Nat → Int32} {tr1 : Nat → Int32} {no1 : Nat → Int32} {wo1 : Nat → Int32} {mu1 : Nat → Int32} {fs1 : Int32} {fe1 : Nat → Int32} {ps1 : Int32} {pr1 : Nat → Int32} {us1 : Int32} {pa1 : Nat → Int32}
theorem TI.cg (H : TI T n nf np nu h mb kN fN yN tN nN wN) (e : ∀ k, k < 163 → T' k = T k) : TI T' n nf np nu h mb kN fN yN tN nN wN := by
  obtain ⟨⟨a1, a2, a3, a4, a5, a6, a7, a8⟩, ⟨b0, b1, b2, b3, b4, b5, b6, b7⟩, c, d, f⟩ := H
  refine ⟨⟨a1, a2, a3, a4, a5, a6, a7, a8⟩, ⟨?_, ?_, ?_, ?_, ?_, ?_, ?_, ?_⟩, ?_, ?_, ?_⟩
  · rw [e _ (by decide)]; exact b0
  · rw [e _ (by decide)]; exact b1
  · rw [e _ (by decide)]; exact b2
  · rw [e _ (by decide)]; exact b3
  · rw [e _ (by decide)]; exact b4
  · rw [e _ (by decide)]; exact b5
  · rw [e _ (by decide)]; exact b6
  · rw [e _ (by decide)]; exact b7
  · intro b hb
    rw [e _ (by omega), e _ (by omega), e _ (by omega), e _ (by omega)]
    exact c b hb
  · intro i hi
    rw [e _ (by omega)]; exact d i hi
  · intro u hu
    obtain ⟨⟨q, q1, q2⟩, g⟩ := f u hu
    refine ⟨⟨q, q1, by rw [e _ (by omega)]; exact q2⟩, fun j hj => ?_⟩
    rw [e _ (by omega)]; exact g j hj
theorem SR.cg (R : SR kd fg he se cr sz ya tr no wo mu fs fe ps pr us pa T) (e : ∀ k, k < 163 → T' k = T k) : SR kd fg he se cr sz ya tr no wo mu fs fe ps pr us pa T' := by
  obtain ⟨n, nf, np, nu, h, mb, kN, fN, yN, tN, nN, wN, H, C⟩ := R
  have h8 := H.n8
  have hf3 : nf ≤ 3 := H.1.2.1
  have hp6 : np ≤ 6 := H.1.2.2.1
  have hu8 : nu ≤ 8 := H.1.2.2.2.1
  refine SR.of (H.cg e) ?_
  obtain ⟨⟨k1, k2, k3, k4, k5, k6, k7, k8, k9⟩, c, d, f, g⟩ := C
  refine ⟨⟨?_, ?_, ?_, ?_, ?_, k6, k7, k8, k9⟩, ?_, ?_, ?_, ?_⟩
  · rw [e _ (by decide)]; exact k1
  · rw [e _ (by decide)]; exact k2
  · rw [e _ (by decide)]; exact k3
  · rw [e _ (by decide)]; exact k4
  · rw [e _ (by decide)]; exact k5
  · intro b hb
    rw [e _ (by omega), e _ (by omega), e _ (by omega), e _ (by omega)]
    exact c b hb
  · intro i hi
    rw [e _ (by omega)]; exact d i hi
  · intro i hi
    rw [e _ (by omega)]; exact f i hi
  · intro u hu j hj
    rw [e _ (by omega)]; exact g u hu j hj
theorem SR.take (R : SR kd fg he se cr sz ya tr no wo mu fs fe ps pr us pa T) (ya0 tr0 no0 wo0 mu0 fe0 pr0 pa0 : Nat → Int32) : SR kd fg he se cr sz (va_cpy ya ya0 0 0 8) (va_cpy tr tr0 0 0 8) (va_cpy no no0 0 0 8) (va_cpy wo wo0 0 0 8) (va_cpy mu mu0 0 0 8) fs (va_cpy fe fe0 0 0 3) ps (va_cpy pr pr0 0 0 30) us (va_cpy pa pa0 0 0 88) T := by
  obtain ⟨n, nf, np, nu, h, mb, kN, fN, yN, tN, nN, wN, H, C⟩ := R
  have h8 := H.n8
  have hf3 : nf ≤ 3 := H.1.2.1
  have hp6 : np ≤ 6 := H.1.2.2.1
  have hu8 : nu ≤ 8 := H.1.2.2.2.1
  have cp : ∀ (f g : Nat → Int32) (m j : Nat), j < m → va_cpy f g 0 0 m j = f j := fun f g m j hj => by
    rw [pk_cpy_in (by omega) (by omega)]; exact congrArg f (by omega)
  refine SR.of H ?_
  obtain ⟨k, c, d, f, g⟩ := C
  refine ⟨k, ?_, ?_, ?_, ?_⟩
  · intro b hb
    rw [cp _ _ _ _ (by omega), cp _ _ _ _ (by omega), cp _ _ _ _ (by omega), cp _ _ _ _ (by omega), cp _ _ _ _ (by omega)]
    exact c b hb
  · intro i hi
    rw [cp _ _ _ _ (by omega)]; exact d i hi
  · intro i hi
    rw [cp _ _ _ _ (by omega)]; exact f i hi
  · intro u hu j hj
    rw [cp _ _ _ _ (by omega)]; exact g u hu j hj
theorem c_take (R : SR kd fg he se cr sz ya tr no wo mu fs fe ps pr us pa T) {Q : (Nat → Int32) → (Nat → Int32) → (Nat → Int32) → (Nat → Int32) → (Nat → Int32) → Int32 → (Nat → Int32) → Int32 → (Nat → Int32) → Int32 → (Nat → Int32) → Int32 → Int32 → Int32 → Int32 → Int32 → Int32 → Prop} (hq : ∀ (kd2 : Int32) (fg2 : Int32) (he2 : Int32) (se2 : Int32) (cr2 : Int32) (sz2 : Int32) (ya2 : Nat → Int32) (tr2 : Nat → Int32) (no2 : Nat → Int32) (wo2 : Nat → Int32) (mu2 : Nat → Int32) (fs2 : Int32) (fe2 : Nat → Int32) (ps2 : Int32) (pr2 : Nat → Int32) (us2 : Int32) (pa2 : Nat → Int32), SR kd2 fg2 he2 se2 cr2 sz2 ya2 tr2 no2 wo2 mu2 fs2 fe2 ps2 pr2 us2 pa2 T → Q ya2 tr2 no2 wo2 mu2 sz2 fe2 fs2 pr2 ps2 pa2 us2 kd2 fg2 he2 se2 cr2) : p_X6_take ya0 tr0 no0 wo0 mu0 sz0 fe0 fs0 pr0 ps0 pa0 us0 kd0 fg0 he0 se0 cr0 ya tr no wo mu sz fe fs pr ps pa us kd fg he se cr Q := by
  unfold p_X6_take p_X0_take p_X1_take p_X3_take p_X4_take
  exact hq _ _ _ _ _ _ _ _ _ _ _ _ _ _ _ _ _ (R.take ya0 tr0 no0 wo0 mu0 fe0 pr0 pa0)
variable {K K' kp ik rf rf' : Nat → Int32}
theorem m_image {x : Nat} (hx : x < 2) {Q : Int32 → (Nat → Int32) → (Nat → Int32) → (Nat → Int32) → Prop} (hq : ∀ K', (∀ j, j < 163 → K' (163 * x + j) = T j) → (∀ j, (j < 163 * x ∨ 163 * x + 163 ≤ j) → K' j = K j) → Q 1 K' (upd ik x (vp_nar .boolean 1)) rf') : lq2 (bX9_image_19 T ik rf' (nI x) Q) 1000 K 0 := by
  refine lq2_inv (fun i w v => (∀ j, j < i → w (163 * x + j) = T j) ∧ (∀ j, (j < 163 * x ∨ 163 * x + 163 ≤ j) → w j = K j) ∧ v = nI i) 163 ?_ ?_ 1000 0 K 0 ⟨fun j hj => by omega, fun j _ => rfl, rfl⟩ (by omega) (by omega)
  · intro i hi w v hI k hk
    obtain ⟨g1, g2, rfl⟩ := hI
    unfold bX9_image_19
    have e : (163 : Int32) * nI x + nI i = nI (163 * x + i) := by rw [show (163 : Int32) * nI x = nI (163 * x) from pk_mul 163 x, nI_add]
    rw [if_neg (show ¬ (163 : Int32) ≤ nI i from nI_ge (b := 163) hi (by decide)), e, nI_clamp (show i < 2 ^ 31 by omega), nI_clamp (show 163 * x + i < 2 ^ 31 by omega), nI_1]
    refine ⟨vp_in_nI hi (by decide), vp_in_nI (by omega) (by decide), hk _ _ ⟨fun j hj => ?_, fun j hj => ?_, rfl⟩⟩
    · rw [upd_at]
      by_cases q : j = i
      · rw [if_pos (by omega), q]
      · rw [if_neg (by omega)]; exact g1 j (by omega)
    · rw [upd_at, if_neg (by omega)]; exact g2 j hj
  · intro w v hI k
    obtain ⟨g1, g2, rfl⟩ := hI
    unfold bX9_image_19
    rw [if_pos (show (163 : Int32) ≤ nI 163 by decide)]
    unfold jX9_image_50
    rw [nI_clamp (show x < 2 ^ 31 by omega)]
    exact ⟨vp_in_nI hx (by decide), hq w g1 g2⟩
theorem m_from {x : Nat} (hx : x < 2) {Q : Int32 → (Nat → Int32) → (Nat → Int32) → Prop} (hq : ∀ T', (∀ j, j < 163 → T' j = K (163 * x + j)) → Q 1 T' rf') : lq2 (bX9_from_33 K rf' (nI x) Q) 1000 T 0 := by
  refine lq2_inv (fun i w v => (∀ j, j < i → w j = K (163 * x + j)) ∧ v = nI i) 163 ?_ ?_ 1000 0 T 0 ⟨fun j hj => by omega, rfl⟩ (by omega) (by omega)
  · intro i hi w v hI k hk
    obtain ⟨g1, rfl⟩ := hI
    unfold bX9_from_33
    have e : (163 : Int32) * nI x + nI i = nI (163 * x + i) := by rw [show (163 : Int32) * nI x = nI (163 * x) from pk_mul 163 x, nI_add]
    rw [if_neg (show ¬ (163 : Int32) ≤ nI i from nI_ge (b := 163) hi (by decide)), e, nI_clamp (show i < 2 ^ 31 by omega), nI_clamp (show 163 * x + i < 2 ^ 31 by omega), nI_1]
    refine ⟨vp_in_nI (by omega) (by decide), vp_in_nI hi (by decide), hk _ _ ⟨fun j hj => ?_, rfl⟩⟩
    rw [upd_at]
    by_cases q : j = i
    · rw [if_pos q, q]
    · rw [if_neg q]; exact g1 j (by omega)
  · intro w v hI k
    obtain ⟨g1, rfl⟩ := hI
    unfold bX9_from_33
    rw [if_pos (show (163 : Int32) ≤ nI 163 by decide)]
    exact hq w g1

theorem q_image (R : SR kd fg he se cr sz ya tr no wo mu fs fe ps pr us pa T) (x1 : Int32) {Z : Int32 → (Nat → Int32) → (Nat → Int32) → (Nat → Int32) → (Nat → Int32) → (Nat → Int32) → Int32 → (Nat → Int32) → Int32 → (Nat → Int32) → Int32 → (Nat → Int32) → Int32 → Int32 → Int32 → Int32 → Int32 → Int32 → (Nat → Int32) → (Nat → Int32) → (Nat → Int32) → (Nat → Int32) → (Nat → Int32) → Int32 → (Nat → Int32) → Int32 → (Nat → Int32) → Int32 → (Nat → Int32) → Int32 → Int32 → Int32 → Int32 → Int32 → Int32 → (Nat → Int32) → (Nat → Int32) → Int32 → (Nat → Int32) → (Nat → Int32) → (Nat → Int32) → Prop}
    (z1 : Z (-2) ya0 tr0 no0 wo0 mu0 sz0 fe0 fs0 pr0 ps0 pa0 us0 kd0 fg0 he0 se0 cr0 ya1 tr1 no1 wo1 mu1 sz1 fe1 fs1 pr1 ps1 pa1 us1 kd1 fg1 he1 se1 cr1 kp (rj 0 rf) (-2) K ik (rj 0 rf'))
    (z20 : ∀ (kd2 : Int32) (fg2 : Int32) (he2 : Int32) (se2 : Int32) (cr2 : Int32) (sz2 : Int32) (ya2 : Nat → Int32) (tr2 : Nat → Int32) (no2 : Nat → Int32) (wo2 : Nat → Int32) (mu2 : Nat → Int32) (fs2 : Int32) (fe2 : Nat → Int32) (ps2 : Int32) (pr2 : Nat → Int32) (us2 : Int32) (pa2 : Nat → Int32) (K' : Nat → Int32), SR kd2 fg2 he2 se2 cr2 sz2 ya2 tr2 no2 wo2 mu2 fs2 fe2 ps2 pr2 us2 pa2 K' → (∀ j, 163 ≤ j → K' j = K j) → Z 1 ya2 tr2 no2 wo2 mu2 sz2 fe2 fs2 pr2 ps2 pa2 us2 kd2 fg2 he2 se2 cr2 ya1 tr1 no1 wo1 mu1 sz1 fe1 fs1 pr1 ps1 pa1 us1 kd1 fg1 he1 se1 cr1 (upd kp 0 (vp_nar .boolean 1)) rf 1 K' (upd ik 0 (vp_nar .boolean 1)) rf')
    (z21 : ∀ (kd2 : Int32) (fg2 : Int32) (he2 : Int32) (se2 : Int32) (cr2 : Int32) (sz2 : Int32) (ya2 : Nat → Int32) (tr2 : Nat → Int32) (no2 : Nat → Int32) (wo2 : Nat → Int32) (mu2 : Nat → Int32) (fs2 : Int32) (fe2 : Nat → Int32) (ps2 : Int32) (pr2 : Nat → Int32) (us2 : Int32) (pa2 : Nat → Int32) (K' : Nat → Int32), SR kd2 fg2 he2 se2 cr2 sz2 ya2 tr2 no2 wo2 mu2 fs2 fe2 ps2 pr2 us2 pa2 (fun k => K' (163 + k)) → (∀ j, j < 163 → K' j = K j) → Z 1 ya0 tr0 no0 wo0 mu0 sz0 fe0 fs0 pr0 ps0 pa0 us0 kd0 fg0 he0 se0 cr0 ya2 tr2 no2 wo2 mu2 sz2 fe2 fs2 pr2 ps2 pa2 us2 kd2 fg2 he2 se2 cr2 (upd kp 1 (vp_nar .boolean 1)) rf 1 K' (upd ik 1 (vp_nar .boolean 1)) rf') :
    p_X8_image ya tr no wo mu sz fe fs pr ps pa us kd fg he se cr ya0 tr0 no0 wo0 mu0 sz0 fe0 fs0 pr0 ps0 pa0 us0 kd0 fg0 he0 se0 cr0 ya1 tr1 no1 wo1 mu1 sz1 fe1 fs1 pr1 ps1 pa1 us1 kd1 fg1 he1 se1 cr1 kp rf x1 (fun r u1 u2 u3 u4 u5 u6 u7 u8 u9 u10 u11 u12 u13 u14 u15 u16 u17 u18 u19 u20 u21 u22 u23 u24 u25 u26 u27 u28 u29 u30 u31 u32 u33 u34 u35 u36 => p_X9_image T K ik rf' x1 (fun r' v1 v2 v3 => Z r u1 u2 u3 u4 u5 u6 u7 u8 u9 u10 u11 u12 u13 u14 u15 u16 u17 u18 u19 u20 u21 u22 u23 u24 u25 u26 u27 u28 u29 u30 u31 u32 u33 u34 u35 u36 r' v1 v2 v3)) := by
  unfold p_X8_image
  by_cases h1 : 0 ≤ x1 ∧ x1 ≤ 1
  · refine s_within_t h1 ?_
    rw [if_neg (by decide)]
    obtain ⟨x, -, hx, rfl⟩ := rgN (x := x1) 0 1 (by decide) h1
    have hi : vp_in (nI x) 2 := vp_in_nI (by omega) (by decide)
    refine ⟨hi, ?_⟩
    rw [nI_clamp (show x < 2 ^ 31 by omega)]
    rcases (show x = 0 ∨ x = 1 by omega) with rfl | rfl
    · rw [if_pos (show nI 0 = 0 from rfl)]
      refine c_take R (fun _ _ _ _ _ _ _ _ _ _ _ _ _ _ _ _ _ R2 => ⟨hi, ?_⟩)
      unfold p_X9_image
      refine s_in_t (lo' := 0) (hi' := 1) (by decide) (by decide) h1 ?_
      rw [if_neg (by decide)]
      refine m_image (x := 0) (by decide) (fun K' g1 g2 => z20 _ _ _ _ _ _ _ _ _ _ _ _ _ _ _ _ _ K' (R2.cg (fun k hk => ?_)) (fun j hj => g2 j (by omega)))
      have := g1 k hk
      rw [show 163 * 0 + k = k by omega] at this
      exact this
    · rw [if_neg (show ¬ nI 1 = 0 by decide)]
      refine c_take R (fun _ _ _ _ _ _ _ _ _ _ _ _ _ _ _ _ _ R2 => ⟨hi, ?_⟩)
      unfold p_X9_image
      refine s_in_t (lo' := 0) (hi' := 1) (by decide) (by decide) h1 ?_
      rw [if_neg (by decide)]
      exact m_image (x := 1) (by decide) (fun K' g1 g2 => z21 _ _ _ _ _ _ _ _ _ _ _ _ _ _ _ _ _ K' (R2.cg (fun k hk => g1 k hk)) (fun j hj => g2 j (by omega)))
  · refine s_within_f h1 ?_
    rw [if_pos rfl]
    refine s_refuse2 ?_
    unfold p_X9_image
    refine s_in_f (lo' := 0) (hi' := 1) (by decide) (by decide) h1 ?_
    rw [if_pos rfl]
    exact s_bad z1
theorem q_from (R0 : ¬ kp 0 = 0 → SR kd0 fg0 he0 se0 cr0 sz0 ya0 tr0 no0 wo0 mu0 fs0 fe0 ps0 pr0 us0 pa0 K) (R1 : ¬ kp 1 = 0 → SR kd1 fg1 he1 se1 cr1 sz1 ya1 tr1 no1 wo1 mu1 fs1 fe1 ps1 pr1 us1 pa1 (fun k => K (163 + k))) (ek : kp = ik) (x1 : Int32) {Z : Int32 → (Nat → Int32) → (Nat → Int32) → (Nat → Int32) → (Nat → Int32) → (Nat → Int32) → Int32 → (Nat → Int32) → Int32 → (Nat → Int32) → Int32 → (Nat → Int32) → Int32 → Int32 → Int32 → Int32 → Int32 → Int32 → (Nat → Int32) → Int32 → (Nat → Int32) → (Nat → Int32) → Prop}
    (z1 : Z (-2) ya tr no wo mu sz fe fs pr ps pa us kd fg he se cr (rj 0 rf) (-2) T (rj 0 rf')) (z3 : Z (-3) ya tr no wo mu sz fe fs pr ps pa us kd fg he se cr (rj 1 rf) (-3) T (rj 1 rf'))
    (z2 : ∀ (kd2 : Int32) (fg2 : Int32) (he2 : Int32) (se2 : Int32) (cr2 : Int32) (sz2 : Int32) (ya2 : Nat → Int32) (tr2 : Nat → Int32) (no2 : Nat → Int32) (wo2 : Nat → Int32) (mu2 : Nat → Int32) (fs2 : Int32) (fe2 : Nat → Int32) (ps2 : Int32) (pr2 : Nat → Int32) (us2 : Int32) (pa2 : Nat → Int32) (T' : Nat → Int32), SR kd2 fg2 he2 se2 cr2 sz2 ya2 tr2 no2 wo2 mu2 fs2 fe2 ps2 pr2 us2 pa2 T' → Z 1 ya2 tr2 no2 wo2 mu2 sz2 fe2 fs2 pr2 ps2 pa2 us2 kd2 fg2 he2 se2 cr2 rf 1 T' rf') :
    p_X8_from ya tr no wo mu sz fe fs pr ps pa us kd fg he se cr ya0 tr0 no0 wo0 mu0 sz0 fe0 fs0 pr0 ps0 pa0 us0 kd0 fg0 he0 se0 cr0 ya1 tr1 no1 wo1 mu1 sz1 fe1 fs1 pr1 ps1 pa1 us1 kd1 fg1 he1 se1 cr1 kp rf x1 (fun r u1 u2 u3 u4 u5 u6 u7 u8 u9 u10 u11 u12 u13 u14 u15 u16 u17 u18 => p_X9_from T K ik rf' x1 (fun r' v1 v2 => Z r u1 u2 u3 u4 u5 u6 u7 u8 u9 u10 u11 u12 u13 u14 u15 u16 u17 u18 r' v1 v2)) := by
  subst ek
  unfold p_X8_from
  by_cases h1 : 0 ≤ x1 ∧ x1 ≤ 1
  · refine s_within_t h1 ?_
    rw [if_neg (by decide)]
    obtain ⟨x, -, hx, rfl⟩ := rgN (x := x1) 0 1 (by decide) h1
    have hi : vp_in (nI x) 2 := vp_in_nI (by omega) (by decide)
    refine ⟨hi, ?_⟩
    rw [nI_clamp (show x < 2 ^ 31 by omega)]
    by_cases g : kp x = 0
    · rw [if_pos g]
      refine s_refuse3 ?_
      unfold p_X9_from
      refine s_in_t (lo' := 0) (hi' := 1) (by decide) (by decide) h1 ?_
      rw [if_neg (by decide), nI_clamp (show x < 2 ^ 31 by omega), if_pos g]
      exact ⟨hi, s_no z3⟩
    · rw [if_neg g]
      refine ⟨hi, ?_⟩
      rcases (show x = 0 ∨ x = 1 by omega) with rfl | rfl
      · rw [if_pos (show nI 0 = 0 from rfl)]
        refine c_take (R0 g) (fun _ _ _ _ _ _ _ _ _ _ _ _ _ _ _ _ _ R2 => ?_)
        unfold p_X9_from
        refine s_in_t (lo' := 0) (hi' := 1) (by decide) (by decide) h1 ?_
        rw [if_neg (by decide), nI_clamp (show 0 < 2 ^ 31 by omega), if_neg g]
        refine ⟨hi, m_from (x := 0) (by decide) (fun T' g1 => z2 _ _ _ _ _ _ _ _ _ _ _ _ _ _ _ _ _ T' (R2.cg (fun k hk => ?_)))⟩
        rw [g1 k hk]; exact congrArg K (by omega)
      · rw [if_neg (show ¬ nI 1 = 0 by decide)]
        refine c_take (R1 g) (fun _ _ _ _ _ _ _ _ _ _ _ _ _ _ _ _ _ R2 => ?_)
        unfold p_X9_from
        refine s_in_t (lo' := 0) (hi' := 1) (by decide) (by decide) h1 ?_
        rw [if_neg (by decide), nI_clamp (show 1 < 2 ^ 31 by omega), if_neg g]
        exact ⟨hi, m_from (x := 1) (by decide) (fun T' g1 => z2 _ _ _ _ _ _ _ _ _ _ _ _ _ _ _ _ _ T' (R2.cg (fun k hk => g1 k hk)))⟩
  · refine s_within_f h1 ?_
    rw [if_pos rfl]
    refine s_refuse2 ?_
    unfold p_X9_from
    refine s_in_f (lo' := 0) (hi' := 1) (by decide) (by decide) h1 ?_
    rw [if_pos rfl]
    exact s_bad z1
end PI
