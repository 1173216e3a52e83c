/-! read -/
theorem neg10 : ∀ q, q < 151 → (-10) - nI q ≤ (0 : Int32) := by decide +kernel
theorem m_copy75 {T W vs : Nat → Int32} {a l t v c : Int32} {Q : Int32 → (Nat → Int32) → Int32 → Int32 → Int32 → Int32 → (Nat → Int32) → (Nat → Int32) → Prop} (hq : Q c (fun k => if k < 75 then W k else T k) a l t v W vs) : jX9_read_66 T Q a l t v W vs c := by
  unfold jX9_read_66
  refine lq2_inv (fun i w v => (∀ k, w k = if k < i then W k else T k) ∧ v = nI i) 75 ?_ ?_ 1000 0 T 0 ⟨fun k => by rw [if_neg (by omega)], rfl⟩ (by omega) (by omega)
  · intro i hi w v hI k hk
    obtain ⟨g1, rfl⟩ := hI
    unfold bX9_read_68
    rw [if_neg (show ¬ (75 : Int32) ≤ nI i from nI_ge (b := 75) hi (by decide)), nI_clamp (show i < 2 ^ 31 by omega), nI_1]
    refine ⟨vp_in_nI hi (by decide), vp_in_nI (by omega) (by decide), hk _ _ ⟨fun j => ?_, rfl⟩⟩
    rw [upd_at]
    by_cases q : j = i
    · rw [if_pos q, if_pos (by omega), q]
    · rw [if_neg q, g1]
      by_cases r : j < i
      · rw [if_pos r, if_pos (by omega)]
      · rw [if_neg r, if_neg (by omega)]
  · intro w v hI k
    obtain ⟨g1, rfl⟩ := hI
    unfold bX9_read_68
    rw [if_pos (show (75 : Int32) ≤ nI 75 by decide), show w = (fun k => if k < 75 then W k else T k) from funext g1]
    exact hq
section RR
variable {B : Nat → Int32} {tn : Nat} {T an vs : Nat → Int32} {n h mb kN fN : Nat} {yN tN nN wN : Nat → Nat}
variable {kd : Int32} {fg : Int32} {he : Int32} {se : Int32} {cr : Int32} {sz : Int32} {ya : Nat → Int32} {tr : Nat → Int32} {no : Nat → Int32} {wo : Nat → Int32} {mu : Nat → Int32} {fs : Int32} {fe : Nat → Int32} {ps : Int32} {pr : Nat → Int32} {us : Int32} {pa : Nat → Int32}
variable {kd0 : Int32} {fg0 : Int32} {he0 : Int32} {se0 : Int32} {cr0 : Int32} {sz0 : Int32} {ya0 : Nat → Int32} {tr0 : Nat → Int32} {no0 : Nat → Int32} {wo0 : Nat → Int32} {mu0 : Nat → Int32} {fs0 : Int32} {fe0 : Nat → Int32} {ps0 : Int32} {pr0 : Nat → Int32} {us0 : Int32} {pa0 : Nat → Int32}
theorem TI.c75 (H : TI T n 0 0 0 h mb kN fN yN tN nN wN) {W : Nat → Int32} (e : ∀ k, k < 75 → W k = T k) : TI W n 0 0 0 h mb kN fN yN tN nN wN := by
  obtain ⟨⟨a1, a2, a3, a4, a5, a6, a7, a8⟩, ⟨b0, b1, b2, b3, b4, b5, b6, b7⟩, c, d, f⟩ := H
  refine ⟨⟨a1, a2, a3, a4, a5, a6, a7, a8⟩, ⟨?_, ?_, ?_, ?_, ?_, ?_, ?_, ?_⟩, ?_, fun i hi => by omega, fun u hu => by omega⟩
  · rw [e _ (by decide)]; exact b0
  · rw [e _ (by decide)]; exact b1
  · rw [e _ (by decide)]; exact b2
  · rw [e _ (by decide)]; exact b3
  · rw [e _ (by decide)]; exact b4
  · rw [e _ (by decide)]; exact b5
  · rw [e _ (by decide)]; exact b6
  · rw [e _ (by decide)]; exact b7
  · intro b hb
    rw [e _ (by omega), e _ (by omega), e _ (by omega), e _ (by omega)]
    exact c b hb
theorem CR.c75 (C : CR T n 0 0 0 mb kd fg he se cr sz ya tr no wo mu fs fe ps pr us pa) (a1 : n ≤ 8) {W : Nat → Int32} (e : ∀ k, k < 75 → W k = T k) : CR W n 0 0 0 mb kd fg he se cr sz ya tr no wo mu fs fe ps pr us pa := by
  obtain ⟨⟨k1, k2, k3, k4, k5, k6, k7, k8, k9⟩, c, d, f, g⟩ := C
  refine ⟨⟨?_, ?_, ?_, ?_, ?_, k6, k7, k8, k9⟩, ?_, fun i hi => by omega, fun i hi => by omega, fun u hu => by omega⟩
  · rw [e _ (by decide)]; exact k1
  · rw [e _ (by decide)]; exact k2
  · rw [e _ (by decide)]; exact k3
  · rw [e _ (by decide)]; exact k4
  · rw [e _ (by decide)]; exact k5
  · intro b hb
    rw [e _ (by omega), e _ (by omega), e _ (by omega), e _ (by omega)]
    exact c b hb

theorem m_road (ht : tn ≤ 150) {ta tl tk tv : Int32} {Q : Int32 → (Nat → Int32) → Int32 → Int32 → Int32 → Int32 → (Nat → Int32) → (Nat → Int32) → Prop} {Kf : Nat → Prop} (hf : ∀ q, Kf q → ∀ an' vs', Q ((-10) - nI (tA B tn q)) T (nI (tA B tn q)) (nI (tL B tn q)) (nI (tK B tn q)) (tV B tn q) an' vs')
    (hr : (¬ wD B tn 0 0 ∧ Kf 0) ∨ (wD B tn 0 0 ∧ ((¬ nB B tn (nx B tn 0) 0 5 ∧ Kf (nx B tn 0)) ∨ (nB B tn (nx B tn 0) 0 5 ∧ ((¬ nB B tn (nx B tn (nx B tn 0)) 0 9 ∧ Kf (nx B tn (nx B tn 0))) ∨ (nB B tn (nx B tn (nx B tn 0)) 0 9 ∧ ((¬ tK B tn (nx B tn (nx B tn (nx B tn 0))) = 3 ∧ Kf (nx B tn (nx B tn (nx B tn 0)))) ∨ (tK B tn (nx B tn (nx B tn (nx B tn 0))) = 3 ∧ ∀ vs', lq7 (bX9_read_26 T B (nI tn) Q) 1000 (nI (tA B tn (nx B tn (nx B tn (nx B tn (nx B tn 0)))))) (nI (tL B tn (nx B tn (nx B tn (nx B tn (nx B tn 0)))))) (nI (tK B tn (nx B tn (nx B tn (nx B tn (nx B tn 0)))))) (tV B tn (nx B tn (nx B tn (nx B tn (nx B tn 0))))) (bgT an (tV B tn (nx B tn 0)) (tV B tn (nx B tn (nx B tn 0)))) vs' 1)))))))) : p_X9_read T B (nI tn) ta tl tk tv an vs Q := by
  have hp1 : (nx B tn 0) ≤ tn := nx_le (Nat.zero_le _)
  have hp2 : (nx B tn (nx B tn 0)) ≤ tn := nx_le hp1
  have hp3 : (nx B tn (nx B tn (nx B tn 0))) ≤ tn := nx_le hp2
  unfold p_X9_read
  refine m_lookAt (p := 0) ht (Nat.zero_le _) ?_
  unfold p_X9_takesRoad
  refine m_word (i := 0) ht (Nat.zero_le _) (by decide) rfl ew0 ?_
  rcases hr with ⟨w0, k0⟩ | ⟨w0, hr⟩
  · rw [if_neg w0, if_pos rfl]
    dsimp only
    rw [if_pos rfl]
    exact hf 0 k0 _ _
  rw [if_pos w0, if_neg (show ¬ (1 : Int32) = 0 by decide)]
  refine m_behind ht (Nat.zero_le _) ?_
  rcases hr with ⟨g1, k1⟩ | ⟨g1, hr⟩
  · refine m_tk_f g1 ?_
    rw [if_pos rfl]
    dsimp only
    rw [if_pos rfl]
    exact hf _ k1 _ _
  refine m_tk_t ht hp1 (k := 0) (by decide) rfl g1 ?_
  rw [if_neg (show ¬ (1 : Int32) = 0 by decide)]
  rcases hr with ⟨g2, k2⟩ | ⟨g2, hr⟩
  · refine m_tk_f g2 ?_
    rw [if_pos rfl]
    dsimp only
    rw [if_pos rfl]
    exact hf _ k2 _ _
  refine m_tk_t ht hp2 (k := 1) (by decide) rfl g2 ?_
  rw [if_neg (show ¬ (1 : Int32) = 0 by decide)]
  refine s_begin (by decide) (by decide) ?_
  rcases hr with ⟨g3, k3⟩ | ⟨g3, hr⟩
  · rw [if_neg (show ¬ nI (tK B tn (nx B tn (nx B tn (nx B tn 0)))) = 3 from fun q => g3 ((tK_eq (k := 3) (by decide)).mp q))]
    dsimp only
    rw [if_pos rfl]
    exact hf _ k3 _ _
  · rw [if_pos (show nI (tK B tn (nx B tn (nx B tn (nx B tn 0)))) = 3 by rw [g3]; rfl)]
    dsimp only
    rw [if_neg (show ¬ (1 : Int32) = 0 by decide)]
    exact m_behind ht hp3 (hr _)

theorem q_read (ht : tn ≤ 150) {so sa sb ta tl tk tv : Int32} {Z : Int32 → (Nat → Int32) → (Nat → Int32) → (Nat → Int32) → (Nat → Int32) → (Nat → Int32) → Int32 → (Nat → Int32) → Int32 → (Nat → Int32) → Int32 → (Nat → Int32) → Int32 → Int32 → Int32 → Int32 → Int32 → Int32 → (Nat → Int32) → (Nat → Int32) → (Nat → Int32) → (Nat → Int32) → (Nat → Int32) → Int32 → Int32 → Int32 → Int32 → Int32 → Int32 → Int32 → Int32 → Int32 → Int32 → Int32 → Int32 → Int32 → (Nat → Int32) → Int32 → Int32 → Int32 → Int32 → (Nat → Int32) → (Nat → Int32) → Prop}
    (zf : ∀ (r : Int32) (ya2 : Nat → Int32) (tr2 : Nat → Int32) (no2 : Nat → Int32) (wo2 : Nat → Int32) (mu2 : Nat → Int32) (sz2 : Int32) (fs2 : Int32) (ps2 : Int32) (us2 : Int32) (kd2 : Int32) (fg2 : Int32) (he2 : Int32) (se2 : Int32) (cr2 : Int32) (s a b a' l t v : Int32) (an' vs' : Nat → Int32), Z r ya tr no wo mu sz fe fs pr ps pa us kd fg he se cr ya2 tr2 no2 wo2 mu2 sz2 fs2 ps2 us2 kd2 fg2 he2 se2 cr2 s a b r T a' l t v an' vs')
    (zs : ∀ (r : Int32) (kd1 : Int32) (fg1 : Int32) (he1 : Int32) (se1 : Int32) (cr1 : Int32) (sz1 : Int32) (ya1 : Nat → Int32) (tr1 : Nat → Int32) (no1 : Nat → Int32) (wo1 : Nat → Int32) (mu1 : Nat → Int32) (fs1 : Int32) (fe1 : Nat → Int32) (ps1 : Int32) (pr1 : Nat → Int32) (us1 : Int32) (pa1 : Nat → Int32) (ya2 : Nat → Int32) (tr2 : Nat → Int32) (no2 : Nat → Int32) (wo2 : Nat → Int32) (mu2 : Nat → Int32) (sz2 : Int32) (fs2 : Int32) (ps2 : Int32) (us2 : Int32) (kd2 : Int32) (fg2 : Int32) (he2 : Int32) (se2 : Int32) (cr2 : Int32) (s a b : Int32) (T' : Nat → Int32) (a' l t v : Int32) (an' vs' : Nat → Int32), SR kd1 fg1 he1 se1 cr1 sz1 ya1 tr1 no1 wo1 mu1 fs1 fe1 ps1 pr1 us1 pa1 T' → Z r ya1 tr1 no1 wo1 mu1 sz1 fe1 fs1 pr1 ps1 pa1 us1 kd1 fg1 he1 se1 cr1 ya2 tr2 no2 wo2 mu2 sz2 fs2 ps2 us2 kd2 fg2 he2 se2 cr2 s a b r T' a' l t v an' vs') :
    p_X8_read ya tr no wo mu sz fe fs pr ps pa us kd fg he se cr ya0 tr0 no0 wo0 mu0 sz0 fe0 fs0 pr0 ps0 pa0 us0 kd0 fg0 he0 se0 cr0 B (nI tn) so sa sb (fun r u1 u2 u3 u4 u5 u6 u7 u8 u9 u10 u11 u12 u13 u14 u15 u16 u17 d1 d2 d3 d4 d5 d6 d7 d8 d9 d10 d11 d12 d13 d14 s a b => p_X9_read T B (nI tn) ta tl tk tv an vs (fun r' v1 v2 v3 v4 v5 v6 v7 => Z r u1 u2 u3 u4 u5 u6 u7 u8 u9 u10 u11 u12 u13 u14 u15 u16 u17 d1 d2 d3 d4 d5 d6 d7 d8 d9 d10 d11 d12 d13 d14 s a b r' v1 v2 v3 v4 v5 v6 v7)) := by
  have hp1 : (nx B tn 0) ≤ tn := nx_le (Nat.zero_le _)
  have hp2 : (nx B tn (nx B tn 0)) ≤ tn := nx_le hp1
  have hp3 : (nx B tn (nx B tn (nx B tn 0))) ≤ tn := nx_le hp2
  have hp4 : (nx B tn (nx B tn (nx B tn (nx B tn 0)))) ≤ tn := nx_le hp3
  have la : ∀ q, q ≤ tn → (-10) - nI (tA B tn q) ≤ (0 : Int32) := fun q hq => neg10 _ (by have := (tA_le (B := B) hq).2; omega)
  unfold p_X8_read p_X7_tell
  refine c_step (p := 0) ht (Nat.zero_le _) ?_
  unfold p_X7_roadTold
  refine c_word (i := 0) ht (Nat.zero_le _) (by decide) ?_
  by_cases w0 : wD B tn 0 0
  case neg =>
    rw [if_neg w0, if_pos rfl]
    dsimp only
    rw [if_pos rfl, if_pos (la 0 (Nat.zero_le _))]
    exact m_road (Kf := fun q => q = 0) ht (fun q hq an' vs' => by subst hq; exact zf _ _ _ _ _ _ _ _ _ _ _ _ _ _ _ _ _ _ _ _ _ _ _ _) (Or.inl ⟨w0, rfl⟩)
  rw [if_pos w0, if_neg (show ¬ (1 : Int32) = 0 by decide)]
  refine c_step ht hp1 ?_
  by_cases g1 : nB B tn (nx B tn 0) 0 5
  case neg =>
    refine c_num_f ht hp1 g1 ?_
    rw [if_pos rfl]
    dsimp only
    rw [if_pos rfl, if_pos (la _ hp1)]
    exact m_road (Kf := fun q => q = (nx B tn 0)) ht (fun q hq an' vs' => by subst hq; exact zf _ _ _ _ _ _ _ _ _ _ _ _ _ _ _ _ _ _ _ _ _ _ _ _) (Or.inr ⟨w0, Or.inl ⟨g1, rfl⟩⟩)
  refine c_num_t ht hp1 g1 ?_
  rw [if_neg (notm1 (by decide) g1.2)]
  by_cases g2 : nB B tn (nx B tn (nx B tn 0)) 0 9
  case neg =>
    refine c_num_f ht hp2 g2 ?_
    rw [if_pos rfl]
    dsimp only
    rw [if_pos rfl, if_pos (la _ hp2)]
    exact m_road (Kf := fun q => q = (nx B tn (nx B tn 0))) ht (fun q hq an' vs' => by subst hq; exact zf _ _ _ _ _ _ _ _ _ _ _ _ _ _ _ _ _ _ _ _ _ _ _ _) (Or.inr ⟨w0, Or.inr ⟨g1, Or.inl ⟨g2, rfl⟩⟩⟩)
  refine c_num_t ht hp2 g2 ?_
  rw [if_neg (notm1 (by decide) g2.2)]
  unfold p_X6_reset
  by_cases g3 : tK B tn (nx B tn (nx B tn (nx B tn 0))) = 3
  case neg =>
    refine c_end_f g3 ⟨zb0, ?_⟩
    dsimp only
    rw [if_pos rfl, if_pos (la _ hp3)]
    exact m_road (Kf := fun q => q = (nx B tn (nx B tn (nx B tn 0)))) ht (fun q hq an' vs' => by subst hq; exact zf _ _ _ _ _ _ _ _ _ _ _ _ _ _ _ _ _ _ _ _ _ _ _ _) (Or.inr ⟨w0, Or.inr ⟨g1, Or.inr ⟨g2, Or.inl ⟨g3, rfl⟩⟩⟩⟩)
  refine c_end_t ht hp3 g3 ⟨zb1, ?_⟩
  dsimp only
  rw [if_neg (show ¬ (1 : Int32) = 0 by decide)]
  obtain ⟨k, -, hk, ek⟩ := rgN (x := tV B tn (nx B tn 0)) 0 5 (by decide) g1.2
  obtain ⟨f, -, hf, ef⟩ := rgN (x := tV B tn (nx B tn (nx B tn 0))) 0 9 (by decide) g2.2
  rw [ek, ef]
  have C0 : CR (bgT an (nI k) (nI f)) 0 0 0 0 0 (nI k) (nI f) 0 0 0 0 ya0 tr0 no0 wo0 mu0 0 fe0 0 pr0 0 pa0 := ⟨⟨rfl, rfl, rfl, rfl, rfl, rfl, rfl, rfl, rfl⟩, fun b hb => by omega, fun i hi => by omega, fun i hi => by omega, fun u hu => by omega⟩
  rcases rd_loop (B := B) (kN := k) (fN := f) T ht (tn + 1) (nx B tn (nx B tn (nx B tn (nx B tn 0)))) 0 (by omega) hp4 (Nat.zero_le _) (bgT an (nI k) (nI f)) 0 0 0 _ _ _ _ (TI_begin hk hf) with ⟨q, hq, c2, m2⟩ | ⟨c, T2, n2, h2, mb2, yN2, tN2, nN2, wN2, c1, c151, H2, c2, m2⟩
  · refine c2 (nI k) (nI f) 0 0 0 0 ya0 tr0 no0 wo0 mu0 fe0 pr0 pa0 1000 _ C0 (by omega) (fun s b ya' tr' no' wo' mu' sz' he' se' cr' => ?_)
    rw [if_pos (neg10 q (by omega))]
    refine m_road (Kf := fun _ => False) ht (fun q hq => hq.elim) (Or.inr ⟨w0, Or.inr ⟨g1, Or.inr ⟨g2, Or.inr ⟨g3, fun vs' => ?_⟩⟩⟩⟩)
    rw [ek, ef]
    exact m2 vs' 1000 _ (by omega) (fun l t v an' vs'' => zf _ _ _ _ _ _ _ _ _ _ _ _ _ _ _ _ _ _ _ _ _ _ _ _)
  · refine c2 (nI k) (nI f) 0 0 0 0 ya0 tr0 no0 wo0 mu0 fe0 pr0 pa0 1000 _ C0 (by omega) (fun s a b ya' tr' no' wo' mu' sz' he' se' cr' C2 => ?_)
    rw [if_neg (show ¬ nI c ≤ 0 from nI_ge (a := 0) (b := c) (by omega) (by omega))]
    have W75 : ∀ k, k < 75 → (fun k => if k < 75 then T2 k else T k) k = T2 k := fun k hk => by show (if k < 75 then T2 k else T k) = T2 k; rw [if_pos hk]
    have R : SR (nI k) (nI f) he' se' cr' sz' ya' tr' no' wo' mu' 0 fe0 0 pr0 0 pa0 (fun k => if k < 75 then T2 k else T k) := SR.of (H2.c75 W75) (C2.c75 H2.n8 W75)
    refine c_take R (fun kd1 fg1 he1 se1 cr1 sz1 ya1 tr1 no1 wo1 mu1 fs1 fe1 ps1 pr1 us1 pa1 R1 => ?_)
    refine m_road (Kf := fun _ => False) ht (fun q hq => hq.elim) (Or.inr ⟨w0, Or.inr ⟨g1, Or.inr ⟨g2, Or.inr ⟨g3, fun vs' => ?_⟩⟩⟩⟩)
    rw [ek, ef]
    exact m2 vs' 1000 _ (by omega) (fun a' l t v vs'' => m_copy75 (zs _ _ _ _ _ _ _ _ _ _ _ _ _ _ _ _ _ _ _ _ _ _ _ _ _ _ _ _ _ _ _ _ _ _ _ _ _ _ _ _ _ _ R1))
end RR
