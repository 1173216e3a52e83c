/-! felt, seen, forget, where, next, is -/
section PF
variable {T : Nat → Int32} {n nf np nu h mb kN fN : Nat} {yN tN nN wN : Nat → Nat}
variable {kd fg he se cr sz : Int32} {ya tr no wo mu : Nat → Int32} {fs : Int32} {fe : Nat → Int32} {ps : Int32} {pr : Nat → Int32} {us : Int32} {pa : Nat → Int32} {rf rf' : Nat → Int32}
theorem TI.fp {T' : Nat → Int32} {nf' np' : Nat} (H : TI T n nf np nu h mb kN fN yN tN nN wN) (lo : ∀ k, k ≠ 1 → k ≠ 2 → (k < 42 ∨ 75 ≤ k) → T' k = T k) (h1 : T' 1 = nI nf') (h2 : T' 2 = nI np') (l1 : nf' ≤ 3) (l2 : np' ≤ 6) (hd : ∀ i, i < nf' → ∃ k, 1 ≤ k ∧ k ≤ 6 ∧ T' (42 + i) = nI k) : TI T' n nf' np' nu h mb kN fN yN tN nN wN := by
  obtain ⟨⟨a1, a2, a3, a4, a5, a6, a7, a8⟩, ⟨b0, b1, b2, b3, b4, b5, b6, b7⟩, c, d, e⟩ := H
  refine ⟨⟨a1, l1, l2, a4, a5, a6, a7, a8⟩, ⟨?_, h1, h2, ?_, ?_, ?_, ?_, ?_⟩, ?_, hd, ?_⟩
  · rw [lo _ (by decide) (by decide) (by omega)]; exact b0
  · rw [lo _ (by decide) (by decide) (by omega)]; exact b3
  · rw [lo _ (by decide) (by decide) (by omega)]; exact b4
  · rw [lo _ (by decide) (by decide) (by omega)]; exact b5
  · rw [lo _ (by decide) (by decide) (by omega)]; exact b6
  · rw [lo _ (by decide) (by decide) (by omega)]; exact b7
  · intro b hb
    rw [lo _ (by omega) (by omega) (by omega), lo _ (by omega) (by omega) (by omega), lo _ (by omega) (by omega) (by omega), lo _ (by omega) (by omega) (by omega)]
    exact c b hb
  · intro u hu
    obtain ⟨⟨q, q1, q2⟩, g⟩ := e u hu
    refine ⟨⟨q, q1, by rw [lo _ (by omega) (by omega) (by omega)]; exact q2⟩, fun j hj => ?_⟩
    rw [lo _ (by omega) (by omega) (by omega)]; exact g j hj
theorem CR.fp {T' : Nat → Int32} {nf' np' : Nat} {fe' pr' : Nat → Int32} (C : CR T n nf np nu mb kd fg he se cr sz ya tr no wo mu fs fe ps pr us pa) (a1 : n ≤ 8) (lo : ∀ k, k ≠ 1 → k ≠ 2 → (k < 42 ∨ 75 ≤ k) → T' k = T k) (hd : ∀ i, i < nf' → fe' i = T' (42 + i)) (he' : ∀ i, i < 5 * np' → pr' i = T' (45 + i)) : CR T' n nf' np' nu mb kd fg he se cr sz ya tr no wo mu (nI nf') fe' (nI np') pr' us pa := by
  obtain ⟨⟨k1, k2, k3, k4, k5, k6, k7, k8, k9⟩, c, d, e, f⟩ := C
  refine ⟨⟨?_, ?_, ?_, ?_, ?_, k6, rfl, rfl, k9⟩, ?_, hd, he', ?_⟩
  · rw [lo _ (by decide) (by decide) (by omega)]; exact k1
  · rw [lo _ (by decide) (by decide) (by omega)]; exact k2
  · rw [lo _ (by decide) (by decide) (by omega)]; exact k3
  · rw [lo _ (by decide) (by decide) (by omega)]; exact k4
  · rw [lo _ (by decide) (by decide) (by omega)]; exact k5
  · intro b hb
    rw [lo _ (by omega) (by omega) (by omega), lo _ (by omega) (by omega) (by omega), lo _ (by omega) (by omega) (by omega), lo _ (by omega) (by omega) (by omega)]
    exact c b hb
  · intro u hu j hj
    rw [lo _ (by omega) (by omega) (by omega)]; exact f u hu j hj
theorem q_felt (H : TI T n nf np nu h mb kN fN yN tN nN wN) (C : CR T n nf np nu mb kd fg he se cr sz ya tr no wo mu fs fe ps pr us pa) (x1 : Int32) {Z : Int32 → (Nat → Int32) → Int32 → (Nat → Int32) → Int32 → (Nat → Int32) → (Nat → Int32) → Prop}
    (z1 : Z (-2) fe fs (rj 0 rf) (-2) T (rj 0 rf')) (z3 : Z (-4) fe fs (rj 2 rf) (-4) T (rj 2 rf')) (z2 : ∀ r fe' fs' T', SR kd fg he se cr sz ya tr no wo mu fs' fe' ps pr us pa T' → Z r fe' fs' rf r T' rf') :
    p_X8_felt fe fs rf x1 (fun r u2 u3 u4 => p_X9_felt T rf' x1 (fun r' T' rf2 => Z r u2 u3 u4 r' T' rf2)) := by
  have hf3 : nf ≤ 3 := H.1.2.1
  have hp6 : np ≤ 6 := H.1.2.2.1
  have efs : fs = nI nf := C.1.2.2.2.2.2.2.1
  have eps : ps = nI np := C.1.2.2.2.2.2.2.2.1
  unfold p_X8_felt
  by_cases h1 : 1 ≤ x1 ∧ x1 ≤ 6
  · refine s_within_t h1 ?_
    rw [if_neg (by decide)]
    unfold p_X1_add p_X1_isFull
    have R : ∀ {Q : Int32 → (Nat → Int32) → (Nat → Int32) → Prop}, ((a : T 1 = 3) → p_X9_full rf' (fun r u => Q r T u)) → (nf < 3 → Q (nI (nf + 1)) (upd (upd T (42 + nf) x1) 1 (nI (nf + 1))) rf') → p_X9_felt T rf' x1 Q := by
      intro Q g1 g2
      unfold p_X9_felt
      refine s_in_t (lo' := 1) (hi' := 6) (by decide) (by decide) h1 ?_
      rw [if_neg (by decide), show (1 : Int32).toNatClampNeg = 1 from rfl]
      by_cases g : T 1 = 3
      · rw [if_pos g]; exact g1 g
      · rw [if_neg g, H.e1, show (42 : Int32) + nI nf = nI (42 + nf) from nI_add 42 nf, nI_clamp (show 42 + nf < 2 ^ 31 by omega), pk_un (show (1 : Nat) ≠ 42 + nf by omega), H.e1, nI_1, pk_us]
        refine ⟨vp_in_nI (by omega) (by decide), g2 ?_⟩
        rcases (show nf < 3 ∨ nf = 3 by omega) with q | q
        · exact q
        · exact absurd (by rw [H.e1, q]; rfl) g
    rw [efs]
    by_cases g : nf < 3
    · rw [if_pos (show nI nf < 3 from nI_lt (b := 3) g (by decide))]
      dsimp only
      rw [if_pos rfl, if_pos (show nI nf < 3 from nI_lt (b := 3) g (by decide))]
      try dsimp only
      rw [if_pos rfl, nI_clamp (show nf < 2 ^ 31 by omega), nI_1]
      refine ⟨vp_in_nI g (by decide), R ?_ ?_⟩
      · intro a
        rw [H.e1] at a
        have := (nI_eq (a := nf) (b := 3) (by omega) (by decide)).mp a
        omega
      · intro _
        obtain ⟨k, hk1, hk, ek⟩ := rgN (x := x1) 1 6 (by decide) h1
        have lo : ∀ k, k ≠ 1 → k ≠ 2 → (k < 42 ∨ 75 ≤ k) → upd (upd T (42 + nf) x1) 1 (nI (nf + 1)) k = T k := fun k h1 _ h3 => by rw [pk_un h1, pk_un (by omega)]
        have hi : ∀ k, 2 ≤ k → upd (upd T (42 + nf) x1) 1 (nI (nf + 1)) k = if k = 42 + nf then x1 else T k := fun k h1 => by rw [pk_un (by omega), upd_at]
        have H' : TI (upd (upd T (42 + nf) x1) 1 (nI (nf + 1))) n (nf + 1) np nu h mb kN fN yN tN nN wN := by
          refine H.fp lo (by rw [pk_us]) (by rw [hi _ (by decide), if_neg (by omega)]; exact H.e2) (by omega) hp6 ?_
          intro i hi2
          rw [hi _ (by omega)]
          by_cases g2 : 42 + i = 42 + nf
          · rw [if_pos g2]; exact ⟨k, hk1, hk, ek⟩
          · rw [if_neg g2]; exact H.2.2.2.1 i (by omega)
        have C' := C.fp (nf' := nf + 1) (np' := np) (fe' := upd fe nf x1) (pr' := pr) H.n8 lo (by
          intro i hi2
          rw [hi _ (by omega), upd_at]
          by_cases g2 : i = nf
          · rw [if_pos g2, if_pos (by omega)]
          · rw [if_neg g2, if_neg (by omega)]; exact C.2.2.1 i (by omega)) (by
          intro i hi2
          rw [hi _ (by omega), if_neg (by omega)]; exact C.2.2.2.1 i hi2)
        rw [← eps] at C'
        exact z2 _ _ _ _ (SR.of H' C')
    · have g3 : nf = 3 := by omega
      rw [if_neg (show ¬ nI nf < 3 by rw [g3]; exact Int32.lt_irrefl)]
      dsimp only
      rw [if_neg (by decide)]
      refine s_refuse4 (R ?_ ?_)
      · intro _
        refine s_full ?_
        rw [← efs]; exact z3
      · intro q; exact absurd q g
  · refine s_within_f h1 ?_
    rw [if_pos rfl]
    refine s_refuse2 ?_
    unfold p_X9_felt
    refine s_in_f (lo' := 1) (hi' := 6) (by decide) (by decide) h1 ?_
    rw [if_pos rfl]
    exact s_bad z1
theorem q_forget (H : TI T n nf np nu h mb kN fN yN tN nN wN) (C : CR T n nf np nu mb kd fg he se cr sz ya tr no wo mu fs fe ps pr us pa) (x1 : Int32) {Z : Int32 → Int32 → Int32 → (Nat → Int32) → Int32 → (Nat → Int32) → (Nat → Int32) → Prop}
    (z1 : Z (-2) fs ps (rj 0 rf) (-2) T (rj 0 rf')) (z2 : ∀ r fs' ps' T', SR kd fg he se cr sz ya tr no wo mu fs' fe ps' pr us pa T' → Z r fs' ps' rf r T' rf') :
    p_X8_forget fs ps rf x1 (fun r u2 u3 u4 => p_X9_forget T rf' x1 (fun r' T' rf2 => Z r u2 u3 u4 r' T' rf2)) := by
  have hf3 : nf ≤ 3 := H.1.2.1
  have hp6 : np ≤ 6 := H.1.2.2.1
  have efs : fs = nI nf := C.1.2.2.2.2.2.2.1
  have eps : ps = nI np := C.1.2.2.2.2.2.2.2.1
  unfold p_X8_forget p_X9_forget
  by_cases h1 : 0 ≤ x1 ∧ x1 ≤ 1
  · refine s_within_t h1 ?_
    rw [if_neg (by decide)]
    obtain ⟨k, -, hk, rfl⟩ := rgN (x := x1) 0 1 (by decide) h1
    unfold jX8_forget_43
    rcases (show k = 0 ∨ k = 1 by omega) with rfl | rfl
    · rw [if_pos (by decide), if_pos (by decide)]
      refine s_in_t (lo' := 0) (hi' := 1) (by decide) (by decide) h1 ?_
      rw [if_neg (by decide), show ((1 : Int32) + nI 0).toNatClampNeg = 1 from rfl, efs, H.e1]
      refine ⟨vp_in_nI (n := 1) (by decide) (by decide), vp_in_nI (n := 1) (by decide) (by decide), z2 _ _ _ _ ?_⟩
      have lo : ∀ k, k ≠ 1 → upd T 1 0 k = T k := fun k h1 => by rw [pk_un h1]
      have H' : TI (upd T 1 0) n 0 np nu h mb kN fN yN tN nN wN := H.fp (fun k h1 _ _ => lo k h1) (by rw [pk_us]; rfl) (by rw [lo _ (by decide)]; exact H.e2) (by omega) hp6 (fun i hi => by omega)
      have C' := C.fp (nf' := 0) (np' := np) (fe' := fe) (pr' := pr) H.n8 (fun k h1 _ _ => lo k h1) (fun i hi => by omega) (fun i hi => by rw [lo _ (by omega)]; exact C.2.2.2.1 i hi)
      rw [← eps] at C'
      exact SR.of H' C'
    · rw [if_neg (by decide), if_neg (by decide)]
      refine s_in_t (lo' := 0) (hi' := 1) (by decide) (by decide) h1 ?_
      rw [if_neg (by decide), show ((1 : Int32) + nI 1).toNatClampNeg = 2 from rfl, eps, H.e2]
      refine ⟨vp_in_nI (n := 2) (by decide) (by decide), vp_in_nI (n := 2) (by decide) (by decide), z2 _ _ _ _ ?_⟩
      have lo : ∀ k, k ≠ 2 → upd T 2 0 k = T k := fun k h1 => by rw [pk_un h1]
      have H' : TI (upd T 2 0) n nf 0 nu h mb kN fN yN tN nN wN := H.fp (fun k _ h1 _ => lo k h1) (by rw [lo _ (by decide)]; exact H.e1) (by rw [pk_us]; rfl) hf3 (by omega) (fun i hi => by rw [lo _ (by omega)]; exact H.2.2.2.1 i hi)
      have C' := C.fp (nf' := nf) (np' := 0) (fe' := fe) (pr' := pr) H.n8 (fun k _ h1 _ => lo k h1) (fun i hi => by rw [lo _ (by omega)]; exact C.2.2.1 i hi) (fun i hi => by omega)
      rw [← efs] at C'
      exact SR.of H' C'
  · refine s_within_f h1 ?_
    rw [if_pos rfl]
    refine s_refuse2 (s_in_f (lo' := 0) (hi' := 1) (by decide) (by decide) h1 ?_)
    rw [if_pos rfl]
    exact s_bad z1
/-- five more in a row -/
def u5 (f : Nat → Int32) (k : Nat) (x1 x2 x3 x4 x5 : Int32) : Nat → Int32 := upd (upd (upd (upd (upd f k x1) (k + 1) x2) (k + 2) x3) (k + 3) x4) (k + 4) x5
theorem u5_at (f : Nat → Int32) (k j : Nat) (x1 x2 x3 x4 x5 : Int32) : u5 f k x1 x2 x3 x4 x5 j = if j = k + 4 then x5 else if j = k + 3 then x4 else if j = k + 2 then x3 else if j = k + 1 then x2 else if j = k then x1 else f j := by
  unfold u5; rw [upd_at, upd_at, upd_at, upd_at, upd_at]
theorem u5_lo (f : Nat → Int32) (k j : Nat) (x1 x2 x3 x4 x5 : Int32) (h : j < k ∨ k + 5 ≤ j) : u5 f k x1 x2 x3 x4 x5 j = f j := by
  rw [u5_at, if_neg (by omega), if_neg (by omega), if_neg (by omega), if_neg (by omega), if_neg (by omega)]
theorem u5_in (f g : Nat → Int32) (k k' i : Nat) (x1 x2 x3 x4 x5 : Int32) (h : f i = g (k' - k + i) ∨ k ≤ i) (hk : k ≤ k') (hi : i < k + 5) : u5 f k x1 x2 x3 x4 x5 i = u5 g k' x1 x2 x3 x4 x5 (k' - k + i) := by
  rw [u5_at, u5_at]
  by_cases g4 : i = k + 4
  · rw [if_pos g4, if_pos (by omega)]
  rw [if_neg g4, if_neg (show ¬ k' - k + i = k' + 4 by omega)]
  by_cases g3 : i = k + 3
  · rw [if_pos g3, if_pos (by omega)]
  rw [if_neg g3, if_neg (show ¬ k' - k + i = k' + 3 by omega)]
  by_cases g2 : i = k + 2
  · rw [if_pos g2, if_pos (by omega)]
  rw [if_neg g2, if_neg (show ¬ k' - k + i = k' + 2 by omega)]
  by_cases g1 : i = k + 1
  · rw [if_pos g1, if_pos (by omega)]
  rw [if_neg g1, if_neg (show ¬ k' - k + i = k' + 1 by omega)]
  by_cases g0 : i = k
  · rw [if_pos g0, if_pos (by omega)]
  rw [if_neg g0, if_neg (show ¬ k' - k + i = k' by omega)]
  exact h.resolve_right (by omega)
theorem m_seen (H : TI T n nf np nu h mb kN fN yN tN nN wN) {x1 x2 x3 x4 x5 : Int32} (h1 : 0 ≤ x1 ∧ x1 ≤ 6) (h2 : 1 ≤ x2 ∧ x2 ≤ 6) (h3 : 0 ≤ x3 ∧ x3 ≤ 9) (h4 : 0 ≤ x4 ∧ x4 ≤ 1) (h5 : 1 ≤ x5 ∧ x5 ≤ 7) {Q : Int32 → (Nat → Int32) → (Nat → Int32) → Prop} (g1 : np = 6 → p_X9_full rf' (fun r u => Q r T u)) (g2 : np < 6 → Q (nI (np + 1)) (upd (u5 T (45 + 5 * np) x1 x2 x3 x4 x5) 2 (nI (np + 1))) rf') : p_X9_seen T rf' x1 x2 x3 x4 x5 Q := by
  have hp6 : np ≤ 6 := H.1.2.2.1
  unfold p_X9_seen
  refine s_isNote_t h1 ?_
  rw [if_neg (by decide)]
  refine s_in_t (lo' := 1) (hi' := 6) (by decide) (by decide) h2 ?_
  rw [if_neg (by decide)]
  refine s_isFog_t h3 ?_
  rw [if_neg (by decide)]
  refine s_in_t (lo' := 0) (hi' := 1) (by decide) (by decide) h4 ?_
  rw [if_neg (by decide)]
  refine s_in_t (lo' := 1) (hi' := 7) (by decide) (by decide) h5 ?_
  rw [if_neg (by decide), show (2 : Int32).toNatClampNeg = 2 from rfl, H.e2]
  rcases (show np = 6 ∨ np < 6 by omega) with g | g
  · rw [if_pos (by rw [g]; rfl)]; exact g1 g
  · have e0 : (45 : Int32) + 5 * nI np = nI (45 + 5 * np) := by rw [show (5 : Int32) * nI np = nI (5 * np) from pk_mul 5 np]; exact nI_add 45 _
    have e1 : nI (45 + 5 * np) + 1 = nI (45 + 5 * np + 1) := nI_1 _
    have e2 : nI (45 + 5 * np) + 2 = nI (45 + 5 * np + 2) := nI_add _ 2
    have e3 : nI (45 + 5 * np) + 3 = nI (45 + 5 * np + 3) := nI_add _ 3
    have e4 : nI (45 + 5 * np) + 4 = nI (45 + 5 * np + 4) := nI_add _ 4
    rw [if_neg (show ¬ nI np = 6 from fun e => by have := (nI_eq (a := np) (b := 6) (by omega) (by decide)).mp e; omega), e0, e1, e2, e3, e4, nI_clamp (show 45 + 5 * np < 2 ^ 31 by omega), nI_clamp (show 45 + 5 * np + 1 < 2 ^ 31 by omega), nI_clamp (show 45 + 5 * np + 2 < 2 ^ 31 by omega), nI_clamp (show 45 + 5 * np + 3 < 2 ^ 31 by omega), nI_clamp (show 45 + 5 * np + 4 < 2 ^ 31 by omega)]
    refine ⟨vp_in_nI (by omega) (by decide), vp_in_nI (by omega) (by decide), vp_in_nI (by omega) (by decide), vp_in_nI (by omega) (by decide), vp_in_nI (by omega) (by decide), ?_⟩
    show Q (upd (u5 T (45 + 5 * np) x1 x2 x3 x4 x5) 2 (u5 T (45 + 5 * np) x1 x2 x3 x4 x5 2 + 1) 2) (upd (u5 T (45 + 5 * np) x1 x2 x3 x4 x5) 2 (u5 T (45 + 5 * np) x1 x2 x3 x4 x5 2 + 1)) rf'
    rw [u5_lo _ _ _ _ _ _ _ _ (by omega), H.e2, nI_1, pk_us]
    exact g2 g
theorem m_seen_f {x1 x2 x3 x4 x5 : Int32} (hh : ¬ ((0 ≤ x1 ∧ x1 ≤ 6) ∧ (1 ≤ x2 ∧ x2 ≤ 6) ∧ (0 ≤ x3 ∧ x3 ≤ 9) ∧ (0 ≤ x4 ∧ x4 ≤ 1) ∧ (1 ≤ x5 ∧ x5 ≤ 7))) {Q : Int32 → (Nat → Int32) → (Nat → Int32) → Prop} (g1 : Q (-2) T (rj 0 rf')) : p_X9_seen T rf' x1 x2 x3 x4 x5 Q := by
  unfold p_X9_seen
  by_cases h1 : 0 ≤ x1 ∧ x1 ≤ 6
  · refine s_isNote_t h1 ?_
    rw [if_neg (by decide)]
    by_cases h2 : 1 ≤ x2 ∧ x2 ≤ 6
    · refine s_in_t (lo' := 1) (hi' := 6) (by decide) (by decide) h2 ?_
      rw [if_neg (by decide)]
      by_cases h3 : 0 ≤ x3 ∧ x3 ≤ 9
      · refine s_isFog_t h3 ?_
        rw [if_neg (by decide)]
        by_cases h4 : 0 ≤ x4 ∧ x4 ≤ 1
        · refine s_in_t (lo' := 0) (hi' := 1) (by decide) (by decide) h4 ?_
          rw [if_neg (by decide)]
          refine s_in_f (lo' := 1) (hi' := 7) (by decide) (by decide) (fun h5 => hh ⟨h1, h2, h3, h4, h5⟩) ?_
          rw [if_pos rfl]; exact s_bad g1
        · refine s_in_f (lo' := 0) (hi' := 1) (by decide) (by decide) h4 ?_
          rw [if_pos rfl]; exact s_bad g1
      · refine s_isFog_f h3 ?_
        rw [if_pos rfl]; exact s_bad g1
    · refine s_in_f (lo' := 1) (hi' := 6) (by decide) (by decide) h2 ?_
      rw [if_pos rfl]; exact s_bad g1
  · refine s_isNote_f h1 ?_
    rw [if_pos rfl]; exact s_bad g1
theorem c_seen_f {x1 x2 x3 x4 x5 : Int32} (hh : ¬ ((0 ≤ x1 ∧ x1 ≤ 6) ∧ (1 ≤ x2 ∧ x2 ≤ 6) ∧ (0 ≤ x3 ∧ x3 ≤ 9) ∧ (0 ≤ x4 ∧ x4 ≤ 1) ∧ (1 ≤ x5 ∧ x5 ≤ 7))) {Q : Int32 → (Nat → Int32) → Int32 → (Nat → Int32) → Prop} (g1 : Q (-2) pr ps (rj 0 rf)) : p_X8_seen pr ps rf x1 x2 x3 x4 x5 Q := by
  have g : jX8_seen_55 pr ps rf x1 x2 x3 x4 x5 Q := by
    unfold jX8_seen_55 jX8_seen_56
    rw [if_pos rfl]; exact s_refuse2 g1
  unfold p_X8_seen
  by_cases h1 : 0 ≤ x1 ∧ x1 ≤ 6
  · refine s_within_t h1 ?_
    rw [if_neg (by decide)]
    by_cases h2 : 1 ≤ x2 ∧ x2 ≤ 6
    · refine s_within_t h2 ?_
      rw [if_neg (by decide)]
      by_cases h3 : 0 ≤ x3 ∧ x3 ≤ 9
      · refine s_within_t h3 ?_
        rw [if_neg (by decide)]
        by_cases h4 : 0 ≤ x4 ∧ x4 ≤ 1
        · refine s_within_t h4 ?_
          rw [if_neg (by decide)]
          refine s_within_f (fun h5 => hh ⟨h1, h2, h3, h4, h5⟩) ?_
          rw [if_pos rfl]; exact g
        · refine s_within_f h4 ?_
          rw [if_pos rfl]; exact g
      · refine s_within_f h3 ?_
        rw [if_pos rfl]; exact g
    · refine s_within_f h2 ?_
      rw [if_pos rfl]; exact g
  · refine s_within_f h1 ?_
    rw [if_pos rfl]; exact g
theorem q_seen (H : TI T n nf np nu h mb kN fN yN tN nN wN) (C : CR T n nf np nu mb kd fg he se cr sz ya tr no wo mu fs fe ps pr us pa) (x1 x2 x3 x4 x5 : Int32) {Z : Int32 → (Nat → Int32) → Int32 → (Nat → Int32) → Int32 → (Nat → Int32) → (Nat → Int32) → Prop}
    (z1 : Z (-2) pr ps (rj 0 rf) (-2) T (rj 0 rf')) (z3 : Z (-4) pr ps (rj 2 rf) (-4) T (rj 2 rf')) (z2 : ∀ r pr' ps' T', SR kd fg he se cr sz ya tr no wo mu fs fe ps' pr' us pa T' → Z r pr' ps' rf r T' rf') :
    p_X8_seen pr ps rf x1 x2 x3 x4 x5 (fun r u2 u3 u4 => p_X9_seen T rf' x1 x2 x3 x4 x5 (fun r' T' rf2 => Z r u2 u3 u4 r' T' rf2)) := by
  have hf3 : nf ≤ 3 := H.1.2.1
  have hp6 : np ≤ 6 := H.1.2.2.1
  have efs : fs = nI nf := C.1.2.2.2.2.2.2.1
  have eps : ps = nI np := C.1.2.2.2.2.2.2.2.1
  by_cases hh : (0 ≤ x1 ∧ x1 ≤ 6) ∧ (1 ≤ x2 ∧ x2 ≤ 6) ∧ (0 ≤ x3 ∧ x3 ≤ 9) ∧ (0 ≤ x4 ∧ x4 ≤ 1) ∧ (1 ≤ x5 ∧ x5 ≤ 7)
  · obtain ⟨h1, h2, h3, h4, h5⟩ := hh
    unfold p_X8_seen
    refine s_within_t h1 ?_
    rw [if_neg (by decide)]
    refine s_within_t h2 ?_
    rw [if_neg (by decide)]
    refine s_within_t h3 ?_
    rw [if_neg (by decide)]
    refine s_within_t h4 ?_
    rw [if_neg (by decide)]
    refine s_within_t h5 ?_
    rw [if_neg (by decide)]
    unfold jX8_seen_56 p_X3_add p_X3_isFull
    rw [if_neg (by decide), eps]
    rcases (show np = 6 ∨ np < 6 by omega) with g | g
    · rw [if_neg (show ¬ nI np < 6 by rw [g]; exact Int32.lt_irrefl)]
      dsimp only
      rw [if_neg (by decide)]
      refine s_refuse4 (m_seen H h1 h2 h3 h4 h5 (fun _ => s_full ?_) (fun q => absurd q (by omega)))
      rw [← eps]; exact z3
    · have e0 : nI np * 5 = nI (5 * np) := by rw [show (5 : Int32) = nI 5 from rfl, pk_mul, Nat.mul_comm]
      have e1 : nI (5 * np) + 1 = nI (5 * np + 1) := nI_1 _
      have e2 : nI (5 * np) + 2 = nI (5 * np + 2) := nI_add _ 2
      have e3 : nI (5 * np) + 3 = nI (5 * np + 3) := nI_add _ 3
      have e4 : nI (5 * np) + 4 = nI (5 * np + 4) := nI_add _ 4
      rw [if_pos (show nI np < 6 from nI_lt (b := 6) g (by decide))]
      dsimp only
      rw [if_pos rfl, if_pos (show nI np < 6 from nI_lt (b := 6) g (by decide))]
      try dsimp only
      rw [if_pos rfl, e0, e1, e2, e3, e4, nI_clamp (show 5 * np < 2 ^ 31 by omega), nI_clamp (show 5 * np + 1 < 2 ^ 31 by omega), nI_clamp (show 5 * np + 2 < 2 ^ 31 by omega), nI_clamp (show 5 * np + 3 < 2 ^ 31 by omega), nI_clamp (show 5 * np + 4 < 2 ^ 31 by omega), nI_1]
      refine ⟨vp_in_nI (by omega) (by decide), vp_in_nI (by omega) (by decide), vp_in_nI (by omega) (by decide), vp_in_nI (by omega) (by decide), vp_in_nI (by omega) (by decide), ?_⟩
      refine m_seen H h1 h2 h3 h4 h5 (fun q => absurd q (by omega)) (fun _ => ?_)
      have lo : ∀ k, k ≠ 2 → (k < 45 + 5 * np ∨ 45 + 5 * np + 5 ≤ k) → upd (u5 T (45 + 5 * np) x1 x2 x3 x4 x5) 2 (nI (np + 1)) k = T k := fun k h1 h2 => by rw [pk_un h1, u5_lo _ _ _ _ _ _ _ _ h2]
      have H' : TI (upd (u5 T (45 + 5 * np) x1 x2 x3 x4 x5) 2 (nI (np + 1))) n nf (np + 1) nu h mb kN fN yN tN nN wN := by
        refine H.fp (fun k _ h1 h2 => lo k h1 (by omega)) (by rw [lo _ (by decide) (by omega)]; exact H.e1) (by rw [pk_us]) hf3 (by omega) ?_
        intro i hi
        rw [lo _ (by omega) (by omega)]; exact H.2.2.2.1 i hi
      have C' := C.fp (nf' := nf) (np' := np + 1) (fe' := fe) (pr' := u5 pr (5 * np) x1 x2 x3 x4 x5) H.n8 (fun k _ h1 h2 => lo k h1 (by omega)) (fun i hi => by rw [lo _ (by omega) (by omega)]; exact C.2.2.1 i hi) (by
        intro i hi
        rw [pk_un (by omega), u5_in pr T (5 * np) (45 + 5 * np) i x1 x2 x3 x4 x5 (by
          rcases (show i < 5 * np ∨ 5 * np ≤ i by omega) with q | q
          · left; rw [C.2.2.2.1 i q]; exact congrArg T (by omega)
          · right; exact q) (by omega) (by omega)]
        exact congrArg _ (by omega))
      rw [← efs] at C'
      exact z2 _ _ _ _ (SR.of H' C')
  · exact c_seen_f hh (m_seen_f hh z1)
end PF
