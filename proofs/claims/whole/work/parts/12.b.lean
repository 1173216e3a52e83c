/-! what changes nothing: of, now, pace, left, wrong, turned -/
section PQ
variable {T : Nat → Int32} {n nf np nu h mb kN fN : Nat} {yN tN nN wN : Nat → Nat}
variable {kd fg he se cr sz : Int32} {ya tr no wo mu : Nat → Int32} {fs : Int32} {fe : Nat → Int32} {ps : Int32} {pr : Nat → Int32} {us : Int32} {pa : Nat → Int32} {rf rf' : Nat → Int32}
theorem CR.esz (C : CR T n nf np nu mb kd fg he se cr sz ya tr no wo mu fs fe ps pr us pa) : sz = nI n := C.1.2.2.2.2.2.1
theorem li_add (k b : Nat) : nI k + nI b = nI (k + b) := nI_add k b
theorem q_of (H : TI T n nf np nu h mb kN fN yN tN nN wN) (C : CR T n nf np nu mb kd fg he se cr sz ya tr no wo mu fs fe ps pr us pa) (x1 x2 : Int32) {Z : Int32 → (Nat → Int32) → Int32 → (Nat → Int32) → Prop} (z1 : Z (-2) (rj 0 rf) (-2) (rj 0 rf')) (z2 : ∀ r, Z r rf r rf') :
    p_X8_of ya tr no wo mu sz rf x1 x2 (fun r u => p_X9_of T rf' x1 x2 (fun r' v => Z r u r' v)) := by
  have h8 := H.n8
  unfold p_X8_of
  rw [C.esz]
  rcases ixc x1 (n := n) (by omega) with h1 | ⟨b, hb, rfl⟩
  · refine s_has_f h1 ?_
    rw [if_pos rfl]
    refine s_refuse2 ?_
    unfold p_X9_of
    refine s_isBend_f H.e0 (by omega) h1 ?_
    rw [if_pos rfl]
    exact s_bad z1
  · refine s_has_t hb (by omega) ?_
    rw [if_neg (by decide)]
    by_cases h2 : 0 ≤ x2 ∧ x2 ≤ 5
    · refine s_within_t h2 ?_
      rw [if_neg (by decide)]
      obtain ⟨c1, c2, c3, c4, c5⟩ := C.2.1 b hb
      have hi : vp_in (nI b) 8 := vp_in_nI (by omega) (by decide)
      have eb : (nI b).toNatClampNeg = b := nI_clamp (by omega)
      have e18 : (18 : Int32) + nI b = nI (18 + b) := nI_add 18 b
      have e26 : (26 : Int32) + nI b = nI (26 + b) := nI_add 26 b
      have e34 : (34 : Int32) + nI b = nI (34 + b) := nI_add 34 b
      have k18 : (nI (18 + b)).toNatClampNeg = 18 + b := nI_clamp (by omega)
      have k26 : (nI (26 + b)).toNatClampNeg = 26 + b := nI_clamp (by omega)
      have k34 : (nI (34 + b)).toNatClampNeg = 34 + b := nI_clamp (by omega)
      unfold p_X0_tell
      have m0 : ∀ {Q : Int32 → (Nat → Int32) → Prop}, (if x2 = 0 then Q (T (18 + b)) rf' else if x2 = 1 then Q (T (26 + b)) rf' else if x2 = 2 then Q (T (7 + b)) rf' else if x2 = 3 then Q (T (34 + b)) rf' else if x2 = 4 then Q (nI (mb / 2 ^ b % 2)) rf' else Q (hoS (T (26 + b)) (nI (mb / 2 ^ b % 2))) rf') → p_X9_of T rf' (nI b) x2 Q := by
        intro Q hq
        unfold p_X9_of
        refine s_isBend_t H.e0 hb (by omega) ?_
        rw [if_neg (by decide)]
        refine s_in_t (lo' := 0) (hi' := 5) (by decide) (by decide) h2 ?_
        rw [if_neg (by decide), e18, e26, e34, k18, k26, k34, show (17 : Int32).toNatClampNeg = 17 from rfl, H.e17, bitI mb H.mb8 b (by omega)]
        by_cases g0 : x2 = 0
        · rw [if_pos g0] at hq ⊢; exact ⟨vp_in_nI (by omega) (by decide), hq⟩
        rw [if_neg g0] at hq ⊢
        by_cases g1 : x2 = 1
        · rw [if_pos g1] at hq ⊢; exact ⟨vp_in_nI (by omega) (by decide), hq⟩
        rw [if_neg g1] at hq ⊢
        by_cases g2 : x2 = 2
        · rw [if_pos g2] at hq ⊢; exact s_noteOf (by omega) hq
        rw [if_neg g2] at hq ⊢
        by_cases g3 : x2 = 3
        · rw [if_pos g3] at hq ⊢; exact ⟨vp_in_nI (by omega) (by decide), hq⟩
        rw [if_neg g3] at hq ⊢
        by_cases g4 : x2 = 4
        · rw [if_pos g4] at hq ⊢; exact hq
        rw [if_neg g4] at hq ⊢
        exact s_holds9 H hb hq
      rw [eb]
      by_cases g0 : x2 = 0
      · rw [if_pos g0]; refine ⟨hi, m0 ?_⟩; rw [if_pos g0, c1]; exact z2 _
      rw [if_neg g0]
      by_cases g1 : x2 = 1
      · rw [if_pos g1]; refine ⟨hi, m0 ?_⟩; rw [if_neg g0, if_pos g1, c2]; exact z2 _
      rw [if_neg g1]
      by_cases g2 : x2 = 2
      · rw [if_pos g2]; refine ⟨hi, m0 ?_⟩; rw [if_neg g0, if_neg g1, if_pos g2, c3]; exact z2 _
      rw [if_neg g2]
      by_cases g3 : x2 = 3
      · rw [if_pos g3]; refine ⟨hi, m0 ?_⟩; rw [if_neg g0, if_neg g1, if_neg g2, if_pos g3, c4]; exact z2 _
      rw [if_neg g3]
      by_cases g4 : x2 = 4
      · rw [if_pos g4]; refine ⟨hi, m0 ?_⟩; rw [if_neg g0, if_neg g1, if_neg g2, if_neg g3, if_pos g4, c5]; exact z2 _
      rw [if_neg g4]
      refine c_holds H C hb (m0 ?_)
      rw [if_neg g0, if_neg g1, if_neg g2, if_neg g3, if_neg g4]
      exact z2 _
    · refine s_within_f h2 ?_
      rw [if_pos rfl]
      refine s_refuse2 ?_
      unfold p_X9_of
      refine s_isBend_t H.e0 hb (by omega) ?_
      rw [if_neg (by decide)]
      refine s_in_f (lo' := 0) (hi' := 5) (by decide) (by decide) h2 ?_
      rw [if_pos rfl]
      exact s_bad z1
theorem q_now (H : TI T n nf np nu h mb kN fN yN tN nN wN) (C : CR T n nf np nu mb kd fg he se cr sz ya tr no wo mu fs fe ps pr us pa) (x1 : Int32) {Z : Int32 → (Nat → Int32) → Int32 → (Nat → Int32) → Prop} (z1 : Z (-2) (rj 0 rf) (-2) (rj 0 rf')) (z2 : ∀ r, Z r rf r rf') :
    p_X8_now kd fg he se cr rf x1 (fun r u => p_X9_now T rf' x1 (fun r' v => Z r u r' v)) := by
  unfold p_X8_now
  by_cases h1 : 0 ≤ x1 ∧ x1 ≤ 4
  · refine s_within_t h1 ?_
    rw [if_neg (by decide)]
    obtain ⟨k, -, hk, rfl⟩ := rgN (x := x1) 0 4 (by decide) h1
    unfold p_X6_tell p_X9_now
    obtain ⟨c1, c2, c3, c4, c5, -⟩ := C.1
    rcases (show k = 0 ∨ k = 1 ∨ k = 2 ∨ k = 3 ∨ k = 4 by omega) with rfl | rfl | rfl | rfl | rfl
    · rw [if_pos (by decide)]
      refine s_in_t (lo' := 0) (hi' := 4) (by decide) (by decide) h1 ?_
      rw [if_neg (by decide)]
      unfold p_X9_nowOf
      rw [if_neg (by decide)]
      exact ⟨by unfold vp_in; decide, by rw [c3]; exact z2 _⟩
    · rw [if_neg (by decide), if_pos (by decide)]
      refine s_in_t (lo' := 0) (hi' := 4) (by decide) (by decide) h1 ?_
      rw [if_neg (by decide)]
      unfold p_X9_nowOf
      rw [if_neg (by decide)]
      exact ⟨by unfold vp_in; decide, by rw [c4]; exact z2 _⟩
    · rw [if_neg (by decide), if_neg (by decide), if_pos (by decide)]
      refine s_in_t (lo' := 0) (hi' := 4) (by decide) (by decide) h1 ?_
      rw [if_neg (by decide)]
      unfold p_X9_nowOf
      rw [if_neg (by decide)]
      exact ⟨by unfold vp_in; decide, by rw [c5]; exact z2 _⟩
    · rw [if_neg (by decide), if_neg (by decide), if_neg (by decide), if_pos (by decide)]
      refine s_in_t (lo' := 0) (hi' := 4) (by decide) (by decide) h1 ?_
      rw [if_neg (by decide)]
      unfold p_X9_nowOf
      rw [if_pos (by decide), if_pos (by decide), c1]
      exact z2 _
    · rw [if_neg (by decide), if_neg (by decide), if_neg (by decide), if_neg (by decide)]
      refine s_in_t (lo' := 0) (hi' := 4) (by decide) (by decide) h1 ?_
      rw [if_neg (by decide)]
      unfold p_X9_nowOf
      rw [if_pos (by decide), if_neg (by decide), c2]
      exact z2 _
  · refine s_within_f h1 ?_
    rw [if_pos rfl]
    refine s_refuse2 ?_
    unfold p_X9_now
    refine s_in_f (lo' := 0) (hi' := 4) (by decide) (by decide) h1 ?_
    rw [if_pos rfl]
    exact s_bad z1
theorem q_pace (H : TI T n nf np nu h mb kN fN yN tN nN wN) (C : CR T n nf np nu mb kd fg he se cr sz ya tr no wo mu fs fe ps pr us pa) (x1 x2 x3 : Int32) {Z : Int32 → (Nat → Int32) → Int32 → (Nat → Int32) → Prop} (z1 : Z (-2) (rj 0 rf) (-2) (rj 0 rf')) (z2 : ∀ r, Z r rf r rf') :
    p_X8_pace tr no mu sz kd fg rf x1 x2 x3 (fun r u => p_X9_pace T rf' x1 x2 x3 (fun r' v => Z r u r' v)) := by
  have h8 := H.n8
  unfold p_X8_pace
  rw [C.esz]
  rcases ixc x1 (n := n) (by omega) with h1 | ⟨b, hb, rfl⟩
  · refine s_has_f h1 ?_
    rw [if_pos rfl]
    refine s_refuse2 ?_
    unfold p_X9_pace
    refine s_isBend_f H.e0 (by omega) h1 ?_
    rw [if_pos rfl]
    exact s_bad z1
  refine s_has_t hb (by omega) ?_
  rw [if_neg (by decide)]
  by_cases h2 : (-1) ≤ x2 ∧ x2 ≤ 6
  case neg =>
    refine s_within_f h2 ?_
    rw [if_pos rfl]
    refine s_refuse2 ?_
    unfold p_X9_pace
    refine s_isBend_t H.e0 hb (by omega) ?_
    rw [if_neg (by decide)]
    refine s_in_f (lo' := -1) (hi' := 6) (by decide) (by decide) h2 ?_
    rw [if_pos rfl]
    exact s_bad z1
  refine s_within_t h2 ?_
  rw [if_neg (by decide)]
  by_cases h3 : 0 ≤ x3 ∧ x3 ≤ 1
  case neg =>
    refine s_within_f h3 ?_
    rw [if_pos rfl]
    refine s_refuse2 ?_
    unfold p_X9_pace
    refine s_isBend_t H.e0 hb (by omega) ?_
    rw [if_neg (by decide)]
    refine s_in_t (lo' := -1) (hi' := 6) (by decide) (by decide) h2 ?_
    rw [if_neg (by decide)]
    refine s_in_f (lo' := 0) (hi' := 1) (by decide) (by decide) h3 ?_
    rw [if_pos rfl]
    exact s_bad z1
  refine s_within_t h3 ?_
  rw [if_neg (by decide)]
  have key : ∀ t : Int32, (∀ {Q : Int32 → (Nat → Int32) → Prop}, jX9_pace_53 T rf' (nI b) x3 Q t → p_X9_pace T rf' (nI b) x2 x3 Q) → jX8_pace_61 tr mu kd fg rf (nI b) x3 (fun r u => p_X9_pace T rf' (nI b) x2 x3 (fun r' v => Z r u r' v)) t := by
    intro t m0
    unfold jX8_pace_61
    by_cases g : x3 = 0
    · rw [if_pos g]
      refine c_pace H C hb (m0 ?_)
      unfold jX9_pace_53
      rw [if_pos g]
      exact s_pace9 H hb (z2 _)
    · rw [if_neg g]
      refine c_cost H C hb (m0 ?_)
      unfold jX9_pace_53
      rw [if_neg g]
      exact s_cost H hb (z2 _)
  have m1 : ∀ {Q : Int32 → (Nat → Int32) → Prop}, (if x2 = (-1) then jX9_pace_53 T rf' (nI b) x3 Q (T (7 + b)) else jX9_pace_53 T rf' (nI b) x3 Q x2) → p_X9_pace T rf' (nI b) x2 x3 Q := by
    intro Q hq
    unfold p_X9_pace
    refine s_isBend_t H.e0 hb (by omega) ?_
    rw [if_neg (by decide)]
    refine s_in_t (lo' := -1) (hi' := 6) (by decide) (by decide) h2 ?_
    rw [if_neg (by decide)]
    refine s_in_t (lo' := 0) (hi' := 1) (by decide) (by decide) h3 ?_
    rw [if_neg (by decide)]
    by_cases g : x2 = (-1)
    · rw [if_pos g] at hq ⊢; exact s_noteOf (by omega) hq
    · rw [if_neg g] at hq ⊢; exact hq
  by_cases g : x2 = (-1)
  · rw [if_pos g, nI_clamp (show b < 2 ^ 31 by omega), (C.2.1 b hb).2.2.1]
    refine ⟨vp_in_nI (by omega) (by decide), key _ (fun hq => m1 ?_)⟩
    rw [if_pos g]; exact hq
  · rw [if_neg g]
    refine key _ (fun hq => m1 ?_)
    rw [if_neg g]; exact hq
theorem q_wrong (H : TI T n nf np nu h mb kN fN yN tN nN wN) (C : CR T n nf np nu mb kd fg he se cr sz ya tr no wo mu fs fe ps pr us pa) (x1 : Int32) {Z : Int32 → (Nat → Int32) → Int32 → (Nat → Int32) → Prop} (z1 : Z (-1000) (rj 0 rf) (-1000) (rj 0 rf')) (z2 : ∀ r, Z r rf r rf') :
    p_X8_wrong tr no mu sz kd fg rf x1 (fun r u => p_X9_wrong T rf' x1 (fun r' v => Z r u r' v)) := by
  have h8 := H.n8
  unfold p_X8_wrong
  rw [C.esz]
  rcases ixc x1 (n := n) (by omega) with h1 | ⟨b, hb, rfl⟩
  · refine s_has_f h1 ?_
    rw [if_pos rfl]
    refine s_refuse2 ?_
    unfold p_X9_wrong
    refine s_isBend_f H.e0 (by omega) h1 ?_
    rw [if_pos rfl]
    exact s_bad z1
  refine s_has_t hb (by omega) ?_
  rw [if_neg (by decide)]
  refine c_costNoted H C hb (c_cost H C hb ?_)
  unfold p_X9_wrong
  refine s_isBend_t H.e0 hb (by omega) ?_
  rw [if_neg (by decide)]
  refine s_noteOf (by omega) (s_cost H hb (s_cost H hb (z2 _)))
end PQ
