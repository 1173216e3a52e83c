/-! undo, a bend more, felt, seen, forget, type, part, status -/
def unW (T : Nat → Int32) (u i : Nat) : Nat → Int32 := fun k => if 4 ≤ k ∧ k < 4 + i then T (71 + 11 * u + k) else if k = 3 then nI u else T k
section PN
variable {T : Nat → Int32} {n nf np nu h mb kN fN : Nat} {yN tN nN wN : Nat → Nat}
variable {kd fg he se cr sz : Int32} {ya tr no wo mu : Nat → Int32} {fs : Int32} {fe : Nat → Int32} {ps : Int32} {pr : Nat → Int32} {us : Int32} {pa : Nat → Int32} {rf rf' : Nat → Int32}
theorem m_undo {u : Nat} (hu : u < 8) (h3 : T 3 = nI (u + 1)) {Q : Int32 → (Nat → Int32) → (Nat → Int32) → Prop} (hq : Q (T (75 + 11 * u)) (unW T u 11) rf') : p_X9_undo T rf' Q := by
  unfold p_X9_undo
  rw [show (3 : Int32).toNatClampNeg = 3 from rfl, h3, if_neg (show ¬ nI (u + 1) = 0 from nI_ne0 (by omega) (by omega)), nI_pred]
  have e0 : upd T 3 (nI u) = unW T u 0 := by
    funext k; unfold unW; rw [upd_at, if_neg (show ¬ (4 ≤ k ∧ k < 4 + 0) by omega)]
  rw [show lq2 (bX9_undo_26 rf' Q) 1000 (upd T 3 (nI u)) 0 = lq2 (bX9_undo_26 rf' Q) 1000 (unW T u 0) (nI 0) by rw [e0]; rfl]
  refine lq2_for (fun i => unW T u i) (fun i => nI i) 11 ?_ ?_ 1000 0 (Nat.zero_le _) (by omega)
  · intro i hi k hk
    unfold bX9_undo_26
    have w3 : unW T u i (3 : Int32).toNatClampNeg = nI u := by
      show unW T u i 3 = _
      unfold unW; rw [if_neg (by omega), if_pos rfl]
    have e1 : (75 : Int32) + 11 * nI u + nI i = nI (75 + 11 * u + i) := by
      rw [show (11 : Int32) * nI u = nI (11 * u) from pk_mul 11 u, show (75 : Int32) + nI (11 * u) = nI (75 + 11 * u) from nI_add 75 _, nI_add]
    have e2 : (4 : Int32) + nI i = nI (4 + i) := nI_add 4 i
    rw [if_neg (show ¬ (11 : Int32) ≤ nI i from nI_ge (b := 11) hi (by decide)), w3, e1, e2, nI_clamp (show 75 + 11 * u + i < 2 ^ 31 by omega), nI_clamp (show 4 + i < 2 ^ 31 by omega), nI_1]
    refine ⟨vp_in_nI (by omega) (by decide), vp_in_nI (by omega) (by decide), ?_⟩
    have e : upd (unW T u i) (4 + i) (unW T u i (75 + 11 * u + i)) = unW T u (i + 1) := by
      funext j
      rw [upd_at]
      unfold unW
      rw [if_neg (show ¬ (4 ≤ 75 + 11 * u + i ∧ 75 + 11 * u + i < 4 + i) by omega), if_neg (show ¬ 75 + 11 * u + i = 3 by omega)]
      by_cases h1 : j = 4 + i
      · rw [if_pos h1, if_pos (by omega)]; exact congrArg T (by omega)
      · rw [if_neg h1]
        by_cases h2 : 4 ≤ j ∧ j < 4 + i
        · rw [if_pos h2, if_pos (by omega)]
        · rw [if_neg h2, if_neg (show ¬ (4 ≤ j ∧ j < 4 + (i + 1)) by omega)]
    rw [e]
    exact hk
  · intro k
    unfold bX9_undo_26
    rw [if_pos (show (11 : Int32) ≤ nI 11 from Int32.le_refl _)]
    unfold jX9_undo_65
    have e4 : unW T u 11 (4 : Int32).toNatClampNeg = T (75 + 11 * u) := by
      show unW T u 11 4 = _
      unfold unW; rw [if_pos (by omega)]; exact congrArg T (by omega)
    rw [e4]
    exact hq
theorem TI.undo {u : Nat} (H : TI T n nf np (u + 1) h mb kN fN yN tN nN wN) : ∃ (h' : Nat) (nN' : Nat → Nat), TI (unW T u 11) n nf np u h' mb kN fN yN tN nN' wN := by
  have h8 := H.n8
  obtain ⟨⟨a1, a2, a3, a4, a5, a6, a7, a8⟩, ⟨b0, b1, b2, b3, b4, b5, b6, b7⟩, c, d, e⟩ := H
  obtain ⟨⟨h', h1, h2⟩, g⟩ := e u (by omega)
  have ⟨nN', hN'⟩ : ∃ nN' : Nat → Nat, ∀ j, j < n → nN' j ≤ 6 ∧ T (78 + 11 * u + j) = nI (nN' j) := by
    have : ∀ j, ∃ k, j < n → k ≤ 6 ∧ T (78 + 11 * u + j) = nI k := fun j => by
      by_cases hj : j < n
      · obtain ⟨k, k1, k2⟩ := g j hj; exact ⟨k, fun _ => ⟨k1, k2⟩⟩
      · exact ⟨0, fun q => absurd q hj⟩
    exact ⟨fun j => Classical.choose (this j), fun j hj => Classical.choose_spec (this j) hj⟩
  have lo : ∀ k, k ≠ 3 → (k < 4 ∨ 15 ≤ k) → unW T u 11 k = T k := by
    intro k h3 hk
    unfold unW; rw [if_neg (by omega), if_neg h3]
  refine ⟨h', nN', ⟨a1, a2, a3, by omega, h1, a6, a7, a8⟩, ⟨?_, ?_, ?_, ?_, ?_, ?_, ?_, ?_⟩, ?_, ?_, ?_⟩
  · rw [lo _ (by decide) (by omega)]; exact b0
  · rw [lo _ (by decide) (by omega)]; exact b1
  · rw [lo _ (by decide) (by omega)]; exact b2
  · unfold unW; rw [if_neg (by omega), if_pos rfl]
  · unfold unW; rw [if_pos (by omega), ← h2]; exact congrArg T (by omega)
  · rw [lo _ (by decide) (by omega)]; exact b5
  · rw [lo _ (by decide) (by omega)]; exact b6
  · rw [lo _ (by decide) (by omega)]; exact b7
  · intro b hb
    obtain ⟨g1, g2, g3, g4, g5, g6, g7, g8⟩ := c b hb
    refine ⟨g1, g2, (hN' b hb).1, g4, ?_, ?_, ?_, ?_⟩
    · rw [lo _ (by omega) (by omega)]; exact g5
    · rw [lo _ (by omega) (by omega)]; exact g6
    · rw [← (hN' b hb).2]; unfold unW; rw [if_pos (by omega)]; exact congrArg T (by omega)
    · rw [lo _ (by omega) (by omega)]; exact g8
  · intro i hi
    rw [lo _ (by omega) (by omega)]; exact d i hi
  · intro v hv
    obtain ⟨⟨q, q1, q2⟩, g⟩ := e v (by omega)
    refine ⟨⟨q, q1, by rw [lo _ (by omega) (by omega)]; exact q2⟩, fun j hj => ?_⟩
    rw [lo _ (by omega) (by omega)]; exact g j hj
theorem CR.undo {u : Nat} (C : CR T n nf np (u + 1) mb kd fg he se cr sz ya tr no wo mu fs fe ps pr us pa) (a1 : n ≤ 8) : CR (unW T u 11) n nf np u mb kd fg (pa (11 * u)) (pa (11 * u + 1)) (pa (11 * u + 2)) sz ya tr (va_cpy pa no (11 * u + 3) 0 8) wo mu fs fe ps pr (nI u) pa := by
  obtain ⟨⟨k1, k2, k3, k4, k5, k6, k7, k8, k9⟩, c, d, e, f⟩ := C
  have lo : ∀ k, k ≠ 3 → (k < 4 ∨ 15 ≤ k) → unW T u 11 k = T k := by
    intro k h3 hk
    unfold unW; rw [if_neg (by omega), if_neg h3]
  have hi : ∀ k, 4 ≤ k → k < 15 → unW T u 11 k = T (71 + 11 * u + k) := by
    intro k h3 hk
    unfold unW; rw [if_pos (by omega)]
  refine ⟨⟨?_, ?_, ?_, ?_, ?_, k6, k7, k8, rfl⟩, ?_, ?_, ?_, ?_⟩
  · rw [lo _ (by decide) (by omega)]; exact k1
  · rw [lo _ (by decide) (by omega)]; exact k2
  · rw [hi _ (by decide) (by decide)]; exact (f u (by omega) 0 (by omega)).trans (congrArg T (by omega))
  · rw [hi _ (by decide) (by decide)]; exact (f u (by omega) 1 (by omega)).trans (congrArg T (by omega))
  · rw [hi _ (by decide) (by decide)]; exact (f u (by omega) 2 (by omega)).trans (congrArg T (by omega))
  · intro b hb
    obtain ⟨g1, g2, g3, g4, g5⟩ := c b hb
    refine ⟨by rw [lo _ (by omega) (by omega)]; exact g1, by rw [lo _ (by omega) (by omega)]; exact g2, ?_, by rw [lo _ (by omega) (by omega)]; exact g4, g5⟩
    rw [hi _ (by omega) (by omega), pk_cpy_in (by omega) (by omega), show 11 * u + 3 + (b - 0) = 11 * u + (3 + b) by omega, f u (by omega) (3 + b) (by omega)]
    exact congrArg T (by omega)
  · intro i hi2
    rw [lo _ (by omega) (by omega)]; exact d i hi2
  · intro i hi2
    rw [lo _ (by omega) (by omega)]; exact e i hi2
  · intro v hv j hj
    rw [lo _ (by omega) (by omega)]; exact f v (by omega) j hj
theorem q_undo (H : TI T n nf np nu h mb kN fN yN tN nN wN) (C : CR T n nf np nu mb kd fg he se cr sz ya tr no wo mu fs fe ps pr us pa) {Z : Int32 → (Nat → Int32) → Int32 → Int32 → Int32 → Int32 → (Nat → Int32) → Int32 → (Nat → Int32) → (Nat → Int32) → Prop}
    (z3 : Z (-3) no us he se cr (rj 1 rf) (-3) T (rj 1 rf')) (z2 : ∀ r no' us' he' se' cr' T', SR kd fg he' se' cr' sz ya tr no' wo mu fs fe ps pr us' pa T' → Z r no' us' he' se' cr' rf r T' rf') :
    p_X8_undo no pa us he se cr rf (fun r u2 u3 u4 u5 u6 u7 => p_X9_undo T rf' (fun r' T' rf2 => Z r u2 u3 u4 u5 u6 u7 r' T' rf2)) := by
  have h8 := H.n8
  have hnu : nu ≤ 8 := H.1.2.2.2.1
  have hus : us = nI nu := C.1.2.2.2.2.2.2.2.2
  unfold p_X8_undo
  cases nu with
  | zero =>
    rw [if_pos (show us = 0 from hus)]
    refine s_refuse3 ?_
    unfold p_X9_undo
    dsimp only
    rw [show (3 : Int32).toNatClampNeg = 3 from rfl, H.e3, if_pos (show nI 0 = 0 from rfl)]
    exact s_no z3
  | succ u =>
    rw [hus, if_neg (show ¬ nI (u + 1) = 0 from nI_ne0 (by omega) (by omega))]
    unfold p_X4_giveBack
    have e0 : nI u * 11 = nI (11 * u) := by rw [show (11 : Int32) = nI 11 from rfl, pk_mul, Nat.mul_comm]
    have e1 : nI (11 * u) + 1 = nI (11 * u + 1) := nI_1 _
    have e2 : nI (11 * u) + 2 = nI (11 * u + 2) := nI_add _ 2
    have e3 : nI (11 * u) + 3 = nI (11 * u + 3) := nI_add _ 3
    rw [if_pos (show (1 : Int32) ≤ nI (u + 1) from nI_le (a := 1) (by omega) (by omega)), nI_pred, e0, e1, e2, e3, nI_clamp (show 11 * u < 2 ^ 31 by omega), nI_clamp (show 11 * u + 1 < 2 ^ 31 by omega), nI_clamp (show 11 * u + 2 < 2 ^ 31 by omega), nI_clamp (show 11 * u + 3 < 2 ^ 31 by omega)]
    refine ⟨vp_in_nI (by omega) (by decide), vp_in_nI (by omega) (by decide), vp_in_nI (by omega) (by decide), ⟨nI_pos (by omega), by decide, by decide, ?_, by decide⟩, ?_⟩
    · rw [nI_clamp (show 11 * u + 3 < 2 ^ 31 by omega)]
      show 11 * u + 3 + 8 ≤ 88
      omega
    · refine m_undo (by omega) H.e3 ?_
      obtain ⟨h', nN', H'⟩ := H.undo
      have C' := C.undo h8
      have R := SR.of H' C'
      have e9 : pa (11 * u) = T (75 + 11 * u) := C.2.2.2.2 u (by omega) 0 (by omega)
      rw [← e9]
      exact z2 _ _ _ _ _ _ _ R
end PN
theorem q_part {rf rf' : Nat → Int32} {ab be ab' be' : Int64} (ea : ab = ab') (eb : be = be') (x1 : Int32) {Z : Int64 → (Nat → Int32) → Int64 → (Nat → Int32) → Prop} (z1 : Z (-2 : Int32).toInt64 (rj 0 rf) (-2 : Int32).toInt64 (rj 0 rf')) (z2 : ∀ r, Z r rf r rf') :
    p_X8_part rf ab be x1 (fun r u => p_X9_part rf' ab' be' x1 (fun r' v => Z r u r' v)) := by
  subst ea; subst eb
  unfold p_X8_part p_X9_part
  by_cases h1 : 0 ≤ x1 ∧ x1 ≤ 1
  · refine s_within_t h1 ?_
    rw [if_neg (by decide)]
    obtain ⟨k, -, hk, rfl⟩ := rgN (x := x1) 0 1 (by decide) h1
    rcases (show k = 0 ∨ k = 1 by omega) with rfl | rfl
    · rw [if_pos (by decide)]; dsimp only; rw [if_pos (by decide)]; exact z2 _
    · rw [if_neg (by decide)]; dsimp only; rw [if_neg (by decide), if_pos (by decide)]; exact z2 _
  · refine s_within_f h1 ?_
    rw [if_pos rfl]
    refine s_refuse2 ?_
    dsimp only
    rw [if_neg (show ¬ x1 = 0 from fun e => h1 (by subst e; exact ⟨by decide, by decide⟩)), if_neg (show ¬ x1 = 1 from fun e => h1 (by subst e; exact ⟨by decide, by decide⟩))]
    exact s_bad z1
theorem q_status {rf rf' : Nat → Int32} (er : rf = rf') (x1 : Int32) {Z : Int32 → (Nat → Int32) → Int32 → (Nat → Int32) → Prop} (z1 : Z (-1) (rj 0 rf) (-1) (rj 0 rf')) (z2 : ∀ r, Z r rf r rf') :
    p_X8_status rf x1 (fun r u => p_X9_status rf' x1 (fun r' v => Z r u r' v)) := by
  subst er
  unfold p_X8_status p_X9_status
  by_cases h1 : 0 ≤ x1 ∧ x1 ≤ 2
  · refine s_within_t h1 ?_
    rw [if_neg (by decide)]
    obtain ⟨k, -, hk, rfl⟩ := rgN (x := x1) 0 2 (by decide) h1
    have hi : vp_in (nI k) 3 := vp_in_nI (by omega) (by decide)
    refine ⟨hi, s_in_t (lo' := 0) (hi' := 2) (by decide) (by decide) h1 ?_⟩
    rw [if_neg (by decide)]
    exact ⟨hi, z2 _⟩
  · refine s_within_f h1 ?_
    rw [if_pos rfl]
    refine s_refuse2 (s_in_f (lo' := 0) (hi' := 2) (by decide) (by decide) h1 ?_)
    rw [if_pos rfl]
    exact s_bad z1
theorem q_type {rf rf' by1 by2 : Nat → Int32} {tn : Nat} (hn : tn ≤ 150) (x1 : Int32) {Z : Int32 → (Nat → Int32) → Int32 → (Nat → Int32) → Int32 → (Nat → Int32) → (Nat → Int32) → Int32 → Prop}
    (z1 : Z (-2) by1 (nI tn) (rj 0 rf) (-2) (rj 0 rf') by2 (nI tn)) (z3 : Z (-4) by1 (nI tn) (rj 2 rf) (-4) (rj 2 rf') by2 (nI tn)) (z2 : ∀ v : Nat, v ≤ 127 → tn < 150 → x1 = nI v → Z (nI (tn + 1)) (upd by1 tn x1) (nI (tn + 1)) rf (nI (tn + 1)) rf' (upd by2 tn x1) (nI (tn + 1))) :
    p_X8_type by1 (nI tn) rf x1 (fun r u2 u3 u4 => p_X9_type rf' by2 (nI tn) x1 (fun r' v2 v3 v4 => Z r u2 u3 u4 r' v2 v3 v4)) := by
  unfold p_X8_type p_X9_type
  by_cases h1 : 0 ≤ x1 ∧ x1 ≤ 127
  · refine s_within_t h1 ?_
    rw [if_neg (by decide)]
    unfold p_X7_isFull
    by_cases g : tn < 150
    · rw [if_pos (show nI tn < 150 from nI_lt (b := 150) g (by decide))]
      dsimp only
      rw [if_pos rfl]
      unfold p_X7_add p_X7_isFull
      rw [if_pos (show nI tn < 150 from nI_lt (b := 150) g (by decide))]
      dsimp only
      rw [if_pos rfl, nI_clamp (show tn < 2 ^ 31 by omega), nI_1]
      have hi : vp_in (nI tn) 150 := vp_in_nI g (by decide)
      refine ⟨hi, s_in_t (lo' := 0) (hi' := 127) (by decide) (by decide) h1 ?_⟩
      rw [if_neg (by decide), if_neg (show ¬ nI tn = 150 from fun e => by have := (nI_eq (a := tn) (b := 150) (by omega) (by decide)).mp e; omega)]
      obtain ⟨k, -, hk, e⟩ := rgN (x := x1) 0 127 (by decide) h1
      exact ⟨hi, z2 k hk g e⟩
    · have gt : tn = 150 := by omega
      subst gt
      rw [if_neg (show ¬ nI 150 < 150 from Int32.lt_irrefl)]
      dsimp only
      rw [if_neg (by decide)]
      refine s_refuse4 (s_in_t (lo' := 0) (hi' := 127) (by decide) (by decide) h1 ?_)
      rw [if_neg (by decide), if_pos (show nI 150 = 150 from rfl)]
      exact s_full z3
  · refine s_within_f h1 ?_
    rw [if_pos rfl]
    refine s_refuse2 (s_in_f (lo' := 0) (hi' := 127) (by decide) (by decide) h1 ?_)
    rw [if_pos rfl]
    exact s_bad z1
