/-! what may be undone -/
def shT (T : Nat → Int32) (i : Nat) : Nat → Int32 := fun k => if 75 ≤ k ∧ k < 75 + i then T (k + 11) else T k
def kpW (T : Nat → Int32) (u i : Nat) : Nat → Int32 := fun k => if 75 + 11 * u ≤ k ∧ k < 75 + 11 * u + i then T (k - (71 + 11 * u)) else T k
def kpT (T : Nat → Int32) (u : Nat) : Nat → Int32 := fun k => if k = 3 then nI (u + 1) else kpW T u 11 k
theorem m_keep51 {T : Nat → Int32} {u : Nat} (hu : u < 8) (h3 : T 3 = nI u) {Q : (Nat → Int32) → Prop} (hq : Q (kpT T u)) : jX9_keep_51 Q T := by
  have e0 : T = kpW T u 0 := by
    funext k; unfold kpW; rw [if_neg (by omega)]
  unfold jX9_keep_51
  rw [show lq2 (bX9_keep_53 Q) 1000 T 0 = lq2 (bX9_keep_53 Q) 1000 (kpW T u 0) (nI 0) by rw [← e0]; rfl]
  refine lq2_for (fun i => kpW T u i) (fun i => nI i) 11 ?_ ?_ 1000 0 (Nat.zero_le _) (by omega)
  · intro i hi k hk
    unfold bX9_keep_53
    have w3 : kpW T u i (3 : Int32).toNatClampNeg = nI u := by
      show kpW T u i 3 = _
      unfold kpW; rw [if_neg (by omega)]; exact h3
    have e1 : (75 : Int32) + 11 * nI u + nI i = nI (75 + 11 * u + i) := by
      rw [show (11 : Int32) * nI u = nI (11 * u) from pk_mul 11 u, show (75 : Int32) + nI (11 * u) = nI (75 + 11 * u) from nI_add 75 _, nI_add]
    have e2 : (4 : Int32) + nI i = nI (4 + i) := nI_add 4 i
    rw [if_neg (show ¬ (11 : Int32) ≤ nI i from nI_ge (b := 11) hi (by decide)), w3, e1, e2, nI_clamp (show 75 + 11 * u + i < 2 ^ 31 by omega), nI_clamp (show 4 + i < 2 ^ 31 by omega), nI_1]
    refine ⟨vp_in_nI (by omega) (by decide), vp_in_nI (by omega) (by decide), ?_⟩
    have e : upd (kpW T u i) (75 + 11 * u + i) (kpW T u i (4 + i)) = kpW T u (i + 1) := by
      funext j
      rw [upd_at]
      unfold kpW
      rw [if_neg (show ¬ (75 + 11 * u ≤ 4 + i ∧ 4 + i < 75 + 11 * u + i) by omega)]
      by_cases h1 : j = 75 + 11 * u + i
      · rw [if_pos h1, if_pos (by omega), show j - (71 + 11 * u) = 4 + i by omega]
      · rw [if_neg h1]
        by_cases h2 : 75 + 11 * u ≤ j ∧ j < 75 + 11 * u + i
        · rw [if_pos h2, if_pos (by omega)]
        · rw [if_neg h2, if_neg (by omega)]
    rw [e]
    exact hk
  · intro k
    unfold bX9_keep_53
    rw [if_pos (show (11 : Int32) ≤ nI 11 from Int32.le_refl _)]
    unfold jX9_keep_92
    have e : upd (kpW T u 11) ((3 : Int32).toNatClampNeg) (kpW T u 11 (3 : Int32).toNatClampNeg + 1) = kpT T u := by
      funext j
      show upd (kpW T u 11) 3 (kpW T u 11 3 + 1) j = _
      rw [upd_at]
      have w3 : kpW T u 11 3 = nI u := by unfold kpW; rw [if_neg (by omega)]; exact h3
      rw [w3, nI_1]
      rfl
    rw [e]
    exact hq
theorem m_keep {T : Nat → Int32} {u : Nat} (hu : u ≤ 8) (h3 : T 3 = nI u) {Q : (Nat → Int32) → Prop} (h1 : u < 8 → Q (kpT T u)) (h2 : u = 8 → Q (kpT (upd (shT T 77) 3 7) 7)) : p_X9_keep T Q := by
  unfold p_X9_keep
  rw [show (3 : Int32).toNatClampNeg = 3 from rfl, h3]
  by_cases g : u = 8
  · subst g
    rw [if_pos (show nI 8 = 8 from rfl)]
    have e0 : T = shT T 0 := by funext k; unfold shT; rw [if_neg (by omega)]
    rw [show lq2 (bX9_keep_13 Q) 1000 T 0 = lq2 (bX9_keep_13 Q) 1000 (shT T 0) (nI 0) by rw [← e0]; rfl]
    refine lq2_for (fun i => shT T i) (fun i => nI i) 77 ?_ ?_ 1000 0 (Nat.zero_le _) (by omega)
    · intro i hi k hk
      unfold bX9_keep_13
      have e1 : (86 : Int32) + nI i = nI (86 + i) := nI_add 86 i
      have e2 : (75 : Int32) + nI i = nI (75 + i) := nI_add 75 i
      rw [if_neg (show ¬ (77 : Int32) ≤ nI i from nI_ge (b := 77) hi (by decide)), e1, e2, nI_clamp (show 86 + i < 2 ^ 31 by omega), nI_clamp (show 75 + i < 2 ^ 31 by omega), nI_1]
      refine ⟨vp_in_nI (by omega) (by decide), vp_in_nI (by omega) (by decide), ?_⟩
      have e : upd (shT T i) (75 + i) (shT T i (86 + i)) = shT T (i + 1) := by
        funext j
        rw [upd_at]
        unfold shT
        rw [if_neg (show ¬ (75 ≤ 86 + i ∧ 86 + i < 75 + i) by omega)]
        by_cases h1 : j = 75 + i
        · rw [if_pos h1, if_pos (by omega), show j + 11 = 86 + i by omega]
        · rw [if_neg h1]
          by_cases h2 : 75 ≤ j ∧ j < 75 + i
          · rw [if_pos h2, if_pos (by omega)]
          · rw [if_neg h2, if_neg (by omega)]
      rw [e]
      exact hk
    · intro k
      unfold bX9_keep_13
      rw [if_pos (show (77 : Int32) ≤ nI 77 from Int32.le_refl _)]
      unfold jX9_keep_43
      exact m_keep51 (u := 7) (by decide) rfl (h2 rfl)
  · rw [if_neg (show ¬ nI u = 8 from fun q => g ((nI_eq (a := u) (b := 8) (by omega) (by decide)).mp q))]
    exact m_keep51 (by omega) h3 (h1 (by omega))
/-- the class's rows behind a keep -/
def kpP (no pa : Nat → Int32) (he se cr : Int32) (u : Nat) : Nat → Int32 := va_cpy no (upd (upd (upd pa (11 * u) he) (11 * u + 1) se) (11 * u + 2) cr) 0 (11 * u + 3) 8
theorem kpP_at {no pa : Nat → Int32} {he se cr : Int32} {u j : Nat} : kpP no pa he se cr u j = if 11 * u + 3 ≤ j ∧ j < 11 * u + 11 then no (j - (11 * u + 3)) else if j = 11 * u + 2 then cr else if j = 11 * u + 1 then se else if j = 11 * u then he else pa j := by
  unfold kpP
  by_cases h : 11 * u + 3 ≤ j ∧ j < 11 * u + 11
  · rw [if_pos h, pk_cpy_in h.1 (by omega), Nat.zero_add]
  · rw [if_neg h, pk_cpy_out (by omega), upd_at, upd_at, upd_at]
theorem c_keep31 {no pa : Nat → Int32} {he se cr : Int32} {u : Nat} (hu : u < 8) {Q : (Nat → Int32) → Int32 → Prop} (hq : Q (kpP no pa he se cr u) (nI (u + 1))) : jX4_keep_31 no he se cr Q pa (nI u) := by
  unfold jX4_keep_31
  have e0 : nI u * 11 = nI (11 * u) := by rw [show (11 : Int32) = nI 11 from rfl, pk_mul, Nat.mul_comm]
  have e1 : nI (11 * u) + 1 = nI (11 * u + 1) := nI_1 _
  have e2 : nI (11 * u) + 2 = nI (11 * u + 2) := nI_add _ 2
  have e3 : nI (11 * u) + 3 = nI (11 * u + 3) := nI_add _ 3
  rw [e0, e1, e2, e3, nI_clamp (show 11 * u < 2 ^ 31 by omega), nI_clamp (show 11 * u + 1 < 2 ^ 31 by omega), nI_clamp (show 11 * u + 2 < 2 ^ 31 by omega), nI_clamp (show 11 * u + 3 < 2 ^ 31 by omega), nI_1]
  refine ⟨vp_in_nI (by omega) (by decide), vp_in_nI (by omega) (by decide), vp_in_nI (by omega) (by decide), ⟨by decide, nI_pos (by omega), by decide, by decide, ?_⟩, hq⟩
  rw [nI_clamp (show 11 * u + 3 < 2 ^ 31 by omega)]
  show 11 * u + 3 + 8 ≤ 88
  omega
theorem c_keep {no pa : Nat → Int32} {he se cr : Int32} {u : Nat} (hu : u ≤ 8) {Q : (Nat → Int32) → Int32 → Prop} (h1 : u < 8 → Q (kpP no pa he se cr u) (nI (u + 1))) (h2 : u = 8 → Q (kpP no (va_cpy pa pa 11 0 77) he se cr 7) (nI 8)) : p_X4_keep no pa (nI u) he se cr Q := by
  unfold p_X4_keep
  by_cases g : u < 8
  · rw [if_pos (show nI u < 8 from nI_lt (b := 8) g (by decide))]
    exact c_keep31 g (h1 g)
  · have g8 : u = 8 := by omega
    subst g8
    rw [if_neg (show ¬ nI 8 < 8 from Int32.lt_irrefl)]
    exact c_keep31 (u := 7) (by decide) (h2 rfl)
section PK
variable {T : Nat → Int32} {n nf np nu h mb kN fN : Nat} {yN tN nN wN : Nat → Nat}
variable {kd fg he se cr sz : Int32} {ya tr no wo mu : Nat → Int32} {fs : Int32} {fe : Nat → Int32} {ps : Int32} {pr : Nat → Int32} {us : Int32} {pa : Nat → Int32} {rf rf' : Nat → Int32}
theorem TI.shift (H : TI T n nf np 8 h mb kN fN yN tN nN wN) : TI (upd (shT T 77) 3 7) n nf np 7 h mb kN fN yN tN nN wN := by
  obtain ⟨⟨a1, a2, a3, a4, a5, a6, a7, a8⟩, ⟨b0, b1, b2, b3, b4, b5, b6, b7⟩, c, d, e⟩ := H
  have lo : ∀ k, k ≠ 3 → k < 75 → upd (shT T 77) 3 7 k = T k := by
    intro k h3 hk
    rw [upd_at, if_neg h3]; unfold shT; rw [if_neg (by omega)]
  have hi : ∀ k, 75 ≤ k → k < 152 → upd (shT T 77) 3 7 k = T (k + 11) := by
    intro k h3 hk
    rw [upd_at, if_neg (by omega)]; unfold shT; rw [if_pos (by omega)]
  refine ⟨⟨a1, a2, a3, by omega, a5, a6, a7, a8⟩, ⟨?_, ?_, ?_, ?_, ?_, ?_, ?_, ?_⟩, ?_, ?_, ?_⟩
  · rw [lo 0 (by decide) (by decide)]; exact b0
  · rw [lo 1 (by decide) (by decide)]; exact b1
  · rw [lo 2 (by decide) (by decide)]; exact b2
  · rw [upd_at, if_pos rfl]; rfl
  · rw [lo 4 (by decide) (by decide)]; exact b4
  · rw [lo 15 (by decide) (by decide)]; exact b5
  · rw [lo 16 (by decide) (by decide)]; exact b6
  · rw [lo 17 (by decide) (by decide)]; exact b7
  · intro b hb
    rw [lo (18 + b) (by omega) (by omega), lo (26 + b) (by omega) (by omega), lo (7 + b) (by omega) (by omega), lo (34 + b) (by omega) (by omega)]
    exact c b hb
  · intro i hi2
    rw [lo (42 + i) (by omega) (by omega)]
    exact d i hi2
  · intro u hu
    obtain ⟨⟨k, k1, k2⟩, f⟩ := e (u + 1) (by omega)
    refine ⟨⟨k, k1, ?_⟩, fun j hj => ?_⟩
    · rw [hi (75 + 11 * u) (by omega) (by omega), ← k2]; exact congrArg T (by omega)
    · obtain ⟨q, q1, q2⟩ := f j hj
      refine ⟨q, q1, ?_⟩
      rw [hi (78 + 11 * u + j) (by omega) (by omega), ← q2]; exact congrArg T (by omega)
theorem CR.shift (a1 : n ≤ 8) (a2 : nf ≤ 3) (a3 : np ≤ 6) (C : CR T n nf np 8 mb kd fg he se cr sz ya tr no wo mu fs fe ps pr us pa) : CR (upd (shT T 77) 3 7) n nf np 7 mb kd fg he se cr sz ya tr no wo mu fs fe ps pr (nI 7) (va_cpy pa pa 11 0 77) := by
  obtain ⟨⟨k1, k2, k3, k4, k5, k6, k7, k8, k9⟩, c, d, e, f⟩ := C
  have lo : ∀ k, k ≠ 3 → k < 75 → upd (shT T 77) 3 7 k = T k := by
    intro k h3 hk
    rw [upd_at, if_neg h3]; unfold shT; rw [if_neg (by omega)]
  have hi : ∀ k, 75 ≤ k → k < 152 → upd (shT T 77) 3 7 k = T (k + 11) := by
    intro k h3 hk
    rw [upd_at, if_neg (by omega)]; unfold shT; rw [if_pos (by omega)]
  refine ⟨⟨?_, ?_, ?_, ?_, ?_, k6, k7, k8, rfl⟩, ?_, ?_, ?_, ?_⟩
  · rw [lo 15 (by decide) (by decide)]; exact k1
  · rw [lo 16 (by decide) (by decide)]; exact k2
  · rw [lo 4 (by decide) (by decide)]; exact k3
  · rw [lo 5 (by decide) (by decide)]; exact k4
  · rw [lo 6 (by decide) (by decide)]; exact k5
  · intro b hb
    rw [lo (18 + b) (by omega) (by omega), lo (26 + b) (by omega) (by omega), lo (7 + b) (by omega) (by omega), lo (34 + b) (by omega) (by omega)]
    exact c b hb
  · intro i hi2
    rw [lo (42 + i) (by omega) (by omega)]
    exact d i hi2
  · intro i hi2
    rw [lo (45 + i) (by omega) (by omega)]
    exact e i hi2
  · intro u hu j hj
    rw [hi (75 + 11 * u + j) (by omega) (by omega), pk_cpy_in (by omega) (by omega), show 11 + (11 * u + j - 0) = 11 * (u + 1) + j by omega, f (u + 1) (by omega) j hj]
    exact congrArg T (by omega)
theorem TI.push (H : TI T n nf np nu h mb kN fN yN tN nN wN) (hu : nu < 8) : TI (kpT T nu) n nf np (nu + 1) h mb kN fN yN tN nN wN := by
  obtain ⟨⟨a1, a2, a3, a4, a5, a6, a7, a8⟩, ⟨b0, b1, b2, b3, b4, b5, b6, b7⟩, c, d, e⟩ := H
  have lo : ∀ k, k ≠ 3 → k < 75 + 11 * nu → kpT T nu k = T k := by
    intro k h3 hk
    unfold kpT kpW; rw [if_neg h3, if_neg (by omega)]
  have hi : ∀ k, 75 + 11 * nu ≤ k → k < 86 + 11 * nu → kpT T nu k = T (k - (71 + 11 * nu)) := by
    intro k h3 hk
    unfold kpT kpW; rw [if_neg (by omega), if_pos (by omega)]
  refine ⟨⟨a1, a2, a3, by omega, a5, a6, a7, a8⟩, ⟨?_, ?_, ?_, rfl, ?_, ?_, ?_, ?_⟩, ?_, ?_, ?_⟩
  · rw [lo 0 (by decide) (by omega)]; exact b0
  · rw [lo 1 (by decide) (by omega)]; exact b1
  · rw [lo 2 (by decide) (by omega)]; exact b2
  · rw [lo 4 (by decide) (by omega)]; exact b4
  · rw [lo 15 (by decide) (by omega)]; exact b5
  · rw [lo 16 (by decide) (by omega)]; exact b6
  · rw [lo 17 (by decide) (by omega)]; exact b7
  · intro b hb
    rw [lo (18 + b) (by omega) (by omega), lo (26 + b) (by omega) (by omega), lo (7 + b) (by omega) (by omega), lo (34 + b) (by omega) (by omega)]
    exact c b hb
  · intro i hi2
    rw [lo (42 + i) (by omega) (by omega)]
    exact d i hi2
  · intro u hu2
    by_cases g : u < nu
    · obtain ⟨⟨k, k1, k2⟩, f⟩ := e u g
      refine ⟨⟨k, k1, ?_⟩, fun j hj => ?_⟩
      · rw [lo (75 + 11 * u) (by omega) (by omega)]; exact k2
      · obtain ⟨q, q1, q2⟩ := f j hj
        refine ⟨q, q1, ?_⟩
        rw [lo (78 + 11 * u + j) (by omega) (by omega)]; exact q2
    · have gu : u = nu := by omega
      subst gu
      refine ⟨⟨h, a5, ?_⟩, fun j hj => ⟨nN j, (c j hj).2.2.1, ?_⟩⟩
      · rw [hi (75 + 11 * u) (by omega) (by omega), show 75 + 11 * u - (71 + 11 * u) = 4 by omega]; exact b4
      · rw [hi (78 + 11 * u + j) (by omega) (by omega), show 78 + 11 * u + j - (71 + 11 * u) = 7 + j by omega]; exact (c j hj).2.2.2.2.2.2.1
theorem CR.push (H : TI T n nf np nu h mb kN fN yN tN nN wN) (C : CR T n nf np nu mb kd fg he se cr sz ya tr no wo mu fs fe ps pr us pa) (hu : nu < 8) : CR (kpT T nu) n nf np (nu + 1) mb kd fg he se cr sz ya tr no wo mu fs fe ps pr (nI (nu + 1)) (kpP no pa he se cr nu) := by
  obtain ⟨⟨a1, a2, a3, a4, a5, a6, a7, a8⟩, -⟩ := H
  obtain ⟨⟨k1, k2, k3, k4, k5, k6, k7, k8, k9⟩, c, d, e, f⟩ := C
  have lo : ∀ k, k ≠ 3 → k < 75 + 11 * nu → kpT T nu k = T k := by
    intro k h3 hk
    unfold kpT kpW; rw [if_neg h3, if_neg (by omega)]
  have hi : ∀ k, 75 + 11 * nu ≤ k → k < 86 + 11 * nu → kpT T nu k = T (k - (71 + 11 * nu)) := by
    intro k h3 hk
    unfold kpT kpW; rw [if_neg (by omega), if_pos (by omega)]
  refine ⟨⟨?_, ?_, ?_, ?_, ?_, k6, k7, k8, rfl⟩, ?_, ?_, ?_, ?_⟩
  · rw [lo 15 (by decide) (by omega)]; exact k1
  · rw [lo 16 (by decide) (by omega)]; exact k2
  · rw [lo 4 (by decide) (by omega)]; exact k3
  · rw [lo 5 (by decide) (by omega)]; exact k4
  · rw [lo 6 (by decide) (by omega)]; exact k5
  · intro b hb
    rw [lo (18 + b) (by omega) (by omega), lo (26 + b) (by omega) (by omega), lo (7 + b) (by omega) (by omega), lo (34 + b) (by omega) (by omega)]
    exact c b hb
  · intro i hi2
    rw [lo (42 + i) (by omega) (by omega)]
    exact d i hi2
  · intro i hi2
    rw [lo (45 + i) (by omega) (by omega)]
    exact e i hi2
  · intro u hu2 j hj
    rw [kpP_at]
    by_cases g : u < nu
    · rw [lo (75 + 11 * u + j) (by omega) (by omega), if_neg (by omega), if_neg (by omega), if_neg (by omega), if_neg (by omega)]
      exact f u g j hj
    · have gu : u = nu := by omega
      subst gu
      rw [hi (75 + 11 * u + j) (by omega) (by omega), show 75 + 11 * u + j - (71 + 11 * u) = 4 + j by omega]
      by_cases j3 : 3 ≤ j
      · rw [if_pos (by omega), show 11 * u + j - (11 * u + 3) = j - 3 by omega, (c (j - 3) (by omega)).2.2.1]
        exact congrArg T (by omega)
      · rw [if_neg (by omega)]
        rcases (show j = 0 ∨ j = 1 ∨ j = 2 by omega) with rfl | rfl | rfl
        · rw [if_neg (by omega), if_neg (by omega), if_pos (by omega)]; exact k3
        · rw [if_neg (by omega), if_pos (by omega)]; exact k4
        · rw [if_pos (by omega)]; exact k5
end PK
