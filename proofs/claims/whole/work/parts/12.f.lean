/-! what a change of T leaves -/
section PU
variable {T : Nat → Int32} {n nf np nu h mb kN fN : Nat} {yN tN nN wN : Nat → Nat}
variable {kd fg he se cr sz : Int32} {ya tr no wo mu : Nat → Int32} {fs : Int32} {fe : Nat → Int32} {ps : Int32} {pr : Nat → Int32} {us : Int32} {pa : Nat → Int32} {rf rf' : Nat → Int32}
theorem TI.u3 (H : TI T n nf np nu h mb kN fN yN tN nN wN) : TI (upd T 3 0) n nf np 0 h mb kN fN yN tN nN wN := by
  obtain ⟨⟨a1, a2, a3, a4, a5, a6, a7, a8⟩, ⟨b0, b1, b2, b3, b4, b5, b6, b7⟩, c, d, e⟩ := H
  refine ⟨⟨a1, a2, a3, by omega, a5, a6, a7, a8⟩, ⟨?_, ?_, ?_, ?_, ?_, ?_, ?_, ?_⟩, ?_, ?_, fun u hu => by omega⟩
  · rw [pk_un (by decide)]; exact b0
  · rw [pk_un (by decide)]; exact b1
  · rw [pk_un (by decide)]; exact b2
  · rw [pk_us]; rfl
  · rw [pk_un (by decide)]; exact b4
  · rw [pk_un (by decide)]; exact b5
  · rw [pk_un (by decide)]; exact b6
  · rw [pk_un (by decide)]; exact b7
  · intro b hb
    rw [pk_un (by omega), pk_un (by omega), pk_un (by omega), pk_un (by omega)]
    exact c b hb
  · intro i hi
    rw [pk_un (by omega)]; exact d i hi
theorem CR.u3 (C : CR T n nf np nu mb kd fg he se cr sz ya tr no wo mu fs fe ps pr us pa) : CR (upd T 3 0) n nf np 0 mb kd fg he se cr sz ya tr no wo mu fs fe ps pr 0 pa := by
  obtain ⟨⟨k1, k2, k3, k4, k5, k6, k7, k8, k9⟩, c, d, e, f⟩ := C
  refine ⟨⟨?_, ?_, ?_, ?_, ?_, k6, k7, k8, rfl⟩, ?_, ?_, ?_, fun u hu => by omega⟩
  · rw [pk_un (by decide)]; exact k1
  · rw [pk_un (by decide)]; exact k2
  · rw [pk_un (by decide)]; exact k3
  · rw [pk_un (by decide)]; exact k4
  · rw [pk_un (by decide)]; exact k5
  · intro b hb
    rw [pk_un (by omega), pk_un (by omega), pk_un (by omega), pk_un (by omega)]
    exact c b hb
  · intro i hi
    rw [pk_un (by omega)]; exact d i hi
  · intro i hi
    rw [pk_un (by omega)]; exact e i hi
theorem TI.kf (H : TI T n nf np nu h mb kN fN yN tN nN wN) {k f : Nat} (hk : k ≤ 5) (hf : f ≤ 9) : TI (upd (upd T 15 (nI k)) 16 (nI f)) n nf np nu h mb k f yN tN nN wN := by
  obtain ⟨⟨a1, a2, a3, a4, a5, a6, a7, a8⟩, ⟨b0, b1, b2, b3, b4, b5, b6, b7⟩, c, d, e⟩ := H
  have lo : ∀ j, j ≠ 15 → j ≠ 16 → upd (upd T 15 (nI k)) 16 (nI f) j = T j := fun j h1 h2 => by rw [pk_un h2, pk_un h1]
  refine ⟨⟨a1, a2, a3, a4, a5, a6, hk, hf⟩, ⟨?_, ?_, ?_, ?_, ?_, ?_, ?_, ?_⟩, ?_, ?_, ?_⟩
  · rw [lo _ (by decide) (by decide)]; exact b0
  · rw [lo _ (by decide) (by decide)]; exact b1
  · rw [lo _ (by decide) (by decide)]; exact b2
  · rw [lo _ (by decide) (by decide)]; exact b3
  · rw [lo _ (by decide) (by decide)]; exact b4
  · rw [pk_un (by decide), pk_us]
  · rw [pk_us]
  · rw [lo _ (by decide) (by decide)]; exact b7
  · intro b hb
    rw [lo _ (by omega) (by omega), lo _ (by omega) (by omega), lo _ (by omega) (by omega), lo _ (by omega) (by omega)]
    exact c b hb
  · intro i hi
    rw [lo _ (by omega) (by omega)]; exact d i hi
  · intro u hu
    obtain ⟨⟨q, q1, q2⟩, g⟩ := e u hu
    refine ⟨⟨q, q1, by rw [lo _ (by omega) (by omega)]; exact q2⟩, fun j hj => ?_⟩
    rw [lo _ (by omega) (by omega)]; exact g j hj
theorem CR.kf (C : CR T n nf np nu mb kd fg he se cr sz ya tr no wo mu fs fe ps pr us pa) (a1 : n ≤ 8) (x1 x2 : Int32) : CR (upd (upd T 15 x1) 16 x2) n nf np nu mb x1 x2 he se cr sz ya tr no wo mu fs fe ps pr us pa := by
  obtain ⟨⟨k1, k2, k3, k4, k5, k6, k7, k8, k9⟩, c, d, e, f⟩ := C
  have lo : ∀ j, j ≠ 15 → j ≠ 16 → upd (upd T 15 x1) 16 x2 j = T j := fun j h1 h2 => by rw [pk_un h2, pk_un h1]
  refine ⟨⟨?_, ?_, ?_, ?_, ?_, k6, k7, k8, k9⟩, ?_, ?_, ?_, ?_⟩
  · rw [pk_un (by decide), pk_us]
  · rw [pk_us]
  · rw [lo _ (by decide) (by decide)]; exact k3
  · rw [lo _ (by decide) (by decide)]; exact k4
  · rw [lo _ (by decide) (by decide)]; exact k5
  · intro b hb
    rw [lo _ (by omega) (by omega), lo _ (by omega) (by omega), lo _ (by omega) (by omega), lo _ (by omega) (by omega)]
    exact c b hb
  · intro i hi
    rw [lo _ (by omega) (by omega)]; exact d i hi
  · intro i hi
    rw [lo _ (by omega) (by omega)]; exact e i hi
  · intro u hu j hj
    rw [lo _ (by omega) (by omega)]; exact f u hu j hj
theorem SR.of (H : TI T n nf np nu h mb kN fN yN tN nN wN) (C : CR T n nf np nu mb kd fg he se cr sz ya tr no wo mu fs fe ps pr us pa) : SR kd fg he se cr sz ya tr no wo mu fs fe ps pr us pa T := ⟨n, nf, np, nu, h, mb, kN, fN, yN, tN, nN, wN, H, C⟩
theorem q_driver (H : TI T n nf np nu h mb kN fN yN tN nN wN) (C : CR T n nf np nu mb kd fg he se cr sz ya tr no wo mu fs fe ps pr us pa) (x1 x2 : Int32) {Z : Int32 → Int32 → Int32 → Int32 → (Nat → Int32) → Int32 → (Nat → Int32) → (Nat → Int32) → Prop}
    (z1 : Z (-2) us kd fg (rj 0 rf) (-2) T (rj 0 rf')) (z2 : ∀ T', SR x1 x2 he se cr sz ya tr no wo mu fs fe ps pr 0 pa T' → Z 1 0 x1 x2 rf 1 T' rf') :
    p_X8_driver us kd fg rf x1 x2 (fun r u2 u3 u4 u5 => p_X9_driver T rf' x1 x2 (fun r' T' rf2 => Z r u2 u3 u4 u5 r' T' rf2)) := by
  unfold p_X8_driver
  by_cases h1 : 0 ≤ x1 ∧ x1 ≤ 5
  · by_cases h2 : 0 ≤ x2 ∧ x2 ≤ 9
    · refine s_isDriver_t h1 h2 ?_
      rw [if_neg (by decide)]
      unfold p_X9_driver
      refine s_isKind_t h1 ?_
      rw [if_neg (by decide)]
      refine s_isFog_t h2 ?_
      rw [if_neg (by decide)]
      obtain ⟨k, -, hk, ek⟩ := rgN (x := x1) 0 5 (by decide) h1
      obtain ⟨f, -, hf, ef⟩ := rgN (x := x2) 0 9 (by decide) h2
      refine z2 _ ?_
      subst ek; subst ef
      exact SR.of (H.kf hk hf).u3 (C.kf H.n8 _ _).u3
    · refine s_isDriver_f2 h1 h2 ?_
      rw [if_pos rfl]
      refine s_refuse2 ?_
      unfold p_X9_driver
      refine s_isKind_t h1 ?_
      rw [if_neg (by decide)]
      refine s_isFog_f h2 ?_
      rw [if_pos rfl]
      exact s_bad z1
  · refine s_isDriver_f1 h1 ?_
    rw [if_pos rfl]
    refine s_refuse2 ?_
    unfold p_X9_driver
    refine s_isKind_f h1 ?_
    rw [if_pos rfl]
    exact s_bad z1
end PU
