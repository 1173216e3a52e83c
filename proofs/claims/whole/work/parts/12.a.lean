/-! a new road -/
theorem upd_at (f : Nat → Int32) (k j : Nat) (x : Int32) : upd f k x j = if j = k then x else f j := by
  by_cases h : j = k
  · subst h; rw [if_pos rfl, pk_us]
  · rw [if_neg h, pk_un h]
def bgT (T : Nat → Int32) (x1 x2 : Int32) : Nat → Int32 := fun k => if k = 16 then x2 else if k = 15 then x1 else if k < 75 then 0 else T k
theorem s_begin {N : Nat} {T : Nat → Int32} {x1 x2 : Int32} (hN : 75 ≤ N) (hN2 : N < 2 ^ 31) {Q : (Nat → Int32) → Prop} (hq : Q (bgT T x1 x2)) : p_X9_begin N T x1 x2 Q := by
  have e0 : T = fun k => if k < 0 then 0 else T k := by funext k; rw [if_neg (Nat.not_lt_zero k)]
  unfold p_X9_begin
  rw [e0]
  refine lq2_for (fun i => (fun k => if k < i then (0 : Int32) else T k)) (fun i => nI i) 75 ?_ ?_ 1000 0 (Nat.zero_le _) (by omega)
  · intro i hi k hk
    unfold bX9_begin_2
    rw [if_neg (show ¬ (75 : Int32) ≤ nI i from nI_ge (b := 75) hi (by decide)), nI_1, nI_clamp (show i < 2 ^ 31 by omega)]
    refine ⟨vp_in_nI (by omega) hN2, ?_⟩
    have e : upd (fun k => if k < i then (0 : Int32) else T k) i 0 = fun k => if k < i + 1 then (0 : Int32) else T k := by
      funext j
      rw [upd_at]
      by_cases h1 : j = i
      · rw [if_pos h1, if_pos (by omega)]
      · rw [if_neg h1]
        by_cases h2 : j < i
        · rw [if_pos h2, if_pos (by omega)]
        · rw [if_neg h2, if_neg (by omega)]
    rw [e]
    exact hk
  · intro k
    unfold bX9_begin_2
    rw [if_pos (show (75 : Int32) ≤ nI 75 from Int32.le_refl _)]
    unfold jX9_begin_18
    refine ⟨vp_in_nI (n := 15) (by omega) hN2, vp_in_nI (n := 16) (by omega) hN2, ?_⟩
    have e : upd (upd (fun k => if k < 75 then (0 : Int32) else T k) ((15 : Int32).toNatClampNeg) x1) ((16 : Int32).toNatClampNeg) x2 = bgT T x1 x2 := by
      funext j
      show upd (upd _ 15 x1) 16 x2 j = _
      rw [upd_at, upd_at]
      rfl
    rw [e]
    exact hq
theorem TI_begin {T : Nat → Int32} {k f : Nat} (hk : k ≤ 5) (hf : f ≤ 9) : TI (bgT T (nI k) (nI f)) 0 0 0 0 0 0 k f (fun _ => 0) (fun _ => 0) (fun _ => 0) (fun _ => 0) := by
  refine ⟨⟨by omega, by omega, by omega, by omega, by omega, by decide, hk, hf⟩, ⟨rfl, rfl, rfl, rfl, rfl, rfl, rfl, rfl⟩, fun b hb => by omega, fun i hi => by omega, fun u hu => by omega⟩
theorem SR_begin {T : Nat → Int32} {k f : Nat} (hk : k ≤ 5) (hf : f ≤ 9) (ya tr no wo mu fe pr pa : Nat → Int32) : SR (nI k) (nI f) 0 0 0 0 ya tr no wo mu 0 fe 0 pr 0 pa (bgT T (nI k) (nI f)) :=
  ⟨0, 0, 0, 0, 0, 0, k, f, _, _, _, _, TI_begin hk hf, ⟨rfl, rfl, rfl, rfl, rfl, rfl, rfl, rfl, rfl⟩, fun b hb => by omega, fun i hi => by omega, fun i hi => by omega, fun u hu => by omega⟩
theorem q_road {kd fg he se cr sz fs ps us : Int32} {T rf rf' : Nat → Int32} {n : Nat} (hs : sz = nI n) (h0 : T 0 = nI n) (x1 x2 : Int32)
    {Z : Int32 → Int32 → Int32 → Int32 → Int32 → Int32 → Int32 → Int32 → Int32 → Int32 → (Nat → Int32) → Int32 → (Nat → Int32) → (Nat → Int32) → Prop}
    (z1 : Z (-2) sz fs ps us kd fg he se cr (rj 0 rf) (-2) T (rj 0 rf')) (z2 : ∀ k f : Nat, k ≤ 5 → f ≤ 9 → x1 = nI k → x2 = nI f → Z sz 0 0 0 0 x1 x2 0 0 0 rf sz (bgT T x1 x2) rf') :
    p_X8_road sz fs ps us kd fg he se cr rf x1 x2 (fun r u2 u3 u4 u5 u6 u7 u8 u9 u10 u11 => p_X9_road T rf' x1 x2 (fun r' T' rf2 => Z r u2 u3 u4 u5 u6 u7 u8 u9 u10 u11 r' T' rf2)) := by
  unfold p_X8_road
  by_cases h1 : 0 ≤ x1 ∧ x1 ≤ 5
  · by_cases h2 : 0 ≤ x2 ∧ x2 ≤ 9
    · refine s_isDriver_t h1 h2 ?_
      rw [if_neg (by decide)]
      unfold p_X6_reset p_X9_road
      refine s_isKind_t h1 ?_
      rw [if_neg (by decide)]
      refine s_isFog_t h2 ?_
      rw [if_neg (by decide)]
      unfold p_X9_many
      obtain ⟨k, -, hk, ek⟩ := rgN (x := x1) 0 5 (by decide) h1
      obtain ⟨f, -, hf, ef⟩ := rgN (x := x2) 0 9 (by decide) h2
      have e0 : T (0 : Int32).toNatClampNeg = sz := h0.trans hs.symm
      rw [e0]
      exact s_begin (by decide) (by decide) (z2 k f hk hf ek ef)
    · refine s_isDriver_f2 h1 h2 ?_
      rw [if_pos rfl]
      refine s_refuse2 ?_
      unfold p_X9_road
      refine s_isKind_t h1 ?_
      rw [if_neg (by decide)]
      refine s_isFog_f h2 ?_
      rw [if_pos rfl]
      exact s_bad z1
  · refine s_isDriver_f1 h1 ?_
    rw [if_pos rfl]
    refine s_refuse2 ?_
    unfold p_X9_road
    refine s_isKind_f h1 ?_
    rw [if_pos rfl]
    exact s_bad z1
