/-! sums over the bends -/
section PS
variable {T : Nat → Int32} {n nf np nu h mb kN fN : Nat} {yN tN nN wN : Nat → Nat}
variable {kd fg he se cr sz : Int32} {ya tr no wo mu : Nat → Int32} {fs : Int32} {fe : Nat → Int32} {ps : Int32} {pr : Nat → Int32} {us : Int32} {pa : Nat → Int32} {rf rf' : Nat → Int32}
theorem CR.ehe (C : CR T n nf np nu mb kd fg he se cr sz ya tr no wo mu fs fe ps pr us pa) (H : TI T n nf np nu h mb kN fN yN tN nN wN) : he = nI h := C.1.2.2.1.trans H.e4
def lfS (T : Nat → Int32) (mb b : Nat) : Int32 := T (18 + b) + cS T mb b (T (7 + b))
theorem c_left (H : TI T n nf np nu h mb kN fN yN tN nN wN) (C : CR T n nf np nu mb kd fg he se cr sz ya tr no wo mu fs fe ps pr us pa) {Q : Int32 → Prop} (hq : Q (sm (lfS T mb) h (n - h))) : p_X6_secondsFrom ya tr no mu sz kd fg he Q := by
  have h8 := H.n8
  have hn := H.hn
  unfold p_X6_secondsFrom
  rw [C.esz, C.ehe H]
  refine lq2_for (fun i => sm (lfS T mb) h i) (fun i => nI (h + i)) (n - h) ?_ ?_ 1000 0 (Nat.zero_le _) (by omega)
  · intro i hi k hk
    unfold bX6_secondsFrom_4
    rw [if_neg (nI_ge (show h + i < n by omega) (by omega)), nI_clamp (show h + i < 2 ^ 31 by omega), nI_1]
    refine ⟨vp_in_nI (by omega) (by decide), c_costNoted H C (by omega) ?_⟩
    rw [(C.2.1 (h + i) (by omega)).1]
    exact hk
  · intro k
    unfold bX6_secondsFrom_4
    rw [if_pos (show nI n ≤ nI (h + (n - h)) from nI_le (by omega) (by omega))]
    exact hq
theorem m_left (H : TI T n nf np nu h mb kN fN yN tN nN wN) {Q : Int32 → Prop} (hq : Q (sm (lfS T mb) h (n - h))) : p_X9_left T Q := by
  have h8 := H.n8
  have hn := H.hn
  unfold p_X9_left
  rw [show (4 : Int32).toNatClampNeg = 4 from rfl, H.e4]
  refine lq2_for (fun i => sm (lfS T mb) h i) (fun i => nI (h + i)) (n - h) ?_ ?_ 1000 0 (Nat.zero_le _) (by omega)
  · intro i hi k hk
    unfold bX9_left_9
    have e18 : (18 : Int32) + nI (h + i) = nI (18 + (h + i)) := nI_add 18 (h + i)
    refine s_many H.e0 ?_
    rw [if_neg (nI_ge (show h + i < n by omega) (by omega)), e18, nI_clamp (show 18 + (h + i) < 2 ^ 31 by omega), nI_1]
    exact ⟨vp_in_nI (by omega) (by decide), s_noteOf (by omega) (s_cost H (by omega) hk)⟩
  · intro k
    unfold bX9_left_9
    refine s_many H.e0 ?_
    rw [if_pos (show nI n ≤ nI (h + (n - h)) from nI_le (by omega) (by omega))]
    exact hq
theorem q_left (H : TI T n nf np nu h mb kN fN yN tN nN wN) (C : CR T n nf np nu mb kd fg he se cr sz ya tr no wo mu fs fe ps pr us pa) {Z : Int32 → Int32 → Prop} (z : ∀ r, Z r r) : p_X8_left ya tr no mu sz kd fg he (fun r => p_X9_left T (fun r' => Z r r')) := by
  unfold p_X8_left
  exact c_left H C (m_left H (z _))
/-- which two were turned -/
def tuD (T : Nat → Int32) (mb b : Nat) : Int32 := (cS T mb b (T (7 + b)) + cS T mb (b + 1) (T (7 + (b + 1)))) - (cS T mb b (T (7 + (b + 1))) + cS T mb (b + 1) (T (7 + b)))
def tuS (T : Nat → Int32) (mb : Nat) : Nat → Int32 × Int32
  | 0 => (-1, 0)
  | i + 1 => if tuD T mb i ≤ (tuS T mb i).2 then tuS T mb i else (nI i, tuD T mb i)
theorem sub_sub3 (a b c : Int32) : a - (b + c) = a - b - c := by
  apply Int32.toBitVec_inj.1
  simp only [Int32.toBitVec_sub, Int32.toBitVec_add]
  rw [BitVec.sub_eq_add_neg, BitVec.sub_eq_add_neg, BitVec.sub_eq_add_neg, BitVec.neg_add, BitVec.sub_eq_add_neg, BitVec.add_assoc]
theorem q_turned (H : TI T n nf np nu h mb kN fN yN tN nN wN) (C : CR T n nf np nu mb kd fg he se cr sz ya tr no wo mu fs fe ps pr us pa) {Z : Int32 → Int32 → Prop} (z : ∀ r, Z r r) : p_X8_turned tr no mu sz kd fg (fun r => p_X9_turned T (fun r' => Z r r')) := by
  have h8 := H.n8
  unfold p_X8_turned p_X5_likeliestTurned
  rw [C.esz]
  refine lq3_for (fun i => (tuS T mb i).1) (fun i => (tuS T mb i).2) (fun i => nI i) (n - 1) ?_ ?_ 1000 0 (Nat.zero_le _) (by omega)
  · intro i hi k hk
    unfold bX5_likeliestTurned_16
    rw [nI_1, if_neg (nI_ge (show i + 1 < n by omega) (by omega))]
    refine c_costNoted H C (by omega) (c_costNoted H C (by omega) ⟨vp_in_nI (by omega) (by decide), ?_⟩)
    rw [nI_clamp (show i + 1 < 2 ^ 31 by omega), nI_clamp (show i < 2 ^ 31 by omega), (C.2.1 (i + 1) (by omega)).2.2.1, (C.2.1 i (by omega)).2.2.1]
    refine c_cost H C (by omega) ⟨vp_in_nI (by omega) (by decide), c_cost H C (by omega) ?_⟩
    show if tuD T mb i ≤ (tuS T mb i).2 then _ else _
    have e : tuS T mb (i + 1) = if tuD T mb i ≤ (tuS T mb i).2 then tuS T mb i else (nI i, tuD T mb i) := rfl
    rw [e] at hk
    by_cases g : tuD T mb i ≤ (tuS T mb i).2
    · rw [if_pos g] at hk ⊢; exact hk
    · rw [if_neg g] at hk ⊢; exact hk
  · intro k
    unfold bX5_likeliestTurned_16
    rw [nI_1, if_pos (nI_le (show n ≤ n - 1 + 1 by omega) (by omega))]
    unfold p_X9_turned
    refine lq3_for (fun i => (tuS T mb i).1) (fun i => (tuS T mb i).2) (fun i => nI i) (n - 1) ?_ ?_ 1000 0 (Nat.zero_le _) (by omega)
    · intro i hi k hk
      unfold bX9_turned_6
      refine s_many H.e0 ?_
      rw [nI_1, if_neg (nI_ge (show i + 1 < n by omega) (by omega))]
      refine s_noteOf (by omega) (s_cost H (by omega) (s_noteOf (by omega) (s_cost H (by omega) (s_noteOf (by omega) (s_cost H (by omega) (s_noteOf (by omega) (s_cost H (by omega) ?_)))))))
      rw [← sub_sub3]
      show if tuD T mb i ≤ (tuS T mb i).2 then _ else _
      have e : tuS T mb (i + 1) = if tuD T mb i ≤ (tuS T mb i).2 then tuS T mb i else (nI i, tuD T mb i) := rfl
      rw [e] at hk
      by_cases g : tuD T mb i ≤ (tuS T mb i).2
      · rw [if_pos g] at hk ⊢
        unfold jX9_turned_80
        show if tuD T mb i ≤ (tuS T mb i).2 then _ else _
        rw [if_pos g, nI_1]
        exact hk
      · rw [if_neg g] at hk ⊢
        unfold jX9_turned_80
        show if tuD T mb i ≤ (tuS T mb i).2 then _ else _
        rw [if_neg g, nI_1]
        exact hk
    · intro k
      unfold bX9_turned_6
      refine s_many H.e0 ?_
      rw [nI_1, if_pos (nI_le (show n ≤ n - 1 + 1 by omega) (by omega))]
      exact z _
end PS
