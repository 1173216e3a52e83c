/-! bends driven -/
def crS (T : Nat → Int32) (mb h : Nat) : Nat → Int32
  | 0 => T 6
  | i + 1 => if cS T mb (h + i) (T (7 + (h + i))) = 60 then crS T mb h i + 1 else crS T mb h i
def gdW (T : Nat → Int32) (mb h i : Nat) : Nat → Int32 := fun k => if k = 4 then nI (h + i) else if k = 6 then crS T mb h i else T k
def gdT (T : Nat → Int32) (mb h c : Nat) : Nat → Int32 := fun k => if k = 4 then nI (h + c) else if k = 6 then crS T mb h c else if k = 5 then T 5 + sm (lfS T mb) h c else T k
theorem gdW_ne {T : Nat → Int32} {mb h i k : Nat} (h4 : k ≠ 4) (h6 : k ≠ 6) : gdW T mb h i k = T k := by unfold gdW; rw [if_neg h4, if_neg h6]
theorem gdW_cS {T : Nat → Int32} {mb h i b : Nat} {x : Int32} : cS (gdW T mb h i) mb b x = cS T mb b x := by
  unfold cS
  rw [gdW_ne (by omega) (by omega), gdW_ne (by omega) (by omega), gdW_ne (by omega) (by omega)]
theorem m_goDrive {N : Nat} {T : Nat → Int32} {mb h c : Nat} {tN : Nat → Nat} (hN : 42 ≤ N) (hN2 : N < 2 ^ 31) (h17 : T 17 = nI mb) (hmb : mb < 256) (h4 : T 4 = nI h) (hc : h + c ≤ 8) (ht : ∀ b, b < h + c → T (26 + b) = nI (tN b) ∧ 1 ≤ tN b ∧ tN b ≤ 6) {Q : Int32 → (Nat → Int32) → Prop} (hq : Q (sm (lfS T mb) h c) (gdT T mb h c)) : p_X9_goDrive N T (nI c) Q := by
  have e0 : T = gdW T mb h 0 := by
    funext k
    unfold gdW crS
    by_cases k4 : k = 4
    · rw [if_pos k4, k4]; exact h4
    · rw [if_neg k4]
      by_cases k6 : k = 6
      · rw [if_pos k6, k6]
      · rw [if_neg k6]
  unfold p_X9_goDrive
  rw [show lq3 (bX9_goDrive_4 N (nI c) Q) 1000 T 0 0 = lq3 (bX9_goDrive_4 N (nI c) Q) 1000 (gdW T mb h 0) (sm (lfS T mb) h 0) (nI 0) by rw [← e0]; rfl]
  refine lq3_for (fun i => gdW T mb h i) (fun i => sm (lfS T mb) h i) (fun i => nI i) c ?_ ?_ 1000 0 (Nat.zero_le _) (by omega)
  · intro i hi k hk
    unfold bX9_goDrive_4
    have w4 : gdW T mb h i (4 : Int32).toNatClampNeg = nI (h + i) := rfl
    have w6 : gdW T mb h i (6 : Int32).toNatClampNeg = crS T mb h i := rfl
    have e7 : (7 : Int32) + nI (h + i) = nI (7 + (h + i)) := nI_add 7 (h + i)
    have e18 : (18 : Int32) + nI (h + i) = nI (18 + (h + i)) := nI_add 18 (h + i)
    rw [if_neg (nI_ge hi (by omega)), w4, w6, e7, e18, nI_clamp (show 7 + (h + i) < 2 ^ 31 by omega), nI_clamp (show 18 + (h + i) < 2 ^ 31 by omega), gdW_ne (k := 7 + (h + i)) (by omega) (by omega), gdW_ne (k := 18 + (h + i)) (by omega) (by omega)]
    refine ⟨vp_in_nI (n := 4) (by omega) hN2, vp_in_nI (by omega) hN2, ?_⟩
    obtain ⟨t0, t1, t6⟩ := ht (h + i) (by omega)
    refine s_costBy (t := tN (h + i)) hN hN2 (by rw [gdW_ne (by omega) (by omega)]; exact h17) hmb (by omega) (by rw [gdW_ne (by omega) (by omega)]; exact t0) t1 t6 ?_
    rw [gdW_cS]
    refine ⟨vp_in_nI (by omega) hN2, vp_in_nI (n := 6) (by omega) hN2, ?_⟩
    have fin : ∀ x y : Int32, x + y = crS T mb h (i + 1) → jX9_goDrive_59 N k (gdW T mb h i) (nI i) (sm (lfS T mb) h i + (T (18 + (h + i)) + cS T mb (h + i) (T (7 + (h + i))))) 6 x y := by
      intro x y hx
      unfold jX9_goDrive_59
      refine ⟨vp_in_nI (n := 6) (by omega) hN2, vp_in_nI (n := 4) (by omega) hN2, vp_in_nI (n := 4) (by omega) hN2, ?_⟩
      have e : upd (upd (gdW T mb h i) ((6 : Int32).toNatClampNeg) (x + y)) ((4 : Int32).toNatClampNeg) (upd (gdW T mb h i) ((6 : Int32).toNatClampNeg) (x + y) (4 : Int32).toNatClampNeg + 1) = gdW T mb h (i + 1) := by
        funext j
        show upd (upd (gdW T mb h i) 6 (x + y)) 4 (upd (gdW T mb h i) 6 (x + y) 4 + 1) j = _
        rw [upd_at, upd_at, upd_at]
        have g4 : gdW T mb h i 4 = nI (h + i) := rfl
        rw [if_neg (show ¬ (4 : Nat) = 6 by decide), g4, nI_1]
        unfold gdW
        by_cases j4 : j = 4
        · rw [if_pos j4, if_pos j4]; rfl
        · by_cases j6 : j = 6
          · simp only [if_neg j4, if_pos j6, hx]
          · simp only [if_neg j4, if_neg j6]
      rw [e, nI_1]
      exact hk
    by_cases g : cS T mb (h + i) (T (7 + (h + i))) = 60
    · rw [if_pos g]
      refine fin _ _ ?_
      show _ = if cS T mb (h + i) (T (7 + (h + i))) = 60 then _ else _
      rw [if_pos g]
    · rw [if_neg g]
      refine fin _ _ ?_
      show _ = if cS T mb (h + i) (T (7 + (h + i))) = 60 then _ else _
      rw [if_neg g, Int32.add_zero]
  · intro k
    unfold bX9_goDrive_4
    rw [if_pos (Int32.le_refl _)]
    unfold jX9_goDrive_74
    refine ⟨vp_in_nI (n := 5) (by omega) hN2, vp_in_nI (n := 5) (by omega) hN2, ?_⟩
    have e : upd (gdW T mb h c) ((5 : Int32).toNatClampNeg) (gdW T mb h c (5 : Int32).toNatClampNeg + sm (lfS T mb) h c) = gdT T mb h c := by
      funext j
      show upd (gdW T mb h c) 5 (gdW T mb h c 5 + sm (lfS T mb) h c) j = _
      rw [upd_at, gdW_ne (k := 5) (by decide) (by decide)]
      unfold gdW gdT
      by_cases j5 : j = 5
      · rw [if_pos j5, if_neg (by omega), if_neg (by omega), if_pos j5]
      · rw [if_neg j5]
        by_cases j4 : j = 4
        · rw [if_pos j4, if_pos j4]
        · rw [if_neg j4, if_neg j4]
          by_cases j6 : j = 6
          · rw [if_pos j6, if_pos j6]
          · rw [if_neg j6, if_neg j6, if_neg j5]
    rw [e]
    exact hq
section PG
variable {T : Nat → Int32} {n nf np nu h mb kN fN : Nat} {yN tN nN wN : Nat → Nat}
variable {kd fg he se cr sz : Int32} {ya tr no wo mu : Nat → Int32} {fs : Int32} {fe : Nat → Int32} {ps : Int32} {pr : Nat → Int32} {us : Int32} {pa : Nat → Int32} {rf rf' : Nat → Int32}
theorem c_goOn (H : TI T n nf np nu h mb kN fN yN tN nN wN) (C : CR T n nf np nu mb kd fg he se cr sz ya tr no wo mu fs fe ps pr us pa) {c : Nat} (hc : h + c ≤ n) {Q : Int32 → Int32 → Int32 → Int32 → Prop} (hq : Q (sm (lfS T mb) h c) (nI (h + c)) (T 5 + sm (lfS T mb) h c) (crS T mb h c)) : p_X6_goOn ya tr no mu sz kd fg he se cr (nI c) Q := by
  have h8 := H.n8
  unfold p_X6_goOn
  rw [C.esz, C.ehe H, C.1.2.2.2.1, C.1.2.2.2.2.1]
  refine lq4_for (fun i => nI (h + i)) (fun i => crS T mb h i) (fun i => sm (lfS T mb) h i) (fun i => nI i) c ?_ ?_ 1000 0 (Nat.zero_le _) (by omega)
  · intro i hi k hk
    unfold bX6_goOn_4
    rw [if_neg (nI_ge hi (by omega)), if_neg (nI_ge (show h + i < n by omega) (by omega)), nI_clamp (show h + i < 2 ^ 31 by omega)]
    refine ⟨vp_in_nI (by omega) (by decide), c_cost H C (by omega) ?_⟩
    rw [(C.2.1 (h + i) (by omega)).2.2.1]
    have fin : ∀ x : Int32, x = crS T mb h (i + 1) → jX6_goOn_62 ya k (nI (h + i)) (sm (lfS T mb) h i) (nI i) x (cS T mb (h + i) (T (7 + (h + i)))) := by
      intro x hx
      unfold jX6_goOn_62
      rw [nI_clamp (show h + i < 2 ^ 31 by omega), nI_1, nI_1, (C.2.1 (h + i) (by omega)).1, hx]
      exact ⟨vp_in_nI (by omega) (by decide), hk⟩
    by_cases g : cS T mb (h + i) (T (7 + (h + i))) = 60
    · rw [if_pos g]
      refine fin _ ?_
      show _ = if cS T mb (h + i) (T (7 + (h + i))) = 60 then _ else _
      rw [if_pos g]
    · rw [if_neg g]
      refine fin _ ?_
      show _ = if cS T mb (h + i) (T (7 + (h + i))) = 60 then _ else _
      rw [if_neg g]
  · intro k
    unfold bX6_goOn_4
    rw [if_pos (Int32.le_refl _)]
    exact hq
end PG
