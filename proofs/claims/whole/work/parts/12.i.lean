/-! a bend more; felt; seen; forget -/
section PB
variable {T : Nat → Int32} {n nf np nu h mb kN fN : Nat} {yN tN nN wN : Nat → Nat}
variable {kd fg he se cr sz : Int32} {ya tr no wo mu : Nat → Int32} {fs : Int32} {fe : Nat → Int32} {ps : Int32} {pr : Nat → Int32} {us : Int32} {pa : Nat → Int32} {rf rf' : Nat → Int32}
def lyT (T : Nat → Int32) (n : Nat) (x1 x2 x3 x4 : Int32) : Nat → Int32 := fun k => if k = 0 then nI (n + 1) else if k = 34 + n then x4 else if k = 7 + n then x3 else if k = 26 + n then x2 else if k = 18 + n then x1 else T k
theorem m_layBend {N : Nat} (hN : 75 ≤ N) (hN2 : N < 2 ^ 31) (h0 : T 0 = nI n) (hn : n < 8) {x1 x2 x3 x4 : Int32} {Q : (Nat → Int32) → Prop} (hq : Q (lyT T n x1 x2 x3 x4)) : p_X9_layBend N T x1 x2 x3 x4 Q := by
  unfold p_X9_layBend
  have e18 : (18 : Int32) + nI n = nI (18 + n) := nI_add 18 n
  have e26 : (26 : Int32) + nI n = nI (26 + n) := nI_add 26 n
  have e34 : (34 : Int32) + nI n = nI (34 + n) := nI_add 34 n
  have e7 : (7 : Int32) + nI n = nI (7 + n) := nI_add 7 n
  rw [show (0 : Int32).toNatClampNeg = 0 from rfl, h0, e18, e26, e34, e7, nI_clamp (show 18 + n < 2 ^ 31 by omega), nI_clamp (show 26 + n < 2 ^ 31 by omega), nI_clamp (show 34 + n < 2 ^ 31 by omega), nI_clamp (show 7 + n < 2 ^ 31 by omega)]
  refine ⟨vp_in_nI (n := 0) (by omega) hN2, vp_in_nI (by omega) hN2, vp_in_nI (by omega) hN2, vp_in_nI (by omega) hN2, vp_in_nI (by omega) hN2, vp_in_nI (n := 0) (by omega) hN2, vp_in_nI (n := 0) (by omega) hN2, ?_⟩
  have ez : upd (upd (upd (upd T (18 + n) x1) (26 + n) x2) (7 + n) x3) (34 + n) x4 0 = nI n := by
    rw [pk_un (by omega), pk_un (by omega), pk_un (by omega), pk_un (by omega)]; exact h0
  rw [ez, nI_1]
  have e : upd (upd (upd (upd (upd T (18 + n) x1) (26 + n) x2) (7 + n) x3) (34 + n) x4) 0 (nI (n + 1)) = lyT T n x1 x2 x3 x4 := by
    funext j
    rw [upd_at, upd_at, upd_at, upd_at, upd_at]
    rfl
  rw [e]
  exact hq
theorem TI.lay (H : TI T n nf np nu h mb kN fN yN tN nN wN) (hn : n < 8) {a b c d : Nat} (ha : 1 ≤ a ∧ a ≤ 9) (hb : 1 ≤ b ∧ b ≤ 6) (hc : c ≤ 6) (hd : 1 ≤ d ∧ d ≤ 9) : TI (upd (lyT T n (nI a) (nI b) (nI c) (nI d)) 3 0) (n + 1) nf np 0 h mb kN fN (fun k => if k = n then a else yN k) (fun k => if k = n then b else tN k) (fun k => if k = n then c else nN k) (fun k => if k = n then d else wN k) := by
  obtain ⟨⟨a1, a2, a3, a4, a5, a6, a7, a8⟩, ⟨b0, b1, b2, b3, b4, b5, b6, b7⟩, cc, dd, e⟩ := H
  have lo : ∀ k, k ≠ 3 → k ≠ 0 → k ≠ 34 + n → k ≠ 7 + n → k ≠ 26 + n → k ≠ 18 + n → upd (lyT T n (nI a) (nI b) (nI c) (nI d)) 3 0 k = T k := by
    intro k h1 h2 h3 h4 h5 h6
    rw [upd_at, if_neg h1]; unfold lyT; rw [if_neg h2, if_neg h3, if_neg h4, if_neg h5, if_neg h6]
  refine ⟨⟨by omega, a2, a3, by omega, by omega, Nat.lt_of_lt_of_le a6 (Nat.pow_le_pow_right (by decide) (by omega)), a7, a8⟩, ⟨rfl, ?_, ?_, rfl, ?_, ?_, ?_, ?_⟩, ?_, ?_, fun u hu => by omega⟩
  · rw [lo _ (by omega) (by omega) (by omega) (by omega) (by omega) (by omega)]; exact b1
  · rw [lo _ (by omega) (by omega) (by omega) (by omega) (by omega) (by omega)]; exact b2
  · rw [lo _ (by omega) (by omega) (by omega) (by omega) (by omega) (by omega)]; exact b4
  · rw [lo _ (by omega) (by omega) (by omega) (by omega) (by omega) (by omega)]; exact b5
  · rw [lo _ (by omega) (by omega) (by omega) (by omega) (by omega) (by omega)]; exact b6
  · rw [lo _ (by omega) (by omega) (by omega) (by omega) (by omega) (by omega)]; exact b7
  · intro j hj
    by_cases g : j = n
    · subst g
      simp only [if_pos]
      refine ⟨ha, hb, hc, hd, ?_, ?_, ?_, ?_⟩
      · rw [upd_at, if_neg (by omega)]; unfold lyT; rw [if_neg (by omega), if_neg (by omega), if_neg (by omega), if_neg (by omega), if_pos rfl]
      · rw [upd_at, if_neg (by omega)]; unfold lyT; rw [if_neg (by omega), if_neg (by omega), if_neg (by omega), if_pos rfl]
      · rw [upd_at, if_neg (by omega)]; unfold lyT; rw [if_neg (by omega), if_neg (by omega), if_pos rfl]
      · rw [upd_at, if_neg (by omega)]; unfold lyT; rw [if_neg (by omega), if_pos rfl]
    · simp only [if_neg g]
      rw [lo _ (by omega) (by omega) (by omega) (by omega) (by omega) (by omega), lo _ (by omega) (by omega) (by omega) (by omega) (by omega) (by omega), lo _ (by omega) (by omega) (by omega) (by omega) (by omega) (by omega), lo _ (by omega) (by omega) (by omega) (by omega) (by omega) (by omega)]
      exact cc j (by omega)
  · intro i hi
    rw [lo _ (by omega) (by omega) (by omega) (by omega) (by omega) (by omega)]; exact dd i hi
theorem CR.lay (C : CR T n nf np nu mb kd fg he se cr sz ya tr no wo mu fs fe ps pr us pa) (hn : n < 8) (a3 : np ≤ 6) (hm : mb < 2 ^ n) (x1 x2 x3 x4 : Int32) : CR (upd (lyT T n x1 x2 x3 x4) 3 0) (n + 1) nf np 0 mb kd fg he se cr (nI (n + 1)) (upd ya n x1) (upd tr n x2) (upd no n x3) (upd wo n x4) (upd mu n 0) fs fe ps pr 0 pa := by
  obtain ⟨⟨k1, k2, k3, k4, k5, k6, k7, k8, k9⟩, c, d, e, f⟩ := C
  have lo : ∀ k, k ≠ 3 → k ≠ 0 → k ≠ 34 + n → k ≠ 7 + n → k ≠ 26 + n → k ≠ 18 + n → upd (lyT T n x1 x2 x3 x4) 3 0 k = T k := by
    intro k h1 h2 h3 h4 h5 h6
    rw [upd_at, if_neg h1]; unfold lyT; rw [if_neg h2, if_neg h3, if_neg h4, if_neg h5, if_neg h6]
  refine ⟨⟨?_, ?_, ?_, ?_, ?_, rfl, k7, k8, rfl⟩, ?_, ?_, ?_, fun u hu => by omega⟩
  · rw [lo _ (by omega) (by omega) (by omega) (by omega) (by omega) (by omega)]; exact k1
  · rw [lo _ (by omega) (by omega) (by omega) (by omega) (by omega) (by omega)]; exact k2
  · rw [lo _ (by omega) (by omega) (by omega) (by omega) (by omega) (by omega)]; exact k3
  · rw [lo _ (by omega) (by omega) (by omega) (by omega) (by omega) (by omega)]; exact k4
  · rw [lo _ (by omega) (by omega) (by omega) (by omega) (by omega) (by omega)]; exact k5
  · intro j hj
    by_cases g : j = n
    · subst g
      refine ⟨?_, ?_, ?_, ?_, ?_⟩
      · rw [pk_us, upd_at, if_neg (by omega)]; unfold lyT; rw [if_neg (by omega), if_neg (by omega), if_neg (by omega), if_neg (by omega), if_pos rfl]
      · rw [pk_us, upd_at, if_neg (by omega)]; unfold lyT; rw [if_neg (by omega), if_neg (by omega), if_neg (by omega), if_pos rfl]
      · rw [pk_us, upd_at, if_neg (by omega)]; unfold lyT; rw [if_neg (by omega), if_neg (by omega), if_pos rfl]
      · rw [pk_us, upd_at, if_neg (by omega)]; unfold lyT; rw [if_neg (by omega), if_pos rfl]
      · rw [pk_us, Nat.div_eq_of_lt hm]; rfl
    · rw [pk_un g, pk_un g, pk_un g, pk_un g, pk_un g, lo _ (by omega) (by omega) (by omega) (by omega) (by omega) (by omega), lo _ (by omega) (by omega) (by omega) (by omega) (by omega) (by omega), lo _ (by omega) (by omega) (by omega) (by omega) (by omega) (by omega), lo _ (by omega) (by omega) (by omega) (by omega) (by omega) (by omega)]
      exact c j (by omega)
  · intro i hi
    rw [lo _ (by omega) (by omega) (by omega) (by omega) (by omega) (by omega)]; exact d i hi
  · intro i hi
    rw [lo _ (by omega) (by omega) (by omega) (by omega) (by omega) (by omega)]; exact e i hi
theorem q_bend (H : TI T n nf np nu h mb kN fN yN tN nN wN) (C : CR T n nf np nu mb kd fg he se cr sz ya tr no wo mu fs fe ps pr us pa) (hnf : nf ≤ 3) (x1 x2 x3 x4 : Int32) {Z : Int32 → (Nat → Int32) → (Nat → Int32) → (Nat → Int32) → (Nat → Int32) → (Nat → Int32) → Int32 → Int32 → (Nat → Int32) → Int32 → (Nat → Int32) → (Nat → Int32) → Prop}
    (z1 : Z (-2) ya tr no wo mu sz us (rj 0 rf) (-2) T (rj 0 rf')) (z4 : Z (-4) ya tr no wo mu sz us (rj 2 rf) (-4) T (rj 2 rf')) (z2 : ∀ r ya' tr' no' wo' mu' sz' T', SR kd fg he se cr sz' ya' tr' no' wo' mu' fs fe ps pr 0 pa T' → Z r ya' tr' no' wo' mu' sz' 0 rf r T' rf') :
    p_X8_bend ya tr no wo mu sz us rf x1 x2 x3 x4 (fun r u2 u3 u4 u5 u6 u7 u8 u9 => p_X9_bend T rf' x1 x2 x3 x4 (fun r' T' rf2 => Z r u2 u3 u4 u5 u6 u7 u8 u9 r' T' rf2)) := by
  have h8 := H.n8
  unfold p_X8_bend
  have bad : ∀ {Q : Int32 → (Nat → Int32) → (Nat → Int32) → (Nat → Int32) → (Nat → Int32) → (Nat → Int32) → Int32 → Int32 → (Nat → Int32) → Prop}, Q (-2) ya tr no wo mu sz us (rj 0 rf) → jX8_bend_45 ya tr no wo mu sz us rf x1 x2 x3 x4 Q := by
    intro Q hq
    unfold jX8_bend_45 jX8_bend_46
    rw [if_pos rfl]
    exact s_refuse2 hq
  by_cases g1 : 1 ≤ x1 ∧ x1 ≤ 9
  case neg =>
    refine s_within_f g1 ?_
    rw [if_pos rfl]
    refine bad ?_
    unfold p_X9_bend
    refine s_in_f (lo' := 1) (hi' := 9) (by decide) (by decide) g1 ?_
    rw [if_pos rfl]
    exact s_bad z1
  refine s_within_t g1 ?_
  rw [if_neg (by decide)]
  by_cases g2 : 1 ≤ x2 ∧ x2 ≤ 6
  case neg =>
    refine s_within_f g2 ?_
    rw [if_pos rfl]
    refine bad ?_
    unfold p_X9_bend
    refine s_in_t (lo' := 1) (hi' := 9) (by decide) (by decide) g1 ?_
    rw [if_neg (by decide)]
    refine s_in_f (lo' := 1) (hi' := 6) (by decide) (by decide) g2 ?_
    rw [if_pos rfl]
    exact s_bad z1
  refine s_within_t g2 ?_
  rw [if_neg (by decide)]
  by_cases g3 : 0 ≤ x3 ∧ x3 ≤ 6
  case neg =>
    refine s_within_f g3 ?_
    rw [if_pos rfl]
    refine bad ?_
    unfold p_X9_bend
    refine s_in_t (lo' := 1) (hi' := 9) (by decide) (by decide) g1 ?_
    rw [if_neg (by decide)]
    refine s_in_t (lo' := 1) (hi' := 6) (by decide) (by decide) g2 ?_
    rw [if_neg (by decide)]
    refine s_isNote_f g3 ?_
    rw [if_pos rfl]
    exact s_bad z1
  refine s_within_t g3 ?_
  rw [if_neg (by decide)]
  by_cases g4 : 1 ≤ x4 ∧ x4 ≤ 9
  case neg =>
    refine s_within_f g4 ?_
    rw [if_pos rfl]
    refine bad ?_
    unfold p_X9_bend
    refine s_in_t (lo' := 1) (hi' := 9) (by decide) (by decide) g1 ?_
    rw [if_neg (by decide)]
    refine s_in_t (lo' := 1) (hi' := 6) (by decide) (by decide) g2 ?_
    rw [if_neg (by decide)]
    refine s_isNote_t g3 ?_
    rw [if_neg (by decide)]
    refine s_in_f (lo' := 1) (hi' := 9) (by decide) (by decide) g4 ?_
    rw [if_pos rfl]
    exact s_bad z1
  refine s_within_t g4 ?_
  rw [if_neg (by decide)]
  have m0 : ∀ {Q : Int32 → (Nat → Int32) → (Nat → Int32) → Prop}, (if nI n = 8 then p_X9_full rf' (fun r u => Q r T u) else p_X9_layBend 163 T x1 x2 x3 x4 (fun u => p_X9_many (upd u 3 0) (fun r => Q (r - 1) (upd u 3 0) rf'))) → p_X9_bend T rf' x1 x2 x3 x4 Q := by
    intro Q hq
    unfold p_X9_bend
    refine s_in_t (lo' := 1) (hi' := 9) (by decide) (by decide) g1 ?_
    rw [if_neg (by decide)]
    refine s_in_t (lo' := 1) (hi' := 6) (by decide) (by decide) g2 ?_
    rw [if_neg (by decide)]
    refine s_isNote_t g3 ?_
    rw [if_neg (by decide)]
    refine s_in_t (lo' := 1) (hi' := 9) (by decide) (by decide) g4 ?_
    rw [if_neg (by decide)]
    exact s_many H.e0 hq
  unfold jX8_bend_46 p_X0_isFull
  rw [if_neg (by decide), C.esz]
  by_cases g : n < 8
  · rw [if_pos (show nI n < 8 from nI_lt (b := 8) g (by decide))]
    dsimp only
    rw [if_pos rfl]
    unfold p_X0_add p_X0_isFull
    rw [if_pos (show nI n < 8 from nI_lt (b := 8) g (by decide))]
    dsimp only
    rw [if_pos rfl, nI_clamp (show n < 2 ^ 31 by omega), nI_1]
    have hi : vp_in (nI n) 8 := vp_in_nI g (by decide)
    refine ⟨hi, hi, hi, hi, hi, m0 ?_⟩
    rw [if_neg (show ¬ nI n = 8 from fun e => by have := (nI_eq (a := n) (b := 8) (by omega) (by decide)).mp e; omega)]
    obtain ⟨a, ha1, ha2, rfl⟩ := rgN (x := x1) 1 9 (by decide) g1
    obtain ⟨b, hb1, hb2, rfl⟩ := rgN (x := x2) 1 6 (by decide) g2
    obtain ⟨c, -, hc2, rfl⟩ := rgN (x := x3) 0 6 (by decide) g3
    obtain ⟨d, hd1, hd2, rfl⟩ := rgN (x := x4) 1 9 (by decide) g4
    refine m_layBend (by decide) (by decide) H.e0 g ?_
    have H' := H.lay g ⟨ha1, ha2⟩ ⟨hb1, hb2⟩ hc2 ⟨hd1, hd2⟩
    refine s_many H'.e0 ?_
    exact z2 _ _ _ _ _ _ _ _ (SR.of H' (C.lay g H.1.2.2.1 H.1.2.2.2.2.2.1 _ _ _ _))
  · have g9 : n = 8 := by omega
    subst g9
    rw [if_neg (show ¬ nI 8 < 8 from Int32.lt_irrefl)]
    dsimp only
    rw [if_neg (by decide)]
    rw [C.esz] at z4
    refine s_refuse4 (m0 ?_)
    rw [if_pos (show nI 8 = 8 from rfl)]
    exact s_full z4
end PB
