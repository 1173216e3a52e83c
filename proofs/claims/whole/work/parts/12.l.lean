/-! loops by what they keep -/
theorem lq1_inv {A1 : Type} {b : (A1 → Prop) → A1 → Prop} (I : Nat → A1 → Prop) (e : Nat) (hs : ∀ i, i < e → ∀ a1, I i a1 → ∀ k : A1 → Prop, (∀ b1, I (i + 1) b1 → k b1) → b k a1) (hx : ∀ a1, I e a1 → ∀ k : A1 → Prop, b k a1) : ∀ (n i : Nat) a1, I i a1 → i ≤ e → e < n + i → lq1 b n a1 := by
  intro n
  induction n with
  | zero => intro i a1 _ h1 h2; omega
  | succ n ih =>
    intro i a1 hI h1 h2
    show b (lq1 b n) a1
    by_cases h : i < e
    · exact hs i h a1 hI _ (fun b1 g => ih (i + 1) b1 g (by omega) (by omega))
    · have e1 : i = e := by omega
      subst e1
      exact hx a1 hI _
theorem lq2_inv {A1 A2 : Type} {b : (A1 → A2 → Prop) → A1 → A2 → Prop} (I : Nat → A1 → A2 → Prop) (e : Nat) (hs : ∀ i, i < e → ∀ a1 a2, I i a1 a2 → ∀ k : A1 → A2 → Prop, (∀ b1 b2, I (i + 1) b1 b2 → k b1 b2) → b k a1 a2) (hx : ∀ a1 a2, I e a1 a2 → ∀ k : A1 → A2 → Prop, b k a1 a2) : ∀ (n i : Nat) a1 a2, I i a1 a2 → i ≤ e → e < n + i → lq2 b n a1 a2 := by
  intro n
  induction n with
  | zero => intro i a1 a2 _ h1 h2; omega
  | succ n ih =>
    intro i a1 a2 hI h1 h2
    show b (lq2 b n) a1 a2
    by_cases h : i < e
    · exact hs i h a1 a2 hI _ (fun b1 b2 g => ih (i + 1) b1 b2 g (by omega) (by omega))
    · have e1 : i = e := by omega
      subst e1
      exact hx a1 a2 hI _
theorem lq3_inv {A1 A2 A3 : Type} {b : (A1 → A2 → A3 → Prop) → A1 → A2 → A3 → Prop} (I : Nat → A1 → A2 → A3 → Prop) (e : Nat) (hs : ∀ i, i < e → ∀ a1 a2 a3, I i a1 a2 a3 → ∀ k : A1 → A2 → A3 → Prop, (∀ b1 b2 b3, I (i + 1) b1 b2 b3 → k b1 b2 b3) → b k a1 a2 a3) (hx : ∀ a1 a2 a3, I e a1 a2 a3 → ∀ k : A1 → A2 → A3 → Prop, b k a1 a2 a3) : ∀ (n i : Nat) a1 a2 a3, I i a1 a2 a3 → i ≤ e → e < n + i → lq3 b n a1 a2 a3 := by
  intro n
  induction n with
  | zero => intro i a1 a2 a3 _ h1 h2; omega
  | succ n ih =>
    intro i a1 a2 a3 hI h1 h2
    show b (lq3 b n) a1 a2 a3
    by_cases h : i < e
    · exact hs i h a1 a2 a3 hI _ (fun b1 b2 b3 g => ih (i + 1) b1 b2 b3 g (by omega) (by omega))
    · have e1 : i = e := by omega
      subst e1
      exact hx a1 a2 a3 hI _
theorem lq4_inv {A1 A2 A3 A4 : Type} {b : (A1 → A2 → A3 → A4 → Prop) → A1 → A2 → A3 → A4 → Prop} (I : Nat → A1 → A2 → A3 → A4 → Prop) (e : Nat) (hs : ∀ i, i < e → ∀ a1 a2 a3 a4, I i a1 a2 a3 a4 → ∀ k : A1 → A2 → A3 → A4 → Prop, (∀ b1 b2 b3 b4, I (i + 1) b1 b2 b3 b4 → k b1 b2 b3 b4) → b k a1 a2 a3 a4) (hx : ∀ a1 a2 a3 a4, I e a1 a2 a3 a4 → ∀ k : A1 → A2 → A3 → A4 → Prop, b k a1 a2 a3 a4) : ∀ (n i : Nat) a1 a2 a3 a4, I i a1 a2 a3 a4 → i ≤ e → e < n + i → lq4 b n a1 a2 a3 a4 := by
  intro n
  induction n with
  | zero => intro i a1 a2 a3 a4 _ h1 h2; omega
  | succ n ih =>
    intro i a1 a2 a3 a4 hI h1 h2
    show b (lq4 b n) a1 a2 a3 a4
    by_cases h : i < e
    · exact hs i h a1 a2 a3 a4 hI _ (fun b1 b2 b3 b4 g => ih (i + 1) b1 b2 b3 b4 g (by omega) (by omega))
    · have e1 : i = e := by omega
      subst e1
      exact hx a1 a2 a3 a4 hI _
theorem lq5_inv {A1 A2 A3 A4 A5 : Type} {b : (A1 → A2 → A3 → A4 → A5 → Prop) → A1 → A2 → A3 → A4 → A5 → Prop} (I : Nat → A1 → A2 → A3 → A4 → A5 → Prop) (e : Nat) (hs : ∀ i, i < e → ∀ a1 a2 a3 a4 a5, I i a1 a2 a3 a4 a5 → ∀ k : A1 → A2 → A3 → A4 → A5 → Prop, (∀ b1 b2 b3 b4 b5, I (i + 1) b1 b2 b3 b4 b5 → k b1 b2 b3 b4 b5) → b k a1 a2 a3 a4 a5) (hx : ∀ a1 a2 a3 a4 a5, I e a1 a2 a3 a4 a5 → ∀ k : A1 → A2 → A3 → A4 → A5 → Prop, b k a1 a2 a3 a4 a5) : ∀ (n i : Nat) a1 a2 a3 a4 a5, I i a1 a2 a3 a4 a5 → i ≤ e → e < n + i → lq5 b n a1 a2 a3 a4 a5 := by
  intro n
  induction n with
  | zero => intro i a1 a2 a3 a4 a5 _ h1 h2; omega
  | succ n ih =>
    intro i a1 a2 a3 a4 a5 hI h1 h2
    show b (lq5 b n) a1 a2 a3 a4 a5
    by_cases h : i < e
    · exact hs i h a1 a2 a3 a4 a5 hI _ (fun b1 b2 b3 b4 b5 g => ih (i + 1) b1 b2 b3 b4 b5 g (by omega) (by omega))
    · have e1 : i = e := by omega
      subst e1
      exact hx a1 a2 a3 a4 a5 hI _
/-! the bend to look at next -/
def alN (K : Nat) (P : Nat → Nat) : Nat → (Nat → Nat) × Nat
  | 0 => (fun _ => 0, 0)
  | i + 1 => if K / 2 ^ i % 2 = 0 then alN K P i else (fun j => if j = P i then (alN K P i).1 (P i) + 1 else (alN K P i).1 j, if (alN K P i).1 (P i) + 1 ≤ (alN K P i).2 then (alN K P i).2 else (alN K P i).1 (P i) + 1)
theorem alN_le (K : Nat) (P : Nat → Nat) : ∀ i, (∀ j, (alN K P i).1 j ≤ i) ∧ (alN K P i).2 ≤ i
  | 0 => ⟨fun _ => Nat.le_refl _, Nat.le_refl _⟩
  | i + 1 => by
    have ih := alN_le K P i
    have h0 := ih.1 (P i)
    unfold alN
    by_cases g : K / 2 ^ i % 2 = 0
    · rw [if_pos g]; exact ⟨fun j => Nat.le_succ_of_le (ih.1 j), Nat.le_succ_of_le ih.2⟩
    · rw [if_neg g]
      refine ⟨fun j => ?_, ?_⟩
      · show (if j = P i then (alN K P i).1 (P i) + 1 else (alN K P i).1 j) ≤ i + 1
        have := ih.1 j
        split <;> omega
      · show (if (alN K P i).1 (P i) + 1 ≤ (alN K P i).2 then (alN K P i).2 else (alN K P i).1 (P i) + 1) ≤ i + 1
        have := ih.2
        split <;> omega
/-- what the counting keeps -/
def alI (K : Nat) (P : Nat → Nat) (i : Nat) (w : Nat → Int32) (v c : Int32) : Prop := (∀ j, j < 8 → w j = nI ((alN K P i).1 j)) ∧ v = nI (alN K P i).2 ∧ c = nI i
theorem alI_0 {K : Nat} {P : Nat → Nat} {i : Nat} {w : Nat → Int32} {v c : Int32} (h : alI K P i w v c) (g : K / 2 ^ i % 2 = 0) : alI K P (i + 1) w v (nI (i + 1)) := by
  obtain ⟨h1, h2, h3⟩ := h
  unfold alI alN
  rw [if_pos g]
  exact ⟨h1, h2, rfl⟩
theorem alI_1 {K : Nat} {P : Nat → Nat} {i : Nat} {w : Nat → Int32} {v c : Int32} (h : alI K P i w v c) (g : K / 2 ^ i % 2 = 1) (hP : P i < 8) (hi : i < 100) {k : (Nat → Int32) → Int32 → Int32 → Prop} (hk : ∀ w v c, alI K P (i + 1) w v c → k w v c) :
    if upd w (P i) (w (P i) + 1) (P i) ≤ v then k (upd w (P i) (w (P i) + 1)) v (nI (i + 1)) else k (upd w (P i) (w (P i) + 1)) (upd w (P i) (w (P i) + 1) (P i)) (nI (i + 1)) := by
  obtain ⟨h1, h2, h3⟩ := h
  have l := alN_le K P i
  have l1 := l.1 (P i)
  have l2 := l.2
  have e : alN K P (i + 1) = (fun j => if j = P i then (alN K P i).1 (P i) + 1 else (alN K P i).1 j, if (alN K P i).1 (P i) + 1 ≤ (alN K P i).2 then (alN K P i).2 else (alN K P i).1 (P i) + 1) := by
    show (if K / 2 ^ i % 2 = 0 then alN K P i else _) = _
    rw [if_neg (by omega)]
  have e1 : ∀ j, j < 8 → upd w (P i) (w (P i) + 1) j = nI ((alN K P (i + 1)).1 j) := by
    intro j hj
    rw [e, upd_at]
    show _ = nI (if j = P i then (alN K P i).1 (P i) + 1 else (alN K P i).1 j)
    by_cases q : j = P i
    · rw [if_pos q, if_pos q, h1 _ hP, nI_1]
    · rw [if_neg q, if_neg q, h1 _ hj]
  have e2 : upd w (P i) (w (P i) + 1) (P i) = nI ((alN K P i).1 (P i) + 1) := by rw [pk_us, h1 _ hP, nI_1]
  rw [e2, h2]
  by_cases q : (alN K P i).1 (P i) + 1 ≤ (alN K P i).2
  · rw [if_pos (nI_le q (by omega))]
    refine hk _ _ _ ⟨e1, ?_, rfl⟩
    rw [e]
    show _ = nI (if (alN K P i).1 (P i) + 1 ≤ (alN K P i).2 then _ else _)
    rw [if_pos q]
  · rw [if_neg (nI_ge (show (alN K P i).2 < (alN K P i).1 (P i) + 1 by omega) (by omega))]
    refine hk _ _ _ ⟨e1, ?_, rfl⟩
    rw [e]
    show _ = nI (if (alN K P i).1 (P i) + 1 ≤ (alN K P i).2 then _ else _)
    rw [if_neg q]
theorem pc17' : ∀ k, k < 6 → ∀ n, n < 7 → ∀ t, t < 6 → ∀ q, q < 20 → (1 ≤ (pcS (nI k) (nI n) (nI (t + 1)) (nI (q / 2)) (nI (q % 2))).toNatClampNeg ∧ (pcS (nI k) (nI n) (nI (t + 1)) (nI (q / 2)) (nI (q % 2))).toNatClampNeg ≤ 7) ∧ pcS (nI k) (nI n) (nI (t + 1)) (nI (q / 2)) (nI (q % 2)) = nI ((pcS (nI k) (nI n) (nI (t + 1)) (nI (q / 2)) (nI (q % 2))).toNatClampNeg) := by decide +kernel
theorem pc17 (k : Nat) (hk : k < 6) (n : Nat) (hn : n < 7) (t : Nat) (ht : t < 7) (t1 : 1 ≤ t) (f : Nat) (hf : f < 10) (m : Nat) (hm : m < 2) : (1 ≤ (pcS (nI k) (nI n) (nI t) (nI f) (nI m)).toNatClampNeg ∧ (pcS (nI k) (nI n) (nI t) (nI f) (nI m)).toNatClampNeg ≤ 7) ∧ pcS (nI k) (nI n) (nI t) (nI f) (nI m) = nI ((pcS (nI k) (nI n) (nI t) (nI f) (nI m)).toNatClampNeg) := by
  have := pc17' k hk n hn (t - 1) (by omega) (2 * f + m) (by omega)
  rw [show t - 1 + 1 = t by omega, show (2 * f + m) / 2 = f by omega, show (2 * f + m) % 2 = m by omega] at this
  exact this
/-- a pace as a number -/
def pcN (nN tN : Nat → Nat) (mb fog b k : Nat) : Nat := (pcS (nI k) (nI (nN b)) (nI (hN tN mb b)) (nI fog) (nI (mb / 2 ^ b % 2))).toNatClampNeg
def lkM (nN tN : Nat → Nat) (mb K fog b : Nat) : Nat := (alN K (pcN nN tN mb fog b) 6).2
def lkS (M : Nat → Nat → Nat) (n : Nat) : Nat → Int32 × Nat
  | 0 => (-1, 1000000)
  | c + 1 => if c % 10 < n ∧ M (c / 10) (c % 10) < (lkS M n c).2 then (nI c, M (c / 10) (c % 10)) else lkS M n c
theorem lkS_s (M : Nat → Nat → Nat) (n c : Nat) : lkS M n (c + 1) = if c % 10 < n ∧ M (c / 10) (c % 10) < (lkS M n c).2 then (nI c, M (c / 10) (c % 10)) else lkS M n c := rfl
theorem lkS_fw {M : Nat → Nat → Nat} {n : Nat} (hM : ∀ f b, M f b ≤ 6) : ∀ c, (lkS M n c).2 = 1000000 ∨ (lkS M n c).2 ≤ 6
  | 0 => Or.inl rfl
  | c + 1 => by
    unfold lkS
    split
    · exact Or.inr (hM _ _)
    · exact lkS_fw hM c
theorem lkS_idle {M : Nat → Nat → Nat} {n f : Nat} : ∀ j, n + j ≤ 10 → lkS M n (10 * f + n + j) = lkS M n (10 * f + n)
  | 0, _ => rfl
  | j + 1, h => by
    rw [← lkS_idle (M := M) (n := n) (f := f) j (by omega)]
    show (if (10 * f + n + j) % 10 < n ∧ _ then _ else lkS M n (10 * f + n + j)) = _
    rw [if_neg]
    intro q
    omega
def lkF (x : Nat) : Nat := if x = 1000000 then 7 else x
theorem dv10 : ∀ c, c < 98 → nI c - nI c / 10 * 10 = nI (c % 10) ∧ nI c / 10 = nI (c / 10) := by decide +kernel
section PL
variable {T : Nat → Int32} {n nf np nu h mb kN fN : Nat} {yN tN nN wN : Nat → Nat}
variable {kd fg he se cr sz : Int32} {ya tr no wo mu : Nat → Int32} {fs : Int32} {fe : Nat → Int32} {ps : Int32} {pr : Nat → Int32} {us : Int32} {pa : Nat → Int32} {rf rf' : Nat → Int32}
theorem TI.pcN (H : TI T n nf np nu h mb kN fN yN tN nN wN) {fog b k : Nat} (hb : b < n) (hf : fog < 10) (hk : k < 6) : (1 ≤ pcN nN tN mb fog b k ∧ pcN nN tN mb fog b k ≤ 7) ∧ pcS (nI k) (T (7 + b)) (hoS (T (26 + b)) (nI (mb / 2 ^ b % 2))) (nI fog) (nI (mb / 2 ^ b % 2)) = nI (pcN nN tN mb fog b k) := by
  have h6 := H.no6 hb
  have g := H.hN6 hb
  have q := pc17 k hk (nN b) (by omega) (hN tN mb b) (by omega) g.1 fog hf (mb / 2 ^ b % 2) (bit2 mb b)
  rw [H.no hb, H.ho hb]
  exact q
theorem c_most (H : TI T n nf np nu h mb kN fN yN tN nN wN) (C : CR T n nf np nu mb kd fg he se cr sz ya tr no wo mu fs fe ps pr us pa) {K fog b : Nat} (hK : K < 256) (hb : b < n) (hf : fog < 10) {w : Nat → Int32} {Q : Int32 → (Nat → Int32) → Prop} (hq : ∀ w', Q (nI (lkM nN tN mb K fog b)) w') : p_X5_mostAlike w tr no mu (nI b) (nI fog) (nI K) Q := by
  have h8 := H.n8
  unfold p_X5_mostAlike
  refine lq2_inv (fun i w v => (∀ j, j < i → w j = 0) ∧ v = nI i) 8 ?_ ?_ 1000 0 w 0 ⟨fun j hj => by omega, rfl⟩ (by omega) (by omega)
  · intro i hi w v hI k hk
    obtain ⟨g1, rfl⟩ := hI
    unfold bX5_mostAlike_3
    rw [if_neg (show ¬ (7 : Int32) < nI i from fun q => (fa_of_lt q).2.1 (nI_le (b := 7) (by omega) (by decide))), nI_clamp (show i < 2 ^ 31 by omega), nI_1]
    refine ⟨vp_in_nI hi (by decide), hk _ _ ⟨fun j hj => ?_, rfl⟩⟩
    rw [upd_at]
    by_cases q : j = i
    · rw [if_pos q]
    · rw [if_neg q]; exact g1 j (by omega)
  · intro w v hI k
    obtain ⟨g1, rfl⟩ := hI
    unfold bX5_mostAlike_3
    rw [if_pos (show (7 : Int32) < nI 8 by decide)]
    unfold jX5_mostAlike_24
    refine lq3_inv (alI K (pcN nN tN mb fog b)) 6 ?_ ?_ 1000 0 w 0 0 ⟨fun j hj => (g1 j hj).trans rfl, rfl, rfl⟩ (by omega) (by omega)
    · intro i hi w v c hI k hk
      have hc : c = nI i := hI.2.2
      subst hc
      have P := H.pcN (fog := fog) (k := i) hb hf hi
      unfold bX5_mostAlike_30
      rw [if_neg (show ¬ (5 : Int32) < nI i from fun q => (fa_of_lt q).2.1 (nI_le (b := 5) (by omega) (by decide)))]
      refine s_hasBit hK (by omega) ?_
      rw [nI_1]
      rcases Nat.mod_two_eq_zero_or_one (K / 2 ^ i) with g | g
      · rw [g, if_pos (show nI 0 = 0 from rfl)]
        exact hk _ _ _ (alI_0 hI g)
      · rw [g, if_neg (show ¬ nI 1 = 0 by decide)]
        have hi8 : vp_in (nI b) 8 := vp_in_nI (by omega) (by decide)
        refine ⟨hi8, c_holds H C hb ⟨hi8, s_X2_paceOf ?_⟩⟩
        rw [nI_clamp (show b < 2 ^ 31 by omega), (C.2.1 b hb).2.2.1, (C.2.1 b hb).2.2.2.2, P.2]
        refine s_within_t ⟨nI_le (a := 1) P.1.1 (by omega), nI_le (b := 7) P.1.2 (by decide)⟩ ?_
        have hp8 : vp_in (nI (pcN nN tN mb fog b i)) 8 := vp_in_nI (by omega) (by decide)
        rw [if_neg (show ¬ (1 : Int32) = 0 by decide), nI_clamp (show pcN nN tN mb fog b i < 2 ^ 31 by omega)]
        refine ⟨hp8, hp8, hp8, ?_⟩
        have r := alI_1 (k := k) hI g (by omega) (by omega) hk
        split
        · next q => rw [if_pos q] at r; exact r
        · next q => rw [if_neg q] at r; exact ⟨hp8, r⟩
    · intro w v c hI k
      obtain ⟨_, rfl, rfl⟩ := hI
      unfold bX5_mostAlike_30
      rw [if_pos (show (5 : Int32) < nI 6 by decide)]
      exact hq w
theorem c_look (H : TI T n nf np nu h mb kN fN yN tN nN wN) (C : CR T n nf np nu mb kd fg he se cr sz ya tr no wo mu fs fe ps pr us pa) {K : Nat} (hK : K < 256) (hK0 : K ≠ 0) {w : Nat → Int32} {Q : Int32 → (Nat → Int32) → Prop} (hq : ∀ w', Q (lkS (lkM nN tN mb K) n 100).1 w') : p_X5_bestLook w tr no mu sz (nI K) Q := by
  have h8 := H.n8
  have hM : ∀ f b, lkM nN tN mb K f b ≤ 6 := fun f b => (alN_le K _ 6).2
  unfold p_X5_bestLook
  rw [if_neg (nI_ne0 (by omega) (by omega)), C.esz]
  refine lq4_inv (fun f w b x v => b = (lkS (lkM nN tN mb K) n (10 * f)).1 ∧ x = nI (lkF (lkS (lkM nN tN mb K) n (10 * f)).2) ∧ v = nI f) 10 ?_ ?_ 1000 0 w (-1) 7 0 ⟨rfl, rfl, rfl⟩ (by omega) (by omega)
  · intro f hf w b x v hI k hk
    obtain ⟨rfl, rfl, rfl⟩ := hI
    unfold bX5_bestLook_15
    rw [if_neg (show ¬ (9 : Int32) < nI f from fun q => (fa_of_lt q).2.1 (nI_le (b := 9) (by omega) (by decide)))]
    refine lq4_inv (fun j w b x v => b = (lkS (lkM nN tN mb K) n (10 * f + j)).1 ∧ x = nI (lkF (lkS (lkM nN tN mb K) n (10 * f + j)).2) ∧ v = nI j) n ?_ ?_ 1000 0 w _ _ 0 ⟨rfl, rfl, rfl⟩ (by omega) (by omega)
    · intro j hj w b x v hI k hk
      obtain ⟨rfl, rfl, rfl⟩ := hI
      unfold bX5_bestLook_25
      rw [if_neg (nI_ge hj (by omega))]
      refine c_most H C hK hj hf ?_
      intro w'
      rw [nI_1]
      have fw := lkS_fw (n := n) hM (10 * f + j)
      have m6 := hM f j
      have e1 : (10 * f + j) / 10 = f := by omega
      have e2 : (10 * f + j) % 10 = j := by omega
      have e : lkS (lkM nN tN mb K) n (10 * f + (j + 1)) = if lkM nN tN mb K f j < (lkS (lkM nN tN mb K) n (10 * f + j)).2 then (nI (10 * f + j), lkM nN tN mb K f j) else lkS (lkM nN tN mb K) n (10 * f + j) := by
        rw [show 10 * f + (j + 1) = (10 * f + j) + 1 from rfl, lkS_s, e1, e2]
        by_cases q : lkM nN tN mb K f j < (lkS (lkM nN tN mb K) n (10 * f + j)).2
        · rw [if_pos ⟨hj, q⟩, if_pos q]
        · rw [if_neg (fun r => q r.2), if_neg q]
      by_cases q : lkM nN tN mb K f j < (lkS (lkM nN tN mb K) n (10 * f + j)).2
      · rw [if_neg]
        · refine hk _ _ _ _ ⟨?_, ?_, rfl⟩
          · rw [e, if_pos q]
            rw [show (10 : Int32) * nI f = nI (10 * f) from pk_mul 10 f, nI_add]
          · rw [e, if_pos q]
            show _ = nI (lkF (lkM nN tN mb K f j))
            unfold lkF; rw [if_neg (by omega)]
        · refine nI_ge ?_ ?_
          · unfold lkF; split <;> omega
          · unfold lkF; split <;> omega
      · rw [if_pos]
        · refine hk _ _ _ _ ⟨?_, ?_, rfl⟩
          · rw [e, if_neg q]
          · rw [e, if_neg q]
        · refine nI_le ?_ (by omega)
          unfold lkF; split <;> omega
    · intro w b x v hI k2
      obtain ⟨rfl, rfl, rfl⟩ := hI
      unfold bX5_bestLook_25
      rw [if_pos (Int32.le_refl _), nI_1]
      have e : lkS (lkM nN tN mb K) n (10 * (f + 1)) = lkS (lkM nN tN mb K) n (10 * f + n) := by
        have := lkS_idle (M := lkM nN tN mb K) (n := n) (f := f) (10 - n) (by omega)
        rw [show 10 * f + n + (10 - n) = 10 * (f + 1) by omega] at this
        exact this
      refine hk _ _ _ _ ⟨?_, ?_, rfl⟩
      · rw [e]
      · rw [e]
  · intro w b x v hI k
    obtain ⟨rfl, rfl, rfl⟩ := hI
    unfold bX5_bestLook_15
    rw [if_pos (show (9 : Int32) < nI 10 by decide)]
    exact hq w
theorem m_look180 {M : Nat → Nat → Nat} (hM : ∀ f b, M f b ≤ 6) {c : Nat} (hc : c < 98) {k : (Nat → Int32) → Int32 → Int32 → Int32 → Prop} (hk : ∀ w, k w (lkS M n (c + 1)).1 (nI (lkS M n (c + 1)).2) (nI (c + 1))) {w : Nat → Int32} {x : Nat} (hx : x = if c % 10 < n then M (c / 10) (c % 10) else 1000000) : jX9_look_180 k (lkS M n c).1 (nI (lkS M n c).2) (nI c) w (nI x) := by
  have fw := lkS_fw (n := n) hM c
  have m6 := hM (c / 10) (c % 10)
  have e : lkS M n (c + 1) = if x < (lkS M n c).2 then (nI c, x) else lkS M n c := by
    show (if c % 10 < n ∧ M (c / 10) (c % 10) < _ then _ else _) = _
    by_cases g : c % 10 < n
    · rw [if_pos g] at hx
      rw [hx]
      by_cases q : M (c / 10) (c % 10) < (lkS M n c).2
      · rw [if_pos ⟨g, q⟩, if_pos q]
      · rw [if_neg (fun r => q r.2), if_neg q]
    · rw [if_neg g] at hx
      rw [hx, if_neg (fun r => g r.1), if_neg]
      omega
  have hx2 : x ≤ 1000000 := by rw [hx]; split <;> omega
  have hk := hk w
  rw [e] at hk
  unfold jX9_look_180 jX9_look_192
  rw [nI_1]
  by_cases q : x < (lkS M n c).2
  · rw [if_pos q] at hk
    rw [if_neg (nI_ge q (by omega)), if_neg (nI_ge q (by omega))]
    exact hk
  · rw [if_neg q] at hk
    rw [if_pos (nI_le (by omega) (by omega)), if_pos (nI_le (by omega) (by omega))]
    exact hk
theorem m_look (H : TI T n nf np nu h mb kN fN yN tN nN wN) {K : Nat} (hK : K < 256) (hK0 : K ≠ 0) {w : Nat → Int32} {Q : Int32 → (Nat → Int32) → Prop} (hq : ∀ w', Q (lkS (lkM nN tN mb K) n 98).1 w') : lq4 (bX9_look_13 T Q (nI K)) 1000 w (-1) 1000000 0 := by
  have h8 := H.n8
  have hM : ∀ f b, lkM nN tN mb K f b ≤ 6 := fun f b => (alN_le K _ 6).2
  refine lq4_inv (fun c w b x v => b = (lkS (lkM nN tN mb K) n c).1 ∧ x = nI (lkS (lkM nN tN mb K) n c).2 ∧ v = nI c) 98 ?_ ?_ 1000 0 w (-1) 1000000 0 ⟨rfl, rfl, rfl⟩ (by omega) (by omega)
  · intro c hc w b x v hI k hk
    obtain ⟨rfl, rfl, rfl⟩ := hI
    have hk' : ∀ w, k w (lkS (lkM nN tN mb K) n (c + 1)).1 (nI (lkS (lkM nN tN mb K) n (c + 1)).2) (nI (c + 1)) := fun w => hk _ _ _ _ ⟨rfl, rfl, rfl⟩
    unfold bX9_look_13
    rw [if_neg (show ¬ (98 : Int32) ≤ nI c from nI_ge (b := 98) hc (by decide)), if_neg (show ¬ nI K ≤ 0 from nI_ge (b := K) (a := 0) (by omega) (by omega)), (dv10 c hc).1]
    -- the counts begin at 0
    have zr : ∀ (x : Int32) (w : Nat → Int32), (∀ w', (∀ j, j < 8 → w' j = 0) → jX9_look_72 T (nI K) k (lkS (lkM nN tN mb K) n c).1 (nI (lkS (lkM nN tN mb K) n c).2) (nI c) w' (nI (c % 10)) x) → jX9_look_46 T (nI K) k w (lkS (lkM nN tN mb K) n c).1 (nI (lkS (lkM nN tN mb K) n c).2) (nI c) (nI (c % 10)) x := by
      intro x w g
      unfold jX9_look_46
      refine lq2_inv (fun i w v => (∀ j, j < i → w j = 0) ∧ v = nI i) 8 ?_ ?_ 1000 0 w 0 ⟨fun j hj => by omega, rfl⟩ (by omega) (by omega)
      · intro i hi w v hI k hk
        obtain ⟨g1, rfl⟩ := hI
        unfold bX9_look_51
        rw [if_neg (show ¬ (8 : Int32) ≤ nI i from nI_ge (b := 8) hi (by decide)), nI_clamp (show i < 2 ^ 31 by omega), nI_1]
        refine ⟨vp_in_nI hi (by decide), hk _ _ ⟨fun j hj => ?_, rfl⟩⟩
        rw [upd_at]
        by_cases q : j = i
        · rw [if_pos q]
        · rw [if_neg q]; exact g1 j (by omega)
      · intro w v hI k
        obtain ⟨g1, rfl⟩ := hI
        unfold bX9_look_51
        rw [if_pos (show (8 : Int32) ≤ nI 8 by decide)]
        exact g w g1
    by_cases g : c % 10 < n
    · refine s_isBend_t H.e0 g (by omega) ?_
      rw [if_neg (by decide)]
      refine zr 0 w (fun w' g1 => ?_)
      unfold jX9_look_72
      have hf : c / 10 < 10 := by omega
      refine lq3_inv (alI K (pcN nN tN mb (c / 10) (c % 10))) 6 ?_ ?_ 1000 0 w' 0 0 ⟨fun j hj => (g1 j hj).trans rfl, rfl, rfl⟩ (by omega) (by omega)
      · intro i hi w v z hI k hk
        have hz : z = nI i := hI.2.2
        subst hz
        have P := H.pcN (fog := c / 10) (k := i) g hf hi
        have lv := (alN_le K (pcN nN tN mb (c / 10) (c % 10)) i).2
        have ev : v = nI (alN K (pcN nN tN mb (c / 10) (c % 10)) i).2 := hI.2.1
        unfold bX9_look_75
        rw [if_neg (show ¬ (6 : Int32) ≤ nI i from nI_ge (b := 6) hi (by decide)), if_neg (show ¬ (1000000 : Int32) ≤ v by rw [ev]; exact nI_ge (b := 1000000) (by omega) (by decide))]
        refine s_has9 hK (by omega) ?_
        rw [nI_1]
        rcases Nat.mod_two_eq_zero_or_one (K / 2 ^ i) with q | q
        · rw [q, if_pos (show nI 0 = 0 from rfl)]
          exact hk _ _ _ (alI_0 hI q)
        · rw [q, if_neg (show ¬ nI 1 = 0 by decide), show (17 : Int32).toNatClampNeg = 17 from rfl, H.e17, (dv10 c hc).2]
          refine s_noteOf (by omega) (s_holds9 H g (s_has9 H.mb8 (by omega) (s_X9_paceAs ?_)))
          have hp8 : vp_in (nI (pcN nN tN mb (c / 10) (c % 10) i)) 8 := vp_in_nI (by omega) (by decide)
          rw [flagN, P.2, nI_clamp (show pcN nN tN mb (c / 10) (c % 10) i < 2 ^ 31 by omega)]
          refine ⟨hp8, hp8, hp8, ?_⟩
          have r := alI_1 (k := k) hI q (by omega) (by omega) hk
          split
          · next q => rw [if_pos q] at r; exact r
          · next q => rw [if_neg q] at r; exact ⟨hp8, r⟩
      · intro w v z hI k
        obtain ⟨_, rfl, rfl⟩ := hI
        unfold bX9_look_75
        rw [if_pos (show (6 : Int32) ≤ nI 6 by decide)]
        exact m_look180 hM hc hk' (by rw [if_pos g]; rfl)
    · refine s_isBend_f H.e0 (by omega) (Or.inr (nI_le (by omega) (by omega))) ?_
      rw [if_pos rfl]
      refine zr 1000000 w (fun w' _ => ?_)
      unfold jX9_look_72
      show bX9_look_75 T (nI K) k _ _ (nI c) (nI (c % 10)) _ w' 1000000 0
      unfold bX9_look_75
      rw [if_neg (show ¬ (6 : Int32) ≤ 0 by decide), if_pos (Int32.le_refl _)]
      exact m_look180 (x := 1000000) hM hc hk' (by rw [if_neg g])
  · intro w b x v hI k
    obtain ⟨rfl, rfl, rfl⟩ := hI
    unfold bX9_look_13
    rw [if_pos (show (98 : Int32) ≤ nI 98 by decide)]
    exact hq w
theorem q_look (H : TI T n nf np nu h mb kN fN yN tN nN wN) (C : CR T n nf np nu mb kd fg he se cr sz ya tr no wo mu fs fe ps pr us pa) {al my : Nat → Int32} {Z : Int32 → (Nat → Int32) → Int32 → (Nat → Int32) → Prop} (z : ∀ r u v, Z r u r v) : p_X8_look tr no mu sz pr ps al (fun r u => p_X9_look T my (fun r' v => Z r u r' v)) := by
  have h8 := H.n8
  have hK : acN (fitP T np) 6 < 256 := acN_256 (by decide)
  unfold p_X8_look p_X9_look
  refine c_kinds H C ?_
  by_cases g : acN (fitP T np) 6 = 0
  · unfold p_X5_bestLook
    rw [if_pos (by rw [g]; rfl)]
    refine m_kinds H ?_
    show bX9_look_13 T _ (nI (acN (fitP T np) 6)) _ my (-1) 1000000 0
    unfold bX9_look_13
    rw [if_neg (show ¬ (98 : Int32) ≤ 0 by decide), if_pos (show nI (acN (fitP T np) 6) ≤ 0 by rw [g]; exact Int32.le_refl _)]
    exact z _ _ _
  · refine c_look H C hK g (fun w' => m_kinds H (m_look H hK g (fun w2 => ?_)))
    have e1 := lkS_idle (M := lkM nN tN mb (acN (fitP T np) 6)) (n := n) (f := 9) (10 - n) (by omega)
    have e2 := lkS_idle (M := lkM nN tN mb (acN (fitP T np) 6)) (n := n) (f := 9) (8 - n) (by omega)
    rw [show 10 * 9 + n + (10 - n) = 100 by omega] at e1
    rw [show 10 * 9 + n + (8 - n) = 98 by omega] at e2
    rw [e1, e2]
    exact z _ _ _
end PL
