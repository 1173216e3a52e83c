/-! who writes and who drives; heard by odds; rallies -/
theorem cs60 : ∀ p, p < 8 → ∀ t, t < 7 → (csS (nI p) (nI t)).toNatClampNeg ≤ 60 ∧ csS (nI p) (nI t) = nI ((csS (nI p) (nI t)).toNatClampNeg) := by decide +kernel
/-- a cost as a number -/
def ccN (T : Nat → Int32) (mb b : Nat) (x : Int32) : Nat := (cS T mb b x).toNatClampNeg
theorem sm_congr {f g : Nat → Int32} {b : Nat} : ∀ c, (∀ i, i < c → f (b + i) = g (b + i)) → sm f b c = sm g b c
  | 0, _ => rfl
  | c + 1, h => by
    show sm f b c + f (b + c) = sm g b c + g (b + c)
    rw [sm_congr c (fun i hi => h i (by omega)), h c (by omega)]
theorem sm_nI {f : Nat → Int32} {b m : Nat} : ∀ c, (∀ i, i < c → ∃ k, k ≤ m ∧ f (b + i) = nI k) → ∃ k, k ≤ c * m ∧ sm f b c = nI k
  | 0, _ => ⟨0, by omega, rfl⟩
  | c + 1, h => by
    obtain ⟨k, k1, k2⟩ := sm_nI c (fun i hi => h i (by omega))
    obtain ⟨j, j1, j2⟩ := h c (by omega)
    refine ⟨k + j, ?_, ?_⟩
    · rw [Nat.succ_mul]; omega
    · show sm f b c + f (b + c) = _
      rw [k2, j2, nI_add]
theorem ntL : ∀ n, n < 7 → ∀ l, l < 2 → (if 0 < nI n - nI l then nI n - nI l else 0) = nI (n - l) := by decide +kernel
theorem ntM : ∀ n, n < 7 → (if nI n ≤ 0 then nI n else nI n - 1) = nI (n - 1) := by decide +kernel
theorem pcL : ∀ p, p < 8 → ∀ m, m < 2 → (if nI p + nI m < 7 then nI p + nI m else 7) = nI (if p + m < 7 then p + m else 7) := by decide +kernel
theorem pcM : ∀ p, p < 8 → (if 7 ≤ nI p then nI p else nI p + 1) = nI (if p + 1 < 7 then p + 1 else 7) := by decide +kernel
theorem wx4 : ∀ i, i < 4 → ((nI i ^^^ 1) = nI (i ^^^ 1) ∧ i ^^^ 1 < 4 ∧ (i ^^^ 1) % 2 = 1 - i % 2 ∧ (i ^^^ 1) / 2 = i / 2) ∧ ((nI i ^^^ 2) = nI (i ^^^ 2) ∧ i ^^^ 2 < 4 ∧ (i ^^^ 2) % 2 = i % 2 ∧ (i ^^^ 2) / 2 = 1 - i / 2) := by decide +kernel
theorem neg_add2 (x : Int32) : -x + 2 * nI 1 = 2 - x := by
  rw [show (2 : Int32) * nI 1 = 2 from rfl, Int32.sub_eq_add_neg, Int32.add_comm]
theorem neg_add0 (x : Int32) : -x + 2 * nI 0 = -x := by
  rw [show (2 : Int32) * nI 0 = 0 from rfl, Int32.add_zero]
section PV
variable {T : Nat → Int32} {n nf np nu h mb kN fN : Nat} {yN tN nN wN : Nat → Nat}
variable {kd fg he se cr sz : Int32} {ya tr no wo mu : Nat → Int32} {fs : Int32} {fe : Nat → Int32} {ps : Int32} {pr : Nat → Int32} {us : Int32} {pa : Nat → Int32} {rf rf' : Nat → Int32}
theorem TI.pN (H : TI T n nf np nu h mb kN fN yN tN nN wN) {b x : Nat} (hb : b < n) (hx : x ≤ 6) : ∃ p, p < 8 ∧ pcS (T 15) (nI x) (hoS (T (26 + b)) (nI (mb / 2 ^ b % 2))) (T 16) (nI (mb / 2 ^ b % 2)) = nI p := by
  have g := H.hN6 hb
  have hk : kN ≤ 5 := H.1.2.2.2.2.2.2.1
  have hf : fN ≤ 9 := H.1.2.2.2.2.2.2.2
  have q := pc17 kN (by omega) x (by omega) (hN tN mb b) (by omega) g.1 fN (by omega) (mb / 2 ^ b % 2) (bit2 mb b)
  rw [H.ho hb, H.e15, H.e16]
  exact ⟨_, by omega, q.2⟩
theorem TI.cN (H : TI T n nf np nu h mb kN fN yN tN nN wN) {b x : Nat} (hb : b < n) (hx : x ≤ 6) : cS T mb b (nI x) = nI (ccN T mb b (nI x)) ∧ ccN T mb b (nI x) ≤ 60 := by
  obtain ⟨p, hp, e⟩ := H.pN hb hx
  have g := H.hN6 hb
  have q := cs60 p hp (hN tN mb b) (by omega)
  unfold ccN cS ctS
  rw [e, H.ho hb]
  exact ⟨q.2, q.1⟩
/-- the cost of a pair -/
def wrC (T : Nat → Int32) (mb b nt l m : Nat) : Int32 := csS (nI (if (pcS (T 15) (nI (nt - l)) (hoS (T (26 + b)) (nI (mb / 2 ^ b % 2))) (T 16) (nI (mb / 2 ^ b % 2))).toNatClampNeg + m < 7 then (pcS (T 15) (nI (nt - l)) (hoS (T (26 + b)) (nI (mb / 2 ^ b % 2))) (T 16) (nI (mb / 2 ^ b % 2))).toNatClampNeg + m else 7)) (hoS (T (26 + b)) (nI (mb / 2 ^ b % 2)))
def wrHr (T : Nat → Int32) (mb b nt l m : Nat) : Int32 := -(wrC T mb b nt l m) - nI l
def wrHm (T : Nat → Int32) (mb b nt l m : Nat) : Int32 := -(wrC T mb b nt l m) + 2 * nI m
abbrev wrP (T : Nat → Int32) (mb b nt i : Nat) : Prop := ¬ wrHr T mb b nt (i % 2) (i / 2) < wrHr T mb b nt (1 - i % 2) (i / 2) ∧ ¬ wrHm T mb b nt (i % 2) (i / 2) < wrHm T mb b nt (i % 2) (1 - i / 2)
theorem c_pair (H : TI T n nf np nu h mb kN fN yN tN nN wN) (C : CR T n nf np nu mb kd fg he se cr sz ya tr no wo mu fs fe ps pr us pa) {b l m : Nat} (hb : b < n) (hl : l < 2) (hm : m < 2) {Q : Int32 → Prop} (hq : Q (wrC T mb b (nN b) l m)) : p_X5_costOfPair tr no mu kd fg (nI b) (nI l) (nI m) Q := by
  have h8 := H.n8
  have h6 := H.no6 hb
  unfold p_X5_costOfPair
  refine ⟨vp_in_nI (by omega) (by decide), ?_⟩
  rw [nI_clamp (show b < 2 ^ 31 by omega), (C.2.1 b hb).2.2.1, H.no hb, ntL _ (by omega) _ hl]
  refine c_pace H C hb (c_holds H C hb (s_X2_costOf ?_))
  obtain ⟨p, hp, e⟩ := H.pN (x := nN b - l) hb (by omega)
  unfold wrC at hq
  rw [e] at hq ⊢
  rw [nI_clamp (show p < 2 ^ 31 by omega)] at hq
  rw [pcL p hp m hm]
  exact hq
theorem c_her (H : TI T n nf np nu h mb kN fN yN tN nN wN) (C : CR T n nf np nu mb kd fg he se cr sz ya tr no wo mu fs fe ps pr us pa) {b l m : Nat} (hb : b < n) (hl : l < 2) (hm : m < 2) {Q : Int32 → Prop} (hq : Q (wrHr T mb b (nN b) l m)) : p_X5_toHer tr no mu kd fg (nI b) (nI l) (nI m) Q := by
  unfold p_X5_toHer
  exact c_pair H C hb hl hm hq
theorem c_him (H : TI T n nf np nu h mb kN fN yN tN nN wN) (C : CR T n nf np nu mb kd fg he se cr sz ya tr no wo mu fs fe ps pr us pa) {b l m : Nat} (hb : b < n) (hl : l < 2) (hm : m < 2) {Q : Int32 → Prop} (hq : Q (wrHm T mb b (nN b) l m)) : p_X5_toHim tr no mu kd fg (nI b) (nI l) (nI m) Q := by
  unfold p_X5_toHim
  exact c_pair H C hb hl hm hq
theorem c_pairs (H : TI T n nf np nu h mb kN fN yN tN nN wN) (C : CR T n nf np nu mb kd fg he se cr sz ya tr no wo mu fs fe ps pr us pa) {b : Nat} (hb : b < n) {Q : Int32 → Prop} (hq : Q (nI (acN (wrP T mb b (nN b)) 4))) : p_X5_pairsAtRest tr no mu kd fg (nI b) Q := by
  unfold p_X5_pairsAtRest
  refine lq2_for (fun i => nI (acN (wrP T mb b (nN b)) i)) (fun i => nI i) 4 ?_ ?_ 1000 0 (Nat.zero_le _) (by omega)
  · intro i hi k hk
    have hi2 : i % 2 < 2 := by omega
    have hd2 : i / 2 < 2 := by omega
    unfold bX5_pairsAtRest_5
    rw [if_neg (show ¬ (4 : Int32) ≤ nI i from nI_ge (b := 4) hi (by decide)), (bits_a i (by omega)).1, (bits_a i (by omega)).2, show (1 : Int32) - nI (i % 2) = nI (1 - i % 2) from pk_sub (a := 1) (by omega)]
    rw [← acN_step (by omega)] at hk
    refine c_her H C hb hi2 hd2 (c_her H C hb (by omega) hd2 ?_)
    have fin : ∀ t : Int32, t = (if wrHr T mb b (nN b) (i % 2) (i / 2) < wrHr T mb b (nN b) (1 - i % 2) (i / 2) then 0 else 1) → jX5_pairsAtRest_53 tr no mu kd fg (nI b) k (nI (acN (wrP T mb b (nN b)) i)) (nI i) (nI (i % 2)) (nI (i / 2)) t := by
      intro t ht
      unfold jX5_pairsAtRest_53
      rw [show (1 : Int32) - nI (i / 2) = nI (1 - i / 2) from pk_sub (a := 1) (by omega)]
      refine c_him H C hb hi2 hd2 (c_him H C hb hi2 (by omega) ?_)
      unfold jX5_pairsAtRest_85
      rw [nI_1, ht]
      by_cases g1 : wrHr T mb b (nN b) (i % 2) (i / 2) < wrHr T mb b (nN b) (1 - i % 2) (i / 2)
      · rw [if_neg (fun q => q.1 g1)] at hk
        rw [if_pos g1, if_pos rfl, if_pos rfl, ite_self]
        exact hk
      · rw [if_neg g1, if_neg (show ¬ (1 : Int32) = 0 by decide), if_pos rfl, if_neg (show ¬ (1 : Int32) = 0 by decide), if_neg (show ¬ (1 : Int32) = 0 by decide)]
        by_cases g2 : wrHm T mb b (nN b) (i % 2) (i / 2) < wrHm T mb b (nN b) (i % 2) (1 - i / 2)
        · rw [if_neg (fun q => q.2 g2)] at hk
          rw [if_pos g2]; exact hk
        · rw [if_pos ⟨g1, g2⟩] at hk
          rw [if_neg g2]; exact hk
    by_cases g1 : wrHr T mb b (nN b) (i % 2) (i / 2) < wrHr T mb b (nN b) (1 - i % 2) (i / 2)
    · rw [if_pos g1]; exact fin 0 (by rw [if_pos g1])
    · rw [if_neg g1]; exact fin 1 (by rw [if_neg g1])
  · intro k
    unfold bX5_pairsAtRest_5
    rw [if_pos (show (4 : Int32) ≤ nI 4 by decide)]
    exact hq
theorem m_pairs1 (H : TI T n nf np nu h mb kN fN yN tN nN wN) {b i : Nat} (hb : b < n) (hi : i < 4) {w1 w2 : Nat → Int32} {k : (Nat → Int32) → (Nat → Int32) → Int32 → Prop} (hk : k (upd w1 i (wrHr T mb b (nN b) (i % 2) (i / 2))) (upd w2 i (wrHm T mb b (nN b) (i % 2) (i / 2))) (nI (i + 1))) : jX9_writes_52 T (nI b) k w1 w2 (nI i) (nI (nN b - i % 2)) := by
  have h8 := H.n8
  have h6 := H.no6 hb
  unfold jX9_writes_52
  refine s_pace9 H hb ?_
  obtain ⟨p, hp, e⟩ := H.pN (x := nN b - i % 2) hb (by omega)
  have ec : wrC T mb b (nN b) (i % 2) (i / 2) = csS (nI (if p + i / 2 < 7 then p + i / 2 else 7)) (hoS (T (26 + b)) (nI (mb / 2 ^ b % 2))) := by
    unfold wrC
    rw [e, nI_clamp (show p < 2 ^ 31 by omega)]
  rw [e]
  have fin : jX9_writes_85 T (nI b) k w1 w2 (nI i) (nI (if p + i / 2 < 7 then p + i / 2 else 7)) := by
    unfold jX9_writes_85
    refine s_holds9 H hb (s_X9_costAt ?_)
    rw [← ec, (bits_a i (by omega)).1, nI_clamp (show i < 2 ^ 31 by omega), nI_1]
    have hi4 : vp_in (nI i) 4 := vp_in_nI hi (by decide)
    refine ⟨hi4, ?_⟩
    unfold wrHr wrHm at hk
    rcases (show i / 2 = 0 ∨ i / 2 = 1 by omega) with g | g
    · rw [if_pos (show nI i ≤ 1 from nI_le (b := 1) (by omega) (by decide))]
      rw [g] at hk ⊢
      rw [neg_add0] at hk
      exact ⟨hi4, hk⟩
    · rw [if_neg (show ¬ nI i ≤ 1 from nI_ge (b := i) (a := 1) (by omega) (by omega))]
      rw [g] at hk ⊢
      rw [neg_add2] at hk
      exact ⟨hi4, hk⟩
  unfold jX9_writes_83
  rcases (show i / 2 = 0 ∨ i / 2 = 1 by omega) with g | g
  · rw [if_pos (show nI i ≤ 1 from nI_le (b := 1) (by omega) (by decide))]
    rw [g] at fin
    rw [show (if p + 0 < 7 then p + 0 else 7) = p by split <;> omega] at fin
    exact fin
  · rw [if_neg (show ¬ nI i ≤ 1 from nI_ge (b := i) (a := 1) (by omega) (by omega))]
    rw [g, ← pcM p hp] at fin
    by_cases q : (7 : Int32) ≤ nI p
    · rw [if_pos q] at fin ⊢; exact fin
    · rw [if_neg q] at fin ⊢; exact fin
theorem m_pairs (H : TI T n nf np nu h mb kN fN yN tN nN wN) {b : Nat} (hb : b < n) {w1 w2 : Nat → Int32} {Q : Int32 → (Nat → Int32) → (Nat → Int32) → (Nat → Int32) → Prop} (hq : ∀ w1 w2, Q (nI (acN (wrP T mb b (nN b)) 4)) rf' w1 w2) : lq3 (bX9_writes_17 T rf' (nI b) Q) 1000 w1 w2 0 := by
  have h8 := H.n8
  have h6 := H.no6 hb
  refine lq3_inv (fun i w1 w2 v => (∀ j, j < i → w1 j = wrHr T mb b (nN b) (j % 2) (j / 2) ∧ w2 j = wrHm T mb b (nN b) (j % 2) (j / 2)) ∧ v = nI i) 4 ?_ ?_ 1000 0 w1 w2 0 ⟨fun j hj => by omega, rfl⟩ (by omega) (by omega)
  · intro i hi w1 w2 v hI k hk
    obtain ⟨g1, rfl⟩ := hI
    unfold bX9_writes_17
    rw [if_neg (show ¬ (4 : Int32) ≤ nI i from nI_ge (b := 4) hi (by decide)), (bits_a i (by omega)).1]
    have fin : jX9_writes_52 T (nI b) k w1 w2 (nI i) (nI (nN b - i % 2)) := by
      refine m_pairs1 H hb hi (hk _ _ _ ⟨fun j hj => ?_, rfl⟩)
      rw [upd_at, upd_at]
      by_cases q : j = i
      · rw [if_pos q, if_pos q, q]; exact ⟨rfl, rfl⟩
      · rw [if_neg q, if_neg q]; exact g1 j (by omega)
    unfold jX9_writes_47
    rcases (show i % 2 = 0 ∨ i % 2 = 1 by omega) with g | g
    · rw [g] at fin ⊢
      rw [if_neg (show ¬ nI 0 = 1 by decide)]
      refine s_noteOf (by omega) ?_
      rw [H.no hb]
      exact fin
    · rw [g] at fin ⊢
      rw [if_pos (show nI 1 = 1 from rfl)]
      refine s_noteOf (by omega) ?_
      rw [H.no hb]
      rw [← ntM _ (by omega)] at fin
      by_cases q : nI (nN b) ≤ 0
      · rw [if_pos q] at fin ⊢
        refine s_noteOf (by omega) ?_
        rw [H.no hb]; exact fin
      · rw [if_neg q] at fin ⊢
        refine s_noteOf (by omega) ?_
        rw [H.no hb]; exact fin
  · intro w1 w2 v hI k
    obtain ⟨g1, rfl⟩ := hI
    unfold bX9_writes_17
    rw [if_pos (show (4 : Int32) ≤ nI 4 by decide)]
    unfold jX9_writes_142
    refine lq2_for (fun i => nI (acN (wrP T mb b (nN b)) i)) (fun i => nI i) 4 ?_ ?_ 1000 0 (Nat.zero_le _) (by omega)
    · intro i hi k hk
      obtain ⟨⟨x1, x2, x3, x4⟩, ⟨y1, y2, y3, y4⟩⟩ := wx4 i hi
      unfold bX9_writes_146
      rw [← acN_step (by omega)] at hk
      have hi4 : vp_in (nI i) 4 := vp_in_nI hi (by decide)
      rw [if_neg (show ¬ (4 : Int32) ≤ nI i from nI_ge (b := 4) hi (by decide)), x1, y1, nI_clamp (show i < 2 ^ 31 by omega), nI_clamp (show i ^^^ 1 < 2 ^ 31 by omega), nI_clamp (show i ^^^ 2 < 2 ^ 31 by omega), (g1 i hi).1, (g1 i hi).2, (g1 _ x2).1, (g1 _ y2).2, x3, x4, y3, y4]
      refine ⟨hi4, vp_in_nI x2 (by decide), ?_⟩
      unfold jX9_writes_189 jX9_writes_190
      rw [nI_1, or0, if_pos rfl]
      by_cases q1 : wrHr T mb b (nN b) (i % 2) (i / 2) < wrHr T mb b (nN b) (1 - i % 2) (i / 2)
      · rw [if_neg (fun q => q.1 q1)] at hk
        rw [if_pos q1]; exact hk
      · rw [if_neg q1]
        refine ⟨hi4, vp_in_nI y2 (by decide), ?_⟩
        by_cases q2 : wrHm T mb b (nN b) (i % 2) (i / 2) < wrHm T mb b (nN b) (i % 2) (1 - i / 2)
        · rw [if_neg (fun q => q.2 q2)] at hk
          rw [if_pos q2]; exact hk
        · rw [if_pos ⟨q1, q2⟩] at hk
          rw [if_neg q2, if_neg (show ¬ (1 : Int32) = 0 by decide)]; exact hk
    · intro k
      unfold bX9_writes_146
      rw [if_pos (show (4 : Int32) ≤ nI 4 by decide)]
      exact hq _ _
theorem q_writes (H : TI T n nf np nu h mb kN fN yN tN nN wN) (C : CR T n nf np nu mb kd fg he se cr sz ya tr no wo mu fs fe ps pr us pa) (x1 : Int32) {hr hm : Nat → Int32} {Z : Int32 → (Nat → Int32) → Int32 → (Nat → Int32) → (Nat → Int32) → (Nat → Int32) → Prop} (z1 : Z (-2) (rj 0 rf) (-2) (rj 0 rf') hr hm) (z2 : ∀ r w1 w2, Z r rf r rf' w1 w2) : p_X8_writes tr no mu sz kd fg rf x1 (fun r u => p_X9_writes T rf' hr hm x1 (fun r' v2 v3 v4 => Z r u r' v2 v3 v4)) := by
  have h8 := H.n8
  unfold p_X8_writes p_X9_writes
  rw [C.esz]
  rcases ixc x1 (n := n) (by omega) with h1 | ⟨b, hb, rfl⟩
  · refine s_has_f h1 ?_
    rw [if_pos rfl]
    refine s_refuse2 (s_isBend_f H.e0 (by omega) h1 ?_)
    rw [if_pos rfl]
    exact s_bad z1
  · refine s_has_t hb (by omega) ?_
    rw [if_neg (by decide)]
    refine c_pairs H C hb (s_isBend_t H.e0 hb (by omega) ?_)
    rw [if_neg (by decide)]
    exact m_pairs H hb (fun w1 w2 => z2 _ _ _)
/-! heard by odds -/
def hdS (T : Nat → Int32) (mb : Nat) (x : Int32) (b : Nat) : Int32 := (10 - x) * cS T mb b (T (7 + b)) + x * cS T mb b 0
theorem hdS_nI (H : TI T n nf np nu h mb kN fN yN tN nN wN) {c : Nat} (hc : c ≤ 10) : ∃ k, k ≤ 4800 ∧ sm (hdS T mb (nI c)) h (n - h) = nI k := by
  have h8 := H.n8
  have hn := H.hn
  obtain ⟨k, k1, k2⟩ := sm_nI (f := hdS T mb (nI c)) (b := h) (m := 600) (n - h) (by
    intro i hi
    unfold hdS
    have e1 := H.cN (b := h + i) (x := nN (h + i)) (by omega) (H.no6 (by omega))
    have e2 := H.cN (b := h + i) (x := 0) (by omega) (by omega)
    rw [H.no (by omega), e1.1, show (0 : Int32) = nI 0 from rfl, e2.1, show (10 : Int32) - nI c = nI (10 - c) from pk_sub (a := 10) hc, pk_mul, pk_mul, nI_add]
    refine ⟨_, ?_, rfl⟩
    have a := e1.2
    have b := e2.2
    have a2 := Nat.mul_le_mul_left (10 - c) a
    have b2 := Nat.mul_le_mul_left c b
    omega)
  exact ⟨k, by omega, k2⟩
theorem c_unheard (H : TI T n nf np nu h mb kN fN yN tN nN wN) (C : CR T n nf np nu mb kd fg he se cr sz ya tr no wo mu fs fe ps pr us pa) {x : Int32} {Q : Int32 → Prop} (hq : Q (sm (hdS T mb x) h (n - h))) : p_X5_costUnheard tr no mu sz kd fg he x Q := by
  have h8 := H.n8
  have hn := H.hn
  unfold p_X5_costUnheard
  rw [C.esz, C.ehe H]
  refine lq2_for (fun i => sm (hdS T mb x) h i) (fun i => nI (h + i)) (n - h) ?_ ?_ 1000 0 (Nat.zero_le _) (by omega)
  · intro i hi k hk
    unfold bX5_costUnheard_8
    rw [if_neg (nI_ge (show h + i < n by omega) (by omega)), nI_1]
    exact c_costNoted H C (by omega) (c_cost H C (by omega) hk)
  · intro k
    unfold bX5_costUnheard_8
    rw [if_pos (show nI n ≤ nI (h + (n - h)) from nI_le (by omega) (by omega))]
    exact hq
theorem m_unheard (H : TI T n nf np nu h mb kN fN yN tN nN wN) {x : Int32} {ab be : Int64} {Q : Int32 → (Nat → Int32) → Int64 → Int64 → Prop} (hq : jX9_heard_69 rf' ab be Q (sm (hdS T mb x) h (n - h))) : lq2 (bX9_heard_28 T rf' ab be x Q) 1000 0 (nI h) := by
  have h8 := H.n8
  have hn := H.hn
  refine lq2_for (fun i => sm (hdS T mb x) h i) (fun i => nI (h + i)) (n - h) ?_ ?_ 1000 0 (Nat.zero_le _) (by omega)
  · intro i hi k hk
    unfold bX9_heard_28
    refine s_many H.e0 ?_
    rw [if_neg (nI_ge (show h + i < n by omega) (by omega)), nI_1]
    exact s_noteOf (by omega) (s_cost H (by omega) (s_cost H (by omega) hk))
  · intro k
    unfold bX9_heard_28
    refine s_many H.e0 ?_
    rw [if_pos (show nI n ≤ nI (h + (n - h)) from nI_le (by omega) (by omega))]
    exact hq
end PV
theorem m_frac {x1 x3 : Int64} {Q : Int64 → Int64 → Prop} : ∀ (f a b : Nat), b < f → a < 2 ^ 62 → b < 2 ^ 62 → jX9_fraction_31 x1 x3 Q (lN (Nat.gcd b a)) → lq2 (bX9_fraction_6 x1 x3 Q) f (lN a) (lN b) := by
  intro f
  induction f with
  | zero => intro a b h; omega
  | succ f ih =>
    intro a b hb ha hb2 hq
    show bX9_fraction_6 x1 x3 Q (lq2 (bX9_fraction_6 x1 x3 Q) f) (lN a) (lN b)
    unfold bX9_fraction_6
    by_cases g : b = 0
    · subst g
      rw [if_pos (show lg_cmp (lN 0) 0 = 0 from lcmp_eq rfl)]
      rw [Nat.gcd_zero_left] at hq
      exact hq
    · have hlt := Nat.mod_lt a (show b > 0 by omega)
      have hne : ¬ lN b = 0 := fun e => by
        have := (pk_lEQ (a := b) (b := 0) (by omega) (by decide)).mp e
        omega
      rw [if_neg, pk_lRem (by omega) (by omega) (by omega)]
      · refine ⟨hne, ih b (a % b) (by omega) (by omega) (by omega) ?_⟩
        rw [← Nat.gcd_rec]; exact hq
      · intro e
        have q : (0 : Int32) < lg_cmp (lN b) 0 := by
          rw [lg_cmp_gt]
          exact (pk_lLT (a := 0) (b := b) (by decide) (by omega)).mpr (by omega)
        rw [e] at q
        exact absurd q (by decide)
theorem gcd10 (s : Nat) : Nat.gcd 10 s = if s % 10 = 0 then 10 else if s % 5 = 0 then 5 else if s % 2 = 0 then 2 else 1 := by
  rw [Nat.gcd_rec]
  have h : ∀ r, r < 10 → Nat.gcd r 10 = if r % 10 = 0 then 10 else if r % 5 = 0 then 5 else if r % 2 = 0 then 2 else 1 := by decide +kernel
  rw [h _ (Nat.mod_lt _ (by decide)), show s % 10 % 10 = s % 10 by omega, show s % 10 % 5 = s % 5 by omega, show s % 10 % 2 = s % 2 by omega]
theorem c_setFr {ab be : Int64} {s : Nat} (hs : s ≤ 4800) {Q : Int64 → Int64 → Prop} (hq : Q (lN (s / Nat.gcd 10 s)) (lN (10 / Nat.gcd 10 s))) : p_X8_setFraction ab be (nI s) Q := by
  have st : ∀ (d : Nat) (k : Int32 → Prop), 1 ≤ d → d ≤ 10 → ((10 % d = 0 ∧ s % d = 0 ∧ Q (lN (s / d)) (lN (10 / d))) ∨ (¬ (10 % d = 0 ∧ s % d = 0) ∧ k (nI (d - 1)))) → bX8_setFraction_3 ab be (nI s) Q k (nI d) := by
    intro d k h1 h10 hh
    unfold bX8_setFraction_3
    have hd0 : ¬ nI d = 0 := nI_ne0 (by omega) (by omega)
    have e10 : (10 : Int32) - 10 / nI d * nI d = nI (10 % d) := pk_rem (a := 10) (by decide) (by omega) (by omega)
    have es : nI s - nI s / nI d * nI d = nI (s % d) := pk_rem (by omega) (by omega) (by omega)
    have em : nI d + (-1) = nI (d - 1) := by
      have := pk_m1 (d - 1)
      rw [show d - 1 + 1 = d by omega] at this
      exact this
    have l10 : 10 % d < 2 ^ 31 := Nat.lt_of_le_of_lt (Nat.mod_le _ _) (by decide)
    have ls : s % d < 2 ^ 31 := Nat.lt_of_le_of_lt (Nat.mod_le _ _) (by omega)
    rw [if_neg (show ¬ nI d < 1 from fun q => (fa_of_lt q).2.1 (nI_le (a := 1) h1 (by omega))), e10, es, em]
    refine ⟨hd0, ?_⟩
    rcases hh with ⟨g1, g2, g3⟩ | ⟨g1, g2⟩
    · rw [g1, g2, if_pos (show nI 0 = 0 from rfl)]
      refine ⟨hd0, ?_⟩
      rw [if_pos (show nI 0 = 0 from rfl)]
      unfold jX8_setFraction_21
      refine ⟨hd0, hd0, ?_⟩
      have l1 : s / d < 2 ^ 31 := Nat.lt_of_le_of_lt (Nat.div_le_self _ _) (by omega)
      have l2 : 10 / d < 2 ^ 31 := Nat.lt_of_le_of_lt (Nat.div_le_self _ _) (by decide)
      rw [pk_div (by omega) (by omega) (by omega), show (10 : Int32) / nI d = nI (10 / d) from pk_div (a := 10) (by decide) (by omega) (by omega), nI_l l1, nI_l l2]
      exact g3
    · by_cases q1 : 10 % d = 0
      · rw [q1, if_pos (show nI 0 = 0 from rfl), if_neg (show ¬ nI (s % d) = 0 from nI_ne0 (by have : ¬ s % d = 0 := fun q => g1 ⟨q1, q⟩; omega) ls)]
        exact ⟨hd0, g2⟩
      · rw [if_neg (show ¬ nI (10 % d) = 0 from nI_ne0 (by omega) l10)]
        exact g2
  unfold p_X8_setFraction
  rw [gcd10] at hq
  have sk : ∀ (d f : Nat), 1 ≤ d → d ≤ 10 → ¬ (10 % d = 0 ∧ s % d = 0) → lq1 (bX8_setFraction_3 ab be (nI s) Q) f (nI (d - 1)) → lq1 (bX8_setFraction_3 ab be (nI s) Q) (f + 1) (nI d) := fun d f h1 h2 h3 h4 => st d _ h1 h2 (Or.inr ⟨h3, h4⟩)
  have ex : ∀ (d f : Nat), 1 ≤ d → d ≤ 10 → 10 % d = 0 → s % d = 0 → Q (lN (s / d)) (lN (10 / d)) → lq1 (bX8_setFraction_3 ab be (nI s) Q) (f + 1) (nI d) := fun d f h1 h2 h3 h4 h5 => st d _ h1 h2 (Or.inl ⟨h3, h4, h5⟩)
  by_cases g10 : s % 10 = 0
  · rw [if_pos g10] at hq
    exact ex 10 999 (by decide) (by decide) (by decide) g10 hq
  rw [if_neg g10] at hq
  refine sk 10 999 (by decide) (by decide) (fun q => g10 q.2) ?_
  refine sk 9 998 (by decide) (by decide) (by omega) ?_
  refine sk 8 997 (by decide) (by decide) (by omega) ?_
  refine sk 7 996 (by decide) (by decide) (by omega) ?_
  refine sk 6 995 (by decide) (by decide) (by omega) ?_
  by_cases g5 : s % 5 = 0
  · rw [if_pos g5] at hq
    exact ex 5 994 (by decide) (by decide) (by decide) g5 hq
  rw [if_neg g5] at hq
  refine sk 5 994 (by decide) (by decide) (fun q => g5 q.2) ?_
  refine sk 4 993 (by decide) (by decide) (by omega) ?_
  refine sk 3 992 (by decide) (by decide) (by omega) ?_
  by_cases g2 : s % 2 = 0
  · rw [if_pos g2] at hq
    exact ex 2 991 (by decide) (by decide) (by decide) g2 hq
  rw [if_neg g2] at hq
  refine sk 2 991 (by decide) (by decide) (fun q => g2 q.2) ?_
  exact ex 1 990 (by decide) (by decide) (by decide) (by omega) hq
theorem m_fraction {ab be : Int64} {s : Nat} (hs : s ≤ 4800) {Q : Int64 → Int64 → Prop} (hq : Q (lN (s / Nat.gcd 10 s)) (lN (10 / Nat.gcd 10 s))) : p_X9_fraction ab be (nI s).toInt64 10 Q := by
  unfold p_X9_fraction
  rw [nI_l (by omega), show (10 : Int64) = lN 10 from rfl]
  refine m_frac 1000 s 10 (by decide) (by omega) (by decide) ?_
  have hg : Nat.gcd 10 s ≤ 10 := Nat.gcd_le_left _ (by decide)
  have hg0 : 0 < Nat.gcd 10 s := Nat.gcd_pos_of_pos_left _ (by decide)
  unfold jX9_fraction_31
  have hne : ¬ lN (Nat.gcd 10 s) = 0 := fun e => by
    have := (pk_lEQ (a := Nat.gcd 10 s) (b := 0) (by omega) (by decide)).mp e
    omega
  rw [pk_lDiv (by omega) hg0 (by omega), pk_lDiv (by decide) hg0 (by omega)]
  exact ⟨hne, hne, hq⟩
section PV2
variable {T : Nat → Int32} {n nf np nu h mb kN fN : Nat} {yN tN nN wN : Nat → Nat}
variable {kd fg he se cr sz : Int32} {ya tr no wo mu : Nat → Int32} {fs : Int32} {fe : Nat → Int32} {ps : Int32} {pr : Nat → Int32} {us : Int32} {pa : Nat → Int32} {rf rf' : Nat → Int32}
theorem q_heard (H : TI T n nf np nu h mb kN fN yN tN nN wN) (C : CR T n nf np nu mb kd fg he se cr sz ya tr no wo mu fs fe ps pr us pa) (x1 : Int32) {ab be ab' be' : Int64} {Z : Int32 → (Nat → Int32) → Int64 → Int64 → Int32 → (Nat → Int32) → Int64 → Int64 → Prop} (z1 : Z (-2) (rj 0 rf) ab be (-2) (rj 0 rf') ab' be') (z2 : ∀ a b, Z 1 rf a b 1 rf' a b) : p_X8_heard tr no mu sz kd fg he rf ab be x1 (fun r u2 u3 u4 => p_X9_heard T rf' ab' be' x1 (fun r' v2 v3 v4 => Z r u2 u3 u4 r' v2 v3 v4)) := by
  unfold p_X8_heard p_X9_heard
  by_cases h1 : 0 ≤ x1 ∧ x1 ≤ 10
  · refine s_within_t h1 ?_
    rw [if_neg (by decide)]
    obtain ⟨c, -, hc, rfl⟩ := rgN (x := x1) 0 10 (by decide) h1
    obtain ⟨s, hs, es⟩ := hdS_nI H hc
    refine c_unheard H C ?_
    rw [es]
    refine c_setFr hs (s_in_t (lo' := 0) (hi' := 10) (by decide) (by decide) h1 ?_)
    rw [if_neg (by decide), show (4 : Int32).toNatClampNeg = 4 from rfl, H.e4]
    refine m_unheard H ?_
    rw [es]
    unfold jX9_heard_69
    exact m_fraction hs (z2 _ _)
  · refine s_within_f h1 ?_
    rw [if_pos rfl]
    refine s_refuse2 (s_in_f (lo' := 0) (hi' := 10) (by decide) (by decide) h1 ?_)
    rw [if_pos rfl]
    exact s_bad z1
/-! rallies -/
def rlS (T : Nat → Int32) (mb : Nat) (k f : Int32) (b : Nat) : Int32 := T (18 + b) + ctS k f (T (26 + b)) (nI (mb / 2 ^ b % 2)) (T (7 + b))
def rlX (x : Int64) : Int64 := (x * 1103515245 + 12345) - (x * 1103515245 + 12345) / 2147483648 * 2147483648
def rlK (x : Int64) : Int32 := (x / 65536 - x / 65536 / 6 * 6).toInt32
def rlF (x : Int64) : Int32 := (x / 1048576 - x / 1048576 / 10 * 10).toInt32
def raS (T : Nat → Int32) (mb n : Nat) (x : Int64) : Nat → Int64 × Int32
  | 0 => (x, 0)
  | i + 1 => (rlX (raS T mb n x i).1, (raS T mb n x i).2 + sm (rlS T mb (rlK (rlX (raS T mb n x i).1)) (rlF (rlX (raS T mb n x i).1))) 0 n)
theorem c_all (H : TI T n nf np nu h mb kN fN yN tN nN wN) (C : CR T n nf np nu mb kd fg he se cr sz ya tr no wo mu fs fe ps pr us pa) {k f : Int32} {Q : Int32 → Prop} (hq : Q (sm (rlS T mb k f) 0 n)) : p_X5_secondsOfAll ya tr no mu sz k f Q := by
  have h8 := H.n8
  unfold p_X5_secondsOfAll
  rw [C.esz]
  refine lq2_for (fun i => sm (rlS T mb k f) 0 i) (fun i => nI i) n ?_ ?_ 1000 0 (Nat.zero_le _) (by omega)
  · intro i hi k2 hk
    unfold bX5_secondsOfAll_6
    have hi8 : vp_in (nI i) 8 := vp_in_nI (by omega) (by decide)
    rw [if_neg (nI_ge hi (by omega)), nI_clamp (show i < 2 ^ 31 by omega), nI_1, (C.2.1 i hi).1, (C.2.1 i hi).2.2.1, (C.2.1 i hi).2.2.2.2]
    refine c_holds H C hi ⟨hi8, hi8, s_X2_paceOf ⟨hi8, s_X2_costOf ?_⟩⟩
    have e : sm (rlS T mb k f) 0 (i + 1) = sm (rlS T mb k f) 0 i + rlS T mb k f i := by show sm (rlS T mb k f) 0 i + rlS T mb k f (0 + i) = _; rw [Nat.zero_add]
    rw [e] at hk
    exact hk
  · intro k2
    unfold bX5_secondsOfAll_6
    rw [if_pos (Int32.le_refl _)]
    exact hq
theorem m_all (H : TI T n nf np nu h mb kN fN yN tN nN wN) {w : Nat → Int32} (hw : ∀ j, j < 42 → j ≠ 4 → j ≠ 5 → j ≠ 6 → j ≠ 15 → j ≠ 16 → w j = T j) {k f : Int32} {Q : Int32 → (Nat → Int32) → Prop} (hq : ∀ w', (∀ j, j < 42 → j ≠ 4 → j ≠ 5 → j ≠ 6 → j ≠ 15 → j ≠ 16 → w' j = T j) → Q (sm (rlS T mb k f) 0 n) w') : p_X9_goDrive 42 (upd (upd (upd w 15 k) 16 f) 4 0) (nI n) Q := by
  have h8 := H.n8
  have lo : ∀ j, j < 42 → j ≠ 4 → j ≠ 5 → j ≠ 6 → j ≠ 15 → j ≠ 16 → upd (upd (upd w 15 k) 16 f) 4 0 j = T j := fun j h1 h2 h3 h4 h5 h6 => by rw [pk_un h2, pk_un h6, pk_un h5]; exact hw j h1 h2 h3 h4 h5 h6
  refine m_goDrive (mb := mb) (h := 0) (tN := tN) (by decide) (by decide) (by rw [lo _ (by decide) (by decide) (by decide) (by decide) (by decide) (by decide)]; exact H.e17) H.mb8 (by rw [pk_us]; rfl) (by omega) (by
    intro b hb
    rw [lo _ (by omega) (by omega) (by omega) (by omega) (by omega) (by omega)]
    exact ⟨H.t (by omega), H.t1 (by omega), H.t6 (by omega)⟩) ?_
  rw [sm_congr (g := rlS T mb k f) n]
  · refine hq _ (fun j h1 h2 h3 h4 h5 h6 => ?_)
    unfold gdT
    rw [if_neg h2, if_neg h4, if_neg h3]
    exact lo j h1 h2 h3 h4 h5 h6
  · intro i hi
    unfold lfS rlS cS
    rw [lo (18 + (0 + i)) (by omega) (by omega) (by omega) (by omega) (by omega) (by omega), lo (26 + (0 + i)) (by omega) (by omega) (by omega) (by omega) (by omega) (by omega), lo (7 + (0 + i)) (by omega) (by omega) (by omega) (by omega) (by omega) (by omega), pk_un (show (15 : Nat) ≠ 4 by decide), pk_un (show (15 : Nat) ≠ 16 by decide), pk_us, pk_un (show (16 : Nat) ≠ 4 by decide), pk_us]
theorem q_rallies (H : TI T n nf np nu h mb kN fN yN tN nN wN) (C : CR T n nf np nu mb kd fg he se cr sz ya tr no wo mu fs fe ps pr us pa) (x1 x2 : Int32) {hd : Nat → Int32} {Z : Int32 → (Nat → Int32) → Int32 → (Nat → Int32) → (Nat → Int32) → Prop} (z1 : Z (-2) (rj 0 rf) (-2) (rj 0 rf') hd) (z2 : ∀ r w, Z r rf r rf' w) : p_X8_rallies ya tr no mu sz rf x1 x2 (fun r u => p_X9_rallies T rf' hd x1 x2 (fun r' v2 v3 => Z r u r' v2 v3)) := by
  have h8 := H.n8
  unfold p_X8_rallies p_X9_rallies
  by_cases h1 : 0 ≤ x1 ∧ x1 ≤ 999999
  · refine s_within_t h1 ?_
    rw [if_neg (by decide)]
    by_cases h2 : 0 ≤ x2 ∧ x2 ≤ 60
    · refine s_within_t h2 ?_
      rw [if_neg (by decide)]
      obtain ⟨m, -, hm, rfl⟩ := rgN (x := x2) 0 60 (by decide) h2
      unfold p_X5_secondsOfRallies
      refine lq3_for (fun i => (raS T mb n x1.toInt64 i).1) (fun i => (raS T mb n x1.toInt64 i).2) (fun i => nI i) m ?_ ?_ 1000 0 (Nat.zero_le _) (by omega)
      · intro i hi k hk
        unfold bX5_secondsOfRallies_10
        rw [if_neg (nI_ge hi (by omega)), nI_1]
        exact c_all H C hk
      · intro k
        unfold bX5_secondsOfRallies_10
        rw [if_pos (Int32.le_refl _)]
        refine s_in_t (lo' := 0) (hi' := 999999) (by decide) (by decide) h1 ?_
        rw [if_neg (by decide)]
        refine s_in_t (lo' := 0) (hi' := 60) (by decide) (by decide) h2 ?_
        rw [if_neg (by decide)]
        refine lq2_inv (fun i w v => (∀ j, j < i → w j = T j) ∧ v = nI i) 42 ?_ ?_ 1000 0 hd 0 ⟨fun j hj => by omega, rfl⟩ (by omega) (by omega)
        · intro i hi w v hI k hk
          obtain ⟨g1, rfl⟩ := hI
          unfold bX9_rallies_40
          rw [if_neg (show ¬ (42 : Int32) ≤ nI i from nI_ge (b := 42) hi (by decide)), nI_clamp (show i < 2 ^ 31 by omega), nI_1]
          refine ⟨vp_in_nI (by omega) (by decide), vp_in_nI hi (by decide), hk _ _ ⟨fun j hj => ?_, rfl⟩⟩
          rw [upd_at]
          by_cases q : j = i
          · rw [if_pos q, q]
          · rw [if_neg q]; exact g1 j (by omega)
        · intro w v hI k
          obtain ⟨g1, rfl⟩ := hI
          unfold bX9_rallies_40
          rw [if_pos (show (42 : Int32) ≤ nI 42 by decide)]
          unfold jX9_rallies_67
          refine lq4_inv (fun i w x s v => (∀ j, j < 42 → j ≠ 4 → j ≠ 5 → j ≠ 6 → j ≠ 15 → j ≠ 16 → w j = T j) ∧ x = (raS T mb n x1.toInt64 i).1 ∧ s = (raS T mb n x1.toInt64 i).2 ∧ v = nI i) m ?_ ?_ 1000 0 w _ 0 0 ⟨fun j hj _ _ _ _ _ => g1 j hj, rfl, rfl, rfl⟩ (by omega) (by omega)
          · intro i hi w x s v hI k hk
            obtain ⟨g2, rfl, rfl, rfl⟩ := hI
            unfold bX9_rallies_70
            rw [if_neg (nI_ge hi (by omega)), nI_1]
            refine s_many H.e0 (m_all H g2 (fun w' g3 => hk _ _ _ _ ⟨g3, rfl, rfl, rfl⟩))
          · intro w x s v hI k
            obtain ⟨g2, rfl, rfl, rfl⟩ := hI
            unfold bX9_rallies_70
            rw [if_pos (Int32.le_refl _)]
            exact z2 _ _
    · refine s_within_f h2 ?_
      rw [if_pos rfl]
      refine s_refuse2 (s_in_t (lo' := 0) (hi' := 999999) (by decide) (by decide) h1 ?_)
      rw [if_neg (by decide)]
      refine s_in_f (lo' := 0) (hi' := 60) (by decide) (by decide) h2 ?_
      rw [if_pos rfl]
      exact s_bad z1
  · refine s_within_f h1 ?_
    rw [if_pos rfl]
    refine s_refuse2 (s_in_f (lo' := 0) (hi' := 999999) (by decide) (by decide) h1 ?_)
    rw [if_pos rfl]
    exact s_bad z1
end PV2
