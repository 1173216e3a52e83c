/-! which notes to read -/
theorem xorY : ∀ Y, Y < 256 → (nI Y ^^^ (-1)) = nI (4294967040 + (255 ^^^ Y)) := by decide +kernel
theorem xorB : ∀ Y, Y < 256 → ∀ b, b < 8 → (4294967040 + (255 ^^^ Y)) / 2 ^ b % 2 = 1 - Y / 2 ^ b % 2 := by decide +kernel
theorem subB {s Y : Nat} (hs : s < 256) (hY : Y < 256) : (nI s &&& (nI Y ^^^ (-1))) = 0 ↔ ∀ b, b < 8 → s / 2 ^ b % 2 = 1 → Y / 2 ^ b % 2 = 1 := by
  have l : s &&& (4294967040 + (255 ^^^ Y)) ≤ s := Nat.and_le_left
  rw [xorY Y hY, fa_and]
  have e : nI (s &&& (4294967040 + (255 ^^^ Y))) = 0 ↔ s &&& (4294967040 + (255 ^^^ Y)) = 0 := nI_eq (b := 0) (by omega) (by decide)
  rw [e]
  constructor
  · intro h b hb h1
    have t := Nat.testBit_and s (4294967040 + (255 ^^^ Y)) b
    rw [h, Nat.zero_testBit, Nat.testBit_eq_decide_div_mod_eq, Nat.testBit_eq_decide_div_mod_eq, h1, xorB Y hY b hb] at t
    have h2 := Nat.mod_lt (Y / 2 ^ b) (show 2 > 0 by decide)
    rcases (show Y / 2 ^ b % 2 = 0 ∨ Y / 2 ^ b % 2 = 1 by omega) with g | g
    · rw [g] at t; exact absurd t (by decide)
    · exact g
  · intro h
    apply Nat.eq_of_testBit_eq
    intro b
    rw [Nat.testBit_and, Nat.zero_testBit]
    by_cases hb : b < 8
    · rw [Nat.testBit_eq_decide_div_mod_eq, Nat.testBit_eq_decide_div_mod_eq, xorB Y hY b hb]
      have h2 := Nat.mod_lt (s / 2 ^ b) (show 2 > 0 by decide)
      rcases (show s / 2 ^ b % 2 = 0 ∨ s / 2 ^ b % 2 = 1 by omega) with g | g
      · rw [g]; rfl
      · rw [h b hb g]
        exact Bool.and_false _
    · rw [Nat.testBit_lt_two_pow (Nat.lt_of_lt_of_le hs (Nat.pow_le_pow_right (by decide) (show 8 ≤ b by omega) : 2 ^ 8 ≤ 2 ^ b))]
      rfl
theorem wsum8 : ∀ s, s < 256 → s = ssum (fun b => s / 2 ^ b % 2 * 2 ^ b) 8 := by decide +kernel
theorem ssum_mono {f g : Nat → Nat} : ∀ n, (∀ b, b < n → f b ≤ g b) → ssum f n ≤ ssum g n
  | 0, _ => Nat.le_refl _
  | n + 1, h => by
    have := ssum_mono n (fun b hb => h b (by omega))
    have := h n (by omega)
    show ssum f n + f n ≤ ssum g n + g n
    omega
theorem sub_le {s Y : Nat} (hs : s < 256) (hY : Y < 256) (h : ∀ b, b < 8 → s / 2 ^ b % 2 = 1 → Y / 2 ^ b % 2 = 1) : s ≤ Y := by
  rw [wsum8 s hs, wsum8 Y hY]
  refine ssum_mono 8 (fun b hb => ?_)
  have h2 := Nat.mod_lt (s / 2 ^ b) (show 2 > 0 by decide)
  rcases (show s / 2 ^ b % 2 = 0 ∨ s / 2 ^ b % 2 = 1 by omega) with g | g
  · rw [g, Nat.zero_mul]; exact Nat.zero_le _
  · rw [g, h b hb g]; exact Nat.le_refl _
def rdY (yN : Nat → Nat) (h j : Nat) : Nat := ssum (fun i => yN (h + i)) j
def rdW (wN : Nat → Nat) (h s j : Nat) : Nat := ssum (fun i => s / 2 ^ (h + i) % 2 * wN (h + i)) j
abbrev okP (yN wN nN : Nat → Nat) (h x s i : Nat) : Prop := s / 2 ^ (h + i) % 2 = 1 → (nN (h + i) ≠ 0 ∧ rdW wN h s (i + 1) ≤ x * rdY yN h (i + 1))
abbrev feP (yN wN nN : Nat → Nat) (h n x s : Nat) : Prop := s % 2 ^ h = 0 ∧ ∀ i, i < n - h → okP yN wN nN h x s i
abbrev brP (yN wN : Nat → Nat) (h n x s : Nat) : Prop := ∀ i, i < n - h → (s / 2 ^ (h + i) % 2 = 1 → rdW wN h s (i + 1) ≤ x * rdY yN h (i + 1))
def csN (c0 cn : Nat → Nat) (h s j : Nat) : Nat := ssum (fun i => if s / 2 ^ (h + i) % 2 = 0 then c0 (h + i) else cn (h + i)) j
def bsN (c0 : Nat → Nat) (h j : Nat) : Nat := ssum (fun i => c0 (h + i)) j
def yaN (nN : Nat → Nat) (h : Nat) : Nat → Nat
  | 0 => 0
  | j + 1 => if nN (h + j) = 0 then yaN nN h j else yaN nN h j ||| 2 ^ (h + j)
theorem yaN_lt {nN : Nat → Nat} {h : Nat} : ∀ j, h + j ≤ 8 → yaN nN h j < 256
  | 0, _ => by show 0 < 256; decide
  | j + 1, hj => by
    have := yaN_lt (nN := nN) (h := h) j (by omega)
    unfold yaN
    split
    · exact this
    · exact or256 _ this _ (by omega)
theorem yaN_bit {nN : Nat → Nat} {h : Nat} : ∀ j, h + j ≤ 8 → ∀ b, b < 8 → (yaN nN h j / 2 ^ b % 2 = 1 ↔ h ≤ b ∧ b < h + j ∧ nN b ≠ 0)
  | 0, _, b, _ => by
    show 0 / 2 ^ b % 2 = 1 ↔ _
    rw [Nat.zero_div]
    exact ⟨fun q => absurd q (by decide), fun q => by omega⟩
  | j + 1, hj, b, hb => by
    have ih := yaN_bit (nN := nN) (h := h) j (by omega) b hb
    unfold yaN
    by_cases g : nN (h + j) = 0
    · rw [if_pos g, ih]
      constructor
      · intro q; exact ⟨q.1, by omega, q.2.2⟩
      · intro q
        refine ⟨q.1, ?_, q.2.2⟩
        by_cases e : b = h + j
        · rw [e] at q; exact absurd g q.2.2
        · omega
    · rw [if_neg g, mudOb _ (yaN_lt j (by omega)) (h + j) (by omega) b hb]
      by_cases e : b = h + j
      · rw [if_pos e, e]; exact ⟨fun _ => ⟨by omega, by omega, g⟩, fun _ => rfl⟩
      · rw [if_neg e, ih]
        constructor
        · intro q; exact ⟨q.1, by omega, q.2.2⟩
        · intro q; exact ⟨q.1, by omega, q.2.2⟩
/-- best and least after the first s sets -/
def rrS (F : Nat → Prop) [DecidablePred F] (c : Nat → Nat) : Nat → Nat × Nat
  | 0 => (0, 1000000)
  | s + 1 => if F s ∧ c s < (rrS F c s).2 then (s, c s) else rrS F c s
theorem rrS_s (F : Nat → Prop) [DecidablePred F] (c : Nat → Nat) (s : Nat) : rrS F c (s + 1) = if F s ∧ c s < (rrS F c s).2 then (s, c s) else rrS F c s := rfl
theorem rrS_le {F : Nat → Prop} [DecidablePred F] {c : Nat → Nat} : ∀ s, (rrS F c s).2 ≤ 1000000
  | 0 => Nat.le_refl _
  | s + 1 => by
    have := rrS_le (F := F) (c := c) s
    rw [rrS_s]
    split
    · next q => have := q.2; show c s ≤ _; omega
    · exact this
theorem rrS_1 {F : Nat → Prop} [DecidablePred F] {c : Nat → Nat} (h0 : F 0) (hc : c 0 ≤ 480) : rrS F c 1 = (0, c 0) := by
  rw [rrS_s, if_pos ⟨h0, by show c 0 < 1000000; omega⟩]
theorem rrS_cs {F : Nat → Prop} [DecidablePred F] {c : Nat → Nat} (h0 : F 0) (hc : c 0 ≤ 480) : ∀ s, (rrS F c (s + 1)).2 = c (rrS F c (s + 1)).1 ∧ (rrS F c (s + 1)).1 ≤ s ∧ (rrS F c (s + 1)).2 ≤ 480
  | 0 => by rw [rrS_1 h0 hc]; exact ⟨rfl, Nat.le_refl _, hc⟩
  | s + 1 => by
    obtain ⟨a, b, d⟩ := rrS_cs (F := F) (c := c) h0 hc s
    rw [rrS_s]
    split
    · next q => exact ⟨rfl, Nat.le_refl _, by have := q.2; show c (s + 1) ≤ 480; omega⟩
    · exact ⟨a, by omega, d⟩
theorem rrS_idle {F : Nat → Prop} [DecidablePred F] {c : Nat → Nat} {s : Nat} : ∀ d, (∀ i, i < d → ¬ F (s + i)) → rrS F c (s + d) = rrS F c s
  | 0, _ => rfl
  | d + 1, h => by
    rw [show s + (d + 1) = (s + d) + 1 from rfl, rrS_s, if_neg (fun q => h d (by omega) q.1)]
    exact rrS_idle d (fun i hi => h i (by omega))
theorem sub4 (a b c d : Int32) : (a - b) + (c - d) = (a + c) - (b + d) := by
  apply Int32.toBitVec_inj.1
  simp only [Int32.toBitVec_sub, Int32.toBitVec_add, BitVec.sub_eq_add_neg, BitVec.neg_add]
  ac_rfl
theorem subc {a b c : Nat} (ha : a ≤ 100000) (hb : b ≤ 100000) (hc : c ≤ 100000) : nI a - nI b = nI (a + c) - nI (b + c) := by
  rw [fa_eq, pk_sub_toInt (by omega) (by omega), pk_sub_toInt (by omega) (by omega)]
  omega
theorem sub_cmp {x a b : Nat} (hx : x ≤ 100000) (ha : a ≤ 100000) (hb : b ≤ 100000) : nI x - nI a ≤ nI x - nI b ↔ b ≤ a := by
  rw [fa_le, pk_sub_toInt (by omega) (by omega), pk_sub_toInt (by omega) (by omega)]
  omega
section PR
variable {T : Nat → Int32} {n nf np nu h mb kN fN : Nat} {yN tN nN wN : Nat → Nat}
variable {kd fg he se cr sz : Int32} {ya tr no wo mu : Nat → Int32} {fs : Int32} {fe : Nat → Int32} {ps : Int32} {pr : Nat → Int32} {us : Int32} {pa : Nat → Int32} {rf rf' : Nat → Int32}
/-- the cost at a bend without its note, and by it -/
def c0N (T : Nat → Int32) (mb b : Nat) : Nat := ccN T mb b 0
def c1N (T : Nat → Int32) (mb : Nat) (nN : Nat → Nat) (b : Nat) : Nat := ccN T mb b (nI (nN b))
theorem TI.c0 (H : TI T n nf np nu h mb kN fN yN tN nN wN) {b : Nat} (hb : b < n) : cS T mb b 0 = nI (c0N T mb b) ∧ c0N T mb b ≤ 60 := H.cN (x := 0) hb (by omega)
theorem TI.c1 (H : TI T n nf np nu h mb kN fN yN tN nN wN) {b : Nat} (hb : b < n) : cS T mb b (T (7 + b)) = nI (c1N T mb nN b) ∧ c1N T mb nN b ≤ 60 := by
  rw [H.no hb]; exact H.cN hb (H.no6 hb)
theorem csN_le (H : TI T n nf np nu h mb kN fN yN tN nN wN) (s : Nat) {j : Nat} (hj : h + j ≤ n) : csN (c0N T mb) (c1N T mb nN) h s j ≤ 480 := by
  have h8 := H.n8
  have := ssum_le (f := fun i => if s / 2 ^ (h + i) % 2 = 0 then c0N T mb (h + i) else c1N T mb nN (h + i)) (m := 60) j (fun i hi => by
    show (if s / 2 ^ (h + i) % 2 = 0 then c0N T mb (h + i) else c1N T mb nN (h + i)) ≤ 60
    split
    · exact (H.c0 (by omega)).2
    · exact (H.c1 (by omega)).2)
  unfold csN
  omega
theorem bsN_le (H : TI T n nf np nu h mb kN fN yN tN nN wN) {j : Nat} (hj : h + j ≤ n) : bsN (c0N T mb) h j ≤ 480 := by
  have h8 := H.n8
  have := ssum_le (f := fun i => c0N T mb (h + i)) (m := 60) j (fun i hi => (H.c0 (by omega)).2)
  unfold bsN
  omega
theorem cs0 (c0 cn : Nat → Nat) (h j : Nat) : csN c0 cn h 0 j = bsN c0 h j := by
  unfold csN bsN
  refine ssum_congr j (fun i _ => ?_)
  show (if 0 / 2 ^ (h + i) % 2 = 0 then c0 (h + i) else cn (h + i)) = c0 (h + i)
  rw [Nat.zero_div, if_pos (show 0 % 2 = 0 from rfl)]
theorem rdY_le (H : TI T n nf np nu h mb kN fN yN tN nN wN) {j : Nat} (hj : h + j ≤ n) : rdY yN h j ≤ 72 := by
  have h8 := H.n8
  have := ssum_le (f := fun i => yN (h + i)) (m := 9) j (fun i hi => (H.2.2.1 (h + i) (by omega)).1.2)
  unfold rdY
  omega
theorem rdW_le (H : TI T n nf np nu h mb kN fN yN tN nN wN) (s : Nat) {j : Nat} (hj : h + j ≤ n) : rdW wN h s j ≤ 72 := by
  have h8 := H.n8
  have := ssum_le (f := fun i => s / 2 ^ (h + i) % 2 * wN (h + i)) (m := 9) j (fun i hi => by
    have h1 := Nat.mod_lt (s / 2 ^ (h + i)) (show 2 > 0 by decide)
    have h2 := (H.2.2.1 (h + i) (by omega)).2.2.2.1.2
    show s / 2 ^ (h + i) % 2 * wN (h + i) ≤ 9
    rcases (show s / 2 ^ (h + i) % 2 = 0 ∨ s / 2 ^ (h + i) % 2 = 1 by omega) with g | g <;> rw [g] <;> omega)
  unfold rdW
  omega
theorem c_costSay (H : TI T n nf np nu h mb kN fN yN tN nN wN) (C : CR T n nf np nu mb kd fg he se cr sz ya tr no wo mu fs fe ps pr us pa) {s : Nat} (hs : s < 256) {Q : Int32 → Prop} (hq : Q (nI (csN (c0N T mb) (c1N T mb nN) h s (n - h)))) : p_X5_costSaying tr no mu sz kd fg he (nI s) Q := by
  have h8 := H.n8
  have hn := H.hn
  unfold p_X5_costSaying
  rw [C.esz, C.ehe H]
  refine lq2_for (fun i => nI (csN (c0N T mb) (c1N T mb nN) h s i)) (fun i => nI (h + i)) (n - h) ?_ ?_ 1000 0 (Nat.zero_le _) (by omega)
  · intro i hi k hk
    unfold bX5_costSaying_8
    rw [if_neg (nI_ge (show h + i < n by omega) (by omega))]
    refine s_hasBit hs (by omega) ?_
    rw [nI_1]
    have e : csN (c0N T mb) (c1N T mb nN) h s (i + 1) = csN (c0N T mb) (c1N T mb nN) h s i + if s / 2 ^ (h + i) % 2 = 0 then c0N T mb (h + i) else c1N T mb nN (h + i) := rfl
    rw [e] at hk
    rcases Nat.mod_two_eq_zero_or_one (s / 2 ^ (h + i)) with g | g
    · rw [g, if_pos rfl] at hk
      rw [g, if_pos (show nI 0 = 0 from rfl)]
      refine c_cost H C (by omega) ?_
      rw [(H.c0 (by omega)).1, nI_add]; exact hk
    · rw [g, if_neg (by decide)] at hk
      rw [g, if_neg (show ¬ nI 1 = 0 by decide)]
      refine c_costNoted H C (by omega) ?_
      rw [(H.c1 (by omega)).1, nI_add]; exact hk
  · intro k
    unfold bX5_costSaying_8
    rw [if_pos (show nI n ≤ nI (h + (n - h)) from nI_le (by omega) (by omega))]
    exact hq
theorem c_breath (H : TI T n nf np nu h mb kN fN yN tN nN wN) (C : CR T n nf np nu mb kd fg he se cr sz ya tr no wo mu fs fe ps pr us pa) {s x : Nat} (hs : s < 256) (hx : x ≤ 9) {Q : Int32 → Prop} (hq : Q (if brP yN wN h n x s then 1 else 0)) : p_X5_hasBreath ya wo (nI n) (nI h) (nI s) (nI x) Q := by
  have h8 := H.n8
  have hn := H.hn
  have mx : ∀ i, h + i ≤ n → x * rdY yN h i ≤ 9 * 72 := fun i hi => Nat.mul_le_mul hx (rdY_le H hi)
  unfold p_X5_hasBreath
  have st : ∀ i, i < n - h → ∀ k : Int32 → Int32 → Int32 → Prop, (if (s / 2 ^ (h + i) % 2 = 1 → rdW wN h s (i + 1) ≤ x * rdY yN h (i + 1)) then k (nI (rdY yN h (i + 1))) (nI (rdW wN h s (i + 1))) (nI (h + (i + 1))) else Q 0) → bX5_hasBreath_12 ya wo (nI n) (nI s) (nI x) Q k (nI (rdY yN h i)) (nI (rdW wN h s i)) (nI (h + i)) := by
    intro i hi k hk
    have ly := mx (i + 1) (by omega)
    have lw := rdW_le H s (j := i + 1) (by omega)
    unfold bX5_hasBreath_12
    have hi8 : vp_in (nI (h + i)) 8 := vp_in_nI (by omega) (by decide)
    have ey : rdY yN h (i + 1) = rdY yN h i + yN (h + i) := rfl
    have ew : rdW wN h s (i + 1) = rdW wN h s i + s / 2 ^ (h + i) % 2 * wN (h + i) := rfl
    rw [if_neg (nI_ge (show h + i < n by omega) (by omega)), nI_clamp (show h + i < 2 ^ 31 by omega), (C.2.1 (h + i) (by omega)).1, (C.2.1 (h + i) (by omega)).2.2.2.1, H.ya (by omega), H.wo (by omega), nI_add, nI_add, pk_mul, nI_1]
    refine ⟨hi8, s_hasBit hs (by omega) ?_⟩
    rcases Nat.mod_two_eq_zero_or_one (s / 2 ^ (h + i)) with g | g
    · rw [if_pos (fun q => by omega), ew, ey, g, Nat.zero_mul, Nat.add_zero] at hk
      rw [g, if_pos (show nI 0 = 0 from rfl)]
      exact hk
    · rw [g, Nat.one_mul] at ew
      rw [g, if_neg (show ¬ nI 1 = 0 by decide), ← ew, ← ey]
      refine ⟨hi8, ?_⟩
      by_cases q : rdW wN h s (i + 1) ≤ x * rdY yN h (i + 1)
      · rw [if_pos (fun _ => q)] at hk
        rw [if_pos (nI_le q (by omega))]; exact hk
      · rw [if_neg (fun r => q (r g))] at hk
        rw [if_neg (nI_ge (by omega) (by omega))]; exact hk
  rcases firstFail (fun i => s / 2 ^ (h + i) % 2 = 1 → rdW wN h s (i + 1) ≤ x * rdY yN h (i + 1)) (n - h) with a | ⟨c, c1, c2, c3⟩
  · refine lq3_for (fun i => nI (rdY yN h i)) (fun i => nI (rdW wN h s i)) (fun i => nI (h + i)) (n - h) (fun i hi k hk => st i hi k ?_) ?_ 1000 0 (Nat.zero_le _) (by omega)
    · rw [if_pos (a i hi)]; exact hk
    · intro k
      unfold bX5_hasBreath_12
      rw [if_pos (show nI n ≤ nI (h + (n - h)) from nI_le (by omega) (by omega))]
      rw [if_pos a] at hq
      exact hq
  · refine lq3_for (fun i => nI (rdY yN h i)) (fun i => nI (rdW wN h s i)) (fun i => nI (h + i)) c (fun i hi k hk => st i (by omega) k ?_) ?_ 1000 0 (Nat.zero_le _) (by omega)
    · rw [if_pos (c2 i hi)]; exact hk
    · intro k
      refine st c c1 k ?_
      rw [if_neg c3]
      rw [if_neg (fun q => c3 (q c c1))] at hq
      exact hq
theorem c_gain (H : TI T n nf np nu h mb kN fN yN tN nN wN) (C : CR T n nf np nu mb kd fg he se cr sz ya tr no wo mu fs fe ps pr us pa) {s : Nat} (hs : s < 256) {w : Nat → Int32} (hw : ∀ c, h ≤ c → c < n → w c = nI (c0N T mb c) - nI (c1N T mb nN c)) {Q : Int32 → Prop} (hq : Q (nI (bsN (c0N T mb) h (n - h)) - nI (csN (c0N T mb) (c1N T mb nN) h s (n - h)))) : p_X5_gainSaying w (nI n) (nI h) (nI s) Q := by
  have h8 := H.n8
  have hn := H.hn
  unfold p_X5_gainSaying
  have e0 : (0 : Int32) = nI (bsN (c0N T mb) h 0) - nI (csN (c0N T mb) (c1N T mb nN) h s 0) := by
    show (0 : Int32) = nI 0 - nI 0
    decide
  rw [e0]
  refine lq2_for (fun i => nI (bsN (c0N T mb) h i) - nI (csN (c0N T mb) (c1N T mb nN) h s i)) (fun i => nI (h + i)) (n - h) ?_ ?_ 1000 0 (Nat.zero_le _) (by omega)
  · intro i hi k hk
    unfold bX5_gainSaying_8
    rw [if_neg (nI_ge (show h + i < n by omega) (by omega))]
    refine s_hasBit hs (by omega) ?_
    rw [nI_1]
    have e : csN (c0N T mb) (c1N T mb nN) h s (i + 1) = csN (c0N T mb) (c1N T mb nN) h s i + if s / 2 ^ (h + i) % 2 = 0 then c0N T mb (h + i) else c1N T mb nN (h + i) := rfl
    have e2 : bsN (c0N T mb) h (i + 1) = bsN (c0N T mb) h i + c0N T mb (h + i) := rfl
    have l1 := csN_le H s (j := i) (by omega)
    have l2 := bsN_le H (j := i) (by omega)
    have l3 := (H.c0 (b := h + i) (by omega)).2
    rw [e, e2] at hk
    rcases Nat.mod_two_eq_zero_or_one (s / 2 ^ (h + i)) with g | g
    · rw [g, if_pos rfl, ← subc (by omega) (by omega) (by omega)] at hk
      rw [g, if_pos (show nI 0 = 0 from rfl)]
      exact hk
    · rw [g, if_neg (by decide), ← nI_add, ← nI_add, ← sub4] at hk
      rw [g, if_neg (show ¬ nI 1 = 0 by decide), nI_clamp (show h + i < 2 ^ 31 by omega), hw (h + i) (by omega) (by omega)]
      exact ⟨vp_in_nI (by omega) (by decide), hk⟩
  · intro k
    unfold bX5_gainSaying_8
    rw [if_pos (show nI n ≤ nI (h + (n - h)) from nI_le (by omega) (by omega))]
    exact hq
/-- the answer, best and least -/
def rdA (T : Nat → Int32) (mb : Nat) (yN wN nN : Nat → Nat) (h n x s : Nat) : Nat × Nat := rrS (feP yN wN nN h n x) (fun s => csN (c0N T mb) (c1N T mb nN) h s (n - h)) s
theorem fe0 {x : Nat} : feP yN wN nN h n x 0 := by
  refine ⟨Nat.zero_mod _, fun i _ q => ?_⟩
  rw [Nat.zero_div] at q
  exact absurd q (by decide)
theorem c_said (H : TI T n nf np nu h mb kN fN yN tN nN wN) (C : CR T n nf np nu mb kd fg he se cr sz ya tr no wo mu fs fe ps pr us pa) {x : Nat} (hx : x ≤ 9) {ga : Nat → Int32} {Q : Int32 → (Nat → Int32) → Prop} (hq : ∀ w, Q (nI (rdA T mb yN wN nN h n x (yaN nN h (n - h) + 1)).1) w) : p_X5_bestSaid ga ya tr no wo mu sz kd fg he (nI x) Q := by
  have h8 := H.n8
  have hn := H.hn
  unfold p_X5_bestSaid
  rw [C.esz, C.ehe H]
  refine lq3_inv (fun j w y v => (∀ c, h ≤ c → c < h + j → w c = nI (c0N T mb c) - nI (c1N T mb nN c)) ∧ y = nI (yaN nN h j) ∧ v = nI (h + j)) (n - h) ?_ ?_ 1000 0 ga 0 (nI h) ⟨fun c h1 h2 => by omega, rfl, rfl⟩ (by omega) (by omega)
  · intro j hj w y v hI k hk
    obtain ⟨g1, rfl, rfl⟩ := hI
    have h6 := H.no6 (b := h + j) (by omega)
    unfold bX5_bestSaid_8
    have hi8 : vp_in (nI (h + j)) 8 := vp_in_nI (by omega) (by decide)
    rw [if_neg (nI_ge (show h + j < n by omega) (by omega))]
    refine c_cost H C (by omega) (c_costNoted H C (by omega) ⟨hi8, hi8, ?_⟩)
    rw [nI_clamp (show h + j < 2 ^ 31 by omega), nI_1, (C.2.1 (h + j) (by omega)).2.2.1, (H.c0 (b := h + j) (by omega)).1, (H.c1 (b := h + j) (by omega)).1, H.no (b := h + j) (by omega)]
    have g2 : ∀ c, h ≤ c → c < h + (j + 1) → upd w (h + j) (nI (c0N T mb (h + j)) - nI (c1N T mb nN (h + j))) c = nI (c0N T mb c) - nI (c1N T mb nN c) := by
      intro c a1 a2
      rw [upd_at]
      by_cases q : c = h + j
      · rw [if_pos q, q]
      · rw [if_neg q]; exact g1 c a1 (by omega)
    have e : yaN nN h (j + 1) = if nN (h + j) = 0 then yaN nN h j else yaN nN h j ||| 2 ^ (h + j) := rfl
    by_cases g : nN (h + j) = 0
    · rw [if_pos (show nI (nN (h + j)) = 0 by rw [g]; rfl)]
      exact hk _ _ _ ⟨g2, by rw [e, if_pos g], rfl⟩
    · rw [if_neg (show ¬ nI (nN (h + j)) = 0 from nI_ne0 (by omega) (by omega)), mudO _ (yaN_lt j (by omega)) (h + j) (by omega)]
      exact hk _ _ _ ⟨g2, by rw [e, if_neg g], rfl⟩
  · intro w y v hI k
    obtain ⟨g1, rfl, rfl⟩ := hI
    have hY : yaN nN h (n - h) < 256 := yaN_lt _ (by omega)
    have yb := yaN_bit (nN := nN) (h := h) (n - h) (by omega)
    unfold bX5_bestSaid_8
    rw [if_pos (show nI n ≤ nI (h + (n - h)) from nI_le (by omega) (by omega))]
    unfold jX5_bestSaid_67
    have lb := bsN_le H (j := n - h) (by omega)
    have hc0 : csN (c0N T mb) (c1N T mb nN) h 0 (n - h) ≤ 480 := csN_le H 0 (by omega)
    have rr := rrS_cs (F := feP yN wN nN h n x) (c := fun s => csN (c0N T mb) (c1N T mb nN) h s (n - h)) fe0 hc0
    refine lq3_inv (fun s b m v => 1 ≤ s ∧ b = nI (rdA T mb yN wN nN h n x s).1 ∧ m = nI (bsN (c0N T mb) h (n - h)) - nI (rdA T mb yN wN nN h n x s).2 ∧ v = nI s) (yaN nN h (n - h) + 1) ?_ ?_ 1000 1 0 0 1 ⟨Nat.le_refl _, ?_, ?_, rfl⟩ (by omega) (by omega)
    · intro s hs b m v hI k2 hk2
      obtain ⟨s1, rfl, rfl, rfl⟩ := hI
      have ls := csN_le H s (j := n - h) (by omega)
      have lr : (rdA T mb yN wN nN h n x s).2 ≤ 480 := by
        have := (rr (s - 1)).2.2
        rw [show s - 1 + 1 = s by omega] at this
        exact this
      have es : rdA T mb yN wN nN h n x (s + 1) = if feP yN wN nN h n x s ∧ csN (c0N T mb) (c1N T mb nN) h s (n - h) < (rdA T mb yN wN nN h n x s).2 then (s, csN (c0N T mb) (c1N T mb nN) h s (n - h)) else rdA T mb yN wN nN h n x s := rfl
      have keep : ¬ (feP yN wN nN h n x s ∧ csN (c0N T mb) (c1N T mb nN) h s (n - h) < (rdA T mb yN wN nN h n x s).2) → k2 (nI (rdA T mb yN wN nN h n x s).1) (nI (bsN (c0N T mb) h (n - h)) - nI (rdA T mb yN wN nN h n x s).2) (nI (s + 1)) := fun q => hk2 _ _ _ ⟨by omega, by rw [es, if_neg q], by rw [es, if_neg q], rfl⟩
      unfold bX5_bestSaid_76
      rw [if_neg (fun q => (fa_of_lt q).2.1 (nI_le (show s ≤ yaN nN h (n - h) by omega) (by omega))), nI_1]
      by_cases g : ∀ b, b < 8 → s / 2 ^ b % 2 = 1 → yaN nN h (n - h) / 2 ^ b % 2 = 1
      · rw [if_pos ((subB (by omega) hY).mpr g)]
        refine c_gain H C (show s < 256 by omega) (fun c a1 a2 => g1 c a1 (by omega)) ?_
        have fb : feP yN wN nN h n x s ↔ brP yN wN h n x s := by
          constructor
          · intro q i hi q1; exact (q.2 i hi q1).2
          · intro q
            refine ⟨(aheadB s (by omega) h (by omega)).mpr (fun b hb e => ((yb b hb).mp (g b hb e)).1), fun i hi q1 => ⟨?_, q i hi q1⟩⟩
            exact ((yb (h + i) (by omega)).mp (g (h + i) (by omega) q1)).2.2
        by_cases g3 : (rdA T mb yN wN nN h n x s).2 ≤ csN (c0N T mb) (c1N T mb nN) h s (n - h)
        · rw [if_pos ((sub_cmp (by omega) (by omega) (by omega)).mpr g3)]
          exact keep (fun q => by have := q.2; omega)
        · rw [if_neg (fun q => g3 ((sub_cmp (by omega) (by omega) (by omega)).mp q))]
          refine c_breath H C (show s < 256 by omega) hx ?_
          by_cases g4 : brP yN wN h n x s
          · rw [if_pos g4, if_neg (show ¬ (1 : Int32) = 0 by decide)]
            refine hk2 _ _ _ ⟨by omega, ?_, ?_, rfl⟩
            · rw [es, if_pos ⟨fb.mpr g4, by omega⟩]
            · rw [es, if_pos ⟨fb.mpr g4, by omega⟩]
          · rw [if_neg g4, if_pos rfl]
            exact keep (fun q => g4 (fb.mp q.1))
      · rw [if_neg (fun q => g ((subB (by omega) hY).mp q))]
        refine keep (fun q => g (fun b hb e => ?_))
        have b1 := (aheadB s (by omega) h (by omega)).mp q.1.1 b hb e
        have hYn : yaN nN h (n - h) < 2 ^ n := (ltB _ hY n (by omega)).mpr (fun c hc e => by have := ((yb c hc).mp e).2.1; omega)
        have b2 := (ltB s (by omega) n (by omega)).mp (by omega) b hb e
        have b3 := (q.1.2 (b - h) (by omega) (by rw [show h + (b - h) = b by omega]; exact e)).1
        rw [show h + (b - h) = b by omega] at b3
        exact (yb b hb).mpr ⟨b1, by omega, b3⟩
    · intro b m v hI k2
      obtain ⟨s1, rfl, rfl, rfl⟩ := hI
      unfold bX5_bestSaid_76
      rw [if_pos (nI_lt (show yaN nN h (n - h) < yaN nN h (n - h) + 1 by omega) (by omega))]
      exact hq _
    · unfold rdA
      rw [rrS_1 fe0 hc0]; rfl
    · unfold rdA
      rw [rrS_1 fe0 hc0]
      show (0 : Int32) = nI (bsN (c0N T mb) h (n - h)) - nI (csN (c0N T mb) (c1N T mb nN) h 0 (n - h))
      rw [cs0, Int32.sub_self]
theorem m_canRead (H : TI T n nf np nu h mb kN fN yN tN nN wN) {s x : Nat} (hs : s < 256) (hx : x ≤ 9) {Q : Int32 → Prop} (hq : Q (if feP yN wN nN h n x s then 1 else 0)) : p_X9_canRead T (nI s) (nI x) Q := by
  have h8 := H.n8
  have hn := H.hn
  have mx : ∀ i, h + i ≤ n → x * rdY yN h i ≤ 9 * 72 := fun i hi => Nat.mul_le_mul hx (rdY_le H hi)
  have lp : ∀ r : Int32, r = (if s % 2 ^ h = 0 then 1 else 0) → lq4 (bX9_canRead_20 T (nI s) (nI x) Q) 1000 r 0 0 (nI h) := by
    intro r hr
    refine lq4_inv (fun j c w y v => c = (if s % 2 ^ h = 0 ∧ ∀ i, i < j → okP yN wN nN h x s i then 1 else 0) ∧ w = nI (rdW wN h s j) ∧ y = nI (rdY yN h j) ∧ v = nI (h + j)) (n - h) ?_ ?_ 1000 0 r 0 0 (nI h) ⟨?_, rfl, rfl, rfl⟩ (by omega) (by omega)
    · intro j hj c w y v hI k hk
      obtain ⟨rfl, rfl, rfl, rfl⟩ := hI
      have ly := mx (j + 1) (by omega)
      have lw := rdW_le H s (j := j + 1) (by omega)
      have h6 := H.no6 (b := h + j) (by omega)
      unfold bX9_canRead_20
      refine s_many H.e0 ?_
      rw [if_neg (nI_ge (show h + j < n by omega) (by omega)), show (18 : Int32) + nI (h + j) = nI (18 + (h + j)) from nI_add 18 _, show (34 : Int32) + nI (h + j) = nI (34 + (h + j)) from nI_add 34 _, nI_clamp (show 18 + (h + j) < 2 ^ 31 by omega), nI_clamp (show 34 + (h + j) < 2 ^ 31 by omega), H.ya (b := h + j) (by omega), H.wo (b := h + j) (by omega), nI_add]
      refine ⟨vp_in_nI (by omega) (by decide), s_has9 hs (by omega) ?_⟩
      have ey : rdY yN h (j + 1) = rdY yN h j + yN (h + j) := rfl
      have ew : rdW wN h s (j + 1) = rdW wN h s j + s / 2 ^ (h + j) % 2 * wN (h + j) := rfl
      have cc : (if s % 2 ^ h = 0 ∧ ∀ i, i < j + 1 → okP yN wN nN h x s i then (1 : Int32) else 0) = if (if s % 2 ^ h = 0 ∧ ∀ i, i < j → okP yN wN nN h x s i then (1 : Int32) else 0) = 0 then 0 else if okP yN wN nN h x s j then 1 else 0 := by
        by_cases q : s % 2 ^ h = 0 ∧ ∀ i, i < j → okP yN wN nN h x s i
        · rw [if_pos q, if_neg (show ¬ (1 : Int32) = 0 by decide)]
          by_cases q2 : okP yN wN nN h x s j
          · rw [if_pos q2, if_pos]
            refine ⟨q.1, fun i hi => ?_⟩
            by_cases e : i = j
            · subst e; exact q2
            · exact q.2 i (by omega)
          · rw [if_neg q2, if_neg (fun r => q2 (r.2 j (by omega)))]
        · rw [if_neg q, if_pos rfl, if_neg (fun r => q ⟨r.1, fun i hi => r.2 i (by omega)⟩)]
      have fin : ∀ (z : Int32), nI (rdW wN h s j) + z = nI (rdW wN h s (j + 1)) → jX9_canRead_69 T (nI s) (nI x) k (if s % 2 ^ h = 0 ∧ ∀ i, i < j → okP yN wN nN h x s i then 1 else 0) (nI (h + j)) (nI (rdY yN h j + yN (h + j))) (nI (rdW wN h s j)) z := by
        intro z hz
        unfold jX9_canRead_69
        rw [hz, ← ey, nI_1, pk_mul]
        by_cases q : (if s % 2 ^ h = 0 ∧ ∀ i, i < j → okP yN wN nN h x s i then (1 : Int32) else 0) = 0
        · rw [if_pos q]
          exact hk _ _ _ _ ⟨by rw [cc, if_pos q], rfl, rfl, rfl⟩
        · rw [if_neg q]
          refine s_has9 hs (by omega) ?_
          rcases Nat.mod_two_eq_zero_or_one (s / 2 ^ (h + j)) with g | g
          · rw [g, if_pos (show nI 0 = 0 from rfl)]
            exact hk _ _ _ _ ⟨by rw [cc, if_neg q, if_pos (show okP yN wN nN h x s j from fun r => by omega)], rfl, rfl, rfl⟩
          · rw [g, if_neg (show ¬ nI 1 = 0 by decide)]
            refine s_noteOf (by omega) ?_
            rw [H.no (b := h + j) (by omega)]
            by_cases g2 : nN (h + j) = 0
            · rw [if_pos (show nI (nN (h + j)) ≤ 0 by rw [g2]; exact Int32.le_refl _)]
              exact hk _ _ _ _ ⟨by rw [cc, if_neg q, if_neg (show ¬ okP yN wN nN h x s j from fun r => (r g).1 g2)], rfl, rfl, rfl⟩
            · rw [if_neg (show ¬ nI (nN (h + j)) ≤ 0 from nI_ge (a := 0) (b := nN (h + j)) (by omega) (by omega))]
              by_cases g3 : rdW wN h s (j + 1) ≤ x * rdY yN h (j + 1)
              · rw [if_neg (fun q => (fa_of_lt q).2.1 (nI_le g3 (by omega)))]
                exact hk _ _ _ _ ⟨by rw [cc, if_neg q, if_pos (show okP yN wN nN h x s j from fun _ => ⟨g2, g3⟩)], rfl, rfl, rfl⟩
              · rw [if_pos (nI_lt (by omega) (by omega))]
                exact hk _ _ _ _ ⟨by rw [cc, if_neg q, if_neg (show ¬ okP yN wN nN h x s j from fun r => g3 (r g).2)], rfl, rfl, rfl⟩
      rcases Nat.mod_two_eq_zero_or_one (s / 2 ^ (h + j)) with g | g
      · rw [g, if_pos (show nI 0 = 0 from rfl)]
        refine fin 0 ?_
        rw [ew, g, Nat.zero_mul, Nat.add_zero, Int32.add_zero]
      · rw [g, if_neg (show ¬ nI 1 = 0 by decide)]
        refine ⟨vp_in_nI (by omega) (by decide), fin _ ?_⟩
        rw [ew, g, Nat.one_mul, nI_add]
    · intro c w y v hI k
      obtain ⟨rfl, rfl, rfl, rfl⟩ := hI
      unfold bX9_canRead_20
      refine s_many H.e0 ?_
      rw [if_pos (show nI n ≤ nI (h + (n - h)) from nI_le (by omega) (by omega))]
      by_cases q : feP yN wN nN h n x s
      · rw [if_pos q] at hq; rw [if_pos (show s % 2 ^ h = 0 ∧ ∀ i, i < n - h → okP yN wN nN h x s i from q)]; exact ⟨zb1, hq⟩
      · rw [if_neg q] at hq; rw [if_neg (show ¬ (s % 2 ^ h = 0 ∧ ∀ i, i < n - h → okP yN wN nN h x s i) from q)]; exact ⟨zb0, hq⟩
    · rw [hr]
      by_cases q : s % 2 ^ h = 0
      · rw [if_pos q, if_pos ⟨q, fun i hi => by omega⟩]
      · rw [if_neg q, if_neg (fun r => q r.1)]
  unfold p_X9_canRead p_X9_isAhead
  rw [show (4 : Int32).toNatClampNeg = 4 from rfl, H.e4]
  by_cases g : s % 2 ^ h = 0
  · rw [if_pos ((isA s hs h (by omega)).mpr g)]
    exact lp 1 (by rw [if_pos g])
  · rw [if_neg (fun q => g ((isA s hs h (by omega)).mp q))]
    exact lp 0 (by rw [if_neg g])
theorem m_reads (H : TI T n nf np nu h mb kN fN yN tN nN wN) {x : Nat} {x2 : Int32} (hx : x ≤ 9) {Q : Int32 → (Nat → Int32) → Prop} (hq : Q (if x2 = 0 then nI (rdA T mb yN wN nN h n x (2 ^ n)).1 else nI (rdA T mb yN wN nN h n x (2 ^ n)).2) rf') : lq3 (bX9_reads_38 T rf' (nI x) x2 Q) 1000 0 1000000 0 := by
  have h8 := H.n8
  have hn := H.hn
  have p2 : 2 ^ n ≤ 256 := (Nat.pow_le_pow_right (by decide) h8 : 2 ^ n ≤ 2 ^ 8)
  refine lq3_for (fun s => nI (rdA T mb yN wN nN h n x s).1) (fun s => nI (rdA T mb yN wN nN h n x s).2) (fun s => nI s) (2 ^ n) ?_ ?_ 1000 0 (Nat.zero_le _) (by omega)
  · intro s hs k hk
    have ls := csN_le H s (j := n - h) (by omega)
    have lr : (rdA T mb yN wN nN h n x s).2 ≤ 1000000 := rrS_le s
    have es : rdA T mb yN wN nN h n x (s + 1) = if feP yN wN nN h n x s ∧ csN (c0N T mb) (c1N T mb nN) h s (n - h) < (rdA T mb yN wN nN h n x s).2 then (s, csN (c0N T mb) (c1N T mb nN) h s (n - h)) else rdA T mb yN wN nN h n x s := rfl
    unfold bX9_reads_38
    refine s_many H.e0 ?_
    rw [sh1 n (by omega), if_neg (nI_ge hs (by omega))]
    refine m_canRead H (by omega) hx ?_
    have lp : ∀ t : Nat, t ≤ 1000000 → (t + csN (c0N T mb) (c1N T mb nN) h s (n - h) < (rdA T mb yN wN nN h n x s).2 ↔ feP yN wN nN h n x s ∧ csN (c0N T mb) (c1N T mb nN) h s (n - h) < (rdA T mb yN wN nN h n x s).2) → (feP yN wN nN h n x s → t = 0) → jX9_reads_65 T k (nI (rdA T mb yN wN nN h n x s).1) (nI (rdA T mb yN wN nN h n x s).2) (nI s) (nI t) := by
      intro t ht hi h0
      unfold jX9_reads_65
      rw [show (4 : Int32).toNatClampNeg = 4 from rfl, H.e4]
      rw [show lq2 (bX9_reads_75 T k (nI (rdA T mb yN wN nN h n x s).1) (nI (rdA T mb yN wN nN h n x s).2) (nI s)) 1000 (nI t) (nI h) = lq2 (bX9_reads_75 T k (nI (rdA T mb yN wN nN h n x s).1) (nI (rdA T mb yN wN nN h n x s).2) (nI s)) 1000 (nI (t + csN (c0N T mb) (c1N T mb nN) h s 0)) (nI (h + 0)) from rfl]
      refine lq2_for (fun i => nI (t + csN (c0N T mb) (c1N T mb nN) h s i)) (fun i => nI (h + i)) (n - h) ?_ ?_ 1000 0 (Nat.zero_le _) (by omega)
      · intro i hi2 k2 hk2
        unfold bX9_reads_75
        refine s_many H.e0 ?_
        rw [if_neg (nI_ge (show h + i < n by omega) (by omega))]
        refine s_has9 (show s < 256 by omega) (by omega) ?_
        rw [nI_1]
        have e : csN (c0N T mb) (c1N T mb nN) h s (i + 1) = csN (c0N T mb) (c1N T mb nN) h s i + if s / 2 ^ (h + i) % 2 = 0 then c0N T mb (h + i) else c1N T mb nN (h + i) := rfl
        rw [e] at hk2
        rcases Nat.mod_two_eq_zero_or_one (s / 2 ^ (h + i)) with g | g
        · rw [g, if_pos rfl, ← Nat.add_assoc] at hk2
          rw [g, if_pos (show nI 0 = 0 from rfl)]
          refine s_cost H (by omega) ?_
          rw [(H.c0 (b := h + i) (by omega)).1, nI_add]; exact hk2
        · rw [g, if_neg (by decide), ← Nat.add_assoc] at hk2
          rw [g, if_neg (show ¬ nI 1 = 0 by decide)]
          refine s_noteOf (by omega) (s_cost H (by omega) ?_)
          rw [(H.c1 (b := h + i) (by omega)).1, nI_add]; exact hk2
      · intro k2
        unfold bX9_reads_75
        refine s_many H.e0 ?_
        rw [if_pos (show nI n ≤ nI (h + (n - h)) from nI_le (by omega) (by omega))]
        unfold jX9_reads_121 jX9_reads_134
        rw [nI_1]
        by_cases q : t + csN (c0N T mb) (c1N T mb nN) h s (n - h) < (rdA T mb yN wN nN h n x s).2
        · rw [if_neg (nI_ge q (by omega)), if_neg (nI_ge q (by omega))]
          have q2 := hi.mp q
          rw [es, if_pos q2] at hk
          rw [h0 q2.1, Nat.zero_add]
          exact hk
        · rw [if_pos (nI_le (by omega) (by omega)), if_pos (nI_le (by omega) (by omega))]
          rw [es, if_neg (fun r => q (hi.mpr r))] at hk
          exact hk
    by_cases q : feP yN wN nN h n x s
    · rw [if_pos q, if_neg (show ¬ (1 : Int32) = 0 by decide)]
      exact lp 0 (by omega) ⟨fun r => ⟨q, by omega⟩, fun r => by omega⟩ (fun _ => rfl)
    · rw [if_neg q, if_pos rfl]
      exact lp 1000000 (by omega) ⟨fun r => by omega, fun r => absurd r.1 q⟩ (fun r => absurd r q)
  · intro k
    unfold bX9_reads_38
    refine s_many H.e0 ?_
    rw [sh1 n (by omega), if_pos (Int32.le_refl _)]
    unfold jX9_reads_157
    by_cases g : x2 = 0
    · rw [if_pos g] at hq ⊢; exact hq
    · rw [if_neg g] at hq ⊢; exact hq
theorem q_reads (H : TI T n nf np nu h mb kN fN yN tN nN wN) (C : CR T n nf np nu mb kd fg he se cr sz ya tr no wo mu fs fe ps pr us pa) (x1 x2 : Int32) {ga : Nat → Int32} {Z : Int32 → (Nat → Int32) → (Nat → Int32) → Int32 → (Nat → Int32) → Prop} (z1 : Z (-2) ga (rj 0 rf) (-2) (rj 0 rf')) (z2 : ∀ r w, Z r w rf r rf') : p_X8_reads ya tr no wo mu sz kd fg he ga rf x1 x2 (fun r u2 u3 => p_X9_reads T rf' x1 x2 (fun r' v => Z r u2 u3 r' v)) := by
  have h8 := H.n8
  have hn := H.hn
  unfold p_X8_reads p_X9_reads
  by_cases h1 : 0 ≤ x1 ∧ x1 ≤ 9
  · refine s_within_t h1 ?_
    rw [if_neg (by decide)]
    by_cases h2 : 0 ≤ x2 ∧ x2 ≤ 1
    · refine s_within_t h2 ?_
      rw [if_neg (by decide)]
      obtain ⟨x, -, hx, rfl⟩ := rgN (x := x1) 0 9 (by decide) h1
      have hY : yaN nN h (n - h) < 256 := yaN_lt _ (by omega)
      have yb := yaN_bit (nN := nN) (h := h) (n - h) (by omega)
      have hYn : yaN nN h (n - h) < 2 ^ n := (ltB _ hY n (by omega)).mpr (fun c hc e => by have := ((yb c hc).mp e).2.1; omega)
      have p2 : 2 ^ n ≤ 256 := (Nat.pow_le_pow_right (by decide) h8 : 2 ^ n ≤ 2 ^ 8)
      have hc0 : csN (c0N T mb) (c1N T mb nN) h 0 (n - h) ≤ 480 := csN_le H 0 (by omega)
      have idle : rdA T mb yN wN nN h n x (2 ^ n) = rdA T mb yN wN nN h n x (yaN nN h (n - h) + 1) := by
        have := rrS_idle (F := feP yN wN nN h n x) (c := fun s => csN (c0N T mb) (c1N T mb nN) h s (n - h)) (s := yaN nN h (n - h) + 1) (2 ^ n - (yaN nN h (n - h) + 1)) (fun i hi q => by
          have : yaN nN h (n - h) + 1 + i ≤ yaN nN h (n - h) := by
            refine sub_le (by omega) hY (fun b hb e => ?_)
            have b1 := (aheadB _ (by omega) h (by omega)).mp q.1 b hb e
            have b2 := (ltB (yaN nN h (n - h) + 1 + i) (by omega) n (by omega)).mp (by omega) b hb e
            have b3 := (q.2 (b - h) (by omega) (by rw [show h + (b - h) = b by omega]; exact e)).1
            rw [show h + (b - h) = b by omega] at b3
            exact (yb b hb).mpr ⟨b1, by omega, b3⟩
          omega)
        rw [show yaN nN h (n - h) + 1 + (2 ^ n - (yaN nN h (n - h) + 1)) = 2 ^ n by omega] at this
        exact this
      obtain ⟨r1, r2, -⟩ := rrS_cs (F := feP yN wN nN h n x) (c := fun s => csN (c0N T mb) (c1N T mb nN) h s (n - h)) fe0 hc0 (yaN nN h (n - h))
      have R : ∀ (r : Int32) (w : Nat → Int32), r = (if x2 = 0 then nI (rdA T mb yN wN nN h n x (yaN nN h (n - h) + 1)).1 else nI (rdA T mb yN wN nN h n x (yaN nN h (n - h) + 1)).2) → p_X9_in (nI x).toInt64 0 9 (fun r_4 => if r_4 = 0 then (p_X9_bad rf' (-2) (fun r_6 u_7 => Z r w rf r_6 u_7)) else (p_X9_in x2.toInt64 0 1 (fun r_8 => if r_8 = 0 then (p_X9_bad rf' (-2) (fun r_34 u_35 => Z r w rf r_34 u_35)) else (lq3 (bX9_reads_38 T rf' (nI x) x2 (fun r' v => Z r w rf r' v)) 1000 0 1000000 0)))) := by
        intro r w hr
        refine s_in_t (lo' := 0) (hi' := 9) (by decide) (by decide) h1 ?_
        rw [if_neg (by decide)]
        refine s_in_t (lo' := 0) (hi' := 1) (by decide) (by decide) h2 ?_
        rw [if_neg (by decide)]
        refine m_reads H hx ?_
        rw [hr, idle]; exact z2 _ _
      refine c_said H C hx (fun w => ?_)
      by_cases g : x2 = 0
      · rw [if_pos g]
        exact R _ w (by rw [if_pos g])
      · rw [if_neg g]
        refine c_costSay H C (show (rdA T mb yN wN nN h n x (yaN nN h (n - h) + 1)).1 < 256 from Nat.lt_of_le_of_lt r2 hY) (R _ w ?_)
        rw [if_neg g]
        exact congrArg nI r1.symm
    · refine s_within_f h2 ?_
      rw [if_pos rfl]
      refine s_refuse2 (s_in_t (lo' := 0) (hi' := 9) (by decide) (by decide) h1 ?_)
      rw [if_neg (by decide)]
      refine s_in_f (lo' := 0) (hi' := 1) (by decide) (by decide) h2 ?_
      rw [if_pos rfl]
      exact s_bad z1
  · refine s_within_f h1 ?_
    rw [if_pos rfl]
    refine s_refuse2 (s_in_f (lo' := 0) (hi' := 9) (by decide) (by decide) h1 ?_)
    rw [if_pos rfl]
    exact s_bad z1
end PR
