/-! where one is, and what a driver is -/
theorem firstFail (P : Nat → Prop) [DecidablePred P] (n : Nat) : (∀ i, i < n → P i) ∨ ∃ c, c < n ∧ (∀ i, i < c → P i) ∧ ¬ P c := by
  induction n with
  | zero => exact Or.inl (fun i h => by omega)
  | succ n ih =>
    rcases ih with h | ⟨c, h1, h2, h3⟩
    · by_cases g : P n
      · refine Or.inl (fun i hi => ?_)
        by_cases e : i = n
        · subst e; exact g
        · exact h i (by omega)
      · exact Or.inr ⟨n, by omega, h, g⟩
    · exact Or.inr ⟨c, by omega, h2, h3⟩
/-- the set of those below b that P says -/
def acN (P : Nat → Prop) [DecidablePred P] : Nat → Nat
  | 0 => 0
  | b + 1 => if P b then acN P b ||| 2 ^ b else acN P b
theorem or256 : ∀ s, s < 256 → ∀ b, b < 8 → s ||| 2 ^ b < 256 := by decide +kernel
theorem orLt : ∀ b, b < 9 → ∀ s, s < 2 ^ b → s ||| 2 ^ b < 2 ^ (b + 1) := by decide +kernel
theorem acN_lt {P : Nat → Prop} [DecidablePred P] : ∀ b, b ≤ 8 → acN P b < 2 ^ b
  | 0, _ => by show 0 < 2 ^ 0; decide
  | b + 1, h => by
    have ih := acN_lt (P := P) b (by omega)
    unfold acN
    split
    · exact orLt b (by omega) _ ih
    · exact Nat.lt_of_lt_of_le ih (Nat.pow_le_pow_right (by decide) (by omega))
theorem acN_256 {P : Nat → Prop} [DecidablePred P] {b : Nat} (h : b ≤ 8) : acN P b < 256 := pw8 h (acN_lt b h)
theorem bit_hi : ∀ b, b < 8 → ∀ s, s < 2 ^ b → s / 2 ^ b % 2 = 0 := by decide +kernel
theorem acN_bit {P : Nat → Prop} [DecidablePred P] : ∀ m, m ≤ 8 → ∀ b, b < 8 → acN P m / 2 ^ b % 2 = if b < m ∧ P b then 1 else 0
  | 0, _, b, _ => by
    rw [if_neg (fun q => absurd q.1 (by omega))]
    show 0 / 2 ^ b % 2 = 0
    rw [Nat.zero_div]
  | m + 1, hm, b, hb => by
    have ih := acN_bit (P := P) m (by omega) b hb
    unfold acN
    by_cases g : P m
    · rw [if_pos g, mudOb _ (acN_256 (by omega)) m (by omega) b hb]
      by_cases e : b = m
      · subst e; rw [if_pos rfl, if_pos ⟨by omega, g⟩]
      · rw [if_neg e, ih]
        by_cases q : b < m ∧ P b
        · rw [if_pos q, if_pos ⟨by omega, q.2⟩]
        · rw [if_neg q, if_neg (fun r => q ⟨by omega, r.2⟩)]
    · rw [if_neg g, ih]
      by_cases q : b < m ∧ P b
      · rw [if_pos q, if_pos ⟨by omega, q.2⟩]
      · rw [if_neg q, if_neg]
        intro r
        by_cases e : b = m
        · subst e; exact g r.2
        · exact q ⟨by omega, r.2⟩
theorem or0 (x : Int32) : x ||| 0 = x := Int32.or_zero
/-- bends and what was felt agree, the last of it at b -/
abbrev mayP (T : Nat → Int32) (mb nf b : Nat) : Prop := nf ≤ b + 1 ∧ ∀ i, i < nf → hoS (T (26 + (b + 1 - nf + i))) (nI (mb / 2 ^ (b + 1 - nf + i) % 2)) = T (42 + i)
/-- a kind and the paces seen agree -/
abbrev fitP (T : Nat → Int32) (np k : Nat) : Prop := ∀ i, i < np → pcS (nI k) (T (45 + 5 * i)) (T (45 + 5 * i + 1)) (T (45 + 5 * i + 2)) (T (45 + 5 * i + 3)) = T (45 + 5 * i + 4)
section PW
variable {T : Nat → Int32} {n nf np nu h mb kN fN : Nat} {yN tN nN wN : Nat → Nat}
variable {kd fg he se cr sz : Int32} {ya tr no wo mu : Nat → Int32} {fs : Int32} {fe : Nat → Int32} {ps : Int32} {pr : Nat → Int32} {us : Int32} {pa : Nat → Int32} {rf rf' : Nat → Int32}
theorem c_mayEndAt (H : TI T n nf np nu h mb kN fN yN tN nN wN) (C : CR T n nf np nu mb kd fg he se cr sz ya tr no wo mu fs fe ps pr us pa) {b : Nat} (hb : b < n) {Q : Int32 → Prop} (hq : Q (if mayP T mb nf b then 1 else 0)) : p_X1_mayEndAt fe fs tr mu (nI b) Q := by
  have h8 := H.n8
  have hf3 : nf ≤ 3 := H.1.2.1
  have efs : fs = nI nf := C.1.2.2.2.2.2.2.1
  have lp : ∀ (g : nf ≤ b + 1), jX1_mayEndAt_22 fe (nI nf) tr mu Q (nI (b + 1 - nf)) := by
    intro g
    unfold jX1_mayEndAt_22
    have st : ∀ i, i < nf → hoS (T (26 + (b + 1 - nf + i))) (nI (mb / 2 ^ (b + 1 - nf + i) % 2)) = T (42 + i) → ∀ k : Int32 → Prop, k (nI (i + 1)) → bX1_mayEndAt_25 fe (nI nf) tr mu Q (nI (b + 1 - nf)) k (nI i) := by
      intro i hi e k hk
      unfold bX1_mayEndAt_25
      rw [if_neg (nI_ge hi (by omega)), nI_add]
      refine c_holds H C (by omega) ⟨vp_in_nI (by omega) (by decide), ?_⟩
      rw [nI_clamp (show i < 2 ^ 31 by omega), C.2.2.1 i hi, if_pos e, nI_1]
      exact hk
    rcases firstFail (fun i => hoS (T (26 + (b + 1 - nf + i))) (nI (mb / 2 ^ (b + 1 - nf + i) % 2)) = T (42 + i)) nf with a | ⟨c, c1, c2, c3⟩
    · refine lq1_for (fun i => nI i) nf (fun i hi => st i hi (a i hi)) ?_ 1000 0 (Nat.zero_le _) (by omega)
      intro k
      unfold bX1_mayEndAt_25
      rw [if_pos (Int32.le_refl _)]
      rw [if_pos (show mayP T mb nf b from ⟨g, a⟩)] at hq
      exact hq
    · refine lq1_for (fun i => nI i) c (fun i hi => st i (by omega) (c2 i hi)) ?_ 1000 0 (Nat.zero_le _) (by omega)
      intro k
      unfold bX1_mayEndAt_25
      rw [if_neg (nI_ge c1 (by omega)), nI_add]
      refine c_holds H C (by omega) ⟨vp_in_nI (by omega) (by decide), ?_⟩
      rw [nI_clamp (show c < 2 ^ 31 by omega), C.2.2.1 c c1, if_neg c3]
      rw [if_neg (show ¬ mayP T mb nf b from fun q => c3 (q.2 c c1))] at hq
      exact hq
  unfold p_X1_mayEndAt
  rw [efs, nI_1]
  by_cases g0 : nf = 0
  · rw [if_pos (show nI nf ≤ 0 by rw [g0]; exact Int32.le_refl _), pk_sub (by omega)]
    exact lp (by omega)
  · rw [if_neg (show ¬ nI nf ≤ 0 from nI_ge (b := nf) (a := 0) (by omega) (by omega))]
    by_cases g : nf ≤ b + 1
    · rw [pk_sub g, if_pos (nI_pos' (by omega))]
      exact lp g
    · rw [if_neg]
      · rw [if_neg (show ¬ mayP T mb nf b from fun q => g q.1)] at hq
        exact hq
      · rw [fa_le, pk_sub_toInt (by omega) (by omega)]
        have e0 : (0 : Int32).toInt = 0 := rfl
        omega
theorem m_mayEnd (H : TI T n nf np nu h mb kN fN yN tN nN wN) {b : Nat} (hb : b < n) {k3 : Int32 → Int32 → Prop} {v1 : Int32} {Q : Int32 → Prop} (hq : k3 (if mayP T mb nf b then v1 ||| (1 <<< (nI b &&& 31)) else v1) (nI (b + 1))) :
    (if 0 ≤ ((nI b - (T (1 : Int32).toNatClampNeg)) + 1) then (jX9_places_36 T k3 v1 (nI b) ((nI b - (T (1 : Int32).toNatClampNeg)) + 1)) else (if (T (1 : Int32).toNatClampNeg) = 0 then (jX9_places_36 T k3 v1 (nI b) ((nI b - (T (1 : Int32).toNatClampNeg)) + 1)) else (jX9_places_41 T k3 v1 (nI b) ((nI b - (T (1 : Int32).toNatClampNeg)) + 1) 0))) := by
  have h8 := H.n8
  have hf3 : nf ≤ 3 := H.1.2.1
  rw [show (1 : Int32).toNatClampNeg = 1 from rfl, H.e1]
  have esub : nI b - nI nf + 1 = nI (b + 1) - nI nf := by
    rw [← nI_1]
    apply Int32.toBitVec_inj.1
    simp only [Int32.toBitVec_sub, Int32.toBitVec_add]
    rw [BitVec.sub_eq_add_neg, BitVec.sub_eq_add_neg, BitVec.add_assoc, BitVec.add_assoc, BitVec.add_comm (-(nI nf).toBitVec)]
  rw [esub]
  have fin1 : mayP T mb nf b → jX9_places_99 k3 v1 (nI b) 1 := by
    intro g
    unfold jX9_places_99
    rw [if_neg (by decide), nI_1]
    rw [if_pos g] at hq; exact hq
  have fin0 : ¬ mayP T mb nf b → jX9_places_99 k3 v1 (nI b) 0 := by
    intro g
    unfold jX9_places_99
    rw [if_pos rfl, nI_1, or0]
    rw [if_neg g] at hq; exact hq
  by_cases g : nf ≤ b + 1
  · rw [pk_sub g, if_pos (nI_pos' (by omega))]
    unfold jX9_places_36 jX9_places_41
    have st : ∀ i, i < nf → ∀ k : Int32 → Int32 → Prop, k (if hoS (T (26 + (b + 1 - nf + i))) (nI (mb / 2 ^ (b + 1 - nf + i) % 2)) = T (42 + i) then 1 else 0) (nI (i + 1)) → bX9_places_46 T k3 v1 (nI b) (nI (b + 1 - nf)) k 1 (nI i) := by
      intro i hi k hk
      unfold bX9_places_46
      rw [show (1 : Int32).toNatClampNeg = 1 from rfl, H.e1, if_neg (nI_ge hi (by omega)), if_neg (by decide), nI_add, show (42 : Int32) + nI i = nI (42 + i) from nI_add 42 i, nI_clamp (show 42 + i < 2 ^ 31 by omega), nI_1]
      refine s_holds9 H (by omega) ⟨vp_in_nI (by omega) (by decide), ?_⟩
      by_cases e : hoS (T (26 + (b + 1 - nf + i))) (nI (mb / 2 ^ (b + 1 - nf + i) % 2)) = T (42 + i)
      · rw [if_pos e] at hk ⊢; exact hk
      · rw [if_neg e] at hk ⊢; exact hk
    rcases firstFail (fun i => hoS (T (26 + (b + 1 - nf + i))) (nI (mb / 2 ^ (b + 1 - nf + i) % 2)) = T (42 + i)) nf with a | ⟨c, c1, c2, c3⟩
    · refine lq2_for (fun _ => 1) (fun i => nI i) nf (fun i hi k hk => st i hi k ?_) ?_ 1000 0 (Nat.zero_le _) (by omega)
      · rw [if_pos (a i hi)]; exact hk
      · intro k
        unfold bX9_places_46
        rw [show (1 : Int32).toNatClampNeg = 1 from rfl, H.e1, if_pos (Int32.le_refl _)]
        exact fin1 ⟨g, a⟩
    · refine lq2_for (fun i => if i ≤ c then 1 else 0) (fun i => nI i) (c + 1) ?_ ?_ 1000 0 (Nat.zero_le _) (by omega)
      · intro i hi k hk
        try dsimp only at hk ⊢
        rw [if_pos (show i ≤ c by omega)]
        refine st i (by omega) k ?_
        by_cases e : i = c
        · subst e
          rw [if_neg c3]
          rw [if_neg (by omega)] at hk; exact hk
        · rw [if_pos (c2 i (by omega))]
          rw [if_pos (by omega)] at hk; exact hk
      · intro k
        unfold bX9_places_46
        try dsimp only
        rw [if_neg (show ¬ c + 1 ≤ c by omega), if_pos (show (0 : Int32) = 0 from rfl)]
        have f0 := fin0 (fun q => c3 (q.2 c c1))
        split
        · exact f0
        · exact f0
  · rw [if_neg, if_neg (show ¬ nI nf = 0 from nI_ne0 (by omega) (by omega))]
    · unfold jX9_places_41
      show bX9_places_46 T k3 v1 (nI b) (nI (b + 1) - nI nf) _ 0 0
      unfold bX9_places_46
      rw [show (1 : Int32).toNatClampNeg = 1 from rfl, H.e1, if_neg (show ¬ nI nf ≤ 0 from nI_ge (b := nf) (a := 0) (by omega) (by omega)), if_pos rfl]
      exact fin0 (fun q => g q.1)
    · rw [fa_le, pk_sub_toInt (by omega) (by omega)]
      have e0 : (0 : Int32).toInt = 0 := rfl
      omega
theorem acN_step {P : Nat → Prop} [DecidablePred P] {b : Nat} (hb : b < 8) : (if P b then nI (acN P b) ||| (1 <<< (nI b &&& 31)) else nI (acN P b)) = nI (acN P (b + 1)) := by
  have e : acN P (b + 1) = if P b then acN P b ||| 2 ^ b else acN P b := rfl
  rw [e]
  by_cases g : P b
  · rw [if_pos g, if_pos g, mudO _ (acN_256 (by omega)) b hb]
  · rw [if_neg g, if_neg g]
theorem c_places (H : TI T n nf np nu h mb kN fN yN tN nN wN) (C : CR T n nf np nu mb kd fg he se cr sz ya tr no wo mu fs fe ps pr us pa) {Q : Int32 → Prop} (hq : Q (nI (acN (mayP T mb nf) n))) : p_X1_places fe fs tr mu sz Q := by
  have h8 := H.n8
  unfold p_X1_places
  rw [C.esz]
  refine lq2_for (fun i => nI (acN (mayP T mb nf) i)) (fun i => nI i) n ?_ ?_ 1000 0 (Nat.zero_le _) (by omega)
  · intro i hi k hk
    unfold bX1_places_4
    rw [if_neg (nI_ge hi (by omega))]
    refine c_mayEndAt H C hi ?_
    try dsimp only at hk
    rw [← acN_step (by omega)] at hk
    rw [nI_1]
    by_cases g : mayP T mb nf i
    · rw [if_pos g] at hk ⊢; rw [if_neg (by decide)]; exact hk
    · rw [if_neg g] at hk ⊢; rw [if_pos rfl]; exact hk
  · intro k
    unfold bX1_places_4
    rw [if_pos (Int32.le_refl _)]
    exact hq
theorem m_places (H : TI T n nf np nu h mb kN fN yN tN nN wN) {Q : Int32 → Prop} (hq : Q (nI (acN (mayP T mb nf) n))) : p_X9_places T Q := by
  have h8 := H.n8
  unfold p_X9_places
  refine lq2_for (fun i => nI (acN (mayP T mb nf) i)) (fun i => nI i) n ?_ ?_ 1000 0 (Nat.zero_le _) (by omega)
  · intro i hi k hk
    unfold bX9_places_4
    refine s_many H.e0 ?_
    rw [if_neg (nI_ge hi (by omega))]
    refine m_mayEnd (Q := Q) H hi ?_
    rw [acN_step (by omega)]
    exact hk
  · intro k
    unfold bX9_places_4
    refine s_many H.e0 ?_
    rw [if_pos (Int32.le_refl _)]
    exact hq
theorem q_where (H : TI T n nf np nu h mb kN fN yN tN nN wN) (C : CR T n nf np nu mb kd fg he se cr sz ya tr no wo mu fs fe ps pr us pa) {Z : Int32 → Int32 → Prop} (z : ∀ r, Z r r) : p_X8_where tr mu sz fe fs (fun r => p_X9_where T (fun r' => Z r r')) := by
  unfold p_X8_where p_X9_where
  exact c_places H C (m_places H (z _))
end PW
/-- how many bits -/
def popc : Nat → Nat → Nat
  | 0, _ => 0
  | k + 1, w => w % 2 + popc k (w / 2)
theorem popc0 : ∀ k, popc k 0 = 0
  | 0 => rfl
  | k + 1 => by show 0 % 2 + popc k (0 / 2) = 0; rw [popc0 k]
theorem bits_a : ∀ w, w < 256 → (nI w &&& 1) = nI (w % 2) ∧ (nI w >>> (1 &&& 31)) = nI (w / 2) := by decide +kernel
theorem s_bits' {Q : Int32 → Prop} : ∀ (k f a w : Nat), k < f → w < 2 ^ k → k ≤ 8 → Q (nI (a + popc k w)) → lq2 (bX9_bits_4 Q) f (nI a) (nI w) := by
  intro k
  induction k with
  | zero =>
    intro f a w hf hw _ hq
    cases f with
    | zero => omega
    | succ f =>
      have e : w = 0 := by omega
      subst e
      show bX9_bits_4 Q _ (nI a) (nI 0)
      unfold bX9_bits_4
      rw [if_pos (show nI 0 ≤ 0 from Int32.le_refl _)]
      exact hq
  | succ k ih =>
    intro f a w hf hw h8 hq
    cases f with
    | zero => omega
    | succ f =>
      show bX9_bits_4 Q (lq2 (bX9_bits_4 Q) f) (nI a) (nI w)
      unfold bX9_bits_4
      by_cases g : w = 0
      · subst g
        rw [if_pos (show nI 0 ≤ 0 from Int32.le_refl _)]
        rw [popc0] at hq; exact hq
      · have hw2 : w < 256 := pw8 h8 hw
        rw [if_neg (show ¬ nI w ≤ 0 from nI_ge (b := w) (a := 0) (by omega) (by omega)), (bits_a w hw2).1, (bits_a w hw2).2, nI_add]
        refine ih f (a + w % 2) (w / 2) (by omega) ?_ (by omega) ?_
        · rw [Nat.pow_succ] at hw; omega
        · rw [Nat.add_assoc]; exact hq
theorem s_bits {w : Nat} (hw : w < 256) {Q : Int32 → Prop} (hq : Q (nI (popc 8 w))) : p_X9_bits (nI w) Q := by
  unfold p_X9_bits
  exact s_bits' 8 1000 0 w (by decide) hw (by decide) (by rw [Nat.zero_add]; exact hq)
theorem bcnt : ∀ w, w < 256 → p_J6_bitCount_0f7a4 (nI w) (fun r => r = nI (popc 8 w)) := by
  unfold p_J6_bitCount_0f7a4
  decide +kernel
theorem s_bitCount {w : Nat} (hw : w < 256) {Q : Int32 → Prop} (hq : Q (nI (popc 8 w))) : p_J6_bitCount_0f7a4 (nI w) Q := by
  have e := bcnt w hw
  unfold p_J6_bitCount_0f7a4 at e ⊢
  rw [e]
  exact hq
section PX
variable {T : Nat → Int32} {n nf np nu h mb kN fN : Nat} {yN tN nN wN : Nat → Nat}
variable {kd fg he se cr sz : Int32} {ya tr no wo mu : Nat → Int32} {fs : Int32} {fe : Nat → Int32} {ps : Int32} {pr : Nat → Int32} {us : Int32} {pa : Nat → Int32} {rf rf' : Nat → Int32}
/-- how a bend holds, as a number -/
def hN (tN : Nat → Nat) (mb b : Nat) : Nat := if tN b ≤ 1 then 1 else tN b - mb / 2 ^ b % 2
theorem hoN : ∀ t, t < 7 → ∀ m, m < 2 → hoS (nI t) (nI m) = nI (if t ≤ 1 then 1 else t - m) := by decide +kernel
theorem TI.ho (H : TI T n nf np nu h mb kN fN yN tN nN wN) {b : Nat} (hb : b < n) : hoS (T (26 + b)) (nI (mb / 2 ^ b % 2)) = nI (hN tN mb b) := by
  rw [H.t hb, hoN _ (by have := H.t6 hb; omega) _ (bit2 mb b)]; rfl
theorem TI.hN6 (H : TI T n nf np nu h mb kN fN yN tN nN wN) {b : Nat} (hb : b < n) : 1 ≤ hN tN mb b ∧ hN tN mb b ≤ 6 := by
  have h1 := H.t1 hb
  have h6 := H.t6 hb
  have h2 := bit2 mb b
  unfold hN
  split <;> omega
def wyN (T : Nat → Int32) (mb nf : Nat) (tN : Nat → Nat) : Nat → Nat
  | 0 => 0
  | b + 1 => if mayP T mb nf b then wyN T mb nf tN b ||| 2 ^ (hN tN mb (b + 1)) else wyN T mb nf tN b
theorem wyN_lt (H : TI T n nf np nu h mb kN fN yN tN nN wN) : ∀ b, b + 1 ≤ n → wyN T mb nf tN b < 256
  | 0, _ => by show 0 < 256; decide
  | b + 1, hb => by
    have ih := wyN_lt H b (by omega)
    have g := H.hN6 (b := b + 1) (by omega)
    unfold wyN
    split
    · exact or256 _ ih _ (by omega)
    · exact ih
theorem wyN_step (H : TI T n nf np nu h mb kN fN yN tN nN wN) {b : Nat} (hb : b + 1 < n) : (if mayP T mb nf b then nI (wyN T mb nf tN b) ||| (1 <<< (nI (hN tN mb (b + 1)) &&& 31)) else nI (wyN T mb nf tN b)) = nI (wyN T mb nf tN (b + 1)) := by
  have e : wyN T mb nf tN (b + 1) = if mayP T mb nf b then wyN T mb nf tN b ||| 2 ^ (hN tN mb (b + 1)) else wyN T mb nf tN b := rfl
  have g := H.hN6 (b := b + 1) (by omega)
  rw [e]
  by_cases q : mayP T mb nf b
  · rw [if_pos q, if_pos q, mudO _ (wyN_lt H b (by omega)) _ (by omega)]
  · rw [if_neg q, if_neg q]
theorem q_next (H : TI T n nf np nu h mb kN fN yN tN nN wN) (C : CR T n nf np nu mb kd fg he se cr sz ya tr no wo mu fs fe ps pr us pa) {Z : Int32 → Int32 → Prop} (z : ∀ r, Z r r) : p_X8_next tr mu sz fe fs (fun r => p_X9_next T (fun r' => Z r r')) := by
  have h8 := H.n8
  have wl : wyN T mb nf tN (n - 1) < 256 := by
    cases n with
    | zero => show 0 < 256; decide
    | succ m => exact wyN_lt H m (by omega)
  unfold p_X8_next p_X1_waysOn
  rw [C.esz]
  refine lq2_for (fun i => nI (wyN T mb nf tN i)) (fun i => nI i) (n - 1) ?_ ?_ 1000 0 (Nat.zero_le _) (by omega)
  · intro i hi k hk
    unfold bX1_waysOn_4
    rw [nI_1, if_neg (nI_ge (show i + 1 < n by omega) (by omega))]
    refine c_mayEndAt H C (by omega) ?_
    try dsimp only at hk
    rw [← wyN_step H (by omega)] at hk
    by_cases g : mayP T mb nf i
    · rw [if_pos g] at hk ⊢; rw [if_neg (by decide)]
      refine c_holds H C (by omega) ?_
      rw [H.ho (by omega)]; exact hk
    · rw [if_neg g] at hk ⊢; rw [if_pos rfl]; exact hk
  · intro k
    unfold bX1_waysOn_4
    rw [nI_1, if_pos (nI_le (show n ≤ n - 1 + 1 by omega) (by omega))]
    refine s_bitCount wl ?_
    unfold p_X9_next
    refine m_places H ?_
    refine lq2_for (fun i => nI (wyN T mb nf tN i)) (fun i => nI i) (n - 1) ?_ ?_ 1000 0 (Nat.zero_le _) (by omega)
    · intro i hi k hk
      unfold bX9_next_9
      refine s_many H.e0 ?_
      rw [nI_1, if_neg (nI_ge (show i + 1 < n by omega) (by omega))]
      refine s_has9 (acN_256 h8) (by omega) ?_
      rw [acN_bit n h8 i (by omega)]
      try dsimp only at hk
      rw [← wyN_step H (by omega)] at hk
      by_cases g : mayP T mb nf i
      · rw [if_pos g] at hk; rw [if_pos (show i < n ∧ mayP T mb nf i from ⟨by omega, g⟩), if_neg (show ¬ nI 1 = 0 by decide)]
        refine s_holds9 H (by omega) ?_
        rw [H.ho (by omega)]; exact hk
      · rw [if_neg g] at hk; rw [if_neg (show ¬ (i < n ∧ mayP T mb nf i) from fun q => g q.2), if_pos (show nI 0 = 0 from rfl), or0]; exact hk
    · intro k
      unfold bX9_next_9
      refine s_many H.e0 ?_
      rw [nI_1, if_pos (nI_le (show n ≤ n - 1 + 1 by omega) (by omega))]
      exact s_bits wl (z _)
theorem pcS_mud {k n t f m : Int32} : pcS k n t f (if (if m = 1 then (1 : Int32) else 0) = 0 then 0 else 1) = pcS k n t f m := by
  unfold pcS
  by_cases g : m = 1
  · rw [if_pos g, if_neg (show ¬ (1 : Int32) = 0 by decide), g]
  · rw [if_neg g, if_pos rfl]
    rw [if_neg (show ¬ (0 : Int32) = 1 by decide), if_neg g]
theorem c_fits (H : TI T n nf np nu h mb kN fN yN tN nN wN) (C : CR T n nf np nu mb kd fg he se cr sz ya tr no wo mu fs fe ps pr us pa) {c : Nat} {Q : Int32 → Prop} (hq : Q (if fitP T np c then 1 else 0)) : p_X3_fits pr ps (nI c) Q := by
  have hp6 : np ≤ 6 := H.1.2.2.1
  have eps : ps = nI np := C.1.2.2.2.2.2.2.2.1
  unfold p_X3_fits
  rw [eps]
  have cp : ∀ i j, i < np → j < 5 → pr (5 * i + j) = T (45 + 5 * i + j) := fun i j hi hj => by rw [C.2.2.2.1 _ (by omega)]; exact congrArg T (by omega)
  have st : ∀ i, i < np → ∀ k : Int32 → Prop, (if pcS (nI c) (T (45 + 5 * i)) (T (45 + 5 * i + 1)) (T (45 + 5 * i + 2)) (T (45 + 5 * i + 3)) = T (45 + 5 * i + 4) then k (nI (i + 1)) else Q 0) → bX3_fits_2 pr (nI np) (nI c) Q k (nI i) := by
    intro i hi k hk
    unfold bX3_fits_2
    have e0 : nI i * 5 = nI (5 * i) := by rw [show (5 : Int32) = nI 5 from rfl, pk_mul, Nat.mul_comm]
    have e1 : nI (5 * i) + 1 = nI (5 * i + 1) := nI_1 _
    have e2 : nI (5 * i) + 2 = nI (5 * i + 2) := nI_add _ 2
    have e3 : nI (5 * i) + 3 = nI (5 * i + 3) := nI_add _ 3
    have e4 : nI (5 * i) + 4 = nI (5 * i + 4) := nI_add _ 4
    rw [if_neg (nI_ge hi (by omega)), e0, e1, e2, e3, e4, nI_clamp (show 5 * i < 2 ^ 31 by omega), nI_clamp (show 5 * i + 1 < 2 ^ 31 by omega), nI_clamp (show 5 * i + 2 < 2 ^ 31 by omega), nI_clamp (show 5 * i + 3 < 2 ^ 31 by omega), nI_clamp (show 5 * i + 4 < 2 ^ 31 by omega), nI_1]
    refine ⟨vp_in_nI (by omega) (by decide), vp_in_nI (by omega) (by decide), vp_in_nI (by omega) (by decide), vp_in_nI (by omega) (by decide), s_X2_paceOf ⟨vp_in_nI (by omega) (by decide), ?_⟩⟩
    rw [cp i 1 hi (by decide), cp i 2 hi (by decide), cp i 3 hi (by decide), cp i 4 hi (by decide), show pr (5 * i) = T (45 + 5 * i) from cp i 0 hi (by decide)]
    exact hk
  rcases firstFail (fun i => pcS (nI c) (T (45 + 5 * i)) (T (45 + 5 * i + 1)) (T (45 + 5 * i + 2)) (T (45 + 5 * i + 3)) = T (45 + 5 * i + 4)) np with a | ⟨d, c1, c2, c3⟩
  · refine lq1_for (fun i => nI i) np (fun i hi k hk => st i hi k ?_) ?_ 1000 0 (Nat.zero_le _) (by omega)
    · rw [if_pos (a i hi)]; exact hk
    · intro k
      unfold bX3_fits_2
      rw [if_pos (Int32.le_refl _)]
      rw [if_pos (show fitP T np c from a)] at hq
      exact hq
  · refine lq1_for (fun i => nI i) d (fun i hi k hk => st i (by omega) k ?_) ?_ 1000 0 (Nat.zero_le _) (by omega)
    · rw [if_pos (c2 i hi)]; exact hk
    · intro k
      refine st d c1 k ?_
      rw [if_neg c3]
      rw [if_neg (show ¬ fitP T np c from fun q => c3 (q d c1))] at hq
      exact hq
theorem c_kinds (H : TI T n nf np nu h mb kN fN yN tN nN wN) (C : CR T n nf np nu mb kd fg he se cr sz ya tr no wo mu fs fe ps pr us pa) {Q : Int32 → Prop} (hq : Q (nI (acN (fitP T np) 6))) : p_X3_kinds pr ps Q := by
  unfold p_X3_kinds
  refine lq2_for (fun i => nI (acN (fitP T np) i)) (fun i => nI i) 6 ?_ ?_ 1000 0 (Nat.zero_le _) (by omega)
  · intro i hi k hk
    unfold bX3_kinds_4
    rw [if_neg (show ¬ (5 : Int32) < nI i from fun q => (fa_of_lt q).2.1 (nI_le (b := 5) (by omega) (by decide)))]
    refine c_fits H C ?_
    try dsimp only at hk
    rw [← acN_step (by omega)] at hk
    rw [nI_1]
    by_cases g : fitP T np i
    · rw [if_pos g] at hk ⊢; rw [if_neg (by decide)]; exact hk
    · rw [if_neg g] at hk ⊢; rw [if_pos rfl]; exact hk
  · intro k
    unfold bX3_kinds_4
    rw [if_pos (show (5 : Int32) < nI 6 by decide)]
    exact hq
theorem m_fits (H : TI T n nf np nu h mb kN fN yN tN nN wN) {c : Nat} (hc : c < 8) {k3 : Int32 → Int32 → Prop} {v1 : Int32} (hq : k3 (if fitP T np c then v1 ||| (1 <<< (nI c &&& 31)) else v1) (nI (c + 1))) : lq2 (bX9_kindsThat_15 T k3 v1 (nI c)) 1000 1 0 := by
  have hp6 : np ≤ 6 := H.1.2.2.1
  have st : ∀ i, i < np → ∀ k : Int32 → Int32 → Prop, k (if pcS (nI c) (T (45 + 5 * i)) (T (45 + 5 * i + 1)) (T (45 + 5 * i + 2)) (T (45 + 5 * i + 3)) = T (45 + 5 * i + 4) then 1 else 0) (nI (i + 1)) → bX9_kindsThat_15 T k3 v1 (nI c) k 1 (nI i) := by
    intro i hi k hk
    unfold bX9_kindsThat_15
    have e0 : (45 : Int32) + 5 * nI i = nI (45 + 5 * i) := by rw [show (5 : Int32) * nI i = nI (5 * i) from pk_mul 5 i]; exact nI_add 45 _
    have e1 : nI (45 + 5 * i) + 1 = nI (45 + 5 * i + 1) := nI_1 _
    have e2 : nI (45 + 5 * i) + 2 = nI (45 + 5 * i + 2) := nI_add _ 2
    have e3 : nI (45 + 5 * i) + 3 = nI (45 + 5 * i + 3) := nI_add _ 3
    have e4 : nI (45 + 5 * i) + 4 = nI (45 + 5 * i + 4) := nI_add _ 4
    rw [show (2 : Int32).toNatClampNeg = 2 from rfl, H.e2, if_neg (nI_ge hi (by omega)), if_neg (show ¬ (1 : Int32) = 0 by decide), e0, e1, e2, e3, nI_clamp (show 45 + 5 * i < 2 ^ 31 by omega), nI_clamp (show 45 + 5 * i + 1 < 2 ^ 31 by omega), nI_clamp (show 45 + 5 * i + 2 < 2 ^ 31 by omega), nI_clamp (show 45 + 5 * i + 3 < 2 ^ 31 by omega)]
    refine ⟨vp_in_nI (by omega) (by decide), vp_in_nI (by omega) (by decide), vp_in_nI (by omega) (by decide), vp_in_nI (by omega) (by decide), ?_⟩
    have fin : ∀ m : Int32, m = (if T (45 + 5 * i + 3) = 1 then 1 else 0) → jX9_kindsThat_83 T k (nI i) (nI (45 + 5 * i)) (nI c) (T (45 + 5 * i)) (T (45 + 5 * i + 1)) (T (45 + 5 * i + 2)) m := by
      intro m hm
      unfold jX9_kindsThat_83
      refine s_X9_paceAs ⟨?_, ?_⟩
      · rw [e4]; exact vp_in_nI (by omega) (by decide)
      · rw [e4, nI_clamp (show 45 + 5 * i + 4 < 2 ^ 31 by omega), nI_1, hm, pcS_mud]
        by_cases g : pcS (nI c) (T (45 + 5 * i)) (T (45 + 5 * i + 1)) (T (45 + 5 * i + 2)) (T (45 + 5 * i + 3)) = T (45 + 5 * i + 4)
        · rw [if_pos g] at hk ⊢; exact hk
        · rw [if_neg g] at hk ⊢; exact hk
    by_cases g : T (45 + 5 * i + 3) = 1
    · rw [if_pos g]; exact fin 1 (by rw [if_pos g])
    · rw [if_neg g]; exact fin 0 (by rw [if_neg g])
  have ex : ∀ (x : Int32) (k : Int32 → Int32 → Prop), x = (if fitP T np c then 1 else 0) → bX9_kindsThat_15 T k3 v1 (nI c) k x (nI np) := by
    intro x k hx
    unfold bX9_kindsThat_15
    rw [show (2 : Int32).toNatClampNeg = 2 from rfl, H.e2, if_pos (Int32.le_refl _)]
    unfold jX9_kindsThat_110
    rw [nI_1, or0]
    by_cases g : fitP T np c
    · rw [hx, if_pos g, if_neg (by decide)]; rw [if_pos g] at hq; exact hq
    · rw [hx, if_neg g, if_pos rfl]; rw [if_neg g] at hq; exact hq
  rcases firstFail (fun i => pcS (nI c) (T (45 + 5 * i)) (T (45 + 5 * i + 1)) (T (45 + 5 * i + 2)) (T (45 + 5 * i + 3)) = T (45 + 5 * i + 4)) np with a | ⟨d, c1, c2, c3⟩
  · refine lq2_for (fun _ => 1) (fun i => nI i) np (fun i hi k hk => st i hi k ?_) (fun k => ex 1 k (by rw [if_pos (show fitP T np c from a)])) 1000 0 (Nat.zero_le _) (by omega)
    rw [if_pos (a i hi)]; exact hk
  · refine lq2_for (fun i => if i ≤ d then 1 else 0) (fun i => nI i) np ?_ ?_ 1000 0 (Nat.zero_le _) (by omega)
    · intro i hi k hk
      try dsimp only at hk ⊢
      by_cases g : i ≤ d
      · rw [if_pos g]
        refine st i hi k ?_
        by_cases e : i = d
        · subst e
          rw [if_neg c3]
          rw [if_neg (by omega)] at hk; exact hk
        · rw [if_pos (c2 i (by omega))]
          rw [if_pos (by omega)] at hk; exact hk
      · rw [if_neg g]
        rw [if_neg (by omega)] at hk
        unfold bX9_kindsThat_15
        rw [show (2 : Int32).toNatClampNeg = 2 from rfl, H.e2, if_neg (nI_ge hi (by omega)), if_pos rfl, nI_1]
        exact hk
    · intro k
      try dsimp only
      refine ex _ k ?_
      rw [if_neg (show ¬ np ≤ d by omega), if_neg (show ¬ fitP T np c from fun q => c3 (q d c1))]
theorem m_kinds (H : TI T n nf np nu h mb kN fN yN tN nN wN) {Q : Int32 → Prop} (hq : Q (nI (acN (fitP T np) 6))) : p_X9_kindsThat T Q := by
  unfold p_X9_kindsThat
  refine lq2_for (fun i => nI (acN (fitP T np) i)) (fun i => nI i) 6 ?_ ?_ 1000 0 (Nat.zero_le _) (by omega)
  · intro i hi k hk
    unfold bX9_kindsThat_4
    rw [if_neg (show ¬ (6 : Int32) ≤ nI i from nI_ge (b := 6) hi (by decide))]
    refine m_fits H (by omega) ?_
    rw [acN_step (by omega)]
    exact hk
  · intro k
    unfold bX9_kindsThat_4
    rw [if_pos (show (6 : Int32) ≤ nI 6 by decide)]
    exact hq
theorem q_is (H : TI T n nf np nu h mb kN fN yN tN nN wN) (C : CR T n nf np nu mb kd fg he se cr sz ya tr no wo mu fs fe ps pr us pa) {Z : Int32 → Int32 → Prop} (z : ∀ r, Z r r) : p_X8_is pr ps (fun r => p_X9_is T (fun r' => Z r r')) := by
  unfold p_X8_is p_X9_is
  exact c_kinds H C (m_kinds H (z _))
end PX
