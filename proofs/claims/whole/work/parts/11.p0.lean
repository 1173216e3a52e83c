theorem fa_lt (a b : Int32) : a < b ↔ a.toInt < b.toInt := Int32.lt_iff_toInt_lt
theorem fa_le (a b : Int32) : a ≤ b ↔ a.toInt ≤ b.toInt := Int32.le_iff_toInt_le
theorem fa_eq (a b : Int32) : a = b ↔ a.toInt = b.toInt := Int32.toInt_inj.symm
theorem fa_lt64 (a b : Int64) : a < b ↔ a.toInt < b.toInt := Int64.lt_iff_toInt_lt
theorem fa_le64 (a b : Int64) : a ≤ b ↔ a.toInt ≤ b.toInt := Int64.le_iff_toInt_le
theorem fa_eq64 (a b : Int64) : a = b ↔ a.toInt = b.toInt := Int64.toInt_inj.symm
/-- a comparison of two ints taken as longs -/
theorem fa_wide_lt (a b : Int32) : a.toInt64 < b.toInt64 ↔ a < b := by rw [fa_lt64, fa_lt, Int32.toInt_toInt64, Int32.toInt_toInt64]
theorem fa_wide_le (a b : Int32) : a.toInt64 ≤ b.toInt64 ↔ a ≤ b := by rw [fa_le64, fa_le, Int32.toInt_toInt64, Int32.toInt_toInt64]
theorem fa_wide_eq (a b : Int32) : a.toInt64 = b.toInt64 ↔ a = b := by rw [fa_eq64, fa_eq, Int32.toInt_toInt64, Int32.toInt_toInt64]
/-- one strict comparison gives all the others -/
theorem fa_of_lt {a b : Int32} (h : a < b) : a ≤ b ∧ ¬ b ≤ a ∧ ¬ b < a ∧ a ≠ b ∧ b ≠ a := by
  rw [fa_lt] at h
  refine ⟨?_, ?_, ?_, ?_, ?_⟩
  · rw [fa_le]; omega
  · rw [fa_le]; omega
  · rw [fa_lt]; omega
  · intro e; rw [fa_eq] at e; omega
  · intro e; rw [fa_eq] at e; omega
theorem fa_of_nlt {a b : Int32} (h : ¬ a < b) : b ≤ a := by
  rw [fa_lt] at h
  rw [fa_le]
  omega
theorem fa_of_nle {a b : Int32} (h : ¬ a ≤ b) : b < a := by
  rw [fa_le] at h
  rw [fa_lt]
  omega
theorem fa_le_ne {a b : Int32} (h : a ≤ b) (h2 : a ≠ b) : a < b := by
  rw [fa_le] at h
  rw [fa_lt]
  have h3 : a.toInt ≠ b.toInt := fun e => h2 ((fa_eq a b).mpr e)
  omega
theorem fa_three (a b : Int32) : a < b ∨ a = b ∨ b < a := by
  rw [fa_lt, fa_lt, fa_eq]
  omega
theorem fa_trans {a b c : Int32} (h : a < b) (h2 : b ≤ c) : a < c := by
  rw [fa_lt] at *
  rw [fa_le] at h2
  omega
theorem fa_lit (n : Nat) : (OfNat.ofNat n : Int32) = nI n := rfl
theorem fa_litL (n : Nat) : (OfNat.ofNat n : Int64) = lN n := rfl
theorem fa_and (a b : Nat) : nI a &&& nI b = nI (a &&& b) := by
  apply Int32.toBitVec_inj.1
  show BitVec.ofNat 32 a &&& BitVec.ofNat 32 b = BitVec.ofNat 32 (a &&& b)
  apply BitVec.eq_of_getLsbD_eq
  intro i hi
  simp [hi]
theorem fa_or (a b : Nat) : nI a ||| nI b = nI (a ||| b) := by
  apply Int32.toBitVec_inj.1
  show BitVec.ofNat 32 a ||| BitVec.ofNat 32 b = BitVec.ofNat 32 (a ||| b)
  apply BitVec.eq_of_getLsbD_eq
  intro i hi
  simp [hi]
theorem lq1_for {A1 : Type} {b : (A1 → Prop) → A1 → Prop} (f1 : Nat → A1) (e : Nat) (hs : ∀ i, i < e → ∀ k : A1 → Prop, k (f1 (i + 1)) → b k (f1 i)) (hx : ∀ k : A1 → Prop, b k (f1 e)) : ∀ (n i : Nat), i ≤ e → e < n + i → lq1 b n (f1 i) := by
  intro n
  induction n with
  | zero => intro i h1 h2; omega
  | succ n ih =>
    intro i h1 h2
    show b (lq1 b n) (f1 i)
    by_cases h : i < e
    · exact hs i h _ (ih (i + 1) (by omega) (by omega))
    · have e1 : i = e := by omega
      subst e1
      exact hx _
theorem lq2_forB {A1 A2 : Type} {b : (A1 → A2 → Prop) → A1 → A2 → Prop} (f1 : Nat → A1) (f2 : Nat → A2) (e : Nat) (hs : ∀ i, i < e → ∀ k : A1 → A2 → Prop, k (f1 (i + 1)) (f2 (i + 1)) → b k (f1 i) (f2 i)) (hx : ∀ k : A1 → A2 → Prop, b k (f1 e) (f2 e)) : ∀ (n i : Nat), i ≤ e → e < n + i → lq2 b n (f1 i) (f2 i) := by
  intro n
  induction n with
  | zero => intro i h1 h2; omega
  | succ n ih =>
    intro i h1 h2
    show b (lq2 b n) (f1 i) (f2 i)
    by_cases h : i < e
    · exact hs i h _ (ih (i + 1) (by omega) (by omega))
    · have e1 : i = e := by omega
      subst e1
      exact hx _
theorem lq3_for {A1 A2 A3 : Type} {b : (A1 → A2 → A3 → Prop) → A1 → A2 → A3 → Prop} (f1 : Nat → A1) (f2 : Nat → A2) (f3 : Nat → A3) (e : Nat) (hs : ∀ i, i < e → ∀ k : A1 → A2 → A3 → Prop, k (f1 (i + 1)) (f2 (i + 1)) (f3 (i + 1)) → b k (f1 i) (f2 i) (f3 i)) (hx : ∀ k : A1 → A2 → A3 → Prop, b k (f1 e) (f2 e) (f3 e)) : ∀ (n i : Nat), i ≤ e → e < n + i → lq3 b n (f1 i) (f2 i) (f3 i) := by
  intro n
  induction n with
  | zero => intro i h1 h2; omega
  | succ n ih =>
    intro i h1 h2
    show b (lq3 b n) (f1 i) (f2 i) (f3 i)
    by_cases h : i < e
    · exact hs i h _ (ih (i + 1) (by omega) (by omega))
    · have e1 : i = e := by omega
      subst e1
      exact hx _
theorem lq4_for {A1 A2 A3 A4 : Type} {b : (A1 → A2 → A3 → A4 → Prop) → A1 → A2 → A3 → A4 → Prop} (f1 : Nat → A1) (f2 : Nat → A2) (f3 : Nat → A3) (f4 : Nat → A4) (e : Nat) (hs : ∀ i, i < e → ∀ k : A1 → A2 → A3 → A4 → Prop, k (f1 (i + 1)) (f2 (i + 1)) (f3 (i + 1)) (f4 (i + 1)) → b k (f1 i) (f2 i) (f3 i) (f4 i)) (hx : ∀ k : A1 → A2 → A3 → A4 → Prop, b k (f1 e) (f2 e) (f3 e) (f4 e)) : ∀ (n i : Nat), i ≤ e → e < n + i → lq4 b n (f1 i) (f2 i) (f3 i) (f4 i) := by
  intro n
  induction n with
  | zero => intro i h1 h2; omega
  | succ n ih =>
    intro i h1 h2
    show b (lq4 b n) (f1 i) (f2 i) (f3 i) (f4 i)
    by_cases h : i < e
    · exact hs i h _ (ih (i + 1) (by omega) (by omega))
    · have e1 : i = e := by omega
      subst e1
      exact hx _
theorem lq5_for {A1 A2 A3 A4 A5 : Type} {b : (A1 → A2 → A3 → A4 → A5 → Prop) → A1 → A2 → A3 → A4 → A5 → Prop} (f1 : Nat → A1) (f2 : Nat → A2) (f3 : Nat → A3) (f4 : Nat → A4) (f5 : Nat → A5) (e : Nat) (hs : ∀ i, i < e → ∀ k : A1 → A2 → A3 → A4 → A5 → Prop, k (f1 (i + 1)) (f2 (i + 1)) (f3 (i + 1)) (f4 (i + 1)) (f5 (i + 1)) → b k (f1 i) (f2 i) (f3 i) (f4 i) (f5 i)) (hx : ∀ k : A1 → A2 → A3 → A4 → A5 → Prop, b k (f1 e) (f2 e) (f3 e) (f4 e) (f5 e)) : ∀ (n i : Nat), i ≤ e → e < n + i → lq5 b n (f1 i) (f2 i) (f3 i) (f4 i) (f5 i) := by
  intro n
  induction n with
  | zero => intro i h1 h2; omega
  | succ n ih =>
    intro i h1 h2
    show b (lq5 b n) (f1 i) (f2 i) (f3 i) (f4 i) (f5 i)
    by_cases h : i < e
    · exact hs i h _ (ih (i + 1) (by omega) (by omega))
    · have e1 : i = e := by omega
      subst e1
      exact hx _
theorem lq6_for {A1 A2 A3 A4 A5 A6 : Type} {b : (A1 → A2 → A3 → A4 → A5 → A6 → Prop) → A1 → A2 → A3 → A4 → A5 → A6 → Prop} (f1 : Nat → A1) (f2 : Nat → A2) (f3 : Nat → A3) (f4 : Nat → A4) (f5 : Nat → A5) (f6 : Nat → A6) (e : Nat) (hs : ∀ i, i < e → ∀ k : A1 → A2 → A3 → A4 → A5 → A6 → Prop, k (f1 (i + 1)) (f2 (i + 1)) (f3 (i + 1)) (f4 (i + 1)) (f5 (i + 1)) (f6 (i + 1)) → b k (f1 i) (f2 i) (f3 i) (f4 i) (f5 i) (f6 i)) (hx : ∀ k : A1 → A2 → A3 → A4 → A5 → A6 → Prop, b k (f1 e) (f2 e) (f3 e) (f4 e) (f5 e) (f6 e)) : ∀ (n i : Nat), i ≤ e → e < n + i → lq6 b n (f1 i) (f2 i) (f3 i) (f4 i) (f5 i) (f6 i) := by
  intro n
  induction n with
  | zero => intro i h1 h2; omega
  | succ n ih =>
    intro i h1 h2
    show b (lq6 b n) (f1 i) (f2 i) (f3 i) (f4 i) (f5 i) (f6 i)
    by_cases h : i < e
    · exact hs i h _ (ih (i + 1) (by omega) (by omega))
    · have e1 : i = e := by omega
      subst e1
      exact hx _
/-! numbers -/
theorem nI_le1 {a b : Nat} (h : b < a) (ha : a < 2 ^ 31) : ¬ nI a ≤ nI b := nI_ge h ha
theorem clampL : ∀ n : Nat, n < 200 → (nI n).toNatClampNeg = n := fun n h => nI_clamp (by omega)
/-! what the small methods answer -/
def plS (n : Int32) : Int32 := if n = 0 then 2 else n
def brS (n : Int32) : Int32 := if 7 ≤ plS n then 7 else plS n + 1
def caS (n : Int32) : Int32 := if plS n ≤ 1 then 1 else plS n - 1
def slS (n : Int32) : Int32 := if brS n ≤ 3 then 1 else brS n - 2
def pcS (k n t f m : Int32) : Int32 := if k = 1 then (if 3 < f then plS n else t) else if k = 2 then brS n else if k = 3 then caS n else if k = 4 then (if 7 ≤ f then caS n else caS n + 1) else if k = 5 then (if m = 1 then slS n else brS n) else plS n
def csS (p t : Int32) : Int32 := if t < p then (if p = t + 1 then 7 else 60) else 3 * (t - p)
def hoS (t m : Int32) : Int32 := if t ≤ 1 then 1 else t - m
theorem s_X2_paceOf {k n t f m : Int32} {Q : Int32 → Prop} (h : Q (pcS k n t f m)) : p_X2_paceOf k n t f m Q := by
  have e1 : p_X2_paceOf k n t f m Q = jX2_paceOf_9 k t f m Q (plS n) := by
    unfold p_X2_paceOf plS; split <;> rfl
  have e2 : jX2_paceOf_9 k t f m Q (plS n) = jX2_paceOf_27 k t f m Q (plS n) (brS n) := by
    unfold jX2_paceOf_9 brS; split <;> rfl
  have e3 : jX2_paceOf_27 k t f m Q (plS n) (brS n) = jX2_paceOf_43 k t f m Q (plS n) (brS n) (caS n) := by
    unfold jX2_paceOf_27 caS; split <;> rfl
  have e4 : jX2_paceOf_43 k t f m Q (plS n) (brS n) (caS n) = jX2_paceOf_59 k t f m Q (plS n) (brS n) (caS n) (slS n) := by
    unfold jX2_paceOf_43 slS; split <;> rfl
  rw [e1, e2, e3, e4]
  unfold jX2_paceOf_59
  unfold pcS at h
  repeat' split
  all_goals simp_all
theorem s_X9_paceAs {k n t f m : Int32} {Q : Int32 → Prop} (h : Q (pcS k n t f (if m = 0 then 0 else 1))) : p_X9_paceAs k n t f m Q := by
  have e1 : p_X9_paceAs k n t f m Q = jX9_paceAs_9 k t f m Q (plS n) := by
    unfold p_X9_paceAs plS; split <;> rfl
  have e2 : jX9_paceAs_9 k t f m Q (plS n) = jX9_paceAs_27 k t f m Q (plS n) (brS n) := by
    unfold jX9_paceAs_9 brS; split <;> rfl
  have e3 : jX9_paceAs_27 k t f m Q (plS n) (brS n) = jX9_paceAs_43 k t f m Q (plS n) (brS n) (caS n) := by
    unfold jX9_paceAs_27 caS; split <;> rfl
  rw [e1, e2, e3]
  unfold jX9_paceAs_43
  unfold pcS slS at h
  repeat' split
  all_goals simp_all
theorem s_X2_costOf {p t : Int32} {Q : Int32 → Prop} (h : Q (csS p t)) : p_X2_costOf p t Q := by
  unfold p_X2_costOf; unfold csS at h
  repeat' split
  all_goals simp_all
theorem s_X9_costAt {p t : Int32} {Q : Int32 → Prop} (h : Q (csS p t)) : p_X9_costAt p t Q := by
  unfold p_X9_costAt; unfold csS at h
  by_cases h1 : t ≤ p
  · rw [if_pos h1]
    by_cases h2 : p = t
    · subst h2
      rw [if_pos rfl]
      rw [if_neg (Int32.lt_irrefl)] at h
      simpa using h
    · have h3 : t < p := Int32.lt_of_le_of_ne h1 (fun e => h2 e.symm)
      rw [if_neg h2]
      rw [if_pos h3] at h
      by_cases h4 : p = t + 1
      · rw [if_pos h4] at h ⊢; exact h
      · rw [if_neg h4] at h ⊢; exact h
  · have h3 : ¬ t < p := fun q => h1 (Int32.le_of_lt q)
    rw [if_neg h1]
    rw [if_neg h3] at h
    exact h
theorem s_X0_holds {t m : Nat → Int32} {b : Nat} (hb : b < 8) {Q : Int32 → Prop} (h : Q (hoS (t b) (m b))) : p_X0_holds t m (nI b) Q := by
  unfold p_X0_holds; unfold hoS at h
  have hi : vp_in (nI b) 8 := vp_in_nI hb (by decide)
  rw [nI_clamp (show b < 2 ^ 31 by omega)]
  refine ⟨hi, ?_⟩
  by_cases h1 : t b ≤ 1
  · rw [if_pos h1] at h ⊢; exact h
  · rw [if_neg h1] at h ⊢; exact ⟨hi, hi, h⟩
def ctS (k f t m n : Int32) : Int32 := csS (pcS k n (hoS t m) f m) (hoS t m)
theorem s_X6_costAt {t m : Nat → Int32} {k f n : Int32} {b : Nat} (hb : b < 8) {Q : Int32 → Prop} (h : Q (ctS k f (t b) (m b) n)) : p_X6_costAt t m k f (nI b) n Q := by
  unfold p_X6_costAt
  refine s_X0_holds hb ⟨vp_in_nI hb (by decide), ?_⟩
  rw [nI_clamp (show b < 2 ^ 31 by omega)]
  exact s_X2_paceOf (s_X2_costOf h)
theorem s_X6_paceAt {t m : Nat → Int32} {k f n : Int32} {b : Nat} (hb : b < 8) {Q : Int32 → Prop} (h : Q (pcS k n (hoS (t b) (m b)) f (m b))) : p_X6_paceAt t m k f (nI b) n Q := by
  unfold p_X6_paceAt
  refine s_X0_holds hb ⟨vp_in_nI hb (by decide), ?_⟩
  rw [nI_clamp (show b < 2 ^ 31 by omega)]
  exact s_X2_paceOf h
theorem s_X6_costNoted {t n m : Nat → Int32} {k f : Int32} {b : Nat} (hb : b < 8) {Q : Int32 → Prop} (h : Q (ctS k f (t b) (m b) (n b))) : p_X6_costNoted t n m k f (nI b) Q := by
  unfold p_X6_costNoted
  refine ⟨vp_in_nI hb (by decide), ?_⟩
  rw [nI_clamp (show b < 2 ^ 31 by omega)]
  exact s_X6_costAt hb h
/-- the sum of f over b .. b+c-1, as a loop adds it -/
def sm (f : Nat → Int32) (b : Nat) : Nat → Int32
  | 0 => 0
  | c + 1 => sm f b c + f (b + c)
theorem s_X0_withMud {m : Nat → Int32} {n : Nat} (hn : n ≤ 8) {Q : Int32 → Prop} (h : Q (sm m 0 n)) : p_X0_withMud m (nI n) Q := by
  unfold p_X0_withMud
  refine lq2_for (fun i => sm m 0 i) (fun i => nI i) n ?_ ?_ 1000 0 (Nat.zero_le _) (by omega)
  · intro i hi k hk
    unfold bX0_withMud_4
    rw [if_neg (nI_le1 hi (by omega)), nI_clamp (show i < 2 ^ 31 by omega), nI_1]
    refine ⟨vp_in_nI (by omega) (by decide), ?_⟩
    have e : sm m 0 (i + 1) = sm m 0 i + m i := by simp [sm]
    rw [e] at hk
    exact hk
  · intro k
    unfold bX0_withMud_4
    rw [if_pos (Int32.le_refl _)]
    exact h
/-! the relation between a stage of the class and the reference's row T -/
/-- what T is: n bends, nf felt, np paces, nu to undo, h the next bend, mud bits mb, kind, fog, and of each bend yards, true, note, words -/
def TI (T : Nat → Int32) (n nf np nu h mb kN fN : Nat) (yN tN nN wN : Nat → Nat) : Prop :=
  (n ≤ 8 ∧ nf ≤ 3 ∧ np ≤ 6 ∧ nu ≤ 8 ∧ h ≤ n ∧ mb < 2 ^ n ∧ kN ≤ 5 ∧ fN ≤ 9) ∧ (T 0 = nI n ∧ T 1 = nI nf ∧ T 2 = nI np ∧ T 3 = nI nu ∧ T 4 = nI h ∧ T 15 = nI kN ∧ T 16 = nI fN ∧ T 17 = nI mb) ∧
  (∀ b, b < n → (1 ≤ yN b ∧ yN b ≤ 9) ∧ (1 ≤ tN b ∧ tN b ≤ 6) ∧ nN b ≤ 6 ∧ (1 ≤ wN b ∧ wN b ≤ 9) ∧ T (18 + b) = nI (yN b) ∧ T (26 + b) = nI (tN b) ∧ T (7 + b) = nI (nN b) ∧ T (34 + b) = nI (wN b)) ∧
  (∀ i, i < nf → ∃ k, 1 ≤ k ∧ k ≤ 6 ∧ T (42 + i) = nI k) ∧
  (∀ u, u < nu → (∃ k, k ≤ n ∧ T (75 + 11 * u) = nI k) ∧ ∀ j, j < n → ∃ k, k ≤ 6 ∧ T (78 + 11 * u + j) = nI k)
/-- the class's stage says the same -/
def CR (T : Nat → Int32) (n nf np nu mb : Nat) (kd fg he se cr sz : Int32) (ya tr no wo mu : Nat → Int32) (fs : Int32) (fe : Nat → Int32) (ps : Int32) (pr : Nat → Int32) (us : Int32) (pa : Nat → Int32) : Prop :=
  (kd = T 15 ∧ fg = T 16 ∧ he = T 4 ∧ se = T 5 ∧ cr = T 6 ∧ sz = nI n ∧ fs = nI nf ∧ ps = nI np ∧ us = nI nu) ∧
  (∀ b, b < n → ya b = T (18 + b) ∧ tr b = T (26 + b) ∧ no b = T (7 + b) ∧ wo b = T (34 + b) ∧ mu b = nI (mb / 2 ^ b % 2)) ∧
  (∀ i, i < nf → fe i = T (42 + i)) ∧ (∀ i, i < 5 * np → pr i = T (45 + i)) ∧
  (∀ u, u < nu → ∀ j, j < 3 + n → pa (11 * u + j) = T (75 + 11 * u + j))
def SR (kd fg he se cr sz : Int32) (ya tr no wo mu : Nat → Int32) (fs : Int32) (fe : Nat → Int32) (ps : Int32) (pr : Nat → Int32) (us : Int32) (pa : Nat → Int32) (T : Nat → Int32) : Prop :=
  ∃ (n nf np nu h mb kN fN : Nat) (yN tN nN wN : Nat → Nat), TI T n nf np nu h mb kN fN yN tN nN wN ∧ CR T n nf np nu mb kd fg he se cr sz ya tr no wo mu fs fe ps pr us pa
def LInv (a0_above a0_below : Int64) (a0_stage_kind a0_stage_fog a0_stage_here a0_stage_seconds a0_stage_crashes a0_stage_bends_size : Int32) (a0_stage_bends_yards a0_stage_bends_truth a0_stage_bends_notes a0_stage_bends_words a0_stage_bends_mud : Nat → Int32) (a0_stage_felt_size : Int32) (a0_stage_felt_holds : Nat → Int32) (a0_stage_paces_size : Int32) (a0_stage_paces_rows : Nat → Int32) (a0_stage_past_size : Int32) (a0_stage_past_rows : Nat → Int32) (a0_draft_kind a0_draft_fog a0_draft_here a0_draft_seconds a0_draft_crashes a0_draft_bends_size : Int32) (a0_draft_bends_yards a0_draft_bends_truth a0_draft_bends_notes a0_draft_bends_words a0_draft_bends_mud : Nat → Int32) (a0_draft_felt_size : Int32) (a0_draft_felt_holds : Nat → Int32) (a0_draft_paces_size : Int32) (a0_draft_paces_rows : Nat → Int32) (a0_draft_past_size : Int32) (a0_draft_past_rows : Nat → Int32) (a0_images_0_kind a0_images_0_fog a0_images_0_here a0_images_0_seconds a0_images_0_crashes a0_images_0_bends_size : Int32) (a0_images_0_bends_yards a0_images_0_bends_truth a0_images_0_bends_notes a0_images_0_bends_words a0_images_0_bends_mud : Nat → Int32) (a0_images_0_felt_size : Int32) (a0_images_0_felt_holds : Nat → Int32) (a0_images_0_paces_size : Int32) (a0_images_0_paces_rows : Nat → Int32) (a0_images_0_past_size : Int32) (a0_images_0_past_rows : Nat → Int32) (a0_images_1_kind a0_images_1_fog a0_images_1_here a0_images_1_seconds a0_images_1_crashes a0_images_1_bends_size : Int32) (a0_images_1_bends_yards a0_images_1_bends_truth a0_images_1_bends_notes a0_images_1_bends_words a0_images_1_bends_mud : Nat → Int32) (a0_images_1_felt_size : Int32) (a0_images_1_felt_holds : Nat → Int32) (a0_images_1_paces_size : Int32) (a0_images_1_paces_rows : Nat → Int32) (a0_images_1_past_size : Int32) (a0_images_1_past_rows a0_kept a0_plans_gains a0_plans_alike : Nat → Int32) (a0_text_size a0_text_sort a0_text_start a0_text_behind : Int32) (a0_text_bytes a0_refused : Nat → Int32) (a1_above a1_below : Int64) (a1_bytesLong a1_tokenAt a1_tokenLong a1_token a1_value : Int32) (a1_told a1_kept a1_isKept a1_refused a1_manyBy a1_hers a1_his a1_hand a1_bytes a1_anew a1_values : Nat → Int32) : Prop :=
  SR a0_stage_kind a0_stage_fog a0_stage_here a0_stage_seconds a0_stage_crashes a0_stage_bends_size a0_stage_bends_yards a0_stage_bends_truth a0_stage_bends_notes a0_stage_bends_words a0_stage_bends_mud a0_stage_felt_size a0_stage_felt_holds a0_stage_paces_size a0_stage_paces_rows a0_stage_past_size a0_stage_past_rows a1_told ∧ (¬ a0_kept 0 = 0 → SR a0_images_0_kind a0_images_0_fog a0_images_0_here a0_images_0_seconds a0_images_0_crashes a0_images_0_bends_size a0_images_0_bends_yards a0_images_0_bends_truth a0_images_0_bends_notes a0_images_0_bends_words a0_images_0_bends_mud a0_images_0_felt_size a0_images_0_felt_holds a0_images_0_paces_size a0_images_0_paces_rows a0_images_0_past_size a0_images_0_past_rows a1_kept) ∧ (¬ a0_kept 1 = 0 → SR a0_images_1_kind a0_images_1_fog a0_images_1_here a0_images_1_seconds a0_images_1_crashes a0_images_1_bends_size a0_images_1_bends_yards a0_images_1_bends_truth a0_images_1_bends_notes a0_images_1_bends_words a0_images_1_bends_mud a0_images_1_felt_size a0_images_1_felt_holds a0_images_1_paces_size a0_images_1_paces_rows a0_images_1_past_size a0_images_1_past_rows (fun k => a1_kept (163 + k))) ∧ a0_kept = a1_isKept ∧ a0_refused = a1_refused ∧ a0_above = a1_above ∧ a0_below = a1_below ∧ a0_text_size = a1_bytesLong ∧ a0_text_bytes = a1_bytes ∧ (∃ tn : Nat, tn ≤ 150 ∧ a1_bytesLong = nI tn ∧ ∀ k, k < tn → ∃ v, v ≤ 127 ∧ a1_bytes k = nI v)
theorem zb0 : zb 0 := rfl
theorem zb1 : zb 1 := rfl
theorem s_within_t {x lo hi : Int32} {Q : Int32 → Prop} (h : lo ≤ x ∧ x ≤ hi) (hq : Q 1) : p_X8_within x lo hi Q := by
  unfold p_X8_within
  rw [if_neg (fun q => (fa_of_lt q).2.1 h.1), if_neg (fun q => (fa_of_lt q).2.1 h.2)]
  exact hq
theorem s_within_f {x lo hi : Int32} {Q : Int32 → Prop} (h : ¬ (lo ≤ x ∧ x ≤ hi)) (hq : Q 0) : p_X8_within x lo hi Q := by
  unfold p_X8_within
  by_cases h1 : x < lo
  · rw [if_pos h1]; exact hq
  · rw [if_neg h1, if_pos]
    · exact hq
    · exact fa_of_nle (fun q => h ⟨fa_of_nlt h1, q⟩)
theorem s_in_t {x lo' hi' : Int32} {lo hi : Int64} (e1 : lo'.toInt64 = lo) (e2 : hi'.toInt64 = hi) {Q : Int32 → Prop} (h : lo' ≤ x ∧ x ≤ hi') (hq : Q 1) : p_X9_in x.toInt64 lo hi Q := by
  unfold p_X9_in
  subst e1; subst e2
  rw [if_neg, if_neg]
  · exact hq
  · intro q; rw [lg_cmp_gt, fa_wide_lt] at q; exact (fa_of_lt q).2.1 h.2
  · intro q; rw [lg_cmp_lt, fa_wide_lt] at q; exact (fa_of_lt q).2.1 h.1
theorem s_in_f {x lo' hi' : Int32} {lo hi : Int64} (e1 : lo'.toInt64 = lo) (e2 : hi'.toInt64 = hi) {Q : Int32 → Prop} (h : ¬ (lo' ≤ x ∧ x ≤ hi')) (hq : Q 0) : p_X9_in x.toInt64 lo hi Q := by
  unfold p_X9_in
  subst e1; subst e2
  by_cases h1 : x < lo'
  · rw [if_pos]
    · exact hq
    · rw [lg_cmp_lt, fa_wide_lt]; exact h1
  · rw [if_neg, if_pos]
    · exact hq
    · rw [lg_cmp_gt, fa_wide_lt]; exact fa_of_nle (fun q => h ⟨fa_of_nlt h1, q⟩)
    · intro q; rw [lg_cmp_lt, fa_wide_lt] at q; exact h1 q
theorem s_isKind_t {x : Int32} {Q : Int32 → Prop} (h : 0 ≤ x ∧ x ≤ 5) (hq : Q 1) : p_X9_isKind x Q := s_in_t (lo' := 0) (hi' := 5) (by decide) (by decide) h ⟨zb1, hq⟩
theorem s_isKind_f {x : Int32} {Q : Int32 → Prop} (h : ¬ (0 ≤ x ∧ x ≤ 5)) (hq : Q 0) : p_X9_isKind x Q := s_in_f (lo' := 0) (hi' := 5) (by decide) (by decide) h ⟨zb0, hq⟩
theorem s_isNote_t {x : Int32} {Q : Int32 → Prop} (h : 0 ≤ x ∧ x ≤ 6) (hq : Q 1) : p_X9_isNote x Q := s_in_t (lo' := 0) (hi' := 6) (by decide) (by decide) h ⟨zb1, hq⟩
theorem s_isNote_f {x : Int32} {Q : Int32 → Prop} (h : ¬ (0 ≤ x ∧ x ≤ 6)) (hq : Q 0) : p_X9_isNote x Q := s_in_f (lo' := 0) (hi' := 6) (by decide) (by decide) h ⟨zb0, hq⟩
theorem s_isFog_t {x : Int32} {Q : Int32 → Prop} (h : 0 ≤ x ∧ x ≤ 9) (hq : Q 1) : p_X9_isFog x Q := s_in_t (lo' := 0) (hi' := 9) (by decide) (by decide) h ⟨zb1, hq⟩
theorem s_isFog_f {x : Int32} {Q : Int32 → Prop} (h : ¬ (0 ≤ x ∧ x ≤ 9)) (hq : Q 0) : p_X9_isFog x Q := s_in_f (lo' := 0) (hi' := 9) (by decide) (by decide) h ⟨zb0, hq⟩
theorem s_isDriver_t {k f : Int32} {Q : Int32 → Prop} (h : 0 ≤ k ∧ k ≤ 5) (h2 : 0 ≤ f ∧ f ≤ 9) (hq : Q 1) : p_X8_isDriver k f Q := by
  unfold p_X8_isDriver
  refine s_within_t h ?_
  rw [if_neg (by decide)]
  refine s_within_t h2 ?_
  rw [if_neg (by decide)]
  exact hq
theorem s_isDriver_f1 {k f : Int32} {Q : Int32 → Prop} (h : ¬ (0 ≤ k ∧ k ≤ 5)) (hq : Q 0) : p_X8_isDriver k f Q := by
  unfold p_X8_isDriver
  refine s_within_f h ?_
  rw [if_pos rfl]
  exact hq
theorem s_isDriver_f2 {k f : Int32} {Q : Int32 → Prop} (h : 0 ≤ k ∧ k ≤ 5) (h2 : ¬ (0 ≤ f ∧ f ≤ 9)) (hq : Q 0) : p_X8_isDriver k f Q := by
  unfold p_X8_isDriver
  refine s_within_t h ?_
  rw [if_neg (by decide)]
  refine s_within_f h2 ?_
  rw [if_pos rfl]
  exact hq
/-- a call refused: what is counted -/
def rj (k : Nat) (f : Nat → Int32) : Nat → Int32 := upd f k (f k + 1)
theorem s_refuse2 {f : Nat → Int32} {Q : Int32 → (Nat → Int32) → Prop} (h : Q (-2) (rj 0 f)) : p_X8_refuse f (-2) Q := by
  unfold p_X8_refuse; rw [if_pos rfl]; exact h
theorem s_refuse3 {f : Nat → Int32} {Q : Int32 → (Nat → Int32) → Prop} (h : Q (-3) (rj 1 f)) : p_X8_refuse f (-3) Q := by
  unfold p_X8_refuse; rw [if_neg (by decide), if_pos rfl]; exact h
theorem s_refuse4 {f : Nat → Int32} {Q : Int32 → (Nat → Int32) → Prop} (h : Q (-4) (rj 2 f)) : p_X8_refuse f (-4) Q := by
  unfold p_X8_refuse; rw [if_neg (by decide), if_neg (by decide)]; exact h
theorem s_bad {f : Nat → Int32} {x : Int32} {Q : Int32 → (Nat → Int32) → Prop} (h : Q x (rj 0 f)) : p_X9_bad f x Q := h
theorem s_no {f : Nat → Int32} {Q : Int32 → (Nat → Int32) → Prop} (h : Q (-3) (rj 1 f)) : p_X9_no f Q := h
theorem s_full {f : Nat → Int32} {Q : Int32 → (Nat → Int32) → Prop} (h : Q (-4) (rj 2 f)) : p_X9_full f Q := h
theorem toI0 : (0 : Int32).toInt = 0 := rfl
theorem s_has_t {n b : Nat} (hb : b < n) (hn : n < 2 ^ 31) {Q : Int32 → Prop} (hq : Q 1) : p_X0_has (nI n) (nI b) Q := by
  unfold p_X0_has
  rw [if_neg (nI_pos (by omega)), if_neg (nI_ge hb hn)]
  exact hq
theorem s_has_f {n : Nat} {x : Int32} (h : x < 0 ∨ nI n ≤ x) {Q : Int32 → Prop} (hq : Q 0) : p_X0_has (nI n) x Q := by
  unfold p_X0_has
  by_cases h0 : x < 0
  · rw [if_pos h0]; exact hq
  · rw [if_neg h0, if_pos (h.resolve_left h0)]; exact hq
theorem s_isBend_t {T : Nat → Int32} {n b : Nat} (hT : T 0 = nI n) (hb : b < n) (hn : n < 2 ^ 30) {Q : Int32 → Prop} (hq : Q 1) : p_X9_isBend T (nI b) Q := by
  unfold p_X9_isBend p_X9_many
  show p_X9_in _ _ ((T 0 - 1).toInt64) _
  rw [hT]
  refine s_in_t (lo' := 0) (hi' := nI n - 1) (by decide) rfl ⟨nI_pos' (by omega), ?_⟩ ⟨zb1, hq⟩
  rw [fa_le, nI_toInt (by omega), show (1 : Int32) = nI 1 from rfl, pk_sub_toInt (by omega) (by decide)]
  omega
theorem s_isBend_f {T : Nat → Int32} {n : Nat} {x : Int32} (hT : T 0 = nI n) (hn : n < 2 ^ 30) (h : x < 0 ∨ nI n ≤ x) {Q : Int32 → Prop} (hq : Q 0) : p_X9_isBend T x Q := by
  unfold p_X9_isBend p_X9_many
  show p_X9_in _ _ ((T 0 - 1).toInt64) _
  rw [hT]
  refine s_in_f (lo' := 0) (hi' := nI n - 1) (by decide) rfl ?_ ⟨zb0, hq⟩
  intro q
  have h1 := q.1
  have h2 := q.2
  rw [fa_le] at h1 h2
  rw [show (1 : Int32) = nI 1 from rfl, pk_sub_toInt (by omega) (by decide)] at h2
  have e0 : (0 : Int32).toInt = 0 := rfl
  rcases h with h | h
  · rw [fa_lt] at h; omega
  · rw [fa_le, nI_toInt (by omega)] at h; omega
/-- a number that a caller tells, against n -/
theorem ixc (x : Int32) {n : Nat} (hn : n < 2 ^ 31) : (x < 0 ∨ nI n ≤ x) ∨ ∃ b : Nat, b < n ∧ x = nI b := by
  rcases pk_ix x hn with h | h | h
  · exact Or.inl (Or.inl h)
  · exact Or.inl (Or.inr h)
  · exact Or.inr h
/-- a number between two small ones -/
theorem rgN {x : Int32} (lo hi : Nat) (hl : lo ≤ hi ∧ hi < 2 ^ 31) (h : nI lo ≤ x ∧ x ≤ nI hi) : ∃ k : Nat, lo ≤ k ∧ k ≤ hi ∧ x = nI k := by
  have h1 := h.1
  have h2 := h.2
  rw [fa_le, nI_toInt (by omega)] at h1
  rw [fa_le, nI_toInt hl.2] at h2
  have h3 : ¬ x < 0 := by rw [fa_lt]; have e0 : (0 : Int32).toInt = 0 := rfl; omega
  obtain ⟨j, hj, rfl⟩ := nI_of h3
  rw [nI_toInt hj] at h1 h2
  exact ⟨j, by omega, by omega, rfl⟩
/-! what the reference's small methods answer -/
theorem s_many {T : Nat → Int32} {n : Nat} (h : T 0 = nI n) {Q : Int32 → Prop} (hq : Q (nI n)) : p_X9_many T Q := by
  show Q (T 0)
  rw [h]
  exact hq
theorem bitI : ∀ mb, mb < 256 → ∀ b, b < 8 → ((nI mb >>> (nI b &&& 31)) &&& 1) = nI (mb / 2 ^ b % 2) := by decide +kernel
theorem hoM : ∀ t, t < 7 → 1 ≤ t → ∀ m, m < 2 → (if 1 ≤ nI t - nI m then nI t - nI m else 1) = hoS (nI t) (nI m) := by decide +kernel
theorem bit2 (a b : Nat) : a / 2 ^ b % 2 < 2 := Nat.mod_lt _ (by decide)
theorem pw8 {n mb : Nat} (hn : n ≤ 8) (h : mb < 2 ^ n) : mb < 256 := Nat.lt_of_lt_of_le h (Nat.pow_le_pow_right (by decide) hn : 2 ^ n ≤ 2 ^ 8)
theorem s_holdsOf {N : Nat} {T : Nat → Int32} {mb b t : Nat} (hN : 42 ≤ N) (hN2 : N < 2 ^ 31) (h17 : T 17 = nI mb) (hmb : mb < 256) (hb : b < 8) (ht : T (26 + b) = nI t) (t1 : 1 ≤ t) (t6 : t ≤ 6) {Q : Int32 → Prop} (hq : Q (hoS (T (26 + b)) (nI (mb / 2 ^ b % 2)))) : p_X9_holdsOf N T (nI b) Q := by
  unfold p_X9_holdsOf
  have e26 : (26 : Int32) + nI b = nI (26 + b) := nI_add 26 b
  rw [e26, nI_clamp (show 26 + b < 2 ^ 31 by omega), show (17 : Int32).toNatClampNeg = 17 from rfl, h17, bitI mb hmb b hb]
  refine ⟨vp_in_nI (by omega) hN2, vp_in_nI (n := 17) (by omega) hN2, ?_⟩
  have e := hoM t (by omega) t1 (mb / 2 ^ b % 2) (bit2 mb b)
  rw [ht] at hq ⊢
  rw [← e] at hq
  by_cases h1 : 1 ≤ nI t - nI (mb / 2 ^ b % 2)
  · rw [if_pos h1] at hq ⊢; exact hq
  · rw [if_neg h1] at hq ⊢; exact hq
theorem bitN (x : Nat) : (if (if nI (x % 2) = 1 then (1 : Int32) else 0) = 0 then (0 : Int32) else 1) = nI (x % 2) := by
  rcases Nat.mod_two_eq_zero_or_one x with h | h <;> rw [h] <;> rfl
theorem s_has9_1 {mb b : Nat} (hmb : mb < 256) (hb : b < 8) (h : mb / 2 ^ b % 2 = 1) {Q : Int32 → Prop} (hq : Q 1) : p_X9_has (nI mb) (nI b) Q := by
  unfold p_X9_has
  rw [bitI mb hmb b hb, h, if_pos (show nI 1 = 1 from rfl)]; exact hq
theorem s_has9_0 {mb b : Nat} (hmb : mb < 256) (hb : b < 8) (h : mb / 2 ^ b % 2 = 0) {Q : Int32 → Prop} (hq : Q 0) : p_X9_has (nI mb) (nI b) Q := by
  unfold p_X9_has
  rw [bitI mb hmb b hb, h, if_neg (by decide)]; exact hq
theorem s_has9 {mb b : Nat} (hmb : mb < 256) (hb : b < 8) {Q : Int32 → Prop} (hq : Q (nI (mb / 2 ^ b % 2))) : p_X9_has (nI mb) (nI b) Q := by
  rcases Nat.mod_two_eq_zero_or_one (mb / 2 ^ b) with h | h
  · rw [h] at hq; exact s_has9_0 hmb hb h hq
  · rw [h] at hq; exact s_has9_1 hmb hb h hq
theorem s_hasBit {mb b : Nat} (hmb : mb < 256) (hb : b < 8) {Q : Int32 → Prop} (hq : Q (nI (mb / 2 ^ b % 2))) : p_X8_hasBit (nI mb) (nI b) Q := s_has9 hmb hb hq
theorem flagN (x : Nat) : (if nI (x % 2) = 0 then (0 : Int32) else 1) = nI (x % 2) := by
  rcases Nat.mod_two_eq_zero_or_one x with h | h <;> rw [h] <;> rfl
theorem s_paceBy {N : Nat} {T : Nat → Int32} {mb b t : Nat} {x : Int32} (hN : 42 ≤ N) (hN2 : N < 2 ^ 31) (h17 : T 17 = nI mb) (hmb : mb < 256) (hb : b < 8) (ht : T (26 + b) = nI t) (t1 : 1 ≤ t) (t6 : t ≤ 6) {Q : Int32 → Prop} (hq : Q (pcS (T 15) x (hoS (T (26 + b)) (nI (mb / 2 ^ b % 2))) (T 16) (nI (mb / 2 ^ b % 2)))) : p_X9_paceBy N T (nI b) x Q := by
  unfold p_X9_paceBy
  refine ⟨vp_in_nI (n := 15) (by omega) hN2, s_holdsOf hN hN2 h17 hmb hb ht t1 t6 ⟨vp_in_nI (n := 16) (by omega) hN2, vp_in_nI (n := 17) (by omega) hN2, ?_⟩⟩
  rw [show (17 : Int32).toNatClampNeg = 17 from rfl, show (15 : Int32).toNatClampNeg = 15 from rfl, show (16 : Int32).toNatClampNeg = 16 from rfl, h17]
  refine s_has9 hmb hb (s_X9_paceAs ?_)
  rw [flagN]
  exact hq
/-- the cost at a bend by a note, out of T -/
def cS (T : Nat → Int32) (mb b : Nat) (x : Int32) : Int32 := ctS (T 15) (T 16) (T (26 + b)) (nI (mb / 2 ^ b % 2)) x
theorem s_costBy {N : Nat} {T : Nat → Int32} {mb b t : Nat} {x : Int32} (hN : 42 ≤ N) (hN2 : N < 2 ^ 31) (h17 : T 17 = nI mb) (hmb : mb < 256) (hb : b < 8) (ht : T (26 + b) = nI t) (t1 : 1 ≤ t) (t6 : t ≤ 6) {Q : Int32 → Prop} (hq : Q (cS T mb b x)) : p_X9_costBy N T (nI b) x Q := by
  unfold p_X9_costBy
  exact s_paceBy hN hN2 h17 hmb hb ht t1 t6 (s_holdsOf hN hN2 h17 hmb hb ht t1 t6 (s_X9_costAt hq))
theorem s_noteOf {T : Nat → Int32} {b : Nat} (hb : b < 8) {Q : Int32 → Prop} (hq : Q (T (7 + b))) : p_X9_noteOf T (nI b) Q := by
  unfold p_X9_noteOf
  have e7 : (7 : Int32) + nI b = nI (7 + b) := nI_add 7 b
  rw [e7, nI_clamp (show 7 + b < 2 ^ 31 by omega)]
  exact ⟨vp_in_nI (by omega) (by decide), hq⟩
section TT
variable {T : Nat → Int32} {n nf np nu h mb kN fN : Nat} {yN tN nN wN : Nat → Nat}
theorem TI.n8 (H : TI T n nf np nu h mb kN fN yN tN nN wN) : n ≤ 8 := H.1.1
theorem TI.mb8 (H : TI T n nf np nu h mb kN fN yN tN nN wN) : mb < 256 := pw8 H.1.1 H.1.2.2.2.2.2.1
theorem TI.hn (H : TI T n nf np nu h mb kN fN yN tN nN wN) : h ≤ n := H.1.2.2.2.2.1
theorem TI.e0 (H : TI T n nf np nu h mb kN fN yN tN nN wN) : T 0 = nI n := H.2.1.1
theorem TI.e1 (H : TI T n nf np nu h mb kN fN yN tN nN wN) : T 1 = nI nf := H.2.1.2.1
theorem TI.e2 (H : TI T n nf np nu h mb kN fN yN tN nN wN) : T 2 = nI np := H.2.1.2.2.1
theorem TI.e3 (H : TI T n nf np nu h mb kN fN yN tN nN wN) : T 3 = nI nu := H.2.1.2.2.2.1
theorem TI.e4 (H : TI T n nf np nu h mb kN fN yN tN nN wN) : T 4 = nI h := H.2.1.2.2.2.2.1
theorem TI.e15 (H : TI T n nf np nu h mb kN fN yN tN nN wN) : T 15 = nI kN := H.2.1.2.2.2.2.2.1
theorem TI.e16 (H : TI T n nf np nu h mb kN fN yN tN nN wN) : T 16 = nI fN := H.2.1.2.2.2.2.2.2.1
theorem TI.e17 (H : TI T n nf np nu h mb kN fN yN tN nN wN) : T 17 = nI mb := H.2.1.2.2.2.2.2.2.2
theorem TI.t (H : TI T n nf np nu h mb kN fN yN tN nN wN) {b : Nat} (hb : b < n) : T (26 + b) = nI (tN b) := (H.2.2.1 b hb).2.2.2.2.2.1
theorem TI.t1 (H : TI T n nf np nu h mb kN fN yN tN nN wN) {b : Nat} (hb : b < n) : 1 ≤ tN b := (H.2.2.1 b hb).2.1.1
theorem TI.t6 (H : TI T n nf np nu h mb kN fN yN tN nN wN) {b : Nat} (hb : b < n) : tN b ≤ 6 := (H.2.2.1 b hb).2.1.2
theorem TI.no (H : TI T n nf np nu h mb kN fN yN tN nN wN) {b : Nat} (hb : b < n) : T (7 + b) = nI (nN b) := (H.2.2.1 b hb).2.2.2.2.2.2.1
theorem TI.no6 (H : TI T n nf np nu h mb kN fN yN tN nN wN) {b : Nat} (hb : b < n) : nN b ≤ 6 := (H.2.2.1 b hb).2.2.1
theorem TI.ya (H : TI T n nf np nu h mb kN fN yN tN nN wN) {b : Nat} (hb : b < n) : T (18 + b) = nI (yN b) := (H.2.2.1 b hb).2.2.2.2.1
theorem TI.wo (H : TI T n nf np nu h mb kN fN yN tN nN wN) {b : Nat} (hb : b < n) : T (34 + b) = nI (wN b) := (H.2.2.1 b hb).2.2.2.2.2.2.2
theorem s_cost (H : TI T n nf np nu h mb kN fN yN tN nN wN) {b : Nat} (hb : b < n) {x : Int32} {Q : Int32 → Prop} (hq : Q (cS T mb b x)) : p_X9_cost T (nI b) x Q := by
  have h8 := H.n8
  unfold p_X9_cost
  exact s_costBy (by decide) (by decide) H.e17 H.mb8 (by omega) (H.t hb) (H.t1 hb) (H.t6 hb) hq
theorem s_holds9 (H : TI T n nf np nu h mb kN fN yN tN nN wN) {b : Nat} (hb : b < n) {Q : Int32 → Prop} (hq : Q (hoS (T (26 + b)) (nI (mb / 2 ^ b % 2)))) : p_X9_holdsOf 163 T (nI b) Q := by
  have h8 := H.n8
  exact s_holdsOf (by decide) (by decide) H.e17 H.mb8 (by omega) (H.t hb) (H.t1 hb) (H.t6 hb) hq
theorem s_pace9 (H : TI T n nf np nu h mb kN fN yN tN nN wN) {b : Nat} (hb : b < n) {x : Int32} {Q : Int32 → Prop} (hq : Q (pcS (T 15) x (hoS (T (26 + b)) (nI (mb / 2 ^ b % 2))) (T 16) (nI (mb / 2 ^ b % 2)))) : p_X9_paceBy 163 T (nI b) x Q := by
  have h8 := H.n8
  exact s_paceBy (by decide) (by decide) H.e17 H.mb8 (by omega) (H.t hb) (H.t1 hb) (H.t6 hb) hq
variable {kd fg he se cr sz : Int32} {ya tr no wo mu : Nat → Int32} {fs : Int32} {fe : Nat → Int32} {ps : Int32} {pr : Nat → Int32} {us : Int32} {pa : Nat → Int32}
theorem c_cost (H : TI T n nf np nu h mb kN fN yN tN nN wN) (C : CR T n nf np nu mb kd fg he se cr sz ya tr no wo mu fs fe ps pr us pa) {b : Nat} (hb : b < n) {x : Int32} {Q : Int32 → Prop} (hq : Q (cS T mb b x)) : p_X6_costAt tr mu kd fg (nI b) x Q := by
  have h8 := H.n8
  refine s_X6_costAt (by omega) ?_
  rw [(C.2.1 b hb).2.1, (C.2.1 b hb).2.2.2.2, C.1.1, C.1.2.1]
  exact hq
theorem c_pace (H : TI T n nf np nu h mb kN fN yN tN nN wN) (C : CR T n nf np nu mb kd fg he se cr sz ya tr no wo mu fs fe ps pr us pa) {b : Nat} (hb : b < n) {x : Int32} {Q : Int32 → Prop} (hq : Q (pcS (T 15) x (hoS (T (26 + b)) (nI (mb / 2 ^ b % 2))) (T 16) (nI (mb / 2 ^ b % 2)))) : p_X6_paceAt tr mu kd fg (nI b) x Q := by
  have h8 := H.n8
  refine s_X6_paceAt (by omega) ?_
  rw [(C.2.1 b hb).2.1, (C.2.1 b hb).2.2.2.2, C.1.1, C.1.2.1]
  exact hq
theorem c_holds (H : TI T n nf np nu h mb kN fN yN tN nN wN) (C : CR T n nf np nu mb kd fg he se cr sz ya tr no wo mu fs fe ps pr us pa) {b : Nat} (hb : b < n) {Q : Int32 → Prop} (hq : Q (hoS (T (26 + b)) (nI (mb / 2 ^ b % 2)))) : p_X0_holds tr mu (nI b) Q := by
  have h8 := H.n8
  refine s_X0_holds (by omega) ?_
  rw [(C.2.1 b hb).2.1, (C.2.1 b hb).2.2.2.2]
  exact hq
theorem c_costNoted (H : TI T n nf np nu h mb kN fN yN tN nN wN) (C : CR T n nf np nu mb kd fg he se cr sz ya tr no wo mu fs fe ps pr us pa) {b : Nat} (hb : b < n) {Q : Int32 → Prop} (hq : Q (cS T mb b (T (7 + b)))) : p_X6_costNoted tr no mu kd fg (nI b) Q := by
  have h8 := H.n8
  refine s_X6_costNoted (by omega) ?_
  rw [(C.2.1 b hb).2.1, (C.2.1 b hb).2.2.2.2, (C.2.1 b hb).2.2.1, C.1.1, C.1.2.1]
  exact hq
end TT
