/-! counts and the digest -/
def bsum (mb : Nat) : Nat → Nat
  | 0 => 0
  | b + 1 => bsum mb b + mb / 2 ^ b % 2
theorem bsum_popc : ∀ n, n < 9 → ∀ mb, mb < 2 ^ n → bsum mb n = popc 8 mb := by decide +kernel
def ntC (nN : Nat → Nat) : Nat → Int32
  | 0 => 0
  | b + 1 => if nN b = 0 then ntC nN b else ntC nN b + 1
/-- what count tells -/
def ctV (n nf np nu mb : Nat) (nN : Nat → Nat) (tx : Int32) (k : Nat) : Int32 := if k = 0 then nI n else if k = 1 then ntC nN n else if k = 2 then nI (popc 8 mb) else if k = 3 then nI nf else if k = 4 then nI np else if k = 5 then nI nu else tx
/-- what now tells -/
def nwV (T : Nat → Int32) (k : Nat) : Int32 := if k < 3 then T (4 + k) else if k = 3 then T 15 else T 16
def hsh (V : Nat → Int32) (h0 : Int64) : Nat → Int64
  | 0 => h0
  | i + 1 => 31 * hsh V h0 i + (V i).toInt64
section PC
variable {T : Nat → Int32} {n nf np nu h mb kN fN : Nat} {yN tN nN wN : Nat → Nat}
variable {kd fg he se cr sz : Int32} {ya tr no wo mu : Nat → Int32} {fs : Int32} {fe : Nat → Int32} {ps : Int32} {pr : Nat → Int32} {us : Int32} {pa : Nat → Int32} {rf rf' : Nat → Int32}
theorem c_mud (H : TI T n nf np nu h mb kN fN yN tN nN wN) (C : CR T n nf np nu mb kd fg he se cr sz ya tr no wo mu fs fe ps pr us pa) {Q : Int32 → Prop} (hq : Q (nI (popc 8 mb))) : p_X0_withMud mu sz Q := by
  have h8 := H.n8
  rw [C.esz]
  refine s_X0_withMud h8 ?_
  have e : ∀ m, m ≤ n → sm mu 0 m = nI (bsum mb m) := by
    intro m
    induction m with
    | zero => intro _; rfl
    | succ m ih =>
      intro hm
      show sm mu 0 m + mu (0 + m) = nI (bsum mb m + mb / 2 ^ m % 2)
      rw [ih (by omega), Nat.zero_add, (C.2.1 m (by omega)).2.2.2.2, nI_add]
  rw [e n (Nat.le_refl _), bsum_popc n (by omega) mb H.1.2.2.2.2.2.1]
  exact hq
theorem c_noted (H : TI T n nf np nu h mb kN fN yN tN nN wN) (C : CR T n nf np nu mb kd fg he se cr sz ya tr no wo mu fs fe ps pr us pa) {Q : Int32 → Prop} (hq : Q (ntC nN n)) : p_X0_noted no sz Q := by
  have h8 := H.n8
  unfold p_X0_noted
  rw [C.esz]
  refine lq2_for (fun i => ntC nN i) (fun i => nI i) n ?_ ?_ 1000 0 (Nat.zero_le _) (by omega)
  · intro i hi k hk
    have h6 := H.no6 hi
    unfold bX0_noted_4
    rw [if_neg (nI_ge hi (by omega)), nI_clamp (show i < 2 ^ 31 by omega), (C.2.1 i hi).2.2.1, H.no hi, nI_1]
    refine ⟨vp_in_nI (by omega) (by decide), ?_⟩
    have e : ntC nN (i + 1) = if nN i = 0 then ntC nN i else ntC nN i + 1 := rfl
    rw [e] at hk
    by_cases g : nN i = 0
    · rw [if_pos g] at hk; rw [if_pos (show nI (nN i) = 0 by rw [g]; rfl)]; exact hk
    · rw [if_neg g] at hk; rw [if_neg (nI_ne0 (by omega) (by omega))]; exact hk
  · intro k
    unfold bX0_noted_4
    rw [if_pos (Int32.le_refl _)]
    exact hq
theorem m_noted (H : TI T n nf np nu h mb kN fN yN tN nN wN) {Q : Int32 → Prop} (hq : Q (ntC nN n)) : p_X9_manyNotes T Q := by
  have h8 := H.n8
  unfold p_X9_manyNotes
  refine lq2_for (fun i => ntC nN i) (fun i => nI i) n ?_ ?_ 1000 0 (Nat.zero_le _) (by omega)
  · intro i hi k hk
    have h6 := H.no6 hi
    unfold bX9_manyNotes_4
    refine s_many H.e0 ?_
    rw [if_neg (nI_ge hi (by omega))]
    refine s_noteOf (by omega) ?_
    rw [H.no hi, nI_1, Int32.add_zero]
    have e : ntC nN (i + 1) = if nN i = 0 then ntC nN i else ntC nN i + 1 := rfl
    rw [e] at hk
    by_cases g : nN i = 0
    · rw [if_pos g] at hk; rw [if_pos (show nI (nN i) ≤ 0 by rw [g]; exact Int32.le_refl _)]; exact hk
    · rw [if_neg g] at hk; rw [if_neg (show ¬ nI (nN i) ≤ 0 from nI_ge (a := 0) (b := nN i) (by omega) (by omega))]; exact hk
  · intro k
    unfold bX9_manyNotes_4
    refine s_many H.e0 ?_
    rw [if_pos (Int32.le_refl _)]
    exact hq
theorem c_howMany (H : TI T n nf np nu h mb kN fN yN tN nN wN) (C : CR T n nf np nu mb kd fg he se cr sz ya tr no wo mu fs fe ps pr us pa) {tx : Int32} {k : Nat} (hk : k ≤ 6) {Q : Int32 → Prop} (hq : Q (ctV n nf np nu mb nN tx k)) : p_X8_howMany no mu sz fs ps us tx (nI k) Q := by
  unfold p_X8_howMany
  unfold ctV at hq
  rcases (show k = 0 ∨ k = 1 ∨ k = 2 ∨ k = 3 ∨ k = 4 ∨ k = 5 ∨ k = 6 by omega) with rfl | rfl | rfl | rfl | rfl | rfl | rfl
  · rw [if_pos (show nI 0 = 0 from rfl), C.esz]; exact hq
  · rw [if_neg (show ¬ nI 1 = 0 by decide), if_pos (show nI 1 = 1 from rfl)]; exact c_noted H C hq
  · rw [if_neg (show ¬ nI 2 = 0 by decide), if_neg (show ¬ nI 2 = 1 by decide), if_pos (show nI 2 = 2 from rfl)]; exact c_mud H C hq
  · rw [if_neg (show ¬ nI 3 = 0 by decide), if_neg (show ¬ nI 3 = 1 by decide), if_neg (show ¬ nI 3 = 2 by decide), if_pos (show nI 3 = 3 from rfl), C.1.2.2.2.2.2.2.1]; exact hq
  · rw [if_neg (show ¬ nI 4 = 0 by decide), if_neg (show ¬ nI 4 = 1 by decide), if_neg (show ¬ nI 4 = 2 by decide), if_neg (show ¬ nI 4 = 3 by decide), if_pos (show nI 4 = 4 from rfl), C.1.2.2.2.2.2.2.2.1]; exact hq
  · rw [if_neg (show ¬ nI 5 = 0 by decide), if_neg (show ¬ nI 5 = 1 by decide), if_neg (show ¬ nI 5 = 2 by decide), if_neg (show ¬ nI 5 = 3 by decide), if_neg (show ¬ nI 5 = 4 by decide), if_pos (show nI 5 = 5 from rfl), C.1.2.2.2.2.2.2.2.2]; exact hq
  · rw [if_neg (show ¬ nI 6 = 0 by decide), if_neg (show ¬ nI 6 = 1 by decide), if_neg (show ¬ nI 6 = 2 by decide), if_neg (show ¬ nI 6 = 3 by decide), if_neg (show ¬ nI 6 = 4 by decide), if_neg (show ¬ nI 6 = 5 by decide)]; exact hq
theorem m_counted (H : TI T n nf np nu h mb kN fN yN tN nN wN) {tx : Int32} {k : Nat} (hk : k ≤ 6) {Q : Int32 → Prop} (hq : Q (ctV n nf np nu mb nN tx k)) : p_X9_counted T tx (nI k) Q := by
  unfold p_X9_counted
  unfold ctV at hq
  rw [show (17 : Int32).toNatClampNeg = 17 from rfl, show (1 : Int32).toNatClampNeg = 1 from rfl, show (2 : Int32).toNatClampNeg = 2 from rfl, show (3 : Int32).toNatClampNeg = 3 from rfl, H.e17, H.e1, H.e2, H.e3]
  rcases (show k = 0 ∨ k = 1 ∨ k = 2 ∨ k = 3 ∨ k = 4 ∨ k = 5 ∨ k = 6 by omega) with rfl | rfl | rfl | rfl | rfl | rfl | rfl
  · rw [if_pos (show nI 0 = 0 from rfl)]; exact s_many H.e0 hq
  · rw [if_neg (show ¬ nI 1 = 0 by decide), if_pos (show nI 1 = 1 from rfl)]; exact m_noted H hq
  · rw [if_neg (show ¬ nI 2 = 0 by decide), if_neg (show ¬ nI 2 = 1 by decide), if_pos (show nI 2 = 2 from rfl)]; exact s_bits H.mb8 hq
  · rw [if_neg (show ¬ nI 3 = 0 by decide), if_neg (show ¬ nI 3 = 1 by decide), if_neg (show ¬ nI 3 = 2 by decide), if_pos (show nI 3 = 3 from rfl)]; exact hq
  · rw [if_neg (show ¬ nI 4 = 0 by decide), if_neg (show ¬ nI 4 = 1 by decide), if_neg (show ¬ nI 4 = 2 by decide), if_neg (show ¬ nI 4 = 3 by decide), if_pos (show nI 4 = 4 from rfl)]; exact hq
  · rw [if_neg (show ¬ nI 5 = 0 by decide), if_neg (show ¬ nI 5 = 1 by decide), if_neg (show ¬ nI 5 = 2 by decide), if_neg (show ¬ nI 5 = 3 by decide), if_neg (show ¬ nI 5 = 4 by decide), if_pos (show nI 5 = 5 from rfl)]; exact hq
  · rw [if_neg (show ¬ nI 6 = 0 by decide), if_neg (show ¬ nI 6 = 1 by decide), if_neg (show ¬ nI 6 = 2 by decide), if_neg (show ¬ nI 6 = 3 by decide), if_neg (show ¬ nI 6 = 4 by decide), if_neg (show ¬ nI 6 = 5 by decide)]; exact hq
theorem q_count (H : TI T n nf np nu h mb kN fN yN tN nN wN) (C : CR T n nf np nu mb kd fg he se cr sz ya tr no wo mu fs fe ps pr us pa) {tx tx' : Int32} (et : tx = tx') (x1 : Int32) {Z : Int32 → (Nat → Int32) → Int32 → (Nat → Int32) → Prop} (z1 : Z (-2) (rj 0 rf) (-2) (rj 0 rf')) (z2 : ∀ r, Z r rf r rf') : p_X8_count no mu sz fs ps us tx rf x1 (fun r u => p_X9_count T rf' tx' x1 (fun r' v => Z r u r' v)) := by
  subst et
  unfold p_X8_count p_X9_count
  by_cases h1 : 0 ≤ x1 ∧ x1 ≤ 6
  · refine s_within_t h1 ?_
    rw [if_neg (by decide)]
    obtain ⟨k, -, hk, rfl⟩ := rgN (x := x1) 0 6 (by decide) h1
    refine c_howMany H C hk (s_in_t (lo' := 0) (hi' := 6) (by decide) (by decide) h1 ?_)
    rw [if_neg (by decide)]
    exact m_counted H hk (z2 _)
  · refine s_within_f h1 ?_
    rw [if_pos rfl]
    refine s_refuse2 (s_in_f (lo' := 0) (hi' := 6) (by decide) (by decide) h1 ?_)
    rw [if_pos rfl]
    exact s_bad z1
theorem c_tell (C : CR T n nf np nu mb kd fg he se cr sz ya tr no wo mu fs fe ps pr us pa) {k : Nat} (hk : k ≤ 4) {Q : Int32 → Prop} (hq : Q (nwV T k)) : p_X6_tell kd fg he se cr (nI k) Q := by
  unfold p_X6_tell
  unfold nwV at hq
  obtain ⟨c1, c2, c3, c4, c5, -⟩ := C.1
  rw [c1, c2, c3, c4, c5]
  rcases (show k = 0 ∨ k = 1 ∨ k = 2 ∨ k = 3 ∨ k = 4 by omega) with rfl | rfl | rfl | rfl | rfl
  · rw [if_pos (show nI 0 = 0 from rfl)]; exact hq
  · rw [if_neg (show ¬ nI 1 = 0 by decide), if_pos (show nI 1 = 1 from rfl)]; exact hq
  · rw [if_neg (show ¬ nI 2 = 0 by decide), if_neg (show ¬ nI 2 = 1 by decide), if_pos (show nI 2 = 2 from rfl)]; exact hq
  · rw [if_neg (show ¬ nI 3 = 0 by decide), if_neg (show ¬ nI 3 = 1 by decide), if_neg (show ¬ nI 3 = 2 by decide), if_pos (show nI 3 = 3 from rfl)]; exact hq
  · rw [if_neg (show ¬ nI 4 = 0 by decide), if_neg (show ¬ nI 4 = 1 by decide), if_neg (show ¬ nI 4 = 2 by decide), if_neg (show ¬ nI 4 = 3 by decide)]; exact hq
theorem m_nowOf {k : Nat} (hk : k ≤ 4) {Q : Int32 → Prop} (hq : Q (nwV T k)) : p_X9_nowOf T (nI k) Q := by
  unfold p_X9_nowOf
  unfold nwV at hq
  rcases (show k < 3 ∨ k = 3 ∨ k = 4 by omega) with g | rfl | rfl
  · rw [if_pos g] at hq
    rw [if_neg (show ¬ (3 : Int32) ≤ nI k from nI_ge (b := 3) g (by decide)), show (4 : Int32) + nI k = nI (4 + k) from nI_add 4 k, nI_clamp (show 4 + k < 2 ^ 31 by omega)]
    exact ⟨vp_in_nI (by omega) (by decide), hq⟩
  · rw [if_pos (show (3 : Int32) ≤ nI 3 from Int32.le_refl _), if_pos (show nI 3 = 3 from rfl)]; exact hq
  · rw [if_pos (show (3 : Int32) ≤ nI 4 by decide), if_neg (show ¬ nI 4 = 3 by decide)]; exact hq
/-- what of tells of a bend -/
def ofV (T : Nat → Int32) (mb b k : Nat) : Int32 := if k = 0 then T (18 + b) else if k = 1 then T (26 + b) else if k = 2 then T (7 + b) else if k = 3 then T (34 + b) else nI (mb / 2 ^ b % 2)
def bdH (T : Nat → Int32) (mb : Nat) (h0 : Int64) : Nat → Int64
  | 0 => h0
  | b + 1 => hsh (ofV T mb b) (bdH T mb h0 b) 5
theorem c_tellB (C : CR T n nf np nu mb kd fg he se cr sz ya tr no wo mu fs fe ps pr us pa) (h8 : n ≤ 8) {b k : Nat} (hb : b < n) (hk : k ≤ 4) {Q : Int32 → Prop} (hq : Q (ofV T mb b k)) : p_X0_tell ya tr no wo mu (nI b) (nI k) Q := by
  unfold p_X0_tell
  unfold ofV at hq
  obtain ⟨c1, c2, c3, c4, c5⟩ := C.2.1 b hb
  have hi : vp_in (nI b) 8 := vp_in_nI (by omega) (by decide)
  rw [nI_clamp (show b < 2 ^ 31 by omega), c1, c2, c3, c4, c5]
  rcases (show k = 0 ∨ k = 1 ∨ k = 2 ∨ k = 3 ∨ k = 4 by omega) with rfl | rfl | rfl | rfl | rfl
  · rw [if_pos (show nI 0 = 0 from rfl)]; exact ⟨hi, hq⟩
  · rw [if_neg (show ¬ nI 1 = 0 by decide), if_pos (show nI 1 = 1 from rfl)]; exact ⟨hi, hq⟩
  · rw [if_neg (show ¬ nI 2 = 0 by decide), if_neg (show ¬ nI 2 = 1 by decide), if_pos (show nI 2 = 2 from rfl)]; exact ⟨hi, hq⟩
  · rw [if_neg (show ¬ nI 3 = 0 by decide), if_neg (show ¬ nI 3 = 1 by decide), if_neg (show ¬ nI 3 = 2 by decide), if_pos (show nI 3 = 3 from rfl)]; exact ⟨hi, hq⟩
  · rw [if_neg (show ¬ nI 4 = 0 by decide), if_neg (show ¬ nI 4 = 1 by decide), if_neg (show ¬ nI 4 = 2 by decide), if_neg (show ¬ nI 4 = 3 by decide), if_pos (show nI 4 = 4 from rfl)]; exact ⟨hi, hq⟩
theorem c_dgB (H : TI T n nf np nu h mb kN fN yN tN nN wN) (C : CR T n nf np nu mb kd fg he se cr sz ya tr no wo mu fs fe ps pr us pa) {h0 : Int64} {Q : Int64 → Prop} (hq : Q (bdH T mb h0 n)) : p_X0_digestOn ya tr no wo mu sz h0 Q := by
  have h8 := H.n8
  unfold p_X0_digestOn
  rw [C.esz]
  refine lq2_for (fun i => bdH T mb h0 i) (fun i => nI i) n ?_ ?_ 1000 0 (Nat.zero_le _) (by omega)
  · intro b hb k hk
    unfold bX0_digestOn_5
    rw [if_neg (nI_ge hb (by omega))]
    refine lq2_for (fun i => hsh (ofV T mb b) (bdH T mb h0 b) i) (fun i => nI i) 5 ?_ ?_ 1000 0 (Nat.zero_le _) (by omega)
    · intro i hi k2 hk2
      unfold bX0_digestOn_17
      rw [if_neg (show ¬ (4 : Int32) < nI i from fun q => (fa_of_lt q).2.1 (nI_le (b := 4) (by omega) (by decide))), nI_1]
      exact c_tellB C h8 hb (by omega) hk2
    · intro k2
      unfold bX0_digestOn_17
      rw [if_pos (show (4 : Int32) < nI 5 by decide), nI_1]
      exact hk
  · intro k
    unfold bX0_digestOn_5
    rw [if_pos (Int32.le_refl _)]
    exact hq
theorem c_dgF (H : TI T n nf np nu h mb kN fN yN tN nN wN) (C : CR T n nf np nu mb kd fg he se cr sz ya tr no wo mu fs fe ps pr us pa) {h0 : Int64} {Q : Int64 → Prop} (hq : Q (hsh (fun i => T (42 + i)) h0 nf)) : p_X1_digestOn fe fs h0 Q := by
  have hf3 : nf ≤ 3 := H.1.2.1
  unfold p_X1_digestOn
  rw [show fs = nI nf from C.1.2.2.2.2.2.2.1]
  refine lq2_for (fun i => hsh (fun i => T (42 + i)) h0 i) (fun i => nI i) nf ?_ ?_ 1000 0 (Nat.zero_le _) (by omega)
  · intro i hi k hk
    unfold bX1_digestOn_5
    rw [if_neg (nI_ge hi (by omega)), nI_clamp (show i < 2 ^ 31 by omega), C.2.2.1 i hi, nI_1]
    exact ⟨vp_in_nI (by omega) (by decide), hk⟩
  · intro k
    unfold bX1_digestOn_5
    rw [if_pos (Int32.le_refl _)]
    exact hq
theorem c_dgP (H : TI T n nf np nu h mb kN fN yN tN nN wN) (C : CR T n nf np nu mb kd fg he se cr sz ya tr no wo mu fs fe ps pr us pa) {h0 : Int64} {Q : Int64 → Prop} (hq : Q (hsh (fun i => T (45 + i)) h0 (5 * np))) : p_X3_digestOn pr ps h0 Q := by
  have hp6 : np ≤ 6 := H.1.2.2.1
  unfold p_X3_digestOn
  have e0 : nI np * 5 = nI (5 * np) := by rw [show (5 : Int32) = nI 5 from rfl, pk_mul, Nat.mul_comm]
  rw [show ps = nI np from C.1.2.2.2.2.2.2.2.1]
  refine lq2_for (fun i => hsh (fun i => T (45 + i)) h0 i) (fun i => nI i) (5 * np) ?_ ?_ 1000 0 (Nat.zero_le _) (by omega)
  · intro i hi k hk
    unfold bX3_digestOn_5
    rw [e0, if_neg (nI_ge hi (by omega)), nI_clamp (show i < 2 ^ 31 by omega), C.2.2.2.1 i hi, nI_1]
    exact ⟨vp_in_nI (by omega) (by decide), hk⟩
  · intro k
    unfold bX3_digestOn_5
    rw [e0, if_pos (Int32.le_refl _)]
    exact hq
theorem m_sums {h0 : Int64} {a c : Nat} (hc : a + c ≤ 163) {Q : Int64 → Prop} (hq : Q (hsh (fun i => T (a + i)) h0 c)) : p_X9_sums T h0 (nI a) (nI c) Q := by
  unfold p_X9_sums
  refine lq2_for (fun i => hsh (fun i => T (a + i)) h0 i) (fun i => nI i) c ?_ ?_ 1000 0 (Nat.zero_le _) (by omega)
  · intro i hi k hk
    unfold bX9_sums_6
    rw [if_neg (nI_ge hi (by omega)), nI_add, nI_clamp (show a + i < 2 ^ 31 by omega), nI_1]
    exact ⟨vp_in_nI (by omega) (by decide), hk⟩
  · intro k
    unfold bX9_sums_6
    rw [if_pos (Int32.le_refl _)]
    exact hq
theorem q_digest (H : TI T n nf np nu h mb kN fN yN tN nN wN) (C : CR T n nf np nu mb kd fg he se cr sz ya tr no wo mu fs fe ps pr us pa) {tx tx' : Int32} {ab be ab' be' : Int64} (et : tx = tx') (ea : ab = ab') (eb : be = be') {Z : Int64 → Int64 → Prop} (z : ∀ r, Z r r) : p_X8_digest ya tr no wo mu sz fe fs pr ps us kd fg he se cr tx ab be (fun r => p_X9_digest T ab' be' tx' (fun r' => Z r r')) := by
  subst et; subst ea; subst eb
  have h8 := H.n8
  have hf3 : nf ≤ 3 := H.1.2.1
  have hp6 : np ≤ 6 := H.1.2.2.1
  unfold p_X8_digest
  refine lq2_for (fun i => hsh (ctV n nf np nu mb nN tx) 1361 i) (fun i => nI i) 7 ?_ ?_ 1000 0 (Nat.zero_le _) (by omega)
  · intro i hi k hk
    unfold bX8_digest_6
    rw [if_neg (show ¬ (6 : Int32) < nI i from fun q => (fa_of_lt q).2.1 (nI_le (b := 6) (by omega) (by decide))), nI_1]
    exact c_howMany H C (by omega) hk
  intro k
  unfold bX8_digest_6
  rw [if_pos (show (6 : Int32) < nI 7 by decide)]
  unfold jX8_digest_31
  refine lq2_for (fun i => hsh (nwV T) (hsh (ctV n nf np nu mb nN tx) 1361 7) i) (fun i => nI i) 5 ?_ ?_ 1000 0 (Nat.zero_le _) (by omega)
  · intro i hi k hk
    unfold bX8_digest_33
    rw [if_neg (show ¬ (4 : Int32) < nI i from fun q => (fa_of_lt q).2.1 (nI_le (b := 4) (by omega) (by decide))), nI_1]
    exact c_tell C (by omega) hk
  intro k
  unfold bX8_digest_33
  rw [if_pos (show (4 : Int32) < nI 5 by decide)]
  unfold jX8_digest_60
  refine c_dgB H C (c_dgF H C (c_dgP H C ?_))
  unfold p_X9_digest
  refine lq2_for (fun i => hsh (ctV n nf np nu mb nN tx) 1361 i) (fun i => nI i) 7 ?_ ?_ 1000 0 (Nat.zero_le _) (by omega)
  · intro i hi k hk
    unfold bX9_digest_6
    rw [if_neg (show ¬ (7 : Int32) ≤ nI i from nI_ge (b := 7) hi (by decide)), nI_1]
    exact m_counted H (by omega) hk
  intro k
  unfold bX9_digest_6
  rw [if_pos (show (7 : Int32) ≤ nI 7 by decide)]
  unfold jX9_digest_31
  refine lq2_for (fun i => hsh (nwV T) (hsh (ctV n nf np nu mb nN tx) 1361 7) i) (fun i => nI i) 5 ?_ ?_ 1000 0 (Nat.zero_le _) (by omega)
  · intro i hi k hk
    unfold bX9_digest_33
    rw [if_neg (show ¬ (5 : Int32) ≤ nI i from nI_ge (b := 5) hi (by decide)), nI_1]
    exact m_nowOf (by omega) hk
  intro k
  unfold bX9_digest_33
  rw [if_pos (show (5 : Int32) ≤ nI 5 by decide)]
  unfold jX9_digest_57
  refine lq2_for (fun i => bdH T mb (hsh (nwV T) (hsh (ctV n nf np nu mb nN tx) 1361 7) 5) i) (fun i => nI i) n ?_ ?_ 1000 0 (Nat.zero_le _) (by omega)
  · intro i hi k hk
    unfold bX9_digest_59
    refine s_many H.e0 ?_
    rw [if_neg (nI_ge hi (by omega)), show (18 : Int32) + nI i = nI (18 + i) from nI_add 18 i, show (26 : Int32) + nI i = nI (26 + i) from nI_add 26 i, show (34 : Int32) + nI i = nI (34 + i) from nI_add 34 i, nI_clamp (show 18 + i < 2 ^ 31 by omega), nI_clamp (show 26 + i < 2 ^ 31 by omega), nI_clamp (show 34 + i < 2 ^ 31 by omega), show (17 : Int32).toNatClampNeg = 17 from rfl, H.e17, bitI mb H.mb8 i (by omega), nI_1]
    refine ⟨vp_in_nI (by omega) (by decide), vp_in_nI (by omega) (by decide), s_noteOf (by omega) ⟨vp_in_nI (by omega) (by decide), hk⟩⟩
  intro k
  unfold bX9_digest_59
  refine s_many H.e0 ?_
  rw [if_pos (Int32.le_refl _)]
  unfold jX9_digest_150
  rw [show (1 : Int32).toNatClampNeg = 1 from rfl, show (2 : Int32).toNatClampNeg = 2 from rfl, H.e1, H.e2, show (5 : Int32) * nI np = nI (5 * np) from pk_mul 5 np]
  exact m_sums (a := 42) (by omega) (m_sums (a := 45) (by omega) (z _))
end PC
