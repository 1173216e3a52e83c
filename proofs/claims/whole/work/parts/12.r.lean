/-! tokens of the text -/
def rn (B : Nat → Int32) (lo hi : Int32) (tn : Nat) : Nat → Nat → Nat
  | 0, p => p
  | f + 1, p => if p < tn ∧ lo ≤ B p ∧ B p ≤ hi then rn B lo hi tn f (p + 1) else p
theorem rn_spec {B : Nat → Int32} {lo hi : Int32} {tn : Nat} : ∀ f p, p ≤ tn → tn - p ≤ f → p ≤ rn B lo hi tn f p ∧ rn B lo hi tn f p ≤ tn ∧ (∀ i, p ≤ i → i < rn B lo hi tn f p → lo ≤ B i ∧ B i ≤ hi) ∧ (rn B lo hi tn f p < tn → ¬ (lo ≤ B (rn B lo hi tn f p) ∧ B (rn B lo hi tn f p) ≤ hi)) := by
  intro f
  induction f with
  | zero =>
    intro p h1 h2
    show p ≤ p ∧ p ≤ tn ∧ (∀ i, p ≤ i → i < p → _) ∧ (p < tn → _)
    exact ⟨Nat.le_refl _, h1, fun i a b => by omega, fun a => by omega⟩
  | succ f ih =>
    intro p h1 h2
    have e : rn B lo hi tn (f + 1) p = if p < tn ∧ lo ≤ B p ∧ B p ≤ hi then rn B lo hi tn f (p + 1) else p := rfl
    by_cases g : p < tn ∧ lo ≤ B p ∧ B p ≤ hi
    · rw [e, if_pos g]
      obtain ⟨a, b, c, d⟩ := ih (p + 1) (by omega) (by omega)
      refine ⟨by omega, b, fun i h3 h4 => ?_, d⟩
      by_cases q : i = p
      · rw [q]; exact g.2
      · exact c i (by omega) h4
    · rw [e, if_neg g]
      exact ⟨Nat.le_refl _, h1, fun i a b => by omega, fun a q => g ⟨a, q⟩⟩
def rE (B : Nat → Int32) (lo hi : Int32) (tn p : Nat) : Nat := rn B lo hi tn tn p
theorem rE_spec {B : Nat → Int32} {lo hi : Int32} {tn p : Nat} (hp : p ≤ tn) : p ≤ rE B lo hi tn p ∧ rE B lo hi tn p ≤ tn ∧ (∀ i, p ≤ i → i < rE B lo hi tn p → lo ≤ B i ∧ B i ≤ hi) ∧ (rE B lo hi tn p < tn → ¬ (lo ≤ B (rE B lo hi tn p) ∧ B (rE B lo hi tn p) ≤ hi)) := rn_spec tn p hp (by omega)
theorem c_runEnd {B : Nat → Int32} {lo hi : Int32} {tn p : Nat} (ht : tn ≤ 150) (hp : p ≤ tn) {Q : Int32 → Prop} (hq : Q (nI (rE B lo hi tn p))) : p_X7_runEnd B (nI tn) (nI p) lo hi Q := by
  obtain ⟨a, b, c, d⟩ := rE_spec (B := B) (lo := lo) (hi := hi) hp
  unfold p_X7_runEnd
  refine lq1_for (fun i => nI (p + i)) (rE B lo hi tn p - p) ?_ ?_ 1000 0 (Nat.zero_le _) (by omega)
  · intro i hi2 k hk
    unfold bX7_runEnd_3
    have q := c (p + i) (by omega) (by omega)
    have hin : vp_in (nI (p + i)) 150 := vp_in_nI (by omega) (by decide)
    rw [if_neg (nI_ge (show p + i < tn by omega) (by omega)), nI_clamp (show p + i < 2 ^ 31 by omega), nI_1]
    refine ⟨hin, ?_⟩
    rw [if_neg (fun r => (fa_of_lt r).2.1 q.1), if_pos q.2]
    exact ⟨hin, hk⟩
  · intro k
    rw [show p + (rE B lo hi tn p - p) = rE B lo hi tn p by omega]
    unfold bX7_runEnd_3
    by_cases g : rE B lo hi tn p = tn
    · rw [g] at hq ⊢
      rw [if_pos (Int32.le_refl _)]; exact hq
    · have q := d (by omega)
      have hin : vp_in (nI (rE B lo hi tn p)) 150 := vp_in_nI (by omega) (by decide)
      rw [if_neg (nI_ge (show rE B lo hi tn p < tn by omega) (by omega)), nI_clamp (show rE B lo hi tn p < 2 ^ 31 by omega)]
      refine ⟨hin, ?_⟩
      by_cases g2 : B (rE B lo hi tn p) < lo
      · rw [if_pos g2]; exact hq
      · rw [if_neg g2]
        refine ⟨hin, ?_⟩
        rw [if_neg (fun r => q ⟨fa_of_nlt g2, r⟩)]; exact hq
/-- where the token begins that is looked for from p on -/
def tA (B : Nat → Int32) (tn p : Nat) : Nat := rE B 32 32 tn p
abbrev isLt (x : Int32) : Prop := 97 ≤ x ∧ x ≤ 122
abbrev isFg (x : Int32) : Prop := 48 ≤ x ∧ x ≤ 57
def tKa (B : Nat → Int32) (tn a : Nat) : Nat := if a < tn then (if isLt (B a) then 1 else if isFg (B a) then (if rE B 48 57 tn a - a ≤ 2 then 2 else 4) else if B a = 59 then 3 else 4) else 0
def tLa (B : Nat → Int32) (tn a : Nat) : Nat := if a < tn then (if isLt (B a) then rE B 97 122 tn a - a else if isFg (B a) then rE B 48 57 tn a - a else 1) else 0
def vl (B : Nat → Int32) (a : Nat) : Nat → Int32
  | 0 => 0
  | i + 1 => (10 * vl B a i + B (a + i)) - 48
def tVa (B : Nat → Int32) (tn a : Nat) : Int32 := if a < tn then (if isLt (B a) then 0 else if isFg (B a) then vl B a (if rE B 48 57 tn a - a ≤ 2 then rE B 48 57 tn a - a else 2) else 0) else 0
def tK (B : Nat → Int32) (tn p : Nat) : Nat := tKa B tn (tA B tn p)
def tL (B : Nat → Int32) (tn p : Nat) : Nat := tLa B tn (tA B tn p)
def tV (B : Nat → Int32) (tn p : Nat) : Int32 := tVa B tn (tA B tn p)
def nx (B : Nat → Int32) (tn p : Nat) : Nat := tA B tn p + tL B tn p
theorem tA_le {B : Nat → Int32} {tn p : Nat} (hp : p ≤ tn) : p ≤ tA B tn p ∧ tA B tn p ≤ tn := ⟨(rE_spec hp).1, (rE_spec hp).2.1⟩
theorem rE_gt {B : Nat → Int32} {lo hi : Int32} {tn a : Nat} (ha : a < tn) (h : lo ≤ B a ∧ B a ≤ hi) : a < rE B lo hi tn a := by
  obtain ⟨q1, q2, q3, q4⟩ := rE_spec (B := B) (lo := lo) (hi := hi) (Nat.le_of_lt ha)
  rcases (show rE B lo hi tn a = a ∨ a < rE B lo hi tn a by omega) with g | g
  · rw [g] at q4; exact absurd h (q4 ha)
  · exact g
theorem tLa_le {B : Nat → Int32} {tn a : Nat} (ha : a ≤ tn) : a + tLa B tn a ≤ tn ∧ (a < tn → 1 ≤ tLa B tn a) := by
  unfold tLa
  by_cases g : a < tn
  · rw [if_pos g]
    by_cases g1 : isLt (B a)
    · have := rE_gt g g1
      have := (rE_spec (B := B) (lo := 97) (hi := 122) ha).2.1
      rw [if_pos g1]; omega
    · rw [if_neg g1]
      by_cases g2 : isFg (B a)
      · have := rE_gt g g2
        have := (rE_spec (B := B) (lo := 48) (hi := 57) ha).2.1
        rw [if_pos g2]; omega
      · rw [if_neg g2]; omega
  · rw [if_neg g]; omega
theorem nx_le {B : Nat → Int32} {tn p : Nat} (hp : p ≤ tn) : nx B tn p ≤ tn := (tLa_le (tA_le hp).2).1
theorem tK_0 {B : Nat → Int32} {tn p : Nat} (hp : p ≤ tn) (h : tK B tn p ≠ 0) : tA B tn p < tn ∧ p < nx B tn p := by
  have q : tA B tn p < tn := by
    rcases (show tA B tn p < tn ∨ ¬ tA B tn p < tn by omega) with g | g
    · exact g
    · exfalso; apply h; unfold tK tKa; rw [if_neg g]
  have l := (tLa_le (B := B) (tA_le (B := B) hp).2).2 q
  have := (tA_le (B := B) hp).1
  refine ⟨q, ?_⟩
  show p < tA B tn p + tLa B tn (tA B tn p)
  omega
theorem c_step {B : Nat → Int32} {tn p : Nat} (ht : tn ≤ 150) (hp : p ≤ tn) {s0 a0 : Int32} {Q : Int32 → Int32 → Int32 → Prop} (hq : Q (nI (tK B tn p)) (nI (tA B tn p)) (nI (nx B tn p))) : p_X7_step B (nI tn) s0 a0 (nI p) Q := by
  have ha := tA_le (B := B) hp
  unfold p_X7_step
  refine c_runEnd ht hp ?_
  rw [show rE B 32 32 tn p = tA B tn p from rfl]
  unfold nx tK tL tKa tLa at hq
  by_cases g : tA B tn p < tn
  · rw [if_pos g, if_pos g] at hq
    rw [if_pos (nI_lt g (by omega))]
    have hin : vp_in (nI (tA B tn p)) 150 := vp_in_nI (by omega) (by decide)
    refine ⟨hin, ?_⟩
    rw [nI_clamp (show tA B tn p < 2 ^ 31 by omega)]
    by_cases g1 : isLt (B (tA B tn p))
    · have l := (rE_spec (B := B) (lo := 97) (hi := 122) ha.2)
      rw [if_pos g1, if_pos g1, show tA B tn p + (rE B 97 122 tn (tA B tn p) - tA B tn p) = rE B 97 122 tn (tA B tn p) by omega] at hq
      refine s_within_t g1 ?_
      rw [if_neg (show ¬ (1 : Int32) = 0 by decide)]
      exact c_runEnd ht ha.2 hq
    · rw [if_neg g1, if_neg g1] at hq
      refine s_within_f g1 ?_
      rw [if_pos rfl]
      refine ⟨hin, ?_⟩
      by_cases g2 : isFg (B (tA B tn p))
      · have l := (rE_spec (B := B) (lo := 48) (hi := 57) ha.2)
        rw [if_pos g2, if_pos g2, show tA B tn p + (rE B 48 57 tn (tA B tn p) - tA B tn p) = rE B 48 57 tn (tA B tn p) by omega] at hq
        refine s_within_t g2 ?_
        rw [if_neg (show ¬ (1 : Int32) = 0 by decide)]
        refine c_runEnd ht ha.2 ?_
        rw [pk_sub l.1]
        by_cases g3 : rE B 48 57 tn (tA B tn p) - tA B tn p ≤ 2
        · rw [if_pos g3] at hq
          rw [if_neg (show ¬ (2 : Int32) < nI (rE B 48 57 tn (tA B tn p) - tA B tn p) from fun r => (fa_of_lt r).2.1 (nI_le (b := 2) g3 (by decide)))]; exact hq
        · rw [if_neg g3] at hq
          rw [if_pos (show (2 : Int32) < nI (rE B 48 57 tn (tA B tn p) - tA B tn p) from nI_lt (a := 2) (by omega) (by omega))]; exact hq
      · rw [if_neg g2, if_neg g2] at hq
        refine s_within_f g2 ?_
        rw [if_pos rfl, nI_1]
        refine ⟨hin, ?_⟩
        by_cases g3 : B (tA B tn p) = 59
        · rw [if_pos g3] at hq ⊢; exact hq
        · rw [if_neg g3] at hq ⊢; exact hq
  · rw [if_neg g, if_neg g] at hq
    rw [if_neg (fun r => (fa_of_lt r).2.1 (nI_le (show tn ≤ tA B tn p by omega) (by omega)))]
    exact hq
theorem s_small_t {x : Int32} {Q : Int32 → Prop} (h : isLt x) (hq : Q 1) : p_X9_isSmall x Q := s_in_t (lo' := 97) (hi' := 122) (by decide) (by decide) h ⟨zb1, hq⟩
theorem s_small_f {x : Int32} {Q : Int32 → Prop} (h : ¬ isLt x) (hq : Q 0) : p_X9_isSmall x Q := s_in_f (lo' := 97) (hi' := 122) (by decide) (by decide) h ⟨zb0, hq⟩
theorem s_fig_t {x : Int32} {Q : Int32 → Prop} (h : isFg x) (hq : Q 1) : p_X9_isFigure x Q := s_in_t (lo' := 48) (hi' := 57) (by decide) (by decide) h ⟨zb1, hq⟩
theorem s_fig_f {x : Int32} {Q : Int32 → Prop} (h : ¬ isFg x) (hq : Q 0) : p_X9_isFigure x Q := s_in_f (lo' := 48) (hi' := 57) (by decide) (by decide) h ⟨zb0, hq⟩
/-- the loop over a token's bytes -/
theorem m_run {B : Nat → Int32} {lo hi tk : Int32} {tn a : Nat} (ht : tn ≤ 150) (ha : a < tn) (h0 : lo ≤ B a ∧ B a ≤ hi) {Q : Int32 → Int32 → Int32 → Int32 → Prop}
    (tr : ∀ (x : Int32) (K : Int32 → Prop), K (if lo ≤ x ∧ x ≤ hi then 1 else 0) → if tk = 1 then p_X9_isSmall x (fun r => K r) else p_X9_isFigure x (fun r => K r)) (hq : jX9_lookAt_215 B Q (nI a) (nI (rE B lo hi tn a - a)) tk 0) : jX9_lookAt_135 B (nI tn) Q (nI a) 1 tk 0 1 := by
  obtain ⟨q1, q2, q3, q4⟩ := rE_spec (B := B) (lo := lo) (hi := hi) (Nat.le_of_lt ha)
  have q0 := rE_gt ha h0
  have st : ∀ i, a + i < tn → ∀ k : Int32 → Int32 → Prop, (if lo ≤ B (a + i) ∧ B (a + i) ≤ hi then k (nI (i + 1)) 1 else k (nI i) 0) → bX9_lookAt_136 B (nI tn) Q (nI a) tk 0 k (nI i) 1 := by
    intro i hi2 k hk
    unfold bX9_lookAt_136
    rw [if_neg (show ¬ (1 : Int32) = 0 by decide), nI_add, if_neg (nI_ge hi2 (by omega)), nI_clamp (show a + i < 2 ^ 31 by omega)]
    refine ⟨vp_in_nI (by omega) (by decide), tr _ _ ?_⟩
    unfold jX9_lookAt_193
    by_cases g : lo ≤ B (a + i) ∧ B (a + i) ≤ hi
    · rw [if_pos g] at hk ⊢
      rw [if_neg (show ¬ (1 : Int32) = 0 by decide), nI_1]; exact hk
    · rw [if_neg g] at hk ⊢
      rw [if_pos rfl, Int32.add_zero]; exact hk
  unfold jX9_lookAt_135
  by_cases g : rE B lo hi tn a = tn
  · refine lq2_for (fun i => nI (1 + i)) (fun _ => 1) (rE B lo hi tn a - a - 1) ?_ ?_ 1000 0 (Nat.zero_le _) (by omega)
    · intro i hi2 k hk
      refine st (1 + i) (by omega) k ?_
      rw [if_pos (q3 _ (by omega) (by omega))]; exact hk
    · intro k
      rw [show 1 + (rE B lo hi tn a - a - 1) = rE B lo hi tn a - a by omega]
      unfold bX9_lookAt_136
      rw [if_neg (show ¬ (1 : Int32) = 0 by decide), nI_add, if_pos (nI_le (show tn ≤ a + (rE B lo hi tn a - a) by omega) (by omega))]
      exact hq
  · refine lq2_for (fun i => nI (if i ≤ rE B lo hi tn a - a - 1 then 1 + i else rE B lo hi tn a - a)) (fun i => if i ≤ rE B lo hi tn a - a - 1 then 1 else 0) (rE B lo hi tn a - a) ?_ ?_ 1000 0 (Nat.zero_le _) (by omega)
    · intro i hi2 k hk
      rw [if_pos (show i ≤ rE B lo hi tn a - a - 1 by omega), if_pos (show i ≤ rE B lo hi tn a - a - 1 by omega)]
      refine st (1 + i) (by omega) k ?_
      by_cases e : i + 1 ≤ rE B lo hi tn a - a - 1
      · rw [if_pos e, if_pos e] at hk
        rw [if_pos (q3 _ (by omega) (by omega))]; exact hk
      · rw [if_neg e, if_neg e] at hk
        rw [show a + (1 + i) = rE B lo hi tn a by omega, if_neg (q4 (by omega)), show 1 + i = rE B lo hi tn a - a by omega]; exact hk
    · intro k
      rw [if_neg (show ¬ rE B lo hi tn a - a ≤ rE B lo hi tn a - a - 1 by omega), if_neg (show ¬ rE B lo hi tn a - a ≤ rE B lo hi tn a - a - 1 by omega)]
      unfold bX9_lookAt_136
      rw [if_pos rfl]
      exact hq
theorem m_val0 {B : Nat → Int32} {a l : Nat} (hl : 1 ≤ l) (hl2 : l ≤ 150) {tk : Int32} (h2 : ¬ tk = 2) {Q : Int32 → Int32 → Int32 → Int32 → Prop} (hq : Q (nI a) (nI l) tk 0) : jX9_lookAt_215 B Q (nI a) (nI l) tk 0 := by
  unfold jX9_lookAt_215
  show bX9_lookAt_218 B Q (nI a) (nI l) tk _ 0 0
  unfold bX9_lookAt_218
  rw [if_neg (show ¬ nI l ≤ 0 from nI_ge (a := 0) (b := l) (by omega) (by omega)), if_neg (show ¬ (2 : Int32) ≤ 0 by decide), if_neg h2]
  unfold jX9_lookAt_274
  rw [if_neg h2]
  exact hq
theorem m_val2 {B : Nat → Int32} {a l : Nat} (hl : 1 ≤ l) (hl2 : a + l ≤ 150) {Q : Int32 → Int32 → Int32 → Int32 → Prop} (hq : Q (nI a) (nI l) (nI (if l ≤ 2 then 2 else 4)) (vl B a (if l ≤ 2 then l else 2))) : jX9_lookAt_215 B Q (nI a) (nI l) 2 0 := by
  unfold jX9_lookAt_215
  have ex : jX9_lookAt_274 Q (nI a) (nI l) 2 (vl B a (if l ≤ 2 then l else 2)) := by
    unfold jX9_lookAt_274
    rw [if_pos rfl]
    by_cases g : l ≤ 2
    · rw [if_pos g, if_pos g] at hq
      rw [if_pos g, if_pos (show nI l ≤ 2 from nI_le (b := 2) g (by decide))]; exact hq
    · rw [if_neg g, if_neg g] at hq
      rw [if_neg g, if_neg (show ¬ nI l ≤ 2 from nI_ge (a := 2) (b := l) (by omega) (by omega))]; exact hq
  refine lq2_for (fun i => vl B a i) (fun i => nI i) (if l ≤ 2 then l else 2) ?_ ?_ 1000 0 (Nat.zero_le _) (by split <;> omega)
  · intro i hi k hk
    have hi2 : i < l ∧ i < 2 := by
      by_cases g : l ≤ 2
      · rw [if_pos g] at hi; omega
      · rw [if_neg g] at hi; omega
    unfold bX9_lookAt_218
    rw [if_neg (nI_ge hi2.1 (by omega)), if_neg (show ¬ (2 : Int32) ≤ nI i from nI_ge (b := 2) hi2.2 (by decide)), if_pos rfl, nI_add, nI_clamp (show a + i < 2 ^ 31 by omega), nI_1]
    exact ⟨vp_in_nI (by omega) (by decide), hk⟩
  · intro k
    unfold bX9_lookAt_218
    by_cases g : l ≤ 2
    · rw [if_pos g] at ex ⊢
      rw [if_pos (Int32.le_refl _)]; exact ex
    · rw [if_neg g] at ex ⊢
      rw [if_pos (show (2 : Int32) ≤ nI 2 by decide), ite_self]
      exact ex
theorem m_look43 {B : Nat → Int32} {tn a : Nat} (ht : tn ≤ 150) (ha : a ≤ tn) {Q : Int32 → Int32 → Int32 → Int32 → Prop} (hq : Q (nI a) (nI (tLa B tn a)) (nI (tKa B tn a)) (tVa B tn a)) : jX9_lookAt_43 B (nI tn) Q (nI a) := by
  unfold jX9_lookAt_43
  unfold tLa tKa tVa at hq
  by_cases g : a < tn
  · rw [if_pos g, if_pos g, if_pos g] at hq
    rw [if_neg (fun e => by have := (nI_eq (by omega) (by omega)).mp e; omega), nI_clamp (show a < 2 ^ 31 by omega)]
    refine ⟨vp_in_nI (by omega) (by decide), ?_⟩
    unfold jX9_lookAt_114
    by_cases g1 : isLt (B a)
    · have q0 := rE_gt g g1
      have q2 := (rE_spec (B := B) (lo := 97) (hi := 122) ha).2.1
      rw [if_pos g1, if_pos g1, if_pos g1] at hq
      refine s_small_t g1 ?_
      rw [if_neg (show ¬ (1 : Int32) = 0 by decide), if_neg (show ¬ (3 : Int32) ≤ 1 by decide)]
      refine m_run (lo := 97) (hi := 122) ht g g1 (fun x K hK => ?_) (m_val0 (by omega) (by omega) (by decide) hq)
      rw [if_pos rfl]
      by_cases q : isLt x
      · rw [if_pos q] at hK; exact s_small_t q hK
      · rw [if_neg q] at hK; exact s_small_f q hK
    · rw [if_neg g1, if_neg g1, if_neg g1] at hq
      refine s_small_f g1 ?_
      rw [if_pos rfl]
      by_cases g2 : isFg (B a)
      · have q0 := rE_gt g g2
        have q2 := (rE_spec (B := B) (lo := 48) (hi := 57) ha).2.1
        rw [if_pos g2, if_pos g2, if_pos g2] at hq
        refine s_fig_t g2 ?_
        rw [if_neg (show ¬ (1 : Int32) = 0 by decide), if_neg (show ¬ (3 : Int32) ≤ 2 by decide)]
        refine m_run (lo := 48) (hi := 57) ht g g2 (fun x K hK => ?_) (m_val2 (by omega) (by omega) hq)
        rw [if_neg (show ¬ (2 : Int32) = 1 by decide)]
        by_cases q : isFg x
        · rw [if_pos q] at hK; exact s_fig_t q hK
        · rw [if_neg q] at hK; exact s_fig_f q hK
      · rw [if_neg g2, if_neg g2, if_neg g2] at hq
        refine s_fig_f g2 ?_
        rw [if_pos rfl]
        have fin : ∀ tk : Int32, tk = nI (if B a = 59 then 3 else 4) → jX9_lookAt_135 B (nI tn) Q (nI a) 1 tk 0 0 := by
          intro tk htk
          unfold jX9_lookAt_135
          show bX9_lookAt_136 B (nI tn) Q (nI a) tk 0 _ 1 0
          unfold bX9_lookAt_136
          rw [if_pos rfl]
          rw [← htk] at hq
          refine m_val0 (l := 1) (by omega) (by omega) ?_ hq
          rw [htk]
          by_cases e : B a = 59
          · rw [if_pos e]; decide
          · rw [if_neg e]; decide
        by_cases e : B a = 59
        · rw [if_pos e, if_pos (show (3 : Int32) ≤ 3 by decide)]
          exact fin 3 (by rw [if_pos e]; rfl)
        · rw [if_neg e, if_pos (show (3 : Int32) ≤ 4 by decide)]
          exact fin 4 (by rw [if_neg e]; rfl)
  · have e : a = tn := by omega
    rw [if_neg g, if_neg g, if_neg g] at hq
    rw [if_pos (congrArg nI e)]
    exact hq
theorem m_lookAt {B : Nat → Int32} {tn p : Nat} (ht : tn ≤ 150) (hp : p ≤ tn) {w1 w2 w3 w4 : Int32} {Q : Int32 → Int32 → Int32 → Int32 → Prop} (hq : Q (nI (tA B tn p)) (nI (tL B tn p)) (nI (tK B tn p)) (tV B tn p)) : p_X9_lookAt B (nI tn) w1 w2 w3 w4 (nI p) Q := by
  obtain ⟨a, b, c, d⟩ := rE_spec (B := B) (lo := 32) (hi := 32) hp
  have fin : jX9_lookAt_43 B (nI tn) Q (nI (tA B tn p)) := m_look43 ht b hq
  unfold p_X9_lookAt
  refine lq1_for (fun i => nI (p + i)) (tA B tn p - p) ?_ ?_ 1000 0 (Nat.zero_le _) (by unfold tA; omega)
  · intro i hi2 k hk
    unfold tA at hi2
    unfold bX9_lookAt_5
    have q := c (p + i) (by omega) (by omega)
    rw [if_neg (nI_ge (show p + i < tn by omega) (by omega)), nI_clamp (show p + i < 2 ^ 31 by omega), nI_1, if_pos (Int32.le_antisymm q.2 q.1)]
    exact ⟨vp_in_nI (by omega) (by decide), hk⟩
  · intro k
    rw [show p + (tA B tn p - p) = tA B tn p by unfold tA; omega]
    unfold bX9_lookAt_5
    by_cases g : tA B tn p < tn
    · rw [if_neg (nI_ge g (by omega)), nI_clamp (show tA B tn p < 2 ^ 31 by omega), if_neg (fun e => d g ⟨by show (32 : Int32) ≤ B (tA B tn p); rw [e]; exact Int32.le_refl _, by show B (tA B tn p) ≤ 32; rw [e]; exact Int32.le_refl _⟩)]
      exact ⟨vp_in_nI (by omega) (by decide), fin⟩
    · rw [if_pos (nI_le (show tn ≤ tA B tn p by omega) (by unfold tA; omega))]
      exact fin
theorem m_behind {B : Nat → Int32} {tn p : Nat} (ht : tn ≤ 150) (hp : p ≤ tn) {w3 w4 : Int32} {Q : Int32 → Int32 → Int32 → Int32 → Prop} (hq : Q (nI (tA B tn (nx B tn p))) (nI (tL B tn (nx B tn p))) (nI (tK B tn (nx B tn p))) (tV B tn (nx B tn p))) : p_X9_goBehind B (nI tn) (nI (tA B tn p)) (nI (tL B tn p)) w3 w4 Q := by
  unfold p_X9_goBehind
  rw [nI_add]
  exact m_lookAt ht (nx_le hp) hq
/-- a number in its bounds -/
abbrev nB (B : Nat → Int32) (tn p : Nat) (lo hi : Int32) : Prop := tK B tn p = 2 ∧ lo ≤ tV B tn p ∧ tV B tn p ≤ hi
theorem tK_6 {B : Nat → Int32} {tn p : Nat} : tK B tn p ≤ 4 := by
  unfold tK tKa
  repeat' split
  all_goals omega
theorem tK_eq {B : Nat → Int32} {tn p k : Nat} (hk : k ≤ 4) : nI (tK B tn p) = nI k ↔ tK B tn p = k := nI_eq (by have := tK_6 (B := B) (tn := tn) (p := p); omega) (by omega)
theorem tK_2 {B : Nat → Int32} {tn p : Nat} (h : tK B tn p = 2) : tA B tn p < tn ∧ tV B tn p = vl B (tA B tn p) (tL B tn p) ∧ tL B tn p ≤ 2 := by
  unfold tK tKa at h
  unfold tV tVa tL tLa
  by_cases g : tA B tn p < tn
  · rw [if_pos g] at h
    rw [if_pos g, if_pos g]
    by_cases g1 : isLt (B (tA B tn p))
    · rw [if_pos g1] at h; omega
    · rw [if_neg g1] at h
      rw [if_neg g1, if_neg g1]
      by_cases g2 : isFg (B (tA B tn p))
      · rw [if_pos g2] at h
        rw [if_pos g2, if_pos g2]
        by_cases g3 : rE B 48 57 tn (tA B tn p) - tA B tn p ≤ 2
        · rw [if_pos g3]; exact ⟨g, rfl, g3⟩
        · rw [if_neg g3] at h; omega
      · rw [if_neg g2] at h
        by_cases g3 : B (tA B tn p) = 59
        · rw [if_pos g3] at h; omega
        · rw [if_neg g3] at h; omega
  · rw [if_neg g] at h; omega
theorem c_num0 {B : Nat → Int32} {tn p : Nat} (ht : tn ≤ 150) (hp : p ≤ tn) (h2 : tK B tn p = 2) {lo hi : Int32} {Q : Int32 → Int32 → Int32 → Int32 → Prop} (hq : jX7_number_49 B (nI tn) (nI (tK B tn p)) (nI (tA B tn p)) (nI (nx B tn p)) lo hi Q (tV B tn p)) : p_X7_number B (nI tn) (nI (tK B tn p)) (nI (tA B tn p)) (nI (nx B tn p)) lo hi Q := by
  obtain ⟨k1, k2, k3⟩ := tK_2 h2
  have hn := nx_le (B := B) hp
  unfold p_X7_number
  rw [if_pos (show nI (tK B tn p) = 2 by rw [h2]; rfl)]
  refine lq2_for (fun i => vl B (tA B tn p) i) (fun i => nI (tA B tn p + i)) (tL B tn p) ?_ ?_ 1000 0 (Nat.zero_le _) (by omega)
  · intro i hi2 k hk
    unfold bX7_number_18
    rw [if_neg (nI_ge (show tA B tn p + i < nx B tn p by unfold nx; omega) (by omega)), nI_clamp (show tA B tn p + i < 2 ^ 31 by omega), nI_1]
    refine ⟨vp_in_nI (by unfold nx at hn; omega) (by decide), hk⟩
  · intro k
    unfold bX7_number_18
    rw [if_pos (show nI (nx B tn p) ≤ nI (tA B tn p + tL B tn p) from Int32.le_refl _), ← k2]
    exact hq
theorem c_num_t {B : Nat → Int32} {tn p : Nat} (ht : tn ≤ 150) (hp : p ≤ tn) {lo hi : Int32} (h : nB B tn p lo hi) {Q : Int32 → Int32 → Int32 → Int32 → Prop} (hq : Q (tV B tn p) (nI (tK B tn (nx B tn p))) (nI (tA B tn (nx B tn p))) (nI (nx B tn (nx B tn p)))) : p_X7_number B (nI tn) (nI (tK B tn p)) (nI (tA B tn p)) (nI (nx B tn p)) lo hi Q := by
  refine c_num0 ht hp h.1 ?_
  unfold jX7_number_49
  refine s_within_t h.2 ?_
  rw [if_neg (show ¬ (1 : Int32) = 0 by decide)]
  exact c_step ht (nx_le hp) hq
theorem c_num_f {B : Nat → Int32} {tn p : Nat} (ht : tn ≤ 150) (hp : p ≤ tn) {lo hi : Int32} (h : ¬ nB B tn p lo hi) {Q : Int32 → Int32 → Int32 → Int32 → Prop} (hq : Q (-1) (nI (tK B tn p)) (nI (tA B tn p)) (nI (nx B tn p))) : p_X7_number B (nI tn) (nI (tK B tn p)) (nI (tA B tn p)) (nI (nx B tn p)) lo hi Q := by
  by_cases h2 : tK B tn p = 2
  · refine c_num0 ht hp h2 ?_
    unfold jX7_number_49
    refine s_within_f (fun q => h ⟨h2, q⟩) ?_
    rw [if_pos rfl]
    exact hq
  · unfold p_X7_number
    rw [if_neg (show ¬ nI (tK B tn p) = 2 from fun e => h2 ((tK_eq (k := 2) (by decide)).mp e))]
    exact hq
theorem m_tk_t {B : Nat → Int32} {tn p : Nat} (ht : tn ≤ 150) (hp : p ≤ tn) {lo hi x1 : Int32} {k : Nat} (hk : k < 4) (ex : x1 = nI k) (h : nB B tn p lo hi) {vs : Nat → Int32} {Q : Int32 → Int32 → Int32 → Int32 → Int32 → (Nat → Int32) → Prop} (hq : Q 1 (nI (tA B tn (nx B tn p))) (nI (tL B tn (nx B tn p))) (nI (tK B tn (nx B tn p))) (tV B tn (nx B tn p)) (upd vs k (tV B tn p))) : p_X9_takes B (nI tn) (nI (tA B tn p)) (nI (tL B tn p)) (nI (tK B tn p)) (tV B tn p) vs x1 lo hi Q := by
  unfold p_X9_takes
  rw [if_pos (show nI (tK B tn p) = 2 by rw [h.1]; rfl)]
  refine s_in_t (lo' := lo) (hi' := hi) rfl rfl h.2 ?_
  rw [if_neg (show ¬ (1 : Int32) = 0 by decide), ex, nI_clamp (show k < 2 ^ 31 by omega)]
  exact ⟨vp_in_nI hk (by decide), m_behind ht hp hq⟩
theorem m_tk_f {B : Nat → Int32} {tn p : Nat} {lo hi x1 : Int32} (h : ¬ nB B tn p lo hi) {vs : Nat → Int32} {Q : Int32 → Int32 → Int32 → Int32 → Int32 → (Nat → Int32) → Prop} (hq : Q 0 (nI (tA B tn p)) (nI (tL B tn p)) (nI (tK B tn p)) (tV B tn p) vs) : p_X9_takes B (nI tn) (nI (tA B tn p)) (nI (tL B tn p)) (nI (tK B tn p)) (tV B tn p) vs x1 lo hi Q := by
  unfold p_X9_takes
  by_cases h2 : tK B tn p = 2
  · rw [if_pos (show nI (tK B tn p) = 2 by rw [h2]; rfl)]
    refine s_in_f (lo' := lo) (hi' := hi) rfl rfl (fun q => h ⟨h2, q⟩) ?_
    rw [if_pos rfl]
    exact hq
  · rw [if_neg (show ¬ nI (tK B tn p) = 2 from fun e => h2 ((tK_eq (k := 2) (by decide)).mp e))]
    exact hq
/-- a word -/
abbrev wD (B : Nat → Int32) (tn p i : Nat) : Prop := tK B tn p = 1 ∧ tL B tn p = strL.getD i 0 ∧ ∀ j, j < strL.getD i 0 → B (tA B tn p + j) = strC i j
theorem strL5 : ∀ i, i < 4 → strL.getD i 0 ≤ 5 := by decide
theorem c_word {B : Nat → Int32} {tn p i : Nat} (ht : tn ≤ 150) (hp : p ≤ tn) (hi : i < 4) {Q : Int32 → Prop} (hq : Q (if wD B tn p i then 1 else 0)) : p_X7_isWord B (nI (tK B tn p)) (nI (tA B tn p)) (nI (nx B tn p)) (strL.getD i 0) (strC i) Q := by
  have hn := nx_le (B := B) hp
  have l5 := strL5 i hi
  unfold p_X7_isWord
  by_cases h1 : tK B tn p = 1
  · rw [if_pos (show nI (tK B tn p) = 1 by rw [h1]; rfl)]
    have e : nI (nx B tn p) - nI (tA B tn p) = nI (tL B tn p) := by
      rw [pk_sub (show tA B tn p ≤ nx B tn p by unfold nx; omega)]
      exact congrArg nI (by unfold nx; omega)
    rw [e]
    by_cases h2 : tL B tn p = strL.getD i 0
    · rw [if_pos (congrArg nI h2)]
      have st : ∀ j, j < strL.getD i 0 → ∀ k : Int32 → Prop, (if B (tA B tn p + j) = strC i j then k (nI (j + 1)) else Q 0) → bX7_isWord_28 B (nI (tA B tn p)) (strL.getD i 0) (strC i) Q k (nI j) := by
        intro j hj k hk
        unfold bX7_isWord_28
        rw [if_neg (nI_ge hj (by omega)), nI_add, nI_clamp (show tA B tn p + j < 2 ^ 31 by unfold nx at hn; omega), nI_clamp (show j < 2 ^ 31 by omega), nI_1]
        exact ⟨vp_in_nI (by unfold nx at hn; omega) (by decide), vp_in_nI hj (by omega), hk⟩
      rcases firstFail (fun j => B (tA B tn p + j) = strC i j) (strL.getD i 0) with a | ⟨c, c1, c2, c3⟩
      · refine lq1_for (fun j => nI j) (strL.getD i 0) (fun j hj k hk => st j hj k ?_) ?_ 1000 0 (Nat.zero_le _) (by omega)
        · rw [if_pos (a j hj)]; exact hk
        · intro k
          unfold bX7_isWord_28
          rw [if_pos (Int32.le_refl _)]
          rw [if_pos (show wD B tn p i from ⟨h1, h2, a⟩)] at hq
          exact hq
      · refine lq1_for (fun j => nI j) c (fun j hj k hk => st j (by omega) k ?_) ?_ 1000 0 (Nat.zero_le _) (by omega)
        · rw [if_pos (c2 j hj)]; exact hk
        · intro k
          refine st c c1 k ?_
          rw [if_neg c3]
          rw [if_neg (show ¬ wD B tn p i from fun q => c3 (q.2.2 c c1))] at hq
          exact hq
    · rw [if_neg (fun q => h2 ((nI_eq (by unfold nx at hn; omega) (by omega)).mp q))]
      rw [if_neg (show ¬ wD B tn p i from fun q => h2 q.2.1)] at hq
      exact hq
  · rw [if_neg (show ¬ nI (tK B tn p) = 1 from fun q => h1 ((tK_eq (k := 1) (by decide)).mp q))]
    rw [if_neg (show ¬ wD B tn p i from fun q => h1 q.1)] at hq
    exact hq
theorem m_word {B : Nat → Int32} {tn p i : Nat} (ht : tn ≤ 150) (hp : p ≤ tn) (hi : i < 4) {x1 x2 x3 x4 x5 x6 x7 : Int32} (e1 : x1 = nI (strL.getD i 0)) (ew : ∀ j, j < strL.getD i 0 → strC i j = (if j = 0 then x2 else if j = 1 then x3 else if j = 2 then x4 else if j = 3 then x5 else if j = 4 then x6 else x7)) {Q : Int32 → Prop} (hq : Q (if wD B tn p i then 1 else 0)) : p_X9_spells B (nI (tA B tn p)) (nI (tL B tn p)) (nI (tK B tn p)) x1 x2 x3 x4 x5 x6 x7 Q := by
  have hn := nx_le (B := B) hp
  have l5 := strL5 i hi
  have no : ¬ wD B tn p i → jX9_spells_20 B (nI (tA B tn p)) x1 x2 x3 x4 x5 x6 x7 Q := by
    intro q
    rw [if_neg q] at hq
    unfold jX9_spells_20 jX9_spells_21
    show bX9_spells_26 B (nI (tA B tn p)) x1 x2 x3 x4 x5 x6 x7 Q _ 0 0
    unfold bX9_spells_26
    rw [if_pos (show (0 : Int32) = 0 from rfl), ite_self]
    exact ⟨zb0, hq⟩
  unfold p_X9_spells
  by_cases h1 : tK B tn p = 1
  · rw [if_pos (show nI (tK B tn p) = 1 by rw [h1]; rfl)]
    by_cases h2 : tL B tn p = strL.getD i 0
    · rw [if_pos (show nI (tL B tn p) = x1 by rw [e1, h2])]
      subst e1
      unfold jX9_spells_21
      have st : ∀ j, j < strL.getD i 0 → ∀ k : Int32 → Int32 → Prop, k (if B (tA B tn p + j) = strC i j then 1 else 0) (nI (j + 1)) → bX9_spells_26 B (nI (tA B tn p)) (nI (strL.getD i 0)) x2 x3 x4 x5 x6 x7 Q k 1 (nI j) := by
        intro j hj k hk
        unfold bX9_spells_26
        rw [if_neg (nI_ge hj (by omega)), if_neg (show ¬ (1 : Int32) = 0 by decide), nI_add, nI_clamp (show tA B tn p + j < 2 ^ 31 by unfold nx at hn; omega), nI_1]
        refine ⟨vp_in_nI (by unfold nx at hn; omega) (by decide), ?_⟩
        rw [ew j hj] at hk
        rcases (show j = 0 ∨ j = 1 ∨ j = 2 ∨ j = 3 ∨ j = 4 by omega) with rfl | rfl | rfl | rfl | rfl
        · rw [if_pos (show nI 0 = 0 from rfl)]
          rw [if_pos (show (0 : Nat) = 0 from rfl)] at hk
          split
          · next q => rw [if_pos q] at hk; exact hk
          · next q => rw [if_neg q] at hk; exact hk
        · rw [if_neg (show ¬ nI 1 = 0 by decide), if_pos (show nI 1 = 1 from rfl)]
          rw [if_neg (show ¬ (1 : Nat) = 0 by decide), if_pos rfl] at hk
          split
          · next q => rw [if_pos q] at hk; exact hk
          · next q => rw [if_neg q] at hk; exact hk
        · rw [if_neg (show ¬ nI 2 = 0 by decide), if_neg (show ¬ nI 2 = 1 by decide), if_pos (show nI 2 = 2 from rfl)]
          rw [if_neg (show ¬ (2 : Nat) = 0 by decide), if_neg (show ¬ (2 : Nat) = 1 by decide), if_pos rfl] at hk
          split
          · next q => rw [if_pos q] at hk; exact hk
          · next q => rw [if_neg q] at hk; exact hk
        · rw [if_neg (show ¬ nI 3 = 0 by decide), if_neg (show ¬ nI 3 = 1 by decide), if_neg (show ¬ nI 3 = 2 by decide), if_pos (show nI 3 = 3 from rfl)]
          rw [if_neg (show ¬ (3 : Nat) = 0 by decide), if_neg (show ¬ (3 : Nat) = 1 by decide), if_neg (show ¬ (3 : Nat) = 2 by decide), if_pos rfl] at hk
          split
          · next q => rw [if_pos q] at hk; exact hk
          · next q => rw [if_neg q] at hk; exact hk
        · rw [if_neg (show ¬ nI 4 = 0 by decide), if_neg (show ¬ nI 4 = 1 by decide), if_neg (show ¬ nI 4 = 2 by decide), if_neg (show ¬ nI 4 = 3 by decide), if_pos (show nI 4 = 4 from rfl)]
          rw [if_neg (show ¬ (4 : Nat) = 0 by decide), if_neg (show ¬ (4 : Nat) = 1 by decide), if_neg (show ¬ (4 : Nat) = 2 by decide), if_neg (show ¬ (4 : Nat) = 3 by decide), if_pos rfl] at hk
          split
          · next q => rw [if_pos q] at hk; exact hk
          · next q => rw [if_neg q] at hk; exact hk
      rcases firstFail (fun j => B (tA B tn p + j) = strC i j) (strL.getD i 0) with a | ⟨c, c1, c2, c3⟩
      · refine lq2_for (fun _ => 1) (fun j => nI j) (strL.getD i 0) (fun j hj k hk => st j hj k ?_) ?_ 1000 0 (Nat.zero_le _) (by omega)
        · rw [if_pos (a j hj)]; exact hk
        · intro k
          unfold bX9_spells_26
          rw [if_pos (Int32.le_refl _)]
          rw [if_pos (show wD B tn p i from ⟨h1, h2, a⟩)] at hq
          exact ⟨zb1, hq⟩
      · refine lq2_for (fun j => if j ≤ c then 1 else 0) (fun j => nI j) (c + 1) ?_ ?_ 1000 0 (Nat.zero_le _) (by omega)
        · intro j hj k hk
          rw [if_pos (show j ≤ c by omega)]
          refine st j (by omega) k ?_
          by_cases e : j = c
          · subst e
            rw [if_neg (show ¬ j + 1 ≤ j by omega)] at hk
            rw [if_neg c3]; exact hk
          · rw [if_pos (show j + 1 ≤ c by omega)] at hk
            rw [if_pos (c2 j (by omega))]; exact hk
        · intro k
          rw [if_neg (show ¬ wD B tn p i from fun q => c3 (q.2.2 c c1))] at hq
          rw [if_neg (show ¬ c + 1 ≤ c by omega)]
          unfold bX9_spells_26
          rw [if_pos (show (0 : Int32) = 0 from rfl), ite_self]
          exact ⟨zb0, hq⟩
    · rw [if_neg (fun q => by rw [e1] at q; exact h2 ((nI_eq (by unfold nx at hn; omega) (by omega)).mp q))]
      exact no (fun q => h2 q.2.1)
  · rw [if_neg (show ¬ nI (tK B tn p) = 1 from fun q => h1 ((tK_eq (k := 1) (by decide)).mp q))]
    exact no (fun q => h1 q.1)
theorem c_end_t {B : Nat → Int32} {tn p : Nat} (ht : tn ≤ 150) (hp : p ≤ tn) (h : tK B tn p = 3) {Q : Int32 → Int32 → Int32 → Int32 → Prop} (hq : Q 1 (nI (tK B tn (nx B tn p))) (nI (tA B tn (nx B tn p))) (nI (nx B tn (nx B tn p)))) : p_X7_itemEnded B (nI tn) (nI (tK B tn p)) (nI (tA B tn p)) (nI (nx B tn p)) Q := by
  unfold p_X7_itemEnded
  rw [if_pos (show nI (tK B tn p) = 3 by rw [h]; rfl)]
  exact c_step ht (nx_le hp) hq
theorem c_end_f {B : Nat → Int32} {tn p : Nat} (h : ¬ tK B tn p = 3) {Q : Int32 → Int32 → Int32 → Int32 → Prop} (hq : Q 0 (nI (tK B tn p)) (nI (tA B tn p)) (nI (nx B tn p))) : p_X7_itemEnded B (nI tn) (nI (tK B tn p)) (nI (tA B tn p)) (nI (nx B tn p)) Q := by
  unfold p_X7_itemEnded
  rw [if_neg (show ¬ nI (tK B tn p) = 3 from fun q => h ((tK_eq (k := 3) (by decide)).mp q))]
  exact hq
