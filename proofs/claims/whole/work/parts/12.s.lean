/-! a road told by a text: items -/
def CIF (B : Nat → Int32) (tn p q : Nat) (T : Nat → Int32) (n mb : Nat) : Prop := ∀ (kd fg he se cr sz : Int32) (ya tr no wo mu fe pr pa : Nat → Int32) (Q : Int32 → Int32 → Int32 → Int32 → (Nat → Int32) → (Nat → Int32) → (Nat → Int32) → (Nat → Int32) → (Nat → Int32) → Int32 → Int32 → Int32 → Int32 → Prop), CR T n 0 0 0 mb kd fg he se cr sz ya tr no wo mu 0 fe 0 pr 0 pa → (∀ (ya' tr' no' wo' mu' : Nat → Int32) (sz' he' se' cr' : Int32), Q 0 (nI (tK B tn q)) (nI (tA B tn q)) (nI (nx B tn q)) ya' tr' no' wo' mu' sz' he' se' cr') → p_X7_itemTold B (nI tn) (nI (tK B tn p)) (nI (tA B tn p)) (nI (nx B tn p)) ya tr no wo mu sz kd fg he se cr Q
def CIG (B : Nat → Int32) (tn p q : Nat) (T : Nat → Int32) (n mb : Nat) (T' : Nat → Int32) (n' mb' : Nat) : Prop := ∀ (kd fg he se cr sz : Int32) (ya tr no wo mu fe pr pa : Nat → Int32) (Q : Int32 → Int32 → Int32 → Int32 → (Nat → Int32) → (Nat → Int32) → (Nat → Int32) → (Nat → Int32) → (Nat → Int32) → Int32 → Int32 → Int32 → Int32 → Prop), CR T n 0 0 0 mb kd fg he se cr sz ya tr no wo mu 0 fe 0 pr 0 pa → (∀ (ya' tr' no' wo' mu' : Nat → Int32) (sz' he' se' cr' : Int32), CR T' n' 0 0 0 mb' kd fg he' se' cr' sz' ya' tr' no' wo' mu' 0 fe 0 pr 0 pa → Q 1 (nI (tK B tn q)) (nI (tA B tn q)) (nI (nx B tn q)) ya' tr' no' wo' mu' sz' he' se' cr') → p_X7_itemTold B (nI tn) (nI (tK B tn p)) (nI (tA B tn p)) (nI (nx B tn p)) ya tr no wo mu sz kd fg he se cr Q
def MIF (B : Nat → Int32) (tn p q : Nat) (T : Nat → Int32) : Prop := ∀ (vs : Nat → Int32) (F K : Int32 → Int32 → Int32 → Int32 → (Nat → Int32) → (Nat → Int32) → Prop), (∀ an vs', F (nI (tA B tn q)) (nI (tL B tn q)) (nI (tK B tn q)) (tV B tn q) an vs') → p_X9_takesItem B (nI tn) (nI (tA B tn p)) (nI (tL B tn p)) (nI (tK B tn p)) (tV B tn p) T vs (fun r a l t v an vs => if r = 0 then F a l t v an vs else (if t = 3 then p_X9_goBehind B (nI tn) a l t v (fun a l t v => K a l t v an vs) else F a l t v an vs))
def MIG (B : Nat → Int32) (tn p q : Nat) (T T' : Nat → Int32) : Prop := ∀ (vs : Nat → Int32) (F K : Int32 → Int32 → Int32 → Int32 → (Nat → Int32) → (Nat → Int32) → Prop), (∀ vs', K (nI (tA B tn q)) (nI (tL B tn q)) (nI (tK B tn q)) (tV B tn q) T' vs') → p_X9_takesItem B (nI tn) (nI (tA B tn p)) (nI (tL B tn p)) (nI (tK B tn p)) (tV B tn p) T vs (fun r a l t v an vs => if r = 0 then F a l t v an vs else (if t = 3 then p_X9_goBehind B (nI tn) a l t v (fun a l t v => K a l t v an vs) else F a l t v an vs))
theorem ew0 : ∀ j, j < 4 → strC 0 j = (if j = 0 then (114 : Int32) else if j = 1 then 111 else if j = 2 then 97 else if j = 3 then 100 else if j = 4 then 0 else 0) := by decide
theorem ew1 : ∀ j, j < 4 → strC 1 j = (if j = 0 then (98 : Int32) else if j = 1 then 101 else if j = 2 then 110 else if j = 3 then 100 else if j = 4 then 0 else 0) := by decide
theorem ew2 : ∀ j, j < 3 → strC 2 j = (if j = 0 then (109 : Int32) else if j = 1 then 117 else if j = 2 then 100 else if j = 3 then 0 else if j = 4 then 0 else 0) := by decide
theorem ew3 : ∀ j, j < 5 → strC 3 j = (if j = 0 then (100 : Int32) else if j = 1 then 114 else if j = 2 then 105 else if j = 3 then 118 else if j = 4 then 101 else 0) := by decide
theorem notm1 {x lo hi : Int32} (h0 : 0 ≤ lo) (h : lo ≤ x ∧ x ≤ hi) : ¬ x = -1 := by
  intro e
  have := Int32.le_trans h0 h.1
  rw [e] at this
  exact absurd this (by decide)
section RD
variable {B : Nat → Int32} {tn p : Nat} {T : Nat → Int32} {n h mb kN fN : Nat} {yN tN nN wN : Nat → Nat}
variable {kd fg he se cr sz : Int32} {ya tr no wo mu fe pr pa : Nat → Int32}
theorem cI_bend (ht : tn ≤ 150) (hp : p ≤ tn) (w1 : wD B tn p 1) {Q : Int32 → Int32 → Int32 → Int32 → (Nat → Int32) → (Nat → Int32) → (Nat → Int32) → (Nat → Int32) → (Nat → Int32) → Int32 → Int32 → Int32 → Int32 → Prop} (hq : p_X7_bendTold B (nI tn) (nI (tK B tn p)) (nI (tA B tn p)) (nI (nx B tn p)) ya tr no wo mu sz (fun r a b c y t o w m s => zb r ∧ Q r a b c y t o w m s he se cr)) : p_X7_itemTold B (nI tn) (nI (tK B tn p)) (nI (tA B tn p)) (nI (nx B tn p)) ya tr no wo mu sz kd fg he se cr Q := by
  unfold p_X7_itemTold
  refine c_word (i := 1) ht hp (by decide) ?_
  rw [if_pos w1, if_neg (show ¬ (1 : Int32) = 0 by decide)]
  exact hq
theorem cI_mud (ht : tn ≤ 150) (hp : p ≤ tn) (w1 : ¬ wD B tn p 1) (w2 : wD B tn p 2) {Q : Int32 → Int32 → Int32 → Int32 → (Nat → Int32) → (Nat → Int32) → (Nat → Int32) → (Nat → Int32) → (Nat → Int32) → Int32 → Int32 → Int32 → Int32 → Prop} (hq : p_X7_mudTold B (nI tn) (nI (tK B tn p)) (nI (tA B tn p)) (nI (nx B tn p)) mu sz (fun r a b c m => zb r ∧ Q r a b c ya tr no wo m sz he se cr)) : p_X7_itemTold B (nI tn) (nI (tK B tn p)) (nI (tA B tn p)) (nI (nx B tn p)) ya tr no wo mu sz kd fg he se cr Q := by
  unfold p_X7_itemTold
  refine c_word (i := 1) ht hp (by decide) ?_
  rw [if_neg w1, if_pos rfl]
  refine c_word (i := 2) ht hp (by decide) ?_
  rw [if_pos w2, if_neg (show ¬ (1 : Int32) = 0 by decide)]
  exact hq
theorem cI_drive (ht : tn ≤ 150) (hp : p ≤ tn) (w1 : ¬ wD B tn p 1) (w2 : ¬ wD B tn p 2) (w3 : wD B tn p 3) {Q : Int32 → Int32 → Int32 → Int32 → (Nat → Int32) → (Nat → Int32) → (Nat → Int32) → (Nat → Int32) → (Nat → Int32) → Int32 → Int32 → Int32 → Int32 → Prop} (hq : p_X7_driveTold B (nI tn) (nI (tK B tn p)) (nI (tA B tn p)) (nI (nx B tn p)) ya tr no mu sz kd fg he se cr (fun r a b c x y z => zb r ∧ Q r a b c ya tr no wo mu sz x y z)) : p_X7_itemTold B (nI tn) (nI (tK B tn p)) (nI (tA B tn p)) (nI (nx B tn p)) ya tr no wo mu sz kd fg he se cr Q := by
  unfold p_X7_itemTold
  refine c_word (i := 1) ht hp (by decide) ?_
  rw [if_neg w1, if_pos rfl]
  refine c_word (i := 2) ht hp (by decide) ?_
  rw [if_neg w2, if_pos rfl]
  refine c_word (i := 3) ht hp (by decide) ?_
  rw [if_pos w3, if_neg (show ¬ (1 : Int32) = 0 by decide)]
  exact hq
theorem cI_none (ht : tn ≤ 150) (hp : p ≤ tn) (w1 : ¬ wD B tn p 1) (w2 : ¬ wD B tn p 2) (w3 : ¬ wD B tn p 3) {Q : Int32 → Int32 → Int32 → Int32 → (Nat → Int32) → (Nat → Int32) → (Nat → Int32) → (Nat → Int32) → (Nat → Int32) → Int32 → Int32 → Int32 → Int32 → Prop} (hq : Q 0 (nI (tK B tn p)) (nI (tA B tn p)) (nI (nx B tn p)) ya tr no wo mu sz he se cr) : p_X7_itemTold B (nI tn) (nI (tK B tn p)) (nI (tA B tn p)) (nI (nx B tn p)) ya tr no wo mu sz kd fg he se cr Q := by
  unfold p_X7_itemTold
  refine c_word (i := 1) ht hp (by decide) ?_
  rw [if_neg w1, if_pos rfl]
  refine c_word (i := 2) ht hp (by decide) ?_
  rw [if_neg w2, if_pos rfl]
  refine c_word (i := 3) ht hp (by decide) ?_
  rw [if_neg w3, if_pos rfl]
  exact hq
variable {vs : Nat → Int32}
theorem mI_bend (ht : tn ≤ 150) (hp : p ≤ tn) (w1 : wD B tn p 1) {G : Int32 → Int32 → Int32 → Int32 → Int32 → (Nat → Int32) → (Nat → Int32) → Prop} (hq : p_X9_takesBend B (nI tn) (nI (tA B tn p)) (nI (tL B tn p)) (nI (tK B tn p)) (tV B tn p) T vs (fun r a l t v an vs => zb r ∧ G r a l t v an vs)) : p_X9_takesItem B (nI tn) (nI (tA B tn p)) (nI (tL B tn p)) (nI (tK B tn p)) (tV B tn p) T vs G := by
  unfold p_X9_takesItem
  refine m_word (i := 1) ht hp (by decide) rfl ew1 ?_
  rw [if_pos w1, if_neg (show ¬ (1 : Int32) = 0 by decide)]
  exact hq
theorem mI_mud (ht : tn ≤ 150) (hp : p ≤ tn) (w1 : ¬ wD B tn p 1) (w2 : wD B tn p 2) {G : Int32 → Int32 → Int32 → Int32 → Int32 → (Nat → Int32) → (Nat → Int32) → Prop} (hq : p_X9_takesMud B (nI tn) (nI (tA B tn p)) (nI (tL B tn p)) (nI (tK B tn p)) (tV B tn p) T vs (fun r a l t v an vs => zb r ∧ G r a l t v an vs)) : p_X9_takesItem B (nI tn) (nI (tA B tn p)) (nI (tL B tn p)) (nI (tK B tn p)) (tV B tn p) T vs G := by
  unfold p_X9_takesItem
  refine m_word (i := 1) ht hp (by decide) rfl ew1 ?_
  rw [if_neg w1, if_pos rfl]
  refine m_word (i := 2) ht hp (by decide) rfl ew2 ?_
  rw [if_pos w2, if_neg (show ¬ (1 : Int32) = 0 by decide)]
  exact hq
theorem mI_drive (ht : tn ≤ 150) (hp : p ≤ tn) (w1 : ¬ wD B tn p 1) (w2 : ¬ wD B tn p 2) (w3 : wD B tn p 3) {G : Int32 → Int32 → Int32 → Int32 → Int32 → (Nat → Int32) → (Nat → Int32) → Prop} (hq : p_X9_takesDrive B (nI tn) (nI (tA B tn p)) (nI (tL B tn p)) (nI (tK B tn p)) (tV B tn p) T vs (fun r a l t v an vs => if r = 0 then G 0 a l t v an vs else G 1 a l t v an vs)) : p_X9_takesItem B (nI tn) (nI (tA B tn p)) (nI (tL B tn p)) (nI (tK B tn p)) (tV B tn p) T vs G := by
  unfold p_X9_takesItem
  refine m_word (i := 1) ht hp (by decide) rfl ew1 ?_
  rw [if_neg w1, if_pos rfl]
  refine m_word (i := 2) ht hp (by decide) rfl ew2 ?_
  rw [if_neg w2, if_pos rfl]
  refine m_word (i := 3) ht hp (by decide) rfl ew3 ?_
  rw [if_pos w3, if_neg (show ¬ (1 : Int32) = 0 by decide)]
  exact hq
theorem mI_none (ht : tn ≤ 150) (hp : p ≤ tn) (w1 : ¬ wD B tn p 1) (w2 : ¬ wD B tn p 2) (w3 : ¬ wD B tn p 3) {G : Int32 → Int32 → Int32 → Int32 → Int32 → (Nat → Int32) → (Nat → Int32) → Prop} (hq : G 0 (nI (tA B tn p)) (nI (tL B tn p)) (nI (tK B tn p)) (tV B tn p) T vs) : p_X9_takesItem B (nI tn) (nI (tA B tn p)) (nI (tL B tn p)) (nI (tK B tn p)) (tV B tn p) T vs G := by
  unfold p_X9_takesItem
  refine m_word (i := 1) ht hp (by decide) rfl ew1 ?_
  rw [if_neg w1, if_pos rfl]
  refine m_word (i := 2) ht hp (by decide) rfl ew2 ?_
  rw [if_neg w2, if_pos rfl]
  refine m_word (i := 3) ht hp (by decide) rfl ew3 ?_
  rw [if_neg w3, if_pos rfl]
  exact hq
theorem lf_pos (H : TI T n 0 0 0 h mb kN fN yN tN nN wN) : ∀ c, 1 ≤ c → h + c ≤ n → ∃ k, 1 ≤ k ∧ k ≤ 69 * c ∧ sm (lfS T mb) h c = nI k := by
  intro c
  induction c with
  | zero => intro h1; omega
  | succ c ih =>
    intro _ hc
    have c1 := H.cN (b := h + c) (x := nN (h + c)) (by omega) (H.no6 (by omega))
    have y1 := (H.2.2.1 (h + c) (by omega)).1
    have e : lfS T mb (h + c) = nI (yN (h + c) + ccN T mb (h + c) (nI (nN (h + c)))) := by
      unfold lfS
      rw [H.ya (by omega), H.no (by omega), c1.1, nI_add]
    show ∃ k, 1 ≤ k ∧ k ≤ 69 * (c + 1) ∧ sm (lfS T mb) h c + lfS T mb (h + c) = nI k
    rw [e]
    by_cases g : c = 0
    · subst g
      refine ⟨_, ?_, ?_, show (0 : Int32) + nI _ = _ from Int32.zero_add _⟩ <;> omega
    · obtain ⟨k, k1, k2, k3⟩ := ih (by omega) (by omega)
      rw [k3, nI_add]
      exact ⟨_, by omega, by omega, rfl⟩
theorem c_add (g : n < 8) {x1 x2 x3 x4 : Int32} {Q : Int32 → (Nat → Int32) → (Nat → Int32) → (Nat → Int32) → (Nat → Int32) → (Nat → Int32) → Int32 → Prop} (hq : ∀ r, Q r (upd ya n x1) (upd tr n x2) (upd no n x3) (upd wo n x4) (upd mu n 0) (nI (n + 1))) : p_X0_add ya tr no wo mu (nI n) x1 x2 x3 x4 Q := by
  unfold p_X0_add p_X0_isFull
  rw [if_pos (show nI n < 8 from nI_lt (b := 8) g (by decide))]
  dsimp only
  rw [if_pos (show (0 : Int32) = 0 from rfl), nI_clamp (show n < 2 ^ 31 by omega), nI_1]
  have hi : vp_in (nI n) 8 := vp_in_nI g (by decide)
  exact ⟨hi, hi, hi, hi, hi, hq _⟩
/-- one item -/
def RDI (B : Nat → Int32) (tn p : Nat) (T : Nat → Int32) (n mb kN fN : Nat) : Prop := (∃ q, q ≤ tn ∧ CIF B tn p q T n mb ∧ MIF B tn p q T) ∨ (∃ (q : Nat) (T' : Nat → Int32) (n' h' mb' : Nat) (yN' tN' nN' wN' : Nat → Nat), p < q ∧ q ≤ tn ∧ TI T' n' 0 0 0 h' mb' kN fN yN' tN' nN' wN' ∧ CIG B tn p q T n mb T' n' mb' ∧ MIG B tn p q T T')

theorem rd_bend (ht : tn ≤ 150) (hp : p ≤ tn) (h0 : tK B tn p ≠ 0) (H : TI T n 0 0 0 h mb kN fN yN tN nN wN) (w1 : wD B tn p 1) : RDI B tn p T n mb kN fN := by
  have h8 := H.n8
  have hp0 := (tK_0 hp h0).2
  have hp1 : (nx B tn p) ≤ tn := nx_le hp
  have hp2 : (nx B tn (nx B tn p)) ≤ tn := nx_le hp1
  have hp3 : (nx B tn (nx B tn (nx B tn p))) ≤ tn := nx_le hp2
  have hp4 : (nx B tn (nx B tn (nx B tn (nx B tn p)))) ≤ tn := nx_le hp3
  have hp5 : (nx B tn (nx B tn (nx B tn (nx B tn (nx B tn p))))) ≤ tn := nx_le hp4
  have hp6 : (nx B tn (nx B tn (nx B tn (nx B tn (nx B tn (nx B tn p)))))) ≤ tn := nx_le hp5
  have m0 : ∀ {F K : Int32 → Int32 → Int32 → Int32 → (Nat → Int32) → (Nat → Int32) → Prop} {vs : Nat → Int32}, n < 8 → (p_X9_takes B (nI tn) (nI (tA B tn (nx B tn p))) (nI (tL B tn (nx B tn p))) (nI (tK B tn (nx B tn p))) (tV B tn (nx B tn p)) vs 0 1 9 (fun r_6 u_7 u_8 u_9 u_10 u_11 => if r_6 = 0 then (zb 0 ∧ (fun r a l t v an vs => if r = 0 then F a l t v an vs else (if t = 3 then p_X9_goBehind B (nI tn) a l t v (fun a l t v => K a l t v an vs) else F a l t v an vs)) (0 : Int32) u_7 u_8 u_9 u_10 T u_11) else (p_X9_takes B (nI tn) u_7 u_8 u_9 u_10 u_11 1 1 6 (fun r_13 u_14 u_15 u_16 u_17 u_18 => if r_13 = 0 then (zb 0 ∧ (fun r a l t v an vs => if r = 0 then F a l t v an vs else (if t = 3 then p_X9_goBehind B (nI tn) a l t v (fun a l t v => K a l t v an vs) else F a l t v an vs)) (0 : Int32) u_14 u_15 u_16 u_17 T u_18) else (p_X9_takes B (nI tn) u_14 u_15 u_16 u_17 u_18 2 0 6 (fun r_20 u_21 u_22 u_23 u_24 u_25 => if r_20 = 0 then (zb 0 ∧ (fun r a l t v an vs => if r = 0 then F a l t v an vs else (if t = 3 then p_X9_goBehind B (nI tn) a l t v (fun a l t v => K a l t v an vs) else F a l t v an vs)) (0 : Int32) u_21 u_22 u_23 u_24 T u_25) else (p_X9_takes B (nI tn) u_21 u_22 u_23 u_24 u_25 3 1 9 (fun r_27 u_28 u_29 u_30 u_31 u_32 => if r_27 = 0 then (zb 0 ∧ (fun r a l t v an vs => if r = 0 then F a l t v an vs else (if t = 3 then p_X9_goBehind B (nI tn) a l t v (fun a l t v => K a l t v an vs) else F a l t v an vs)) (0 : Int32) u_28 u_29 u_30 u_31 T u_32) else (p_X9_layBend 75 T (u_32 (0 : Int32).toNatClampNeg) (u_32 (1 : Int32).toNatClampNeg) (u_32 (2 : Int32).toNatClampNeg) (u_32 (3 : Int32).toNatClampNeg) (fun u_34 => zb 1 ∧ (fun r a l t v an vs => if r = 0 then F a l t v an vs else (if t = 3 then p_X9_goBehind B (nI tn) a l t v (fun a l t v => K a l t v an vs) else F a l t v an vs)) (1 : Int32) u_28 u_29 u_30 u_31 u_34 u_32)))))))))) → p_X9_takesItem B (nI tn) (nI (tA B tn p)) (nI (tL B tn p)) (nI (tK B tn p)) (tV B tn p) T vs (fun r a l t v an vs => if r = 0 then F a l t v an vs else (if t = 3 then p_X9_goBehind B (nI tn) a l t v (fun a l t v => K a l t v an vs) else F a l t v an vs)) := by
    intro F K vs g hq
    refine mI_bend ht hp w1 ?_
    unfold p_X9_takesBend
    rw [show (0 : Int32).toNatClampNeg = 0 from rfl, H.e0, if_neg (show ¬ nI n = 8 from fun e => by have := (nI_eq (a := n) (b := 8) (by omega) (by decide)).mp e; omega)]
    exact m_behind ht hp hq
  by_cases g : n < 8
  case neg =>
    have e8 : n = 8 := by omega
    refine Or.inl ⟨p, hp, ?_, ?_⟩
    · intro kd fg he se cr sz ya tr no wo mu fe pr pa Q C hQ
      refine cI_bend ht hp w1 ?_
      unfold p_X7_bendTold p_X0_isFull
      rw [C.esz, if_neg (show ¬ nI n < 8 by rw [e8]; exact Int32.lt_irrefl)]
      dsimp only
      rw [if_neg (show ¬ (1 : Int32) = 0 by decide)]
      exact ⟨zb0, hQ _ _ _ _ _ _ _ _ _⟩
    · intro vs F K hF
      refine mI_bend ht hp w1 ?_
      unfold p_X9_takesBend
      rw [show (0 : Int32).toNatClampNeg = 0 from rfl, H.e0, if_pos (show nI n = 8 by rw [e8]; rfl)]
      refine ⟨zb0, ?_⟩
      rw [if_pos rfl]
      exact hF _ _
  have c0 : ∀ (kd fg he se cr sz : Int32) (ya tr no wo mu fe pr pa : Nat → Int32) (Q : Int32 → Int32 → Int32 → Int32 → (Nat → Int32) → (Nat → Int32) → (Nat → Int32) → (Nat → Int32) → (Nat → Int32) → Int32 → Int32 → Int32 → Int32 → Prop), CR T n 0 0 0 mb kd fg he se cr sz ya tr no wo mu 0 fe 0 pr 0 pa → p_X7_number B (nI tn) (nI (tK B tn (nx B tn p))) (nI (tA B tn (nx B tn p))) (nI (nx B tn (nx B tn p))) 1 9 (fun r_6 u_7 u_8 u_9 => if r_6 = (-1) then (zb 0 ∧ Q 0 u_7 u_8 u_9 ya tr no wo mu (nI n) he se cr) else (p_X7_number B (nI tn) u_7 u_8 u_9 1 6 (fun r_11 u_12 u_13 u_14 => if r_11 = (-1) then (zb 0 ∧ Q 0 u_12 u_13 u_14 ya tr no wo mu (nI n) he se cr) else (p_X7_number B (nI tn) u_12 u_13 u_14 0 6 (fun r_16 u_17 u_18 u_19 => if r_16 = (-1) then (zb 0 ∧ Q 0 u_17 u_18 u_19 ya tr no wo mu (nI n) he se cr) else (p_X7_number B (nI tn) u_17 u_18 u_19 1 9 (fun r_21 u_22 u_23 u_24 => if r_21 = (-1) then (zb 0 ∧ Q 0 u_22 u_23 u_24 ya tr no wo mu (nI n) he se cr) else (p_X0_add ya tr no wo mu (nI n) r_6 r_11 r_16 r_21 (fun r_26 u_27 u_28 u_29 u_30 u_31 u_32 => p_X7_itemEnded B (nI tn) u_22 u_23 u_24 (fun r_33 u_34 u_35 u_36 => zb r_33 ∧ zb r_33 ∧ Q r_33 u_34 u_35 u_36 u_27 u_28 u_29 u_30 u_31 u_32 he se cr)))))))))) → p_X7_itemTold B (nI tn) (nI (tK B tn p)) (nI (tA B tn p)) (nI (nx B tn p)) ya tr no wo mu sz kd fg he se cr Q := by
    intro kd fg he se cr sz ya tr no wo mu fe pr pa Q C hq
    refine cI_bend ht hp w1 ?_
    unfold p_X7_bendTold p_X0_isFull
    rw [C.esz, if_pos (show nI n < 8 from nI_lt (b := 8) g (by decide))]
    dsimp only
    rw [if_pos (show (0 : Int32) = 0 from rfl)]
    exact c_step ht hp1 hq
  by_cases g1 : nB B tn (nx B tn p) 1 9
  case neg =>
    refine Or.inl ⟨(nx B tn p), hp1, ?_, ?_⟩
    · intro kd fg he se cr sz ya tr no wo mu fe pr pa Q C hQ
      refine c0 kd fg he se cr sz ya tr no wo mu fe pr pa Q C ?_
      refine c_num_f ht hp1 g1 ?_
      rw [if_pos rfl]
      exact ⟨zb0, hQ _ _ _ _ _ _ _ _ _⟩
    · intro vs F K hF
      refine m0 g ?_
      refine m_tk_f g1 ?_
      rw [if_pos rfl]
      refine ⟨zb0, ?_⟩
      dsimp only
      rw [if_pos rfl]
      exact hF _ _
  by_cases g2 : nB B tn (nx B tn (nx B tn p)) 1 6
  case neg =>
    refine Or.inl ⟨(nx B tn (nx B tn p)), hp2, ?_, ?_⟩
    · intro kd fg he se cr sz ya tr no wo mu fe pr pa Q C hQ
      refine c0 kd fg he se cr sz ya tr no wo mu fe pr pa Q C ?_
      refine c_num_t ht hp1 g1 ?_
      rw [if_neg (notm1 (by decide) g1.2)]
      refine c_num_f ht hp2 g2 ?_
      rw [if_pos rfl]
      exact ⟨zb0, hQ _ _ _ _ _ _ _ _ _⟩
    · intro vs F K hF
      refine m0 g ?_
      refine m_tk_t ht hp1 (k := 0) (by decide) rfl g1 ?_
      rw [if_neg (show ¬ (1 : Int32) = 0 by decide)]
      refine m_tk_f g2 ?_
      rw [if_pos rfl]
      refine ⟨zb0, ?_⟩
      dsimp only
      rw [if_pos rfl]
      exact hF _ _
  by_cases g3 : nB B tn (nx B tn (nx B tn (nx B tn p))) 0 6
  case neg =>
    refine Or.inl ⟨(nx B tn (nx B tn (nx B tn p))), hp3, ?_, ?_⟩
    · intro kd fg he se cr sz ya tr no wo mu fe pr pa Q C hQ
      refine c0 kd fg he se cr sz ya tr no wo mu fe pr pa Q C ?_
      refine c_num_t ht hp1 g1 ?_
      rw [if_neg (notm1 (by decide) g1.2)]
      refine c_num_t ht hp2 g2 ?_
      rw [if_neg (notm1 (by decide) g2.2)]
      refine c_num_f ht hp3 g3 ?_
      rw [if_pos rfl]
      exact ⟨zb0, hQ _ _ _ _ _ _ _ _ _⟩
    · intro vs F K hF
      refine m0 g ?_
      refine m_tk_t ht hp1 (k := 0) (by decide) rfl g1 ?_
      rw [if_neg (show ¬ (1 : Int32) = 0 by decide)]
      refine m_tk_t ht hp2 (k := 1) (by decide) rfl g2 ?_
      rw [if_neg (show ¬ (1 : Int32) = 0 by decide)]
      refine m_tk_f g3 ?_
      rw [if_pos rfl]
      refine ⟨zb0, ?_⟩
      dsimp only
      rw [if_pos rfl]
      exact hF _ _
  by_cases g4 : nB B tn (nx B tn (nx B tn (nx B tn (nx B tn p)))) 1 9
  case neg =>
    refine Or.inl ⟨(nx B tn (nx B tn (nx B tn (nx B tn p)))), hp4, ?_, ?_⟩
    · intro kd fg he se cr sz ya tr no wo mu fe pr pa Q C hQ
      refine c0 kd fg he se cr sz ya tr no wo mu fe pr pa Q C ?_
      refine c_num_t ht hp1 g1 ?_
      rw [if_neg (notm1 (by decide) g1.2)]
      refine c_num_t ht hp2 g2 ?_
      rw [if_neg (notm1 (by decide) g2.2)]
      refine c_num_t ht hp3 g3 ?_
      rw [if_neg (notm1 (by decide) g3.2)]
      refine c_num_f ht hp4 g4 ?_
      rw [if_pos rfl]
      exact ⟨zb0, hQ _ _ _ _ _ _ _ _ _⟩
    · intro vs F K hF
      refine m0 g ?_
      refine m_tk_t ht hp1 (k := 0) (by decide) rfl g1 ?_
      rw [if_neg (show ¬ (1 : Int32) = 0 by decide)]
      refine m_tk_t ht hp2 (k := 1) (by decide) rfl g2 ?_
      rw [if_neg (show ¬ (1 : Int32) = 0 by decide)]
      refine m_tk_t ht hp3 (k := 2) (by decide) rfl g3 ?_
      rw [if_neg (show ¬ (1 : Int32) = 0 by decide)]
      refine m_tk_f g4 ?_
      rw [if_pos rfl]
      refine ⟨zb0, ?_⟩
      dsimp only
      rw [if_pos rfl]
      exact hF _ _
  obtain ⟨a, ha1, ha2, ea⟩ := rgN (x := tV B tn (nx B tn p)) 1 9 (by decide) g1.2
  obtain ⟨b, hb1, hb2, eb⟩ := rgN (x := tV B tn (nx B tn (nx B tn p))) 1 6 (by decide) g2.2
  obtain ⟨c, -, hc2, ec⟩ := rgN (x := tV B tn (nx B tn (nx B tn (nx B tn p)))) 0 6 (by decide) g3.2
  obtain ⟨d, hd1, hd2, ed⟩ := rgN (x := tV B tn (nx B tn (nx B tn (nx B tn (nx B tn p))))) 1 9 (by decide) g4.2
  have e3 : upd (lyT T n (nI a) (nI b) (nI c) (nI d)) 3 0 = lyT T n (nI a) (nI b) (nI c) (nI d) := by
    funext k
    rw [upd_at]
    by_cases q : k = 3
    · rw [if_pos q]
      unfold lyT
      rw [if_neg (by omega), if_neg (by omega), if_neg (by omega), if_neg (by omega), if_neg (by omega), q]
      exact H.e3.symm
    · rw [if_neg q]
  have H' := H.lay g ⟨ha1, ha2⟩ ⟨hb1, hb2⟩ hc2 ⟨hd1, hd2⟩
  rw [e3] at H'
  by_cases gs : tK B tn (nx B tn (nx B tn (nx B tn (nx B tn (nx B tn p))))) = 3
  · have l1 := (tK_0 hp5 (by omega : tK B tn (nx B tn (nx B tn (nx B tn (nx B tn (nx B tn p))))) ≠ 0)).2
    have z1 : p ≤ (nx B tn p) := by omega
    have z2 := (tK_0 hp1 (by omega : tK B tn (nx B tn p) ≠ 0)).2
    have z3 := (tK_0 hp2 (by omega : tK B tn (nx B tn (nx B tn p)) ≠ 0)).2
    have z4 := (tK_0 hp3 (by omega : tK B tn (nx B tn (nx B tn (nx B tn p))) ≠ 0)).2
    have z5 := (tK_0 hp4 (by omega : tK B tn (nx B tn (nx B tn (nx B tn (nx B tn p)))) ≠ 0)).2
    refine Or.inr ⟨(nx B tn (nx B tn (nx B tn (nx B tn (nx B tn (nx B tn p)))))), lyT T n (nI a) (nI b) (nI c) (nI d), _, _, _, _, _, _, _, by omega, hp6, H', ?_, ?_⟩
    · intro kd fg he se cr sz ya tr no wo mu fe pr pa Q C hQ
      refine c0 kd fg he se cr sz ya tr no wo mu fe pr pa Q C ?_
      refine c_num_t ht hp1 g1 ?_
      rw [if_neg (notm1 (by decide) g1.2)]
      refine c_num_t ht hp2 g2 ?_
      rw [if_neg (notm1 (by decide) g2.2)]
      refine c_num_t ht hp3 g3 ?_
      rw [if_neg (notm1 (by decide) g3.2)]
      refine c_num_t ht hp4 g4 ?_
      rw [if_neg (notm1 (by decide) g4.2)]
      refine c_add g (fun _ => c_end_t ht hp5 gs ?_)
      have C' := C.lay g (by omega) H.1.2.2.2.2.2.1 (nI a) (nI b) (nI c) (nI d)
      rw [e3] at C'
      rw [ea, eb, ec, ed]
      exact ⟨zb1, zb1, hQ _ _ _ _ _ _ _ _ _ C'⟩
    · intro vs F K hK
      refine m0 g ?_
      refine m_tk_t ht hp1 (k := 0) (by decide) rfl g1 ?_
      rw [if_neg (show ¬ (1 : Int32) = 0 by decide)]
      refine m_tk_t ht hp2 (k := 1) (by decide) rfl g2 ?_
      rw [if_neg (show ¬ (1 : Int32) = 0 by decide)]
      refine m_tk_t ht hp3 (k := 2) (by decide) rfl g3 ?_
      rw [if_neg (show ¬ (1 : Int32) = 0 by decide)]
      refine m_tk_t ht hp4 (k := 3) (by decide) rfl g4 ?_
      rw [if_neg (show ¬ (1 : Int32) = 0 by decide)]
      refine m_layBend (by decide) (by decide) H.e0 g ⟨zb1, ?_⟩
      dsimp only
      rw [if_neg (show ¬ (1 : Int32) = 0 by decide), if_pos (show nI (tK B tn (nx B tn (nx B tn (nx B tn (nx B tn (nx B tn p)))))) = 3 by rw [gs]; rfl)]
      refine m_behind ht hp5 ?_
      have hK2 := hK (upd (upd (upd (upd vs 0 (tV B tn (nx B tn p))) 1 (tV B tn (nx B tn (nx B tn p)))) 2 (tV B tn (nx B tn (nx B tn (nx B tn p))))) 3 (tV B tn (nx B tn (nx B tn (nx B tn (nx B tn p))))))
      rw [← ea, ← eb, ← ec, ← ed] at hK2
      exact hK2
  · refine Or.inl ⟨(nx B tn (nx B tn (nx B tn (nx B tn (nx B tn p))))), hp5, ?_, ?_⟩
    · intro kd fg he se cr sz ya tr no wo mu fe pr pa Q C hQ
      refine c0 kd fg he se cr sz ya tr no wo mu fe pr pa Q C ?_
      refine c_num_t ht hp1 g1 ?_
      rw [if_neg (notm1 (by decide) g1.2)]
      refine c_num_t ht hp2 g2 ?_
      rw [if_neg (notm1 (by decide) g2.2)]
      refine c_num_t ht hp3 g3 ?_
      rw [if_neg (notm1 (by decide) g3.2)]
      refine c_num_t ht hp4 g4 ?_
      rw [if_neg (notm1 (by decide) g4.2)]
      refine c_add g (fun _ => c_end_f gs ?_)
      exact ⟨zb0, zb0, hQ _ _ _ _ _ _ _ _ _⟩
    · intro vs F K hF
      refine m0 g ?_
      refine m_tk_t ht hp1 (k := 0) (by decide) rfl g1 ?_
      rw [if_neg (show ¬ (1 : Int32) = 0 by decide)]
      refine m_tk_t ht hp2 (k := 1) (by decide) rfl g2 ?_
      rw [if_neg (show ¬ (1 : Int32) = 0 by decide)]
      refine m_tk_t ht hp3 (k := 2) (by decide) rfl g3 ?_
      rw [if_neg (show ¬ (1 : Int32) = 0 by decide)]
      refine m_tk_t ht hp4 (k := 3) (by decide) rfl g4 ?_
      rw [if_neg (show ¬ (1 : Int32) = 0 by decide)]
      refine m_layBend (by decide) (by decide) H.e0 g ⟨zb1, ?_⟩
      dsimp only
      rw [if_neg (show ¬ (1 : Int32) = 0 by decide), if_neg (show ¬ nI (tK B tn (nx B tn (nx B tn (nx B tn (nx B tn (nx B tn p)))))) = 3 from fun q => gs ((tK_eq (k := 3) (by decide)).mp q))]
      exact hF _ _

theorem rd_mud (ht : tn ≤ 150) (hp : p ≤ tn) (h0 : tK B tn p ≠ 0) (H : TI T n 0 0 0 h mb kN fN yN tN nN wN) (w1 : ¬ wD B tn p 1) (w2 : wD B tn p 2) : RDI B tn p T n mb kN fN := by
  have h8 := H.n8
  have hp0 := (tK_0 hp h0).2
  have hp1 : (nx B tn p) ≤ tn := nx_le hp
  have hp2 : (nx B tn (nx B tn p)) ≤ tn := nx_le hp1
  have hp3 : (nx B tn (nx B tn (nx B tn p))) ≤ tn := nx_le hp2
  by_cases g1 : nB B tn (nx B tn p) 0 (nI n - 1)
  case neg =>
    refine Or.inl ⟨(nx B tn p), hp1, ?_, ?_⟩
    · intro kd fg he se cr sz ya tr no wo mu fe pr pa Q C hQ
      refine cI_mud ht hp w1 w2 ?_
      unfold p_X7_mudTold
      rw [C.esz]
      refine c_step ht hp1 (c_num_f ht hp1 g1 (s_has_f (Or.inl (by decide)) ?_))
      rw [if_pos rfl]
      exact ⟨zb0, hQ _ _ _ _ _ _ _ _ _⟩
    · intro vs F K hF
      refine mI_mud ht hp w1 w2 ?_
      unfold p_X9_takesMud
      rw [show (0 : Int32).toNatClampNeg = 0 from rfl, H.e0]
      refine m_behind ht hp (m_tk_f g1 ?_)
      rw [if_pos rfl]
      refine ⟨zb0, ?_⟩
      rw [if_pos rfl]
      exact hF _ _
  obtain ⟨b, hb, eb⟩ : ∃ b, b < n ∧ tV B tn (nx B tn p) = nI b := by
    rcases ixc (tV B tn (nx B tn p)) (n := n) (by omega) with (q | q) | q
    · exact absurd g1.2.1 (fun r => (fa_of_lt q).2.1 r)
    · exfalso
      have r := Int32.le_trans q g1.2.2
      rw [fa_le, show (1 : Int32) = nI 1 from rfl, pk_sub_toInt (by omega) (by decide), nI_toInt (by omega)] at r
      omega
    · exact q
  have hmb := H.mb8
  have hbn : 2 ^ b < 2 ^ n := Nat.pow_lt_pow_right (by decide) hb
  have H' := H.mud (m2 := mb ||| 2 ^ b) (Nat.or_lt_two_pow H.1.2.2.2.2.2.1 hbn)
  have eT : ∀ vs : Nat → Int32, upd T 17 (T 17 ||| (1 <<< (upd vs 0 (tV B tn (nx B tn p)) 0 &&& 31))) = upd T 17 (nI (mb ||| 2 ^ b)) := by
    intro vs
    rw [pk_us, H.e17, eb, mudO mb hmb b (by omega)]
  by_cases gs : tK B tn (nx B tn (nx B tn p)) = 3
  · have l1 := (tK_0 hp2 (by omega : tK B tn (nx B tn (nx B tn p)) ≠ 0)).2
    have l2 := (tK_0 hp1 (by omega : tK B tn (nx B tn p) ≠ 0)).2
    refine Or.inr ⟨(nx B tn (nx B tn (nx B tn p))), upd T 17 (nI (mb ||| 2 ^ b)), _, _, _, _, _, _, _, by omega, hp3, H', ?_, ?_⟩
    · intro kd fg he se cr sz ya tr no wo mu fe pr pa Q C hQ
      refine cI_mud ht hp w1 w2 ?_
      unfold p_X7_mudTold
      rw [C.esz]
      refine c_step ht hp1 (c_num_t ht hp1 g1 ?_)
      rw [eb]
      refine s_has_t hb (by omega) ?_
      rw [if_neg (show ¬ (1 : Int32) = 0 by decide), nI_clamp (show b < 2 ^ 31 by omega)]
      refine ⟨vp_in_nI (by omega) (by decide), c_end_t ht hp2 gs ⟨zb1, zb1, ?_⟩⟩
      have C' : CR (upd T 17 (nI (mb ||| 2 ^ b))) n 0 0 0 (mb ||| 2 ^ b) kd fg he se cr sz ya tr no wo (upd mu b 1) 0 fe 0 pr 0 pa := C.mud h8 (fun c hc => by
        rw [upd_at, mudOb mb hmb b (by omega) c (by omega)]
        by_cases q : c = b
        · rw [if_pos q, if_pos q]; rfl
        · rw [if_neg q, if_neg q]; exact (C.2.1 c hc).2.2.2.2)
      rw [C.esz] at C'
      exact hQ _ _ _ _ _ _ _ _ _ C'
    · intro vs F K hK
      refine mI_mud ht hp w1 w2 ?_
      unfold p_X9_takesMud
      rw [show (0 : Int32).toNatClampNeg = 0 from rfl, show (17 : Int32).toNatClampNeg = 17 from rfl, H.e0]
      refine m_behind ht hp (m_tk_t ht hp1 (k := 0) (by decide) rfl g1 ?_)
      rw [if_neg (show ¬ (1 : Int32) = 0 by decide), eT]
      refine ⟨zb1, ?_⟩
      rw [if_neg (show ¬ (1 : Int32) = 0 by decide), if_pos (show nI (tK B tn (nx B tn (nx B tn p))) = 3 by rw [gs]; rfl)]
      exact m_behind ht hp2 (hK _)
  · refine Or.inl ⟨(nx B tn (nx B tn p)), hp2, ?_, ?_⟩
    · intro kd fg he se cr sz ya tr no wo mu fe pr pa Q C hQ
      refine cI_mud ht hp w1 w2 ?_
      unfold p_X7_mudTold
      rw [C.esz]
      refine c_step ht hp1 (c_num_t ht hp1 g1 ?_)
      rw [eb]
      refine s_has_t hb (by omega) ?_
      rw [if_neg (show ¬ (1 : Int32) = 0 by decide), nI_clamp (show b < 2 ^ 31 by omega)]
      exact ⟨vp_in_nI (by omega) (by decide), c_end_f gs ⟨zb0, zb0, hQ _ _ _ _ _ _ _ _ _⟩⟩
    · intro vs F K hF
      refine mI_mud ht hp w1 w2 ?_
      unfold p_X9_takesMud
      rw [show (0 : Int32).toNatClampNeg = 0 from rfl, show (17 : Int32).toNatClampNeg = 17 from rfl, H.e0]
      refine m_behind ht hp (m_tk_t ht hp1 (k := 0) (by decide) rfl g1 ?_)
      rw [if_neg (show ¬ (1 : Int32) = 0 by decide)]
      refine ⟨zb1, ?_⟩
      rw [if_neg (show ¬ (1 : Int32) = 0 by decide), if_neg (show ¬ nI (tK B tn (nx B tn (nx B tn p))) = 3 from fun q => gs ((tK_eq (k := 3) (by decide)).mp q))]
      exact hF _ _
theorem rd_drive (ht : tn ≤ 150) (hp : p ≤ tn) (h0 : tK B tn p ≠ 0) (H : TI T n 0 0 0 h mb kN fN yN tN nN wN) (w1 : ¬ wD B tn p 1) (w2 : ¬ wD B tn p 2) (w3 : wD B tn p 3) : RDI B tn p T n mb kN fN := by
  have h8 := H.n8
  have hn := H.hn
  have hp0 := (tK_0 hp h0).2
  have hp1 : (nx B tn p) ≤ tn := nx_le hp
  have hp2 : (nx B tn (nx B tn p)) ≤ tn := nx_le hp1
  have hp3 : (nx B tn (nx B tn (nx B tn p))) ≤ tn := nx_le hp2
  by_cases g1 : nB B tn (nx B tn p) 1 (nI (n - h))
  case neg =>
    refine Or.inl ⟨(nx B tn p), hp1, ?_, ?_⟩
    · intro kd fg he se cr sz ya tr no wo mu fe pr pa Q C hQ
      refine cI_drive ht hp w1 w2 w3 ?_
      unfold p_X7_driveTold p_X6_bendsLeft
      rw [C.esz, C.ehe H, pk_sub hn]
      refine c_step ht hp1 (c_num_f ht hp1 g1 ?_)
      rw [if_pos rfl]
      exact ⟨zb0, hQ _ _ _ _ _ _ _ _ _⟩
    · intro vs F K hF
      refine mI_drive ht hp w1 w2 w3 ?_
      unfold p_X9_takesDrive
      rw [show (0 : Int32).toNatClampNeg = 0 from rfl, show (4 : Int32).toNatClampNeg = 4 from rfl, H.e0, H.e4, pk_sub hn]
      refine m_behind ht hp (m_tk_f g1 ?_)
      rw [if_pos rfl]
      dsimp only
      rw [if_pos rfl, if_pos rfl]
      exact hF _ _
  obtain ⟨c, hc1, hc2, ec⟩ : ∃ c, 1 ≤ c ∧ c ≤ n - h ∧ tV B tn (nx B tn p) = nI c := by
    obtain ⟨c, -, hc, e⟩ := rgN (x := tV B tn (nx B tn p)) 0 (n - h) ⟨by omega, by omega⟩ ⟨Int32.le_trans (show nI 0 ≤ 1 by decide) g1.2.1, g1.2.2⟩
    refine ⟨c, ?_, hc, e⟩
    have q := g1.2.1
    rw [e] at q
    rcases (show c = 0 ∨ 1 ≤ c by omega) with r | r
    · rw [r] at q; exact absurd q (by decide)
    · exact r
  have H' := H.drive (c := c) (by omega)
  obtain ⟨k, k1, k2, k3⟩ := lf_pos H c hc1 (by omega)
  have md : ∀ {vs : Nat → Int32} {Q : Int32 → (Nat → Int32) → Prop}, Q (nI k) (gdT T mb h c) → p_X9_goDrive 75 T (upd vs 0 (tV B tn (nx B tn p)) 0) Q := by
    intro vs Q hQ
    rw [pk_us, ec]
    refine m_goDrive (tN := tN) (by decide) (by decide) H.e17 H.mb8 H.e4 (by omega) (fun b hb => ⟨H.t (by omega), H.t1 (by omega), H.t6 (by omega)⟩) ?_
    rw [k3]; exact hQ
  have npos : ¬ nI k ≤ 0 := nI_ge (a := 0) (b := k) (by omega) (by omega)
  by_cases gs : tK B tn (nx B tn (nx B tn p)) = 3
  · have l1 := (tK_0 hp2 (by omega : tK B tn (nx B tn (nx B tn p)) ≠ 0)).2
    have l2 := (tK_0 hp1 (by omega : tK B tn (nx B tn p) ≠ 0)).2
    refine Or.inr ⟨(nx B tn (nx B tn (nx B tn p))), gdT T mb h c, _, _, _, _, _, _, _, by omega, hp3, H', ?_, ?_⟩
    · intro kd fg he se cr sz ya tr no wo mu fe pr pa Q C hQ
      refine cI_drive ht hp w1 w2 w3 ?_
      unfold p_X7_driveTold p_X6_bendsLeft
      rw [show p_X7_step B (nI tn) (nI (tK B tn p)) (nI (tA B tn p)) (nI (nx B tn p)) = p_X7_step B (nI tn) (nI (tK B tn p)) (nI (tA B tn p)) (nI (nx B tn p)) from rfl]
      refine c_step ht hp1 ?_
      have es : sz - he = nI (n - h) := by rw [C.esz, C.ehe H, pk_sub hn]
      rw [es]
      refine c_num_t ht hp1 g1 ?_
      rw [if_neg (notm1 (by decide) g1.2), ec]
      refine c_goOn H C (by omega) (c_end_t ht hp2 gs ⟨zb1, zb1, hQ _ _ _ _ _ _ _ _ _ (C.drive c)⟩)
    · intro vs F K hK
      refine mI_drive ht hp w1 w2 w3 ?_
      unfold p_X9_takesDrive
      rw [show (0 : Int32).toNatClampNeg = 0 from rfl, show (4 : Int32).toNatClampNeg = 4 from rfl, H.e0, H.e4, pk_sub hn]
      refine m_behind ht hp (m_tk_t ht hp1 (k := 0) (by decide) rfl g1 ?_)
      rw [if_neg (show ¬ (1 : Int32) = 0 by decide)]
      refine md ?_
      rw [if_neg npos]
      dsimp only
      rw [if_neg (show ¬ (1 : Int32) = 0 by decide), if_neg (show ¬ (1 : Int32) = 0 by decide), if_pos (show nI (tK B tn (nx B tn (nx B tn p))) = 3 by rw [gs]; rfl)]
      exact m_behind ht hp2 (hK _)
  · refine Or.inl ⟨(nx B tn (nx B tn p)), hp2, ?_, ?_⟩
    · intro kd fg he se cr sz ya tr no wo mu fe pr pa Q C hQ
      refine cI_drive ht hp w1 w2 w3 ?_
      unfold p_X7_driveTold p_X6_bendsLeft
      refine c_step ht hp1 ?_
      have es : sz - he = nI (n - h) := by rw [C.esz, C.ehe H, pk_sub hn]
      rw [es]
      refine c_num_t ht hp1 g1 ?_
      rw [if_neg (notm1 (by decide) g1.2), ec]
      exact c_goOn H C (by omega) (c_end_f gs ⟨zb0, zb0, hQ _ _ _ _ _ _ _ _ _⟩)
    · intro vs F K hF
      refine mI_drive ht hp w1 w2 w3 ?_
      unfold p_X9_takesDrive
      rw [show (0 : Int32).toNatClampNeg = 0 from rfl, show (4 : Int32).toNatClampNeg = 4 from rfl, H.e0, H.e4, pk_sub hn]
      refine m_behind ht hp (m_tk_t ht hp1 (k := 0) (by decide) rfl g1 ?_)
      rw [if_neg (show ¬ (1 : Int32) = 0 by decide)]
      refine md ?_
      rw [if_neg npos]
      dsimp only
      rw [if_neg (show ¬ (1 : Int32) = 0 by decide), if_neg (show ¬ (1 : Int32) = 0 by decide), if_neg (show ¬ nI (tK B tn (nx B tn (nx B tn p))) = 3 from fun q => gs ((tK_eq (k := 3) (by decide)).mp q))]
      exact hF _ _
theorem rd_item (ht : tn ≤ 150) (hp : p ≤ tn) (h0 : tK B tn p ≠ 0) (H : TI T n 0 0 0 h mb kN fN yN tN nN wN) : RDI B tn p T n mb kN fN := by
  by_cases w1 : wD B tn p 1
  · exact rd_bend ht hp h0 H w1
  by_cases w2 : wD B tn p 2
  · exact rd_mud ht hp h0 H w1 w2
  by_cases w3 : wD B tn p 3
  · exact rd_drive ht hp h0 H w1 w2 w3
  refine Or.inl ⟨p, hp, ?_, ?_⟩
  · intro kd fg he se cr sz ya tr no wo mu fe pr pa Q C hQ
    exact cI_none ht hp w1 w2 w3 (hQ _ _ _ _ _ _ _ _ _)
  · intro vs F K hF
    refine mI_none ht hp w1 w2 w3 ?_
    rw [if_pos rfl]
    exact hF _ _
end RD

/-! the loop over the items -/
def RLF (B : Nat → Int32) (tn m p i q : Nat) (T told : Nat → Int32) (n mb : Nat) : Prop := (∀ (kd fg he se cr sz : Int32) (ya tr no wo mu fe pr pa : Nat → Int32) (f : Nat) (Q : Int32 → Int32 → Int32 → Int32 → (Nat → Int32) → (Nat → Int32) → (Nat → Int32) → (Nat → Int32) → (Nat → Int32) → Int32 → Int32 → Int32 → Int32 → Int32 → Int32 → Int32 → Int32 → Int32 → Prop), CR T n 0 0 0 mb kd fg he se cr sz ya tr no wo mu 0 fe 0 pr 0 pa → m ≤ f → (∀ (s b : Int32) (ya' tr' no' wo' mu' : Nat → Int32) (sz' he' se' cr' : Int32), Q ((-10) - nI q) s (nI q) b ya' tr' no' wo' mu' sz' 0 0 0 kd fg he' se' cr') → lq14 (bX7_tell_29 B (nI tn) Q 0 0 0 kd fg) f (nI (tK B tn p)) (nI (tA B tn p)) (nI (nx B tn p)) ya tr no wo mu sz he se cr (nI (i + 1)) (nI i)) ∧ (∀ (vs : Nat → Int32) (f : Nat) (Q : Int32 → (Nat → Int32) → Int32 → Int32 → Int32 → Int32 → (Nat → Int32) → (Nat → Int32) → Prop), m ≤ f → (∀ l t v an vs', Q ((-10) - nI q) told (nI q) l t v an vs') → lq7 (bX9_read_26 told B (nI tn) Q) f (nI (tA B tn p)) (nI (tL B tn p)) (nI (tK B tn p)) (tV B tn p) T vs (nI (i + 1)))
def RLG (B : Nat → Int32) (tn m p i c : Nat) (T told : Nat → Int32) (n mb : Nat) (T' : Nat → Int32) (n' mb' : Nat) : Prop := (∀ (kd fg he se cr sz : Int32) (ya tr no wo mu fe pr pa : Nat → Int32) (f : Nat) (Q : Int32 → Int32 → Int32 → Int32 → (Nat → Int32) → (Nat → Int32) → (Nat → Int32) → (Nat → Int32) → (Nat → Int32) → Int32 → Int32 → Int32 → Int32 → Int32 → Int32 → Int32 → Int32 → Int32 → Prop), CR T n 0 0 0 mb kd fg he se cr sz ya tr no wo mu 0 fe 0 pr 0 pa → m ≤ f → (∀ (s a b : Int32) (ya' tr' no' wo' mu' : Nat → Int32) (sz' he' se' cr' : Int32), CR T' n' 0 0 0 mb' kd fg he' se' cr' sz' ya' tr' no' wo' mu' 0 fe 0 pr 0 pa → Q (nI c) s a b ya' tr' no' wo' mu' sz' 0 0 0 kd fg he' se' cr') → lq14 (bX7_tell_29 B (nI tn) Q 0 0 0 kd fg) f (nI (tK B tn p)) (nI (tA B tn p)) (nI (nx B tn p)) ya tr no wo mu sz he se cr (nI (i + 1)) (nI i)) ∧ (∀ (vs : Nat → Int32) (f : Nat) (Q : Int32 → (Nat → Int32) → Int32 → Int32 → Int32 → Int32 → (Nat → Int32) → (Nat → Int32) → Prop), m ≤ f → (∀ a l t v vs', jX9_read_66 told Q a l t v T' vs' (nI c)) → lq7 (bX9_read_26 told B (nI tn) Q) f (nI (tA B tn p)) (nI (tL B tn p)) (nI (tK B tn p)) (tV B tn p) T vs (nI (i + 1)))
theorem rd_loop {B : Nat → Int32} {tn kN fN : Nat} (told : Nat → Int32) (ht : tn ≤ 150) : ∀ (m p i : Nat), tn - p < m → p ≤ tn → i ≤ p → ∀ (T : Nat → Int32) (n h mb : Nat) (yN tN nN wN : Nat → Nat), TI T n 0 0 0 h mb kN fN yN tN nN wN →
    (∃ q, q ≤ tn ∧ RLF B tn m p i q T told n mb) ∨ (∃ (c : Nat) (T' : Nat → Int32) (n' h' mb' : Nat) (yN' tN' nN' wN' : Nat → Nat), 1 ≤ c ∧ c ≤ 151 ∧ TI T' n' 0 0 0 h' mb' kN fN yN' tN' nN' wN' ∧ RLG B tn m p i c T told n mb T' n' mb') := by
  intro m
  induction m with
  | zero => intro p i h1; omega
  | succ m ih =>
    intro p i h1 hp hip T n h mb yN tN nN wN H
    by_cases g : tK B tn p = 0
    · have e0 : nI (tK B tn p) = 0 := by rw [g]; rfl
      refine Or.inr ⟨i + 1, T, n, h, mb, yN, tN, nN, wN, by omega, by omega, H, ?_, ?_⟩
      · intro kd fg he se cr sz ya tr no wo mu fe pr pa f Q C hf hQ
        cases f with
        | zero => omega
        | succ f =>
          show bX7_tell_29 B (nI tn) Q 0 0 0 kd fg (lq14 (bX7_tell_29 B (nI tn) Q 0 0 0 kd fg) f) (nI (tK B tn p)) (nI (tA B tn p)) (nI (nx B tn p)) ya tr no wo mu sz he se cr (nI (i + 1)) (nI i)
          unfold bX7_tell_29
          rw [if_pos e0, ite_self]
          exact hQ _ _ _ _ _ _ _ _ _ _ _ _ C
      · intro vs f Q hf hQ
        cases f with
        | zero => omega
        | succ f =>
          show bX9_read_26 told B (nI tn) Q (lq7 (bX9_read_26 told B (nI tn) Q) f) (nI (tA B tn p)) (nI (tL B tn p)) (nI (tK B tn p)) (tV B tn p) T vs (nI (i + 1))
          unfold bX9_read_26
          rw [if_pos e0]
          exact hQ _ _ _ _ _
    · have hk := tK_0 hp g
      have l0 := (tA_le (B := B) hp).1
      have k4 := tK_6 (B := B) (tn := tn) (p := p)
      have e0 : ¬ nI (tK B tn p) = 0 := nI_ne0 (by omega) (by omega)
      have e1 : ¬ (150 : Int32) ≤ nI i := nI_ge (b := 150) (by omega) (by decide)
      have un : ∀ (kd fg he se cr sz : Int32) (ya tr no wo mu fe pr pa : Nat → Int32) (f : Nat) (Q : Int32 → Int32 → Int32 → Int32 → (Nat → Int32) → (Nat → Int32) → (Nat → Int32) → (Nat → Int32) → (Nat → Int32) → Int32 → Int32 → Int32 → Int32 → Int32 → Int32 → Int32 → Int32 → Int32 → Prop), p_X7_itemTold B (nI tn) (nI (tK B tn p)) (nI (tA B tn p)) (nI (nx B tn p)) ya tr no wo mu sz kd fg he se cr (fun r_52 u_53 u_54 u_55 u_56 u_57 u_58 u_59 u_60 u_61 u_62 u_63 u_64 => if r_52 = 0 then (jX7_tell_51 Q u_53 u_54 u_55 u_56 u_57 u_58 u_59 u_60 u_61 0 0 0 kd fg u_62 u_63 u_64) else (lq14 (bX7_tell_29 B (nI tn) Q 0 0 0 kd fg) f u_53 u_54 u_55 u_56 u_57 u_58 u_59 u_60 u_61 u_62 u_63 u_64 (nI (i + 1 + 1)) (nI (i + 1)))) → lq14 (bX7_tell_29 B (nI tn) Q 0 0 0 kd fg) (f + 1) (nI (tK B tn p)) (nI (tA B tn p)) (nI (nx B tn p)) ya tr no wo mu sz he se cr (nI (i + 1)) (nI i) := by
        intro kd fg he se cr sz ya tr no wo mu fe pr pa f Q hq
        show bX7_tell_29 B (nI tn) Q 0 0 0 kd fg (lq14 (bX7_tell_29 B (nI tn) Q 0 0 0 kd fg) f) (nI (tK B tn p)) (nI (tA B tn p)) (nI (nx B tn p)) ya tr no wo mu sz he se cr (nI (i + 1)) (nI i)
        unfold bX7_tell_29
        rw [if_neg e1, if_neg e0, nI_1, nI_1]
        exact hq
      have unm : ∀ (vs : Nat → Int32) (f : Nat) (Q : Int32 → (Nat → Int32) → Int32 → Int32 → Int32 → Int32 → (Nat → Int32) → (Nat → Int32) → Prop), p_X9_takesItem B (nI tn) (nI (tA B tn p)) (nI (tL B tn p)) (nI (tK B tn p)) (tV B tn p) T vs (fun r a l t v an vs => if r = 0 then jX9_read_48 told Q a l t v an vs else (if t = 3 then p_X9_goBehind B (nI tn) a l t v (fun a l t v => lq7 (bX9_read_26 told B (nI tn) Q) f a l t v an vs (nI (i + 1 + 1))) else jX9_read_48 told Q a l t v an vs)) → lq7 (bX9_read_26 told B (nI tn) Q) (f + 1) (nI (tA B tn p)) (nI (tL B tn p)) (nI (tK B tn p)) (tV B tn p) T vs (nI (i + 1)) := by
        intro vs f Q hq
        show bX9_read_26 told B (nI tn) Q (lq7 (bX9_read_26 told B (nI tn) Q) f) (nI (tA B tn p)) (nI (tL B tn p)) (nI (tK B tn p)) (tV B tn p) T vs (nI (i + 1))
        unfold bX9_read_26
        rw [if_neg e0, nI_1]
        exact hq
      rcases rd_item ht hp g H with ⟨q, hq, cF, mF⟩ | ⟨q, T', n', h', mb', yN', tN', nN', wN', lq, hq, H', cG, mG⟩
      · refine Or.inl ⟨tA B tn q, (tA_le hq).2, ?_, ?_⟩
        · intro kd fg he se cr sz ya tr no wo mu fe pr pa f Q C hf hQ
          cases f with
          | zero => omega
          | succ f =>
            refine un kd fg he se cr sz ya tr no wo mu fe pr pa f Q (cF kd fg he se cr sz ya tr no wo mu fe pr pa _ C (fun ya' tr' no' wo' mu' sz' he' se' cr' => ?_))
            rw [if_pos rfl]
            exact hQ _ _ _ _ _ _ _ _ _ _ _
        · intro vs f Q hf hQ
          cases f with
          | zero => omega
          | succ f => exact unm vs f Q (mF vs _ (fun a l t v an vs => lq7 (bX9_read_26 told B (nI tn) Q) f a l t v an vs (nI (i + 1 + 1))) (fun an vs' => hQ _ _ _ _ _))
      · rcases ih q (i + 1) (by omega) hq (by omega) T' n' h' mb' yN' tN' nN' wN' H' with ⟨q2, hq2, c2, m2⟩ | ⟨c, T2, n2, h2, mb2, yN2, tN2, nN2, wN2, c1, c151, H2, c2, m2⟩
        · refine Or.inl ⟨q2, hq2, ?_, ?_⟩
          · intro kd fg he se cr sz ya tr no wo mu fe pr pa f Q C hf hQ
            cases f with
            | zero => omega
            | succ f =>
              refine un kd fg he se cr sz ya tr no wo mu fe pr pa f Q (cG kd fg he se cr sz ya tr no wo mu fe pr pa _ C (fun ya' tr' no' wo' mu' sz' he' se' cr' C' => ?_))
              rw [if_neg (show ¬ (1 : Int32) = 0 by decide)]
              exact c2 kd fg he' se' cr' sz' ya' tr' no' wo' mu' fe pr pa f Q C' (by omega) hQ
          · intro vs f Q hf hQ
            cases f with
            | zero => omega
            | succ f => exact unm vs f Q (mG vs _ (fun a l t v an vs => lq7 (bX9_read_26 told B (nI tn) Q) f a l t v an vs (nI (i + 1 + 1))) (fun vs' => m2 vs' f Q (by omega) hQ))
        · refine Or.inr ⟨c, T2, n2, h2, mb2, yN2, tN2, nN2, wN2, c1, c151, H2, ?_, ?_⟩
          · intro kd fg he se cr sz ya tr no wo mu fe pr pa f Q C hf hQ
            cases f with
            | zero => omega
            | succ f =>
              refine un kd fg he se cr sz ya tr no wo mu fe pr pa f Q (cG kd fg he se cr sz ya tr no wo mu fe pr pa _ C (fun ya' tr' no' wo' mu' sz' he' se' cr' C' => ?_))
              rw [if_neg (show ¬ (1 : Int32) = 0 by decide)]
              exact c2 kd fg he' se' cr' sz' ya' tr' no' wo' mu' fe pr pa f Q C' (by omega) hQ
          · intro vs f Q hf hQ
            cases f with
            | zero => omega
            | succ f => exact unm vs f Q (mG vs _ (fun a l t v an vs => lq7 (bX9_read_26 told B (nI tn) Q) f a l t v an vs (nI (i + 1 + 1))) (fun vs' => m2 vs' f Q (by omega) hQ))
