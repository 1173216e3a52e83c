/-! mud, notes, bends -/
theorem mudO : ∀ mb, mb < 256 → ∀ b, b < 8 → (nI mb ||| ((1 : Int32) <<< (nI b &&& 31))) = nI (mb ||| 2 ^ b) := by decide +kernel
theorem mudA : ∀ mb, mb < 256 → ∀ b, b < 8 → (nI mb &&& (((1 : Int32) <<< (nI b &&& 31)) ^^^ (-1))) = nI (mb &&& (255 ^^^ 2 ^ b)) := by decide +kernel
theorem mudOb : ∀ mb, mb < 256 → ∀ b, b < 8 → ∀ c, c < 8 → (mb ||| 2 ^ b) / 2 ^ c % 2 = if c = b then 1 else mb / 2 ^ c % 2 := by decide +kernel
theorem mudAb : ∀ mb, mb < 256 → ∀ b, b < 8 → ∀ c, c < 8 → (mb &&& (255 ^^^ 2 ^ b)) / 2 ^ c % 2 = if c = b then 0 else mb / 2 ^ c % 2 := by decide +kernel
theorem cS_lo {T T' : Nat → Int32} {mb b : Nat} {x : Int32} (hb : b < 8) (lo : ∀ k, k ≠ 3 → k < 75 → T' k = T k) : cS T' mb b x = cS T mb b x := by
  unfold cS
  rw [lo 15 (by decide) (by decide), lo 16 (by decide) (by decide), lo (26 + b) (by omega) (by omega)]
theorem ksm {T T' : Nat → Int32} {n nf np nu h mb kN fN : Nat} {yN tN nN wN : Nat → Nat} (H : TI T n nf np nu h mb kN fN yN tN nN wN) (lo : ∀ k, k ≠ 3 → k < 75 → T' k = T k) : ∀ i, h + i ≤ n → sm (lfS T' mb) h i = sm (lfS T mb) h i := by
  have h8 := H.n8
  intro i
  induction i with
  | zero => intro _; show (0 : Int32) = 0; rfl
  | succ i ih =>
    intro hi
    show sm (lfS T' mb) h i + lfS T' mb (h + i) = sm (lfS T mb) h i + lfS T mb (h + i)
    rw [ih (by omega)]
    unfold lfS
    rw [lo (18 + (h + i)) (by omega) (by omega), lo (7 + (h + i)) (by omega) (by omega), cS_lo (by omega) lo]
theorem kcr {T T' : Nat → Int32} {n nf np nu h mb kN fN : Nat} {yN tN nN wN : Nat → Nat} (H : TI T n nf np nu h mb kN fN yN tN nN wN) (lo : ∀ k, k ≠ 3 → k < 75 → T' k = T k) : ∀ i, h + i ≤ n → crS T' mb h i = crS T mb h i := by
  have h8 := H.n8
  intro i
  induction i with
  | zero => intro _; exact lo 6 (by decide) (by decide)
  | succ i ih =>
    intro hi
    show (if cS T' mb (h + i) (T' (7 + (h + i))) = 60 then crS T' mb h i + 1 else crS T' mb h i) = if cS T mb (h + i) (T (7 + (h + i))) = 60 then crS T mb h i + 1 else crS T mb h i
    rw [ih (by omega), lo (7 + (h + i)) (by omega) (by omega), cS_lo (by omega) lo]
section PM
variable {T : Nat → Int32} {n nf np nu h mb kN fN : Nat} {yN tN nN wN : Nat → Nat}
variable {kd fg he se cr sz : Int32} {ya tr no wo mu : Nat → Int32} {fs : Int32} {fe : Nat → Int32} {ps : Int32} {pr : Nat → Int32} {us : Int32} {pa : Nat → Int32} {rf rf' : Nat → Int32}
theorem TI.mud (H : TI T n nf np nu h mb kN fN yN tN nN wN) {m2 : Nat} (h2 : m2 < 2 ^ n) : TI (upd T 17 (nI m2)) n nf np nu h m2 kN fN yN tN nN wN := by
  obtain ⟨⟨a1, a2, a3, a4, a5, a6, a7, a8⟩, ⟨b0, b1, b2, b3, b4, b5, b6, b7⟩, c, d, e⟩ := H
  refine ⟨⟨a1, a2, a3, a4, a5, h2, a7, a8⟩, ⟨?_, ?_, ?_, ?_, ?_, ?_, ?_, ?_⟩, ?_, ?_, ?_⟩
  · rw [pk_un (by decide)]; exact b0
  · rw [pk_un (by decide)]; exact b1
  · rw [pk_un (by decide)]; exact b2
  · rw [pk_un (by decide)]; exact b3
  · rw [pk_un (by decide)]; exact b4
  · rw [pk_un (by decide)]; exact b5
  · rw [pk_un (by decide)]; exact b6
  · rw [pk_us]
  · intro b hb
    rw [pk_un (by omega), pk_un (by omega), pk_un (by omega), pk_un (by omega)]
    exact c b hb
  · intro i hi
    rw [pk_un (by omega)]; exact d i hi
  · intro u hu
    obtain ⟨⟨q, q1, q2⟩, g⟩ := e u hu
    refine ⟨⟨q, q1, by rw [pk_un (by omega)]; exact q2⟩, fun j hj => ?_⟩
    rw [pk_un (by omega)]; exact g j hj
theorem CR.mud (C : CR T n nf np nu mb kd fg he se cr sz ya tr no wo mu fs fe ps pr us pa) (a1 : n ≤ 8) {m2 : Nat} {mu2 : Nat → Int32} (hm : ∀ b, b < n → mu2 b = nI (m2 / 2 ^ b % 2)) : CR (upd T 17 (nI m2)) n nf np nu m2 kd fg he se cr sz ya tr no wo mu2 fs fe ps pr us pa := by
  obtain ⟨⟨k1, k2, k3, k4, k5, k6, k7, k8, k9⟩, c, d, e, f⟩ := C
  refine ⟨⟨?_, ?_, ?_, ?_, ?_, k6, k7, k8, k9⟩, ?_, ?_, ?_, ?_⟩
  · rw [pk_un (by decide)]; exact k1
  · rw [pk_un (by decide)]; exact k2
  · rw [pk_un (by decide)]; exact k3
  · rw [pk_un (by decide)]; exact k4
  · rw [pk_un (by decide)]; exact k5
  · intro b hb
    rw [pk_un (by omega), pk_un (by omega), pk_un (by omega), pk_un (by omega)]
    obtain ⟨g1, g2, g3, g4, -⟩ := c b hb
    exact ⟨g1, g2, g3, g4, hm b hb⟩
  · intro i hi
    rw [pk_un (by omega)]; exact d i hi
  · intro i hi
    rw [pk_un (by omega)]; exact e i hi
  · intro u hu j hj
    rw [pk_un (by omega)]; exact f u hu j hj
theorem q_mud (H : TI T n nf np nu h mb kN fN yN tN nN wN) (C : CR T n nf np nu mb kd fg he se cr sz ya tr no wo mu fs fe ps pr us pa) (x1 x2 : Int32) {Z : Int32 → (Nat → Int32) → Int32 → (Nat → Int32) → Int32 → (Nat → Int32) → (Nat → Int32) → Prop}
    (z1 : Z (-2) mu us (rj 0 rf) (-2) T (rj 0 rf')) (z2 : ∀ r mu' T', SR kd fg he se cr sz ya tr no wo mu' fs fe ps pr 0 pa T' → Z r mu' 0 rf r T' rf') :
    p_X8_mud mu sz us rf x1 x2 (fun r u2 u3 u4 => p_X9_mud T rf' x1 x2 (fun r' T' rf2 => Z r u2 u3 u4 r' T' rf2)) := by
  have h8 := H.n8
  unfold p_X8_mud
  rw [C.esz]
  rcases ixc x1 (n := n) (by omega) with h1 | ⟨b, hb, rfl⟩
  · refine s_has_f h1 ?_
    rw [if_pos rfl]
    refine s_refuse2 ?_
    unfold p_X9_mud
    refine s_isBend_f H.e0 (by omega) h1 ?_
    rw [if_pos rfl]
    exact s_bad z1
  refine s_has_t hb (by omega) ?_
  rw [if_neg (by decide)]
  by_cases h2 : 0 ≤ x2 ∧ x2 ≤ 1
  case neg =>
    refine s_within_f h2 ?_
    rw [if_pos rfl]
    refine s_refuse2 ?_
    unfold p_X9_mud
    refine s_isBend_t H.e0 hb (by omega) ?_
    rw [if_neg (by decide)]
    refine s_in_f (lo' := 0) (hi' := 1) (by decide) (by decide) h2 ?_
    rw [if_pos rfl]
    exact s_bad z1
  refine s_within_t h2 ?_
  rw [if_neg (by decide), nI_clamp (show b < 2 ^ 31 by omega), (C.2.1 b hb).2.2.2.2]
  have hi : vp_in (nI b) 8 := vp_in_nI (by omega) (by decide)
  refine ⟨hi, hi, ?_⟩
  unfold p_X9_mud
  refine s_isBend_t H.e0 hb (by omega) ?_
  rw [if_neg (by decide)]
  refine s_in_t (lo' := 0) (hi' := 1) (by decide) (by decide) h2 ?_
  rw [if_neg (by decide), show (17 : Int32).toNatClampNeg = 17 from rfl, show (3 : Int32).toNatClampNeg = 3 from rfl, H.e17, bitI mb H.mb8 b (by omega), mudO mb H.mb8 b (by omega), mudA mb H.mb8 b (by omega)]
  have hmb := H.mb8
  have hbn : 2 ^ b < 2 ^ n := Nat.pow_lt_pow_right (by decide) hb
  obtain ⟨k, -, hk, rfl⟩ := rgN (x := x2) 0 1 (by decide) h2
  rcases (show k = 0 ∨ k = 1 by omega) with rfl | rfl
  · rw [if_neg (by decide)]
    refine z2 _ _ _ (SR.of (H.mud (m2 := mb &&& (255 ^^^ 2 ^ b)) (Nat.lt_of_le_of_lt Nat.and_le_left H.1.2.2.2.2.2.1)).u3 (C.mud h8 (fun c hc => ?_)).u3)
    rw [upd_at, mudAb mb hmb b (by omega) c (by omega)]
    by_cases g : c = b
    · rw [if_pos g, if_pos g]
    · rw [if_neg g, if_neg g]; exact (C.2.1 c hc).2.2.2.2
  · rw [if_pos (by decide)]
    refine z2 _ _ _ (SR.of (H.mud (m2 := mb ||| 2 ^ b) (Nat.or_lt_two_pow H.1.2.2.2.2.2.1 hbn)).u3 (C.mud h8 (fun c hc => ?_)).u3)
    rw [upd_at, mudOb mb hmb b (by omega) c (by omega)]
    by_cases g : c = b
    · rw [if_pos g, if_pos g]
    · rw [if_neg g, if_neg g]; exact (C.2.1 c hc).2.2.2.2
theorem TI.note (H : TI T n nf np nu h mb kN fN yN tN nN wN) {b x : Nat} (hb : b < n) (hx : x ≤ 6) : TI (upd T (7 + b) (nI x)) n nf np nu h mb kN fN yN tN (fun c => if c = b then x else nN c) wN := by
  have h8 := H.n8
  obtain ⟨⟨a1, a2, a3, a4, a5, a6, a7, a8⟩, ⟨b0, b1, b2, b3, b4, b5, b6, b7⟩, c, d, e⟩ := H
  refine ⟨⟨a1, a2, a3, a4, a5, a6, a7, a8⟩, ⟨?_, ?_, ?_, ?_, ?_, ?_, ?_, ?_⟩, ?_, ?_, ?_⟩
  · rw [pk_un (by omega)]; exact b0
  · rw [pk_un (by omega)]; exact b1
  · rw [pk_un (by omega)]; exact b2
  · rw [pk_un (by omega)]; exact b3
  · rw [pk_un (by omega)]; exact b4
  · rw [pk_un (by omega)]; exact b5
  · rw [pk_un (by omega)]; exact b6
  · rw [pk_un (by omega)]; exact b7
  · intro j hj
    obtain ⟨g1, g2, g3, g4, g5, g6, g7, g8⟩ := c j hj
    refine ⟨g1, g2, ?_, g4, by rw [pk_un (by omega)]; exact g5, by rw [pk_un (by omega)]; exact g6, ?_, by rw [pk_un (by omega)]; exact g8⟩
    · show (if j = b then x else nN j) ≤ 6
      by_cases q : j = b
      · rw [if_pos q]; exact hx
      · rw [if_neg q]; exact g3
    · show upd T (7 + b) (nI x) (7 + j) = nI (if j = b then x else nN j)
      rw [upd_at]
      by_cases q : j = b
      · rw [if_pos q, if_pos (by omega)]
      · rw [if_neg q, if_neg (by omega)]; exact g7
  · intro i hi
    rw [pk_un (by omega)]; exact d i hi
  · intro u hu
    obtain ⟨⟨q, q1, q2⟩, g⟩ := e u hu
    refine ⟨⟨q, q1, by rw [pk_un (by omega)]; exact q2⟩, fun j hj => ?_⟩
    rw [pk_un (by omega)]; exact g j hj
theorem CR.note (C : CR T n nf np nu mb kd fg he se cr sz ya tr no wo mu fs fe ps pr us pa) (a1 : n ≤ 8) {b : Nat} {x : Int32} (hb : b < n) : CR (upd T (7 + b) x) n nf np nu mb kd fg he se cr sz ya tr (upd no b x) wo mu fs fe ps pr us pa := by
  obtain ⟨⟨k1, k2, k3, k4, k5, k6, k7, k8, k9⟩, c, d, e, f⟩ := C
  refine ⟨⟨?_, ?_, ?_, ?_, ?_, k6, k7, k8, k9⟩, ?_, ?_, ?_, ?_⟩
  · rw [pk_un (by omega)]; exact k1
  · rw [pk_un (by omega)]; exact k2
  · rw [pk_un (by omega)]; exact k3
  · rw [pk_un (by omega)]; exact k4
  · rw [pk_un (by omega)]; exact k5
  · intro j hj
    obtain ⟨g1, g2, g3, g4, g5⟩ := c j hj
    refine ⟨by rw [pk_un (by omega)]; exact g1, by rw [pk_un (by omega)]; exact g2, ?_, by rw [pk_un (by omega)]; exact g4, g5⟩
    rw [upd_at, upd_at]
    by_cases q : j = b
    · rw [if_pos q, if_pos (by omega)]
    · rw [if_neg q, if_neg (by omega)]; exact g3
  · intro i hi
    rw [pk_un (by omega)]; exact d i hi
  · intro i hi
    rw [pk_un (by omega)]; exact e i hi
  · intro u hu j hj
    rw [pk_un (by omega)]; exact f u hu j hj
/-- behind a keep: the relation holds with what was kept -/
theorem q_keep (H : TI T n nf np nu h mb kN fN yN tN nN wN) (C : CR T n nf np nu mb kd fg he se cr sz ya tr no wo mu fs fe ps pr us pa) {Z : (Nat → Int32) → Int32 → (Nat → Int32) → Prop}
    (z : ∀ (u2 : Nat) (pa' T' : Nat → Int32), TI T' n nf np u2 h mb kN fN yN tN nN wN → CR T' n nf np u2 mb kd fg he se cr sz ya tr no wo mu fs fe ps pr (nI u2) pa' → Z pa' (nI u2) T') :
    p_X4_keep no pa us he se cr (fun p' u' => p_X9_keep T (fun T' => Z p' u' T')) := by
  have hus : us = nI nu := C.1.2.2.2.2.2.2.2.2
  have hnu : nu ≤ 8 := H.1.2.2.2.1
  rw [hus]
  refine c_keep hnu (fun g => m_keep hnu H.e3 (fun _ => ?_) (fun q => by omega)) (fun g => m_keep hnu H.e3 (fun q => by omega) (fun _ => ?_))
  · exact z (nu + 1) _ _ (H.push g) (C.push H g)
  · subst g
    have H' := H.shift
    have C' := CR.shift H.1.1 H.1.2.1 H.1.2.2.1 C
    exact z 8 _ _ (H'.push (by decide)) (C'.push H' (by decide))
theorem q_write (H : TI T n nf np nu h mb kN fN yN tN nN wN) (C : CR T n nf np nu mb kd fg he se cr sz ya tr no wo mu fs fe ps pr us pa) (x1 x2 : Int32) {Z : Int32 → (Nat → Int32) → (Nat → Int32) → Int32 → (Nat → Int32) → Int32 → (Nat → Int32) → (Nat → Int32) → Prop}
    (z1 : Z (-2) no pa us (rj 0 rf) (-2) T (rj 0 rf')) (z2 : ∀ r no' pa' us' T', SR kd fg he se cr sz ya tr no' wo mu fs fe ps pr us' pa' T' → Z r no' pa' us' rf r T' rf') :
    p_X8_write no sz pa us he se cr rf x1 x2 (fun r u2 u3 u4 u5 => p_X9_write T rf' x1 x2 (fun r' T' rf2 => Z r u2 u3 u4 u5 r' T' rf2)) := by
  have h8 := H.n8
  unfold p_X8_write
  rw [show p_X0_has sz = p_X0_has (nI n) by rw [C.esz]]
  rcases ixc x1 (n := n) (by omega) with h1 | ⟨b, hb, rfl⟩
  · refine s_has_f h1 ?_
    rw [if_pos rfl]
    refine s_refuse2 ?_
    unfold p_X9_write
    refine s_isBend_f H.e0 (by omega) h1 ?_
    rw [if_pos rfl]
    exact s_bad z1
  refine s_has_t hb (by omega) ?_
  rw [if_neg (by decide)]
  by_cases h2 : 0 ≤ x2 ∧ x2 ≤ 6
  case neg =>
    refine s_within_f h2 ?_
    rw [if_pos rfl]
    refine s_refuse2 ?_
    unfold p_X9_write
    refine s_isBend_t H.e0 hb (by omega) ?_
    rw [if_neg (by decide)]
    refine s_isNote_f h2 ?_
    rw [if_pos rfl]
    exact s_bad z1
  refine s_within_t h2 ?_
  rw [if_neg (by decide), nI_clamp (show b < 2 ^ 31 by omega)]
  have hi : vp_in (nI b) 8 := vp_in_nI (by omega) (by decide)
  obtain ⟨k, -, hk, rfl⟩ := rgN (x := x2) 0 6 (by decide) h2
  have hus : us = nI nu := C.1.2.2.2.2.2.2.2.2
  have hnu : nu ≤ 8 := H.1.2.2.2.1
  have m0 : ∀ {Q : Int32 → (Nat → Int32) → (Nat → Int32) → Prop}, p_X9_keep T (fun T' => Q (T (7 + b)) (upd T' (7 + b) (nI k)) rf') → p_X9_write T rf' (nI b) (nI k) Q := by
    intro Q hq
    unfold p_X9_write
    refine s_isBend_t H.e0 hb (by omega) ?_
    rw [if_neg (by decide)]
    refine s_isNote_t h2 ?_
    rw [if_neg (by decide)]
    refine s_noteOf (by omega) ?_
    have e7 : (7 : Int32) + nI b = nI (7 + b) := nI_add 7 b
    rw [e7, nI_clamp (show 7 + b < 2 ^ 31 by omega)]
    have e : (fun u_8 : Nat → Int32 => vp_in (nI (7 + b)) 163 ∧ Q (T (7 + b)) (upd u_8 (7 + b) (nI k)) rf') = fun T' => Q (T (7 + b)) (upd T' (7 + b) (nI k)) rf' := by
      funext T'
      exact propext ⟨fun q => q.2, fun q => ⟨vp_in_nI (by omega) (by decide), q⟩⟩
    rw [e]
    exact hq
  have e : (fun (u_7 : Nat → Int32) (u_8 : Int32) => vp_in (nI b) 8 ∧ (vp_in (nI b) 8 ∧ (p_X9_write T rf' (nI b) (nI k) (fun r' T' rf2 => Z (no b) (upd no b (nI k)) u_7 u_8 rf r' T' rf2)))) = fun u_7 u_8 => p_X9_write T rf' (nI b) (nI k) (fun r' T' rf2 => Z (no b) (upd no b (nI k)) u_7 u_8 rf r' T' rf2) := by
    funext u7 u8
    exact propext ⟨fun q => q.2.2, fun q => ⟨hi, hi, q⟩⟩
  rw [e]
  rw [hus]
  refine c_keep hnu (fun g => m0 ?_) (fun g => m0 ?_)
  · exact m_keep hnu H.e3 (fun _ => by
      rw [← (C.2.1 b hb).2.2.1]
      exact z2 _ _ _ _ _ (SR.of ((H.push g).note hb hk) ((C.push H g).note h8 hb))) (fun q => by omega)
  · subst g
    have H' := H.shift
    have C' := CR.shift H.1.1 H.1.2.1 H.1.2.2.1 C
    exact m_keep (by decide) H.e3 (fun q => by omega) (fun _ => by
      rw [← (C.2.1 b hb).2.2.1]
      exact z2 _ _ _ _ _ (SR.of ((H'.push (by decide)).note hb hk) ((C'.push H' (by decide)).note h8 hb)))
theorem TI.drive (H : TI T n nf np nu h mb kN fN yN tN nN wN) {c : Nat} (hc : h + c ≤ n) : TI (gdT T mb h c) n nf np nu (h + c) mb kN fN yN tN nN wN := by
  obtain ⟨⟨a1, a2, a3, a4, a5, a6, a7, a8⟩, ⟨b0, b1, b2, b3, b4, b5, b6, b7⟩, cc, d, e⟩ := H
  have lo : ∀ j, j ≠ 4 → j ≠ 5 → j ≠ 6 → gdT T mb h c j = T j := fun j h1 h2 h3 => by unfold gdT; rw [if_neg h1, if_neg h3, if_neg h2]
  refine ⟨⟨a1, a2, a3, a4, hc, a6, a7, a8⟩, ⟨?_, ?_, ?_, ?_, rfl, ?_, ?_, ?_⟩, ?_, ?_, ?_⟩
  · rw [lo _ (by decide) (by decide) (by decide)]; exact b0
  · rw [lo _ (by decide) (by decide) (by decide)]; exact b1
  · rw [lo _ (by decide) (by decide) (by decide)]; exact b2
  · rw [lo _ (by decide) (by decide) (by decide)]; exact b3
  · rw [lo _ (by decide) (by decide) (by decide)]; exact b5
  · rw [lo _ (by decide) (by decide) (by decide)]; exact b6
  · rw [lo _ (by decide) (by decide) (by decide)]; exact b7
  · intro b hb
    rw [lo _ (by omega) (by omega) (by omega), lo _ (by omega) (by omega) (by omega), lo _ (by omega) (by omega) (by omega), lo _ (by omega) (by omega) (by omega)]
    exact cc b hb
  · intro i hi
    rw [lo _ (by omega) (by omega) (by omega)]; exact d i hi
  · intro u hu
    obtain ⟨⟨q, q1, q2⟩, g⟩ := e u hu
    refine ⟨⟨q, q1, by rw [lo _ (by omega) (by omega) (by omega)]; exact q2⟩, fun j hj => ?_⟩
    rw [lo _ (by omega) (by omega) (by omega)]; exact g j hj
theorem CR.drive (C : CR T n nf np nu mb kd fg he se cr sz ya tr no wo mu fs fe ps pr us pa) (c : Nat) : CR (gdT T mb h c) n nf np nu mb kd fg (nI (h + c)) (T 5 + sm (lfS T mb) h c) (crS T mb h c) sz ya tr no wo mu fs fe ps pr us pa := by
  obtain ⟨⟨k1, k2, k3, k4, k5, k6, k7, k8, k9⟩, cc, d, e, f⟩ := C
  have lo : ∀ j, j ≠ 4 → j ≠ 5 → j ≠ 6 → gdT T mb h c j = T j := fun j h1 h2 h3 => by unfold gdT; rw [if_neg h1, if_neg h3, if_neg h2]
  refine ⟨⟨?_, ?_, rfl, rfl, rfl, k6, k7, k8, k9⟩, ?_, ?_, ?_, ?_⟩
  · rw [lo _ (by decide) (by decide) (by decide)]; exact k1
  · rw [lo _ (by decide) (by decide) (by decide)]; exact k2
  · intro b hb
    rw [lo _ (by omega) (by omega) (by omega), lo _ (by omega) (by omega) (by omega), lo _ (by omega) (by omega) (by omega), lo _ (by omega) (by omega) (by omega)]
    exact cc b hb
  · intro i hi
    rw [lo _ (by omega) (by omega) (by omega)]; exact d i hi
  · intro i hi
    rw [lo _ (by omega) (by omega) (by omega)]; exact e i hi
  · intro u hu j hj
    rw [lo _ (by omega) (by omega) (by omega)]; exact f u hu j hj
theorem m_drive (H : TI T n nf np nu h mb kN fN yN tN nN wN) {c : Nat} (hc : h + c ≤ n) {Q : Int32 → (Nat → Int32) → Prop} (hq : Q (sm (lfS T mb) h c) (gdT T mb h c)) : p_X9_goDrive 163 T (nI c) Q := by
  have h8 := H.n8
  exact m_goDrive (tN := tN) (by decide) (by decide) H.e17 H.mb8 H.e4 (by omega) (fun b hb => ⟨H.t (by omega), H.t1 (by omega), H.t6 (by omega)⟩) hq
theorem q_drive (H : TI T n nf np nu h mb kN fN yN tN nN wN) (C : CR T n nf np nu mb kd fg he se cr sz ya tr no wo mu fs fe ps pr us pa) (x1 : Int32) {Z : Int32 → (Nat → Int32) → Int32 → Int32 → Int32 → Int32 → (Nat → Int32) → Int32 → (Nat → Int32) → (Nat → Int32) → Prop}
    (z1 : Z (-2) pa us he se cr (rj 0 rf) (-2) T (rj 0 rf')) (z3 : Z (-3) pa us he se cr (rj 1 rf) (-3) T (rj 1 rf')) (z2 : ∀ r pa' us' he' se' cr' T', SR kd fg he' se' cr' sz ya tr no wo mu fs fe ps pr us' pa' T' → Z r pa' us' he' se' cr' rf r T' rf') :
    p_X8_drive ya tr no mu sz pa us kd fg he se cr rf x1 (fun r u2 u3 u4 u5 u6 u7 => p_X9_drive T rf' x1 (fun r' T' rf2 => Z r u2 u3 u4 u5 u6 u7 r' T' rf2)) := by
  have h8 := H.n8
  have hn := H.hn
  unfold p_X8_drive
  by_cases h1 : 1 ≤ x1 ∧ x1 ≤ 8
  case neg =>
    refine s_within_f h1 ?_
    rw [if_pos rfl]
    refine s_refuse2 ?_
    unfold p_X9_drive
    refine s_in_f (lo' := 1) (hi' := 8) (by decide) (by decide) h1 ?_
    rw [if_pos rfl]
    exact s_bad z1
  refine s_within_t h1 ?_
  rw [if_neg (by decide)]
  obtain ⟨c, hc1, hc8, rfl⟩ := rgN (x := x1) 1 8 (by decide) h1
  unfold p_X6_bendsLeft
  have eL : sz - he = nI (n - h) := by rw [C.esz, C.ehe H, pk_sub hn]
  rw [eL]
  show if nI c ≤ nI (n - h) then _ else _
  by_cases g : h + c ≤ n
  · rw [if_pos (nI_le (show c ≤ n - h by omega) (by omega))]
    have hus : us = nI nu := C.1.2.2.2.2.2.2.2.2
    have hnu : nu ≤ 8 := H.1.2.2.2.1
    have m0 : ∀ {Q : Int32 → (Nat → Int32) → (Nat → Int32) → Prop}, p_X9_keep T (fun T' => p_X9_goDrive 163 T' (nI c) (fun r v => Q r v rf')) → p_X9_drive T rf' (nI c) Q := by
      intro Q hq
      unfold p_X9_drive
      refine s_in_t (lo' := 1) (hi' := 8) (by decide) (by decide) h1 ?_
      rw [if_neg (by decide)]
      refine s_many H.e0 ?_
      rw [show (4 : Int32).toNatClampNeg = 4 from rfl, H.e4, nI_add, if_pos (nI_le g (by omega))]
      exact hq
    rw [hus]
    refine c_keep hnu (fun q => c_goOn H C g (m0 ?_)) (fun q => c_goOn H C g (m0 ?_))
    · refine m_keep hnu H.e3 (fun _ => ?_) (fun w => by omega)
      have H' := H.push q
      have C' := C.push H q
      have e5 : kpT T nu 5 = T 5 := by unfold kpT kpW; rw [if_neg (by decide), if_neg (by omega)]
      have e6 : kpT T nu 6 = T 6 := by unfold kpT kpW; rw [if_neg (by decide), if_neg (by omega)]
      have es : ∀ i, h + i ≤ n → sm (lfS (kpT T nu) mb) h i = sm (lfS T mb) h i := ksm H (fun k h3 hk => by unfold kpT kpW; rw [if_neg h3, if_neg (by omega)])
      have ec : ∀ i, h + i ≤ n → crS (kpT T nu) mb h i = crS T mb h i := kcr H (fun k h3 hk => by unfold kpT kpW; rw [if_neg h3, if_neg (by omega)])
      refine m_drive H' g ?_
      have R := SR.of (H'.drive g) (C'.drive (h := h) c)
      rw [es c g, ec c g, e5] at R
      rw [es c g]
      exact z2 _ _ _ _ _ _ _ R
    · subst q
      refine m_keep (by decide) H.e3 (fun w => by omega) (fun _ => ?_)
      have H1 := H.shift
      have C1 := CR.shift H.1.1 H.1.2.1 H.1.2.2.1 C
      have H' := H1.push (by decide)
      have C' := C1.push H1 (by decide)
      have lo : ∀ k, k ≠ 3 → k < 75 → kpT (upd (shT T 77) 3 7) 7 k = T k := by
        intro k h3 hk
        unfold kpT kpW; rw [if_neg h3, if_neg (by omega), upd_at, if_neg h3]; unfold shT; rw [if_neg (by omega)]
      have es : ∀ i, h + i ≤ n → sm (lfS (kpT (upd (shT T 77) 3 7) 7) mb) h i = sm (lfS T mb) h i := ksm H lo
      have ec : ∀ i, h + i ≤ n → crS (kpT (upd (shT T 77) 3 7) 7) mb h i = crS T mb h i := kcr H lo
      refine m_drive H' g ?_
      have R := SR.of (H'.drive g) (C'.drive (h := h) c)
      rw [es c g, ec c g, lo 5 (by decide) (by decide)] at R
      rw [es c g]
      exact z2 _ _ _ _ _ _ _ R
  · rw [if_neg (nI_ge (show n - h < c by omega) (by omega))]
    refine s_refuse3 ?_
    unfold p_X9_drive
    refine s_in_t (lo' := 1) (hi' := 8) (by decide) (by decide) h1 ?_
    rw [if_neg (by decide)]
    refine s_many H.e0 ?_
    rw [show (4 : Int32).toNatClampNeg = 4 from rfl, H.e4, nI_add, if_neg (nI_ge (show n < h + c by omega) (by omega))]
    exact s_no z3
end PM
