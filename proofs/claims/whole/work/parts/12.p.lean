/-! which notes to mend: the sets, as numbers -/
def ssum (f : Nat → Nat) : Nat → Nat
  | 0 => 0
  | j + 1 => ssum f j + f j
theorem ssum_congr {f g : Nat → Nat} : ∀ n, (∀ b, b < n → f b = g b) → ssum f n = ssum g n
  | 0, _ => rfl
  | n + 1, h => by
    show ssum f n + f n = ssum g n + g n
    rw [ssum_congr n (fun b hb => h b (by omega)), h n (by omega)]
theorem ssum_upd {f g : Nat → Nat} {p d : Nat} (hf : f p = g p + d) : ∀ n, p < n → (∀ b, b < n → b ≠ p → f b = g b) → ssum f n = ssum g n + d
  | 0, h, _ => by omega
  | n + 1, h, e => by
    show ssum f n + f n = ssum g n + g n + d
    by_cases q : p = n
    · subst q
      rw [ssum_congr p (fun b hb => e b (by omega) (by omega)), hf]; omega
    · rw [ssum_upd hf n (by omega) (fun b hb => e b (by omega)), e n (by omega) (by omega)]; omega
theorem ssum_le {f : Nat → Nat} {m : Nat} : ∀ n, (∀ b, b < n → f b ≤ m) → ssum f n ≤ n * m
  | 0, _ => by show 0 ≤ 0 * m; omega
  | n + 1, h => by
    have := ssum_le n (fun b hb => h b (by omega))
    have := h n (by omega)
    show ssum f n + f n ≤ (n + 1) * m
    rw [Nat.succ_mul]; omega
theorem ssum_0 {f : Nat → Nat} : ∀ n, (∀ b, b < n → f b = 0) → ssum f n = 0
  | 0, _ => rfl
  | n + 1, h => by
    show ssum f n + f n = 0
    rw [ssum_0 n (fun b hb => h b (by omega)), h n (by omega)]
theorem pop_or : ∀ G, G < 256 → ∀ p, p < 8 → G / 2 ^ p % 2 = 0 → popc 8 (G ||| 2 ^ p) = popc 8 G + 1 ∧ G ||| 2 ^ p = G + 2 ^ p ∧ G ||| 2 ^ p < 256 := by decide +kernel
theorem pop_sub : ∀ S, S < 256 → ∀ q, q < 8 → S / 2 ^ q % 2 = 1 → popc 8 (S - 2 ^ q) + 1 = popc 8 S ∧ 2 ^ q ≤ S := by decide +kernel
theorem bit_sub : ∀ S, S < 256 → ∀ q, q < 8 → S / 2 ^ q % 2 = 1 → ∀ c, c < 8 → (S - 2 ^ q) / 2 ^ c % 2 = if c = q then 0 else S / 2 ^ c % 2 := by decide +kernel
theorem pop_0 : ∀ S, S < 256 → popc 8 S = 0 → S = 0 := by decide +kernel
theorem pop_8 : ∀ S, S < 256 → popc 8 S ≤ 8 := by decide +kernel
theorem pw128 : ∀ p, p < 8 → 2 ^ p ≤ 128 := by decide +kernel
theorem isA : ∀ s, s < 256 → ∀ h, h < 9 → ((nI s &&& (((1 : Int32) <<< (nI h &&& 31)) - 1)) = 0 ↔ s % 2 ^ h = 0) := by decide +kernel
theorem aheadB : ∀ s, s < 256 → ∀ h, h < 9 → (s % 2 ^ h = 0 ↔ ∀ b, b < 8 → s / 2 ^ b % 2 = 1 → h ≤ b) := by decide +kernel
theorem ltB : ∀ s, s < 256 → ∀ n, n < 9 → (s < 2 ^ n ↔ ∀ b, b < 8 → s / 2 ^ b % 2 = 1 → b < n) := by decide +kernel
theorem sh1 : ∀ n, n < 9 → (1 : Int32) <<< (nI n &&& 31) = nI (2 ^ n) := by decide +kernel
theorem bsum_mono {S G : Nat} : ∀ n, (∀ q, q < n → S / 2 ^ q % 2 ≤ G / 2 ^ q % 2) → bsum S n ≤ bsum G n
  | 0, _ => Nat.le_refl _
  | n + 1, h => by
    have := bsum_mono n (fun q hq => h q (by omega))
    have := h n (by omega)
    show bsum S n + S / 2 ^ n % 2 ≤ bsum G n + G / 2 ^ n % 2
    omega
theorem pop_gt {S G : Nat} (hS : S < 256) (hG : G < 256) (h : popc 8 G < popc 8 S) : ∃ q, q < 8 ∧ S / 2 ^ q % 2 = 1 ∧ G / 2 ^ q % 2 = 0 := by
  rw [← bsum_popc 8 (by decide) S hS, ← bsum_popc 8 (by decide) G hG] at h
  apply Classical.byContradiction
  intro hn
  have := bsum_mono (S := S) (G := G) 8 (fun q hq => by
    apply Classical.byContradiction
    intro g
    have h1 := Nat.mod_lt (S / 2 ^ q) (show 2 > 0 by decide)
    exact hn ⟨q, hq, by omega, by omega⟩)
  omega
def smS (gv : Nat → Nat) (n S : Nat) : Nat := ssum (fun b => S / 2 ^ b % 2 * gv b) n
def kkS (gv : Nat → Nat) (n S : Nat) : Nat := (1000 - smS gv n S) * 65536 + popc 8 S * 256 + S
def feS (h n k S : Nat) : Prop := S < 256 ∧ (∀ b, b < 8 → S / 2 ^ b % 2 = 1 → h ≤ b ∧ b < n) ∧ popc 8 S ≤ k
def opS (gv : Nat → Nat) (h n k G : Nat) : Prop := feS h n k G ∧ ∀ S, feS h n k S → kkS gv n G ≤ kkS gv n S
theorem smS_le {gv : Nat → Nat} (hv : ∀ b, gv b ≤ 60) {n S : Nat} (hn : n ≤ 8) : smS gv n S ≤ 480 := by
  have := ssum_le (f := fun b => S / 2 ^ b % 2 * gv b) (m := 60) n (fun b _ => by
    have h1 := Nat.mod_lt (S / 2 ^ b) (show 2 > 0 by decide)
    have h2 := hv b
    show S / 2 ^ b % 2 * gv b ≤ 60
    rcases (show S / 2 ^ b % 2 = 0 ∨ S / 2 ^ b % 2 = 1 by omega) with g | g <;> rw [g] <;> omega)
  unfold smS
  omega
theorem smS_or {gv : Nat → Nat} {n G p : Nat} (hn : n ≤ 8) (hG : G < 256) (hp : p < n) (h0 : G / 2 ^ p % 2 = 0) : smS gv n (G ||| 2 ^ p) = smS gv n G + gv p := by
  unfold smS
  refine ssum_upd (p := p) ?_ n hp ?_
  · show (G ||| 2 ^ p) / 2 ^ p % 2 * gv p = G / 2 ^ p % 2 * gv p + gv p
    rw [mudOb G hG p (by omega) p (by omega), if_pos rfl, h0]; omega
  · intro b hb e
    show (G ||| 2 ^ p) / 2 ^ b % 2 * gv b = G / 2 ^ b % 2 * gv b
    rw [mudOb G hG p (by omega) b (by omega), if_neg e]
theorem smS_sub {gv : Nat → Nat} {n S q : Nat} (hn : n ≤ 8) (hS : S < 256) (hq : q < n) (h1 : S / 2 ^ q % 2 = 1) : smS gv n S = smS gv n (S - 2 ^ q) + gv q := by
  unfold smS
  refine ssum_upd (p := q) ?_ n hq ?_
  · show S / 2 ^ q % 2 * gv q = (S - 2 ^ q) / 2 ^ q % 2 * gv q + gv q
    rw [bit_sub S hS q (by omega) h1 q (by omega), if_pos rfl, h1]; omega
  · intro b hb e
    show S / 2 ^ b % 2 * gv b = (S - 2 ^ q) / 2 ^ b % 2 * gv b
    rw [bit_sub S hS q (by omega) h1 b (by omega), if_neg e]
theorem opS_0 {gv : Nat → Nat} {h n : Nat} : opS gv h n 0 0 := by
  refine ⟨⟨by decide, fun b hb e => ?_, by decide⟩, fun S hS => ?_⟩
  · rw [Nat.zero_div] at e; exact absurd e (by decide)
  · have := pop_0 S hS.1 (by have := hS.2.2; omega)
    rw [this]; exact Nat.le_refl _
/-- a set without its bit q -/
theorem feS_sub {h n k S q : Nat} (F : feS h n (k + 1) S) (hq : q < 8) (h1 : S / 2 ^ q % 2 = 1) : feS h n k (S - 2 ^ q) := by
  obtain ⟨f1, f2, f3⟩ := F
  obtain ⟨p1, p2⟩ := pop_sub S f1 q hq h1
  refine ⟨Nat.lt_of_le_of_lt (Nat.sub_le _ _) f1, fun b hb e => ?_, by omega⟩
  rw [bit_sub S f1 q hq h1 b hb] at e
  by_cases g : b = q
  · rw [if_pos g] at e; omega
  · rw [if_neg g] at e; exact f2 b hb e
theorem kk1' {X Y P G tp R : Nat} (y : 384 ≤ Y) (d : tp ≤ 128) (e : X + Y + P * 256 + G ≤ R) : X + (P + 1) * 256 + (G + tp) ≤ R := by omega
theorem kk1 {sG vp pG G tp R : Nat} (a : sG ≤ 480) (b : vp ≤ 60) (c : 0 < vp) (d : tp ≤ 128) (e : (1000 - sG) * 65536 + pG * 256 + G ≤ R) : (1000 - (sG + vp)) * 65536 + (pG + 1) * 256 + (G + tp) ≤ R := by
  have h2 : 1000 - sG = (1000 - (sG + vp)) + vp := by omega
  rw [h2, Nat.add_mul] at e
  exact kk1' (Nat.le_trans (by decide : 384 ≤ 65536) (Nat.le_mul_of_pos_left _ c)) d e
theorem kk2' {X X2 Y2 Z pG pS G S tp tq : Nat} (y : 384 ≤ Z) (d : tp ≤ 128) (e : X + (Y2 + Z) + pG * 256 + G ≤ X2 + Y2 + pS * 256 + S) : X + (pG + 1) * 256 + (G + tp) ≤ X2 + (pS + 1) * 256 + (S + tq) := by omega
theorem kk2'' {X X2 Y pG pS G S tp tq : Nat} (d : tp ≤ tq) (e : X + Y + pG * 256 + G ≤ X2 + Y + pS * 256 + S) : X + (pG + 1) * 256 + (G + tp) ≤ X2 + (pS + 1) * 256 + (S + tq) := by omega
theorem kk2 {sG sS vp vq pG pS G S tp tq : Nat} (a : sG ≤ 480) (b : vp ≤ 60) (a2 : sS ≤ 480) (b2 : vq ≤ 60) (c : vq ≤ vp) (d : tp ≤ 128) (g : vq = vp → tp ≤ tq) (e : (1000 - sG) * 65536 + pG * 256 + G ≤ (1000 - sS) * 65536 + pS * 256 + S) : (1000 - (sG + vp)) * 65536 + (pG + 1) * 256 + (G + tp) ≤ (1000 - (sS + vq)) * 65536 + (pS + 1) * 256 + (S + tq) := by
  have h2 : 1000 - sG = (1000 - (sG + vp)) + vp := by omega
  have h3 : 1000 - sS = (1000 - (sS + vq)) + vq := by omega
  rw [h2, h3, Nat.add_mul, Nat.add_mul] at e
  by_cases q : vq = vp
  · rw [← q] at e ⊢
    exact kk2'' (g q) e
  · have h4 : vp = vq + (vp - vq) := by omega
    have e2 : vp * 65536 = vq * 65536 + (vp - vq) * 65536 := by rw [← Nat.add_mul, ← h4]
    rw [e2] at e
    exact kk2' (Nat.le_trans (by decide : 384 ≤ 65536) (Nat.le_mul_of_pos_left _ (by omega))) d e
set_option maxRecDepth 20000 in
theorem kk3 {sG sS pG pS G S tq : Nat} (e : (1000 - sG) * 65536 + pG * 256 + G ≤ (1000 - sS) * 65536 + pS * 256 + S) : (1000 - sG) * 65536 + pG * 256 + G ≤ (1000 - sS) * 65536 + (pS + 1) * 256 + (S + tq) := by omega
theorem opS_step {gv : Nat → Nat} (hv : ∀ b, gv b ≤ 60) {h n k G p : Nat} (hn : n ≤ 8) (O : opS gv h n k G) (hp : h ≤ p) (hpn : p < n) (h0 : G / 2 ^ p % 2 = 0) (gp : 0 < gv p) (mx : ∀ b, h ≤ b → b < n → G / 2 ^ b % 2 = 0 → gv b ≤ gv p ∧ (gv b = gv p → p ≤ b)) : opS gv h n (k + 1) (G ||| 2 ^ p) := by
  obtain ⟨⟨f1, f2, f3⟩, op⟩ := O
  obtain ⟨e1, e2, e3⟩ := pop_or G f1 p (by omega) h0
  have em := smS_or (gv := gv) hn f1 hpn h0
  have lG := smS_le hv (S := G) hn
  have lp := pw128 p (by omega)
  have vp := hv p
  have l8 := pop_8 G f1
  have key : kkS gv n (G ||| 2 ^ p) = (1000 - (smS gv n G + gv p)) * 65536 + (popc 8 G + 1) * 256 + (G + 2 ^ p) := by
    unfold kkS; rw [em, e1, e2]
  refine ⟨⟨e3, fun b hb e => ?_, by omega⟩, fun S hS => ?_⟩
  · rw [mudOb G f1 p (by omega) b hb] at e
    by_cases g : b = p
    · subst g; exact ⟨hp, hpn⟩
    · rw [if_neg g] at e; exact f2 b hb e
  · by_cases g : popc 8 S ≤ k
    · have := op S ⟨hS.1, hS.2.1, g⟩
      rw [key]
      exact kk1 lG vp gp lp this
    · obtain ⟨q, q8, q1, q2⟩ := pop_gt (S := S) (G := G) hS.1 f1 (by omega)
      obtain ⟨r1, r2⟩ := hS.2.1 q q8 q1
      obtain ⟨m1, m2⟩ := mx q r1 r2 q2
      have a := op _ (feS_sub hS q8 q1)
      obtain ⟨p1, p2⟩ := pop_sub S hS.1 q q8 q1
      have es := smS_sub (gv := gv) hn hS.1 r2 q1
      have lS := smS_le hv (S := S - 2 ^ q) hn
      have vq := hv q
      have lq := pw128 q q8
      rw [key]
      have key2 : kkS gv n S = (1000 - (smS gv n (S - 2 ^ q) + gv q)) * 65536 + (popc 8 (S - 2 ^ q) + 1) * 256 + ((S - 2 ^ q) + 2 ^ q) := by
        unfold kkS; rw [es, p1, show S - 2 ^ q + 2 ^ q = S by omega]
      rw [key2]
      exact kk2 lG vp lS vq m1 lp (fun g2 => Nat.pow_le_pow_right (by decide) (m2 g2)) a
theorem opS_stop {gv : Nat → Nat} {h n k G : Nat} (hn : n ≤ 8) (O : opS gv h n k G) (mx : ∀ b, h ≤ b → b < n → G / 2 ^ b % 2 = 0 → gv b = 0) : opS gv h n (k + 1) G := by
  obtain ⟨⟨f1, f2, f3⟩, op⟩ := O
  refine ⟨⟨f1, f2, by omega⟩, fun S hS => ?_⟩
  by_cases g : popc 8 S ≤ k
  · exact op S ⟨hS.1, hS.2.1, g⟩
  · obtain ⟨q, q8, q1, q2⟩ := pop_gt (S := S) (G := G) hS.1 f1 (by omega)
    obtain ⟨r1, r2⟩ := hS.2.1 q q8 q1
    have a := op _ (feS_sub hS q8 q1)
    obtain ⟨p1, p2⟩ := pop_sub S hS.1 q q8 q1
    have es := smS_sub (gv := gv) hn hS.1 r2 q1
    have z := mx q r1 r2 q2
    have key2 : kkS gv n S = (1000 - (smS gv n (S - 2 ^ q))) * 65536 + (popc 8 (S - 2 ^ q) + 1) * 256 + ((S - 2 ^ q) + 2 ^ q) := by
      unfold kkS; rw [es, z, p1, show S - 2 ^ q + 2 ^ q = S by omega, Nat.add_zero]
    rw [key2]
    exact kk3 a
theorem opS_ext {gv : Nat → Nat} {h n k G : Nat} (hn : n ≤ 8) (O : opS gv h n k G) (mx : ∀ b, h ≤ b → b < n → G / 2 ^ b % 2 = 0 → gv b = 0) : ∀ d, opS gv h n (k + d) G
  | 0 => O
  | d + 1 => opS_stop hn (opS_ext hn O mx d) mx
theorem kkS_inj {gv : Nat → Nat} {n S S' : Nat} (hS : S < 256) (hS' : S' < 256) (e : kkS gv n S = kkS gv n S') : S = S' := by
  unfold kkS at e; omega
/-! what a mended note saves -/
def mnS (c : Nat → Nat) (st : Nat) : Nat → Nat
  | 0 => st
  | j + 1 => if mnS c st j ≤ c j then mnS c st j else c j
theorem mnS_st {c : Nat → Nat} (h : c 0 ≤ 60) : ∀ j, mnS c 1000000 (j + 1) = mnS c 60 (j + 1)
  | 0 => by
    show (if 1000000 ≤ c 0 then 1000000 else c 0) = if 60 ≤ c 0 then 60 else c 0
    rw [if_neg (by omega)]
    split <;> omega
  | j + 1 => by
    show (if mnS c 1000000 (j + 1) ≤ c (j + 1) then mnS c 1000000 (j + 1) else c (j + 1)) = if mnS c 60 (j + 1) ≤ c (j + 1) then mnS c 60 (j + 1) else c (j + 1)
    rw [mnS_st h j]
theorem mnS_le {c : Nat → Nat} {st : Nat} : ∀ j, mnS c st j ≤ st ∧ ∀ i, i < j → mnS c st j ≤ c i
  | 0 => ⟨Nat.le_refl _, fun i hi => by omega⟩
  | j + 1 => by
    obtain ⟨h1, h2⟩ := mnS_le (c := c) (st := st) j
    have e : mnS c st (j + 1) = if mnS c st j ≤ c j then mnS c st j else c j := rfl
    by_cases g : mnS c st j ≤ c j
    · rw [e, if_pos g]
      refine ⟨h1, fun i hi => ?_⟩
      by_cases q : i = j
      · subst q; exact g
      · exact h2 i (by omega)
    · rw [e, if_neg g]
      refine ⟨by omega, fun i hi => ?_⟩
      by_cases q : i = j
      · subst q; exact Nat.le_refl _
      · have := h2 i (by omega); omega
def svN (T : Nat → Int32) (mb : Nat) (nN : Nat → Nat) (n b : Nat) : Nat := if b < n then ccN T mb b (nI (nN b)) - mnS (fun j => ccN T mb b (nI j)) 60 7 else 0
section PM
variable {T : Nat → Int32} {n nf np nu h mb kN fN : Nat} {yN tN nN wN : Nat → Nat}
variable {kd fg he se cr sz : Int32} {ya tr no wo mu : Nat → Int32} {fs : Int32} {fe : Nat → Int32} {ps : Int32} {pr : Nat → Int32} {us : Int32} {pa : Nat → Int32} {rf rf' : Nat → Int32}
theorem svN_le (H : TI T n nf np nu h mb kN fN yN tN nN wN) (b : Nat) : svN T mb nN n b ≤ 60 := by
  unfold svN
  by_cases hb : b < n
  · rw [if_pos hb]
    have := (H.cN (x := nN b) hb (H.no6 hb)).2
    omega
  · rw [if_neg hb]; omega
theorem svN_eq (H : TI T n nf np nu h mb kN fN yN tN nN wN) {b : Nat} (hb : b < n) : cS T mb b (T (7 + b)) - nI (mnS (fun j => ccN T mb b (nI j)) 60 7) = nI (svN T mb nN n b) := by
  have h6 := H.no6 hb
  rw [H.no hb, (H.cN (x := nN b) hb h6).1, pk_sub ((mnS_le (c := fun j => ccN T mb b (nI j)) (st := 60) 7).2 (nN b) (by omega) : mnS (fun j => ccN T mb b (nI j)) 60 7 ≤ ccN T mb b (nI (nN b)))]
  unfold svN
  rw [if_pos hb]
theorem c_saved (H : TI T n nf np nu h mb kN fN yN tN nN wN) (C : CR T n nf np nu mb kd fg he se cr sz ya tr no wo mu fs fe ps pr us pa) {b : Nat} (hb : b < n) {Q : Int32 → Prop} (hq : Q (nI (svN T mb nN n b))) : p_X5_savedAt tr no mu kd fg (nI b) Q := by
  unfold p_X5_savedAt
  refine lq2_for (fun i => nI (mnS (fun j => ccN T mb b (nI j)) 60 i)) (fun i => nI i) 7 ?_ ?_ 1000 0 (Nat.zero_le _) (by omega)
  · intro i hi k hk
    unfold bX5_savedAt_6
    rw [if_neg (show ¬ (6 : Int32) < nI i from fun q => (fa_of_lt q).2.1 (nI_le (b := 6) (by omega) (by decide)))]
    refine c_cost H C hb ?_
    have c := H.cN (x := i) hb (by omega)
    have l := (mnS_le (c := fun j => ccN T mb b (nI j)) (st := 60) i).1
    rw [c.1, nI_1]
    have e : mnS (fun j => ccN T mb b (nI j)) 60 (i + 1) = if mnS (fun j => ccN T mb b (nI j)) 60 i ≤ ccN T mb b (nI i) then mnS (fun j => ccN T mb b (nI j)) 60 i else ccN T mb b (nI i) := rfl
    rw [e] at hk
    by_cases g : mnS (fun j => ccN T mb b (nI j)) 60 i ≤ ccN T mb b (nI i)
    · rw [if_pos g] at hk; rw [if_pos (nI_le g (by omega))]; exact hk
    · rw [if_neg g] at hk; rw [if_neg (nI_ge (by omega) (by omega))]; exact hk
  · intro k
    unfold bX5_savedAt_6
    rw [if_pos (show (6 : Int32) < nI 7 by decide)]
    unfold jX5_savedAt_37
    refine c_costNoted H C hb ?_
    rw [svN_eq H hb]
    exact hq
theorem m_saved (H : TI T n nf np nu h mb kN fN yN tN nN wN) {b : Nat} (hb : b < n) {Q : Int32 → Prop} (hq : Q (nI (svN T mb nN n b))) : p_X9_savedAt T (nI b) Q := by
  have h8 := H.n8
  unfold p_X9_savedAt
  refine lq2_for (fun i => nI (mnS (fun j => ccN T mb b (nI j)) 1000000 i)) (fun i => nI i) 7 ?_ ?_ 1000 0 (Nat.zero_le _) (by omega)
  · intro i hi k hk
    unfold bX9_savedAt_5
    rw [if_neg (show ¬ (7 : Int32) ≤ nI i from nI_ge (b := 7) hi (by decide))]
    refine s_cost H hb ?_
    have c := H.cN (x := i) hb (by omega)
    have l := (mnS_le (c := fun j => ccN T mb b (nI j)) (st := 1000000) i).1
    rw [c.1, nI_1]
    have e : mnS (fun j => ccN T mb b (nI j)) 1000000 (i + 1) = if mnS (fun j => ccN T mb b (nI j)) 1000000 i ≤ ccN T mb b (nI i) then mnS (fun j => ccN T mb b (nI j)) 1000000 i else ccN T mb b (nI i) := rfl
    rw [e] at hk
    by_cases g : mnS (fun j => ccN T mb b (nI j)) 1000000 i ≤ ccN T mb b (nI i)
    · rw [if_pos g] at hk; rw [if_pos (nI_le g (by omega))]; exact hk
    · rw [if_neg g] at hk; rw [if_neg (nI_ge (by omega) (by omega))]
      refine s_cost H hb ?_
      rw [c.1]; exact hk
  · intro k
    unfold bX9_savedAt_5
    rw [if_pos (show (7 : Int32) ≤ nI 7 by decide)]
    unfold jX9_savedAt_38
    refine s_noteOf (by omega) (s_cost H hb ?_)
    rw [mnS_st (c := fun j => ccN T mb b (nI j)) (H.cN (x := 0) hb (by omega)).2 6, svN_eq H hb]
    exact hq
theorem c_mended (H : TI T n nf np nu h mb kN fN yN tN nN wN) (C : CR T n nf np nu mb kd fg he se cr sz ya tr no wo mu fs fe ps pr us pa) {x : Nat} (hx : x ≤ 8) {ga : Nat → Int32} {Q : Int32 → (Nat → Int32) → Prop} (hq : ∀ G w, opS (svN T mb nN n) h n x G → Q (nI G) w) : p_X5_bestMended ga tr no mu sz kd fg he (nI x) Q := by
  have h8 := H.n8
  have hn := H.hn
  have hv := svN_le H
  unfold p_X5_bestMended
  rw [C.esz, C.ehe H]
  refine lq2_inv (fun j w v => (∀ c, h ≤ c → c < h + j → w c = nI (svN T mb nN n c)) ∧ v = nI (h + j)) (n - h) ?_ ?_ 1000 0 ga (nI h) ⟨fun c h1 h2 => by omega, rfl⟩ (by omega) (by omega)
  · intro j hj w v hI k hk
    obtain ⟨g1, rfl⟩ := hI
    unfold bX5_bestMended_14
    rw [if_neg (nI_ge (show h + j < n by omega) (by omega))]
    refine c_saved H C (by omega) ⟨vp_in_nI (by omega) (by decide), ?_⟩
    rw [nI_clamp (show h + j < 2 ^ 31 by omega), nI_1]
    refine hk _ _ ⟨fun c h1 h2 => ?_, rfl⟩
    rw [upd_at]
    by_cases q : c = h + j
    · rw [if_pos q, q]
    · rw [if_neg q]; exact g1 c h1 (by omega)
  · intro w v hI k
    obtain ⟨g1, rfl⟩ := hI
    unfold bX5_bestMended_14
    rw [if_pos (show nI n ≤ nI (h + (n - h)) from nI_le (by omega) (by omega))]
    unfold jX5_bestMended_40
    refine lq2_inv (fun i m v => ∃ G, m = nI G ∧ v = nI i ∧ opS (svN T mb nN n) h n i G) x ?_ ?_ 1000 0 0 0 ⟨0, rfl, rfl, opS_0⟩ (by omega) (by omega)
    · intro i hi m v hI k2 hk2
      obtain ⟨G, rfl, rfl, O⟩ := hI
      have hG : G < 256 := O.1.1
      unfold bX5_bestMended_46
      rw [if_neg (nI_ge hi (by omega))]
      refine lq3_inv (fun j b m v => v = nI (h + j) ∧ ((b = -1 ∧ m = 0 ∧ ∀ c, h ≤ c → c < h + j → G / 2 ^ c % 2 = 0 → svN T mb nN n c = 0) ∨ ∃ p, h ≤ p ∧ p < h + j ∧ G / 2 ^ p % 2 = 0 ∧ 0 < svN T mb nN n p ∧ b = nI p ∧ m = nI (svN T mb nN n p) ∧ ∀ c, h ≤ c → c < h + j → G / 2 ^ c % 2 = 0 → svN T mb nN n c ≤ svN T mb nN n p ∧ (svN T mb nN n c = svN T mb nN n p → p ≤ c))) (n - h) ?_ ?_ 1000 0 (-1) 0 (nI h) ⟨rfl, Or.inl ⟨rfl, rfl, fun c h1 h2 => by omega⟩⟩ (by omega) (by omega)
      · intro j hj b m v hI k3 hk3
        obtain ⟨rfl, hI⟩ := hI
        have vj := hv (h + j)
        unfold bX5_bestMended_64
        rw [if_neg (nI_ge (show h + j < n by omega) (by omega))]
        refine s_hasBit hG (by omega) ?_
        rw [nI_1, nI_clamp (show h + j < 2 ^ 31 by omega), g1 (h + j) (by omega) (by omega)]
        have hi8 : vp_in (nI (h + j)) 8 := vp_in_nI (by omega) (by decide)
        rcases Nat.mod_two_eq_zero_or_one (G / 2 ^ (h + j)) with g | g
        · rw [g, if_pos (show nI 0 = 0 from rfl)]
          refine ⟨hi8, ?_⟩
          rcases hI with ⟨rfl, rfl, a⟩ | ⟨p, p1, p2, p3, p4, rfl, rfl, a⟩
          · by_cases q : svN T mb nN n (h + j) = 0
            · rw [if_pos (show nI (svN T mb nN n (h + j)) ≤ 0 by rw [q]; exact Int32.le_refl _)]
              refine hk3 _ _ _ ⟨rfl, Or.inl ⟨rfl, rfl, fun c h1 h2 h3 => ?_⟩⟩
              by_cases e : c = h + j
              · rw [e]; exact q
              · exact a c h1 (by omega) h3
            · rw [if_neg (show ¬ nI (svN T mb nN n (h + j)) ≤ 0 from nI_ge (a := 0) (b := svN T mb nN n (h + j)) (by omega) (by omega))]
              refine ⟨hi8, hk3 _ _ _ ⟨rfl, Or.inr ⟨h + j, by omega, by omega, g, by omega, rfl, rfl, fun c h1 h2 h3 => ?_⟩⟩⟩
              by_cases e : c = h + j
              · rw [e]; exact ⟨Nat.le_refl _, fun _ => Nat.le_refl _⟩
              · have := a c h1 (by omega) h3
                exact ⟨by omega, fun e2 => by omega⟩
          · have vp := hv p
            by_cases q : svN T mb nN n (h + j) ≤ svN T mb nN n p
            · rw [if_pos (nI_le q (by omega))]
              refine hk3 _ _ _ ⟨rfl, Or.inr ⟨p, p1, by omega, p3, p4, rfl, rfl, fun c h1 h2 h3 => ?_⟩⟩
              by_cases e : c = h + j
              · rw [e]; exact ⟨q, fun _ => by omega⟩
              · exact a c h1 (by omega) h3
            · rw [if_neg (nI_ge (show svN T mb nN n p < svN T mb nN n (h + j) by omega) (by omega))]
              refine ⟨hi8, hk3 _ _ _ ⟨rfl, Or.inr ⟨h + j, by omega, by omega, g, by omega, rfl, rfl, fun c h1 h2 h3 => ?_⟩⟩⟩
              by_cases e : c = h + j
              · rw [e]; exact ⟨Nat.le_refl _, fun _ => Nat.le_refl _⟩
              · have := (a c h1 (by omega) h3).1
                exact ⟨by omega, fun e2 => by omega⟩
        · rw [g, if_neg (show ¬ nI 1 = 0 by decide)]
          refine hk3 _ _ _ ⟨rfl, ?_⟩
          rcases hI with ⟨rfl, rfl, a⟩ | ⟨p, p1, p2, p3, p4, rfl, rfl, a⟩
          · refine Or.inl ⟨rfl, rfl, fun c h1 h2 h3 => ?_⟩
            by_cases e : c = h + j
            · rw [e, g] at h3; omega
            · exact a c h1 (by omega) h3
          · refine Or.inr ⟨p, p1, by omega, p3, p4, rfl, rfl, fun c h1 h2 h3 => ?_⟩
            by_cases e : c = h + j
            · rw [e, g] at h3; omega
            · exact a c h1 (by omega) h3
      · intro b m v hI k3
        obtain ⟨rfl, hI⟩ := hI
        unfold bX5_bestMended_64
        rw [if_pos (show nI n ≤ nI (h + (n - h)) from nI_le (by omega) (by omega))]
        unfold jX5_bestMended_111
        rcases hI with ⟨rfl, rfl, a⟩ | ⟨p, p1, p2, p3, p4, rfl, rfl, a⟩
        · rw [if_pos rfl]
          have := opS_ext h8 O (fun c h1 h2 h3 => a c h1 (by omega) h3) (x - i)
          rw [show i + (x - i) = x by omega] at this
          exact hq _ _ this
        · have ne : ¬ nI p = -1 := fun e => by
            have := nI_pos' (n := p) (by omega)
            rw [e] at this
            exact absurd this (by decide)
          rw [if_neg ne, mudO G hG p (by omega), nI_1]
          exact hk2 _ _ ⟨_, rfl, rfl, opS_step hv h8 O p1 (by omega) p3 p4 (fun c h1 h2 h3 => a c h1 (by omega) h3)⟩
    · intro m v hI k2
      obtain ⟨G, rfl, rfl, O⟩ := hI
      unfold bX5_bestMended_46
      rw [if_pos (Int32.le_refl _)]
      exact hq _ _ O
theorem c_savedBy (H : TI T n nf np nu h mb kN fN yN tN nN wN) (C : CR T n nf np nu mb kd fg he se cr sz ya tr no wo mu fs fe ps pr us pa) {G k : Nat} (F : feS h n k G) {Q : Int32 → Prop} (hq : Q (nI (smS (svN T mb nN n) n G))) : p_X5_savedBy tr no mu sz kd fg he (nI G) Q := by
  have h8 := H.n8
  have hn := H.hn
  have z0 : smS (svN T mb nN n) h G = 0 := by
    unfold smS
    refine ssum_0 h (fun b hb => ?_)
    rcases Nat.mod_two_eq_zero_or_one (G / 2 ^ b) with g | g
    · show G / 2 ^ b % 2 * _ = 0; rw [g, Nat.zero_mul]
    · have := (F.2.1 b (by omega) g).1; omega
  unfold p_X5_savedBy
  rw [C.esz, C.ehe H]
  rw [show lq2 (bX5_savedBy_8 tr no mu (nI n) kd fg (nI G) Q) 1000 0 (nI h) = lq2 (bX5_savedBy_8 tr no mu (nI n) kd fg (nI G) Q) 1000 (nI (smS (svN T mb nN n) (h + 0) G)) (nI (h + 0)) by rw [Nat.add_zero, z0]; rfl]
  refine lq2_for (fun i => nI (smS (svN T mb nN n) (h + i) G)) (fun i => nI (h + i)) (n - h) ?_ ?_ 1000 0 (Nat.zero_le _) (by omega)
  · intro i hi k2 hk
    unfold bX5_savedBy_8
    rw [if_neg (nI_ge (show h + i < n by omega) (by omega))]
    refine s_hasBit F.1 (by omega) ?_
    rw [nI_1]
    have e : smS (svN T mb nN n) (h + (i + 1)) G = smS (svN T mb nN n) (h + i) G + G / 2 ^ (h + i) % 2 * svN T mb nN n (h + i) := rfl
    rw [e] at hk
    rcases Nat.mod_two_eq_zero_or_one (G / 2 ^ (h + i)) with g | g
    · rw [g, Nat.zero_mul, Nat.add_zero] at hk
      rw [g, if_pos (show nI 0 = 0 from rfl)]; exact hk
    · rw [g, Nat.one_mul] at hk
      rw [g, if_neg (show ¬ nI 1 = 0 by decide)]
      refine c_saved H C (by omega) ?_
      rw [nI_add]; exact hk
  · intro k2
    unfold bX5_savedBy_8
    rw [if_pos (show nI n ≤ nI (h + (n - h)) from nI_le (by omega) (by omega)), show h + (n - h) = n by omega]
    exact hq
theorem m_mend125 (H : TI T n nf np nu h mb kN fN yN tN nN wN) {x s : Nat} (hx : x ≤ 8) (hs : s < 256) {k : Int32 → Int32 → Int32 → Prop} {b m v t : Int32} (k1 : feS h n x s ∨ ¬ s < 2 ^ n → ¬ t = 0 → k (nI s) v (nI (s + 1))) (k0 : (feS h n x s → t = 0) → k b m (nI (s + 1))) : jX9_mend_125 T (nI x) k b m (nI s) v t := by
  have h8 := H.n8
  have hn := H.hn
  unfold jX9_mend_125 p_X9_isAhead
  rw [show (4 : Int32).toNatClampNeg = 4 from rfl, H.e4, nI_1]
  by_cases g : s % 2 ^ h = 0
  · rw [if_pos ((isA s hs h (by omega)).mpr g)]
    dsimp only
    rw [if_neg (show ¬ (1 : Int32) = 0 by decide)]
    refine s_bits hs ?_
    have p8 := pop_8 s hs
    by_cases g2 : x < popc 8 s
    · rw [if_pos (nI_lt g2 (by omega))]
      exact k0 (fun F => by have := F.2.2; omega)
    · rw [if_neg (fun q => by have := (fa_of_lt q).2.1 (nI_le (show popc 8 s ≤ x by omega) (by omega)); exact this)]
      by_cases g3 : t = 0
      · rw [if_pos g3]; exact k0 (fun _ => g3)
      · rw [if_neg g3]
        refine k1 ?_ g3
        by_cases g4 : s < 2 ^ n
        · exact Or.inl ⟨hs, fun c hc e => ⟨(aheadB s hs h (by omega)).mp g c hc e, (ltB s hs n (by omega)).mp g4 c hc e⟩, by omega⟩
        · exact Or.inr g4
  · rw [if_neg (fun q => g ((isA s hs h (by omega)).mp q))]
    dsimp only
    rw [if_pos rfl]
    exact k0 (fun F => absurd ((aheadB s hs h (by omega)).mpr (fun c hc e => (F.2.1 c hc e).1)) g)
theorem m_mend (H : TI T n nf np nu h mb kN fN yN tN nN wN) {x G : Nat} {x2 : Int32} (hx : x ≤ 8) (O : opS (svN T mb nN n) h n x G) {Q : Int32 → (Nat → Int32) → Prop} (hq : Q (if x2 = 0 then nI (smS (svN T mb nN n) n G) else nI G) rf') : lq3 (bX9_mend_37 T rf' (nI x) x2 Q) 1000 0 0 1 := by
  have h8 := H.n8
  have hn := H.hn
  have hv := svN_le H
  have p2 : 2 ^ n ≤ 256 := (Nat.pow_le_pow_right (by decide) h8 : 2 ^ n ≤ 2 ^ 8)
  have p1 : 1 ≤ 2 ^ n := Nat.one_le_two_pow
  refine lq3_inv (fun s b m v => v = nI s ∧ 1 ≤ s ∧ ∃ B, b = nI B ∧ m = nI (smS (svN T mb nN n) n B) ∧ B < s ∧ feS h n x B ∧ ∀ S, S < s → feS h n x S → kkS (svN T mb nN n) n B ≤ kkS (svN T mb nN n) n S) (2 ^ n) ?_ ?_ 1000 1 0 0 1 ⟨rfl, Nat.le_refl _, 0, rfl, ?_, by decide, ⟨by decide, fun c hc e => by rw [Nat.zero_div] at e; exact absurd e (by decide), by show popc 8 0 ≤ x; rw [popc0]; omega⟩, fun S hS _ => by rw [show S = 0 by omega]; exact Nat.le_refl _⟩ p1 (by omega)
  · intro s hs b m v hI k hk
    obtain ⟨rfl, s1, B, rfl, rfl, B1, B2, B3⟩ := hI
    unfold bX9_mend_37
    refine s_many H.e0 ?_
    rw [sh1 n (by omega), if_neg (nI_ge hs (by omega))]
    refine lq2_for (fun i => nI (smS (svN T mb nN n) i s)) (fun i => nI i) n ?_ ?_ 1000 0 (Nat.zero_le _) (by omega)
    · intro i hi k2 hk2
      unfold bX9_mend_54
      refine s_many H.e0 ?_
      rw [if_neg (nI_ge hi (by omega))]
      refine s_has9 (show s < 256 by omega) (by omega) ?_
      rw [nI_1, Int32.add_zero]
      have e : smS (svN T mb nN n) (i + 1) s = smS (svN T mb nN n) i s + s / 2 ^ i % 2 * svN T mb nN n i := rfl
      rw [e] at hk2
      rcases Nat.mod_two_eq_zero_or_one (s / 2 ^ i) with g | g
      · rw [g, Nat.zero_mul, Nat.add_zero] at hk2
        rw [g, if_pos (show nI 0 = 0 from rfl)]; exact hk2
      · rw [g, Nat.one_mul] at hk2
        rw [g, if_neg (show ¬ nI 1 = 0 by decide)]
        refine m_saved H hi ?_
        rw [nI_add]; exact hk2
    · intro k2
      unfold bX9_mend_54
      refine s_many H.e0 ?_
      rw [if_pos (Int32.le_refl _)]
      have l1 := smS_le hv (S := s) h8
      have l2 := smS_le hv (S := B) h8
      have l3 := pop_8 s (by omega)
      have l4 := pop_8 B B2.1
      have keep : (feS h n x s → kkS (svN T mb nN n) n B ≤ kkS (svN T mb nN n) n s) → k (nI B) (nI (smS (svN T mb nN n) n B)) (nI (s + 1)) := by
        intro g
        refine hk _ _ _ ⟨rfl, by omega, B, rfl, rfl, by omega, B2, fun S hS F => ?_⟩
        by_cases e : S = s
        · rw [e]; rw [e] at F; exact g F
        · exact B3 S (by omega) F
      have take : kkS (svN T mb nN n) n s ≤ kkS (svN T mb nN n) n B → feS h n x s ∨ ¬ s < 2 ^ n → ¬ (1 : Int32) = 0 → k (nI s) (nI (smS (svN T mb nN n) n s)) (nI (s + 1)) := by
        intro g F _
        refine hk _ _ _ ⟨rfl, by omega, s, rfl, rfl, by omega, F.resolve_right (fun q => q hs), fun S hS F2 => ?_⟩
        by_cases e : S = s
        · rw [e]; exact Nat.le_refl _
        · exact Nat.le_trans g (B3 S (by omega) F2)
      unfold jX9_mend_94 jX9_mend_120 jX9_mend_124
      by_cases g1 : smS (svN T mb nN n) n B < smS (svN T mb nN n) n s
      · rw [if_pos (nI_lt g1 (by omega))]
        refine m_mend125 H hx (by omega) (take ?_) (fun q => keep (fun F => absurd (q F) (by decide)))
        have b2 := B2.1
        unfold kkS; omega
      · rw [if_neg (fun q => (fa_of_lt q).2.1 (nI_le (show smS (svN T mb nN n) n s ≤ smS (svN T mb nN n) n B by omega) (by omega)))]
        by_cases g2 : smS (svN T mb nN n) n s = smS (svN T mb nN n) n B
        · rw [if_pos (congrArg nI g2)]
          refine s_bits (show s < 256 by omega) (s_bits B2.1 ?_)
          by_cases g3 : popc 8 B ≤ popc 8 s
          · rw [if_pos (nI_le g3 (by omega))]
            refine m_mend125 H hx (by omega) (fun _ q => absurd rfl q) (fun _ => keep (fun _ => ?_))
            unfold kkS; rw [g2]; omega
          · rw [if_neg (nI_ge (by omega) (by omega))]
            refine m_mend125 H hx (by omega) (take ?_) (fun q => keep (fun F => absurd (q F) (by decide)))
            have b2 := B2.1
            unfold kkS; rw [g2]; omega
        · rw [if_neg (fun q => g2 ((nI_eq (by omega) (by omega)).mp q))]
          refine m_mend125 H hx (by omega) (fun _ q => absurd rfl q) (fun _ => keep (fun _ => ?_))
          unfold kkS; omega
  · intro b m v hI k
    obtain ⟨rfl, s1, B, rfl, rfl, B1, B2, B3⟩ := hI
    unfold bX9_mend_37
    refine s_many H.e0 ?_
    rw [sh1 n (by omega), if_pos (Int32.le_refl _)]
    have eG : G < 2 ^ n := (ltB G O.1.1 n (by omega)).mpr (fun c hc e => (O.1.2.1 c hc e).2)
    have e : B = G := kkS_inj (gv := svN T mb nN n) (n := n) B2.1 O.1.1 (Nat.le_antisymm (B3 G eG O.1) (O.2 B B2))
    subst e
    unfold jX9_mend_163
    by_cases g : x2 = 0
    · rw [if_pos g] at hq ⊢; exact hq
    · rw [if_neg g] at hq ⊢; exact hq
  · show (0 : Int32) = nI (ssum (fun b => 0 / 2 ^ b % 2 * svN T mb nN n b) n)
    rw [ssum_0 n (fun b _ => by show 0 / 2 ^ b % 2 * _ = 0; rw [Nat.zero_div]; omega)]
    rfl
theorem q_mend (H : TI T n nf np nu h mb kN fN yN tN nN wN) (C : CR T n nf np nu mb kd fg he se cr sz ya tr no wo mu fs fe ps pr us pa) (x1 x2 : Int32) {ga : Nat → Int32} {Z : Int32 → (Nat → Int32) → (Nat → Int32) → Int32 → (Nat → Int32) → Prop} (z1 : Z (-2) ga (rj 0 rf) (-2) (rj 0 rf')) (z2 : ∀ r w, Z r w rf r rf') : p_X8_mend tr no mu sz kd fg he ga rf x1 x2 (fun r u2 u3 => p_X9_mend T rf' x1 x2 (fun r' v => Z r u2 u3 r' v)) := by
  unfold p_X8_mend p_X9_mend
  by_cases h1 : 0 ≤ x1 ∧ x1 ≤ 8
  · refine s_within_t h1 ?_
    rw [if_neg (by decide)]
    by_cases h2 : 0 ≤ x2 ∧ x2 ≤ 1
    · refine s_within_t h2 ?_
      rw [if_neg (by decide)]
      obtain ⟨x, -, hx, rfl⟩ := rgN (x := x1) 0 8 (by decide) h1
      refine c_mended H C hx (fun G w O => ?_)
      have R : ∀ r : Int32, r = (if x2 = 0 then nI (smS (svN T mb nN n) n G) else nI G) → p_X9_in (nI x).toInt64 0 8 (fun r_4 => if r_4 = 0 then (p_X9_bad rf' (-2) (fun r_6 u_7 => Z r w rf r_6 u_7)) else (p_X9_in x2.toInt64 0 1 (fun r_8 => if r_8 = 0 then (p_X9_bad rf' (-2) (fun r_39 u_40 => Z r w rf r_39 u_40)) else (lq3 (bX9_mend_37 T rf' (nI x) x2 (fun r' v => Z r w rf r' v)) 1000 0 0 1)))) := by
        intro r hr
        refine s_in_t (lo' := 0) (hi' := 8) (by decide) (by decide) h1 ?_
        rw [if_neg (by decide)]
        refine s_in_t (lo' := 0) (hi' := 1) (by decide) (by decide) h2 ?_
        rw [if_neg (by decide)]
        refine m_mend H hx O ?_
        rw [hr]; exact z2 _ _
      by_cases g : x2 = 0
      · rw [if_pos g]
        exact c_savedBy H C O.1 (R _ (by rw [if_pos g]))
      · rw [if_neg g]
        exact R _ (by rw [if_neg g])
    · refine s_within_f h2 ?_
      rw [if_pos rfl]
      refine s_refuse2 (s_in_t (lo' := 0) (hi' := 8) (by decide) (by decide) h1 ?_)
      rw [if_neg (by decide)]
      refine s_in_f (lo' := 0) (hi' := 1) (by decide) (by decide) h2 ?_
      rw [if_pos rfl]
      exact s_bad z1
  · refine s_within_f h1 ?_
    rw [if_pos rfl]
    refine s_refuse2 (s_in_f (lo' := 0) (hi' := 8) (by decide) (by decide) h1 ?_)
    rw [if_pos rfl]
    exact s_bad z1
end PM
