theorem it_t {c : Prop} [Decidable c] {X Y : Prop} (h : c) (hf : if c then X else Y) : X := by rw [if_pos h] at hf; exact hf
theorem it_f {c : Prop} [Decidable c] {X Y : Prop} (h : ¬ c) (hf : if c then X else Y) : Y := by rw [if_neg h] at hf; exact hf
def zb (v : Int32) : Prop := narrow .boolean (.int v) = .int v
def cpok (sp dp n : Int32) (n0 n1 : Nat) : Prop := (¬ sp < 0) ∧ (¬ dp < 0) ∧ (¬ n < 0) ∧ sp.toNatClampNeg + n.toNatClampNeg ≤ n0 ∧ dp.toNatClampNeg + n.toNatClampNeg ≤ n1
def im2 (a b : Nat) : Nat → Option Nat := fun k => if k = 0 then some a else some b
theorem im2_0 {a b : Nat} {i : Int32} (h : i = 0) : va_rf (im2 a b i.toNatClampNeg) = .ref a := by subst h; rfl
theorem im2_1 {a b : Nat} {i : Int32} (h : vp_in i 2) (h0 : ¬ i = 0) : va_rf (im2 a b i.toNatClampNeg) = .ref b := by
  obtain ⟨j, hj, rfl⟩ := vp_in_of h (by decide)
  rcases (show j = 0 ∨ j = 1 by omega) with rfl | rfl
  · exact absurd rfl h0
  · rfl
theorem va_P0 {D : va_G} {H : Heap} : va_P D vwCl [] H := fun k q h => by simp at h
/-- what every method is given of the tables: the classes, the three kinds of array, the nest mates' links -/
def XN (U : State) : Prop := va_Nw (.methodLinkNest RX8 9 yX6_init RX8) U ∧ va_Nw (.methodLinkNest RX6 9 yX0_init RX8) U ∧ va_Nw (.methodLinkNest RX6 18 yX1_init RX8) U ∧ va_Nw (.methodLinkNest RX6 25 yX3_init RX8) U ∧ va_Nw (.methodLinkNest RX6 32 yX4_init RX8) U ∧ va_Nw (.methodLinkNest RX8 29 yX5_init RX8) U ∧ va_Nw (.methodLinkNest RX8 36 yX7_init RX8) U ∧ va_Nw (.methodLinkNest RX7 104 yX8_within RX8) U ∧ va_Nw (.methodLinkNest RX5 37 yX8_hasBit RX8) U ∧ va_Nw (.methodLinkNest RX5 81 yX8_within RX8) U
def XK (D : va_G) (cI cZ cO : ClassId) (U : State) : Prop := va_K D vwCl [(cI, .int), (cZ, .boolean), (cO, .object "LeftCrest$Stage")] U ∧ XN U
theorem XN.warm {s U : State} (hW : s.WarmedH U.vm) (h : XN s) : XN U := by
  obtain ⟨h1, h2, h3, h4, h5, h6, h7, h8, h9, h10⟩ := h
  exact ⟨h1.warmM hW, h2.warmM hW, h3.warmM hW, h4.warmM hW, h5.warmM hW, h6.warmM hW, h7.warmM hW, h8.warmM hW, h9.warmM hW, h10.warmM hW⟩
theorem XN.same {s U : State} (hv : s.vm = U.vm) (h : XN s) : XN U := by
  obtain ⟨h1, h2, h3, h4, h5, h6, h7, h8, h9, h10⟩ := h
  exact ⟨h1.same rfl hv, h2.same rfl hv, h3.same rfl hv, h4.same rfl hv, h5.same rfl hv, h6.same rfl hv, h7.same rfl hv, h8.same rfl hv, h9.same rfl hv, h10.same rfl hv⟩
theorem XK.warm {D : va_G} {cI cZ cO : ClassId} {s U : State} (hW : s.WarmedH U.vm) (h : XK D cI cZ cO s) : XK D cI cZ cO U := ⟨va_K.moved hW.alike h.1, h.2.warm hW⟩
theorem XK.same {D : va_G} {cI cZ cO : ClassId} {s U : State} (hv : s.vm = U.vm) (h : XK D cI cZ cO s) : XK D cI cZ cO U := ⟨va_K.moved (by rw [hv]; exact Vm.Alike.refl U.vm) h.1, h.2.same hv⟩
theorem XK.n_X7_104 {D : va_G} {cI cZ cO : ClassId} {s : State} (h : XK D cI cZ cO s) : va_Nw (.methodLinkNest RX7 104 yX8_within RX8) s := h.2.2.2.2.2.2.2.2.1
theorem XK.n_X5_37 {D : va_G} {cI cZ cO : ClassId} {s : State} (h : XK D cI cZ cO s) : va_Nw (.methodLinkNest RX5 37 yX8_hasBit RX8) s := h.2.2.2.2.2.2.2.2.2.1
theorem XK.n_X5_81 {D : va_G} {cI cZ cO : ClassId} {s : State} (h : XK D cI cZ cO s) : va_Nw (.methodLinkNest RX5 81 yX8_within RX8) s := h.2.2.2.2.2.2.2.2.2.2
section YA
variable {D : va_G} {cI cZ cO : ClassId} {s : State} {H : Heap} {As : List Value} {wc : va_W}
theorem ps_ro (hP : va_P D vwCl wc H) (hX : XK D cI cZ cO s) : PreS s H (va_Pc As (fun U => va_P D vwCl wc U.heap ∧ XK D cI cZ cO U)) As :=
  ⟨fun a U g mk q => ⟨q.1, q.2.1, q.2.2.same rfl⟩, fun U hU hW => ⟨rfl, by rw [hU]; exact hP, hX.warm hW⟩⟩
theorem ps_rw (hP : va_P D vwCl wc H) {A : Nat → Prop} (hD : va_D A wc) (hX : XK D cI cZ cO s) : PreS s H (va_Pc As (fun U => U.heap.size = H.size ∧ va_P D vwCl wc U.heap ∧ XK D cI cZ cO U ∧ va_D (fun _ => True) wc)) As :=
  ⟨fun a U g mk q => ⟨q.1, q.2.1, q.2.2.1, q.2.2.2.1.same rfl, q.2.2.2.2⟩, fun U hU hW => ⟨rfl, by rw [hU], by rw [hU]; exact hP, hX.warm hW, hD.weaken (fun _ _ _ _ => trivial)⟩⟩
theorem pv_ro {ci q0 b : Nat} {q : vw_C} {fs : List Value} (hP : va_P D vwCl wc H) (hX : XK D cI cZ cO s) (hc : vwCl[ci]? = some q) (he : wc[q0]? = some (b, .inr (ci, fs))) : PreV s H q.1 b (va_Pc (.ref b :: As) (fun U => va_P D vwCl wc U.heap ∧ XK D cI cZ cO U)) As :=
  ⟨(ps_ro hP hX).1, va_recv hX.1 hP hc he, (ps_ro hP hX).2⟩
theorem pv_rw {ci q0 b : Nat} {q : vw_C} {fs : List Value} (hP : va_P D vwCl wc H) {A : Nat → Prop} (hD : va_D A wc) (hX : XK D cI cZ cO s) (hc : vwCl[ci]? = some q) (he : wc[q0]? = some (b, .inr (ci, fs))) : PreV s H q.1 b (va_Pc (.ref b :: As) (fun U => U.heap.size = H.size ∧ va_P D vwCl wc U.heap ∧ XK D cI cZ cO U ∧ va_D (fun _ => True) wc)) As :=
  ⟨(ps_rw hP hD hX).1, va_recv hX.1 hP hc he, (ps_rw hP hD hX).2⟩
end YA
section YB
variable {p : Program} {l : Launch} {e : Env} {R : Room} {s : State} {m : MethodId} {args : Array Value} {below : List Frame} {meth : Method} {c : Code} {H : Heap} {locs : List Loc} {cells slots : Nat} {Q : State → Prop}
variable {pc : Nat} {ls : Array Slot} {rest st0 : List Value} {a : Array Value}
theorem ya_csi {post : Int32 → Prop} (hr : va_Run p l e R s m args below meth c H locs cells slots 0 0 (F0 m pc ls st0) rest (vp_Si post a) (fun _ => False))
    (kk : ∀ r : Int32, post r → W p l e R s m args below meth c H locs cells slots Q (F0 m (pc + 3) ls (.int r :: rest))) : W p l e R s m args below meth c H locs cells slots Q (F0 m pc ls st0) := by
  intro T hT X
  obtain ⟨v, st₀, t, T', L, h0, X', hL, e1, e2, ⟨r, hv, hp, hh⟩, st⟩ := hr T hT X
  cases hv
  obtain ⟨t2, a1, b1⟩ := kk r hp T' (by rw [e1, hh, h0]) (Stand.forget X' (fun q h => (hL q h).elim))
  exact ⟨t2, st t2 a1, b1⟩
theorem ya_csl {post : Int64 → Prop} (hr : va_Run p l e R s m args below meth c H locs cells slots 0 0 (F0 m pc ls st0) rest (vp_Sl post a) (fun _ => False))
    (kk : ∀ r : Int64, post r → W p l e R s m args below meth c H locs cells slots Q (F0 m (pc + 3) ls (.long r :: rest))) : W p l e R s m args below meth c H locs cells slots Q (F0 m pc ls st0) := by
  intro T hT X
  obtain ⟨v, st₀, t, T', L, h0, X', hL, e1, e2, ⟨r, hv, hp, hh⟩, st⟩ := hr T hT X
  cases hv
  obtain ⟨t2, a1, b1⟩ := kk r hp T' (by rw [e1, hh, h0]) (Stand.forget X' (fun q h => (hL q h).elim))
  exact ⟨t2, st t2 a1, b1⟩
end YB
def lq1 {A1 : Type} (b : (A1 → Prop) → A1 → Prop) : Nat → A1 → Prop
  | 0 => fun _ => False
  | n + 1 => fun a1 => b (lq1 b n) a1
theorem lq1_0 {A1 : Type} {b : (A1 → Prop) → A1 → Prop} {a1 : A1} (h : lq1 b 0 a1) : False := h
theorem lq1_s {A1 : Type} {b : (A1 → Prop) → A1 → Prop} {n : Nat} {a1 : A1} (h : lq1 b (n + 1) a1) : b (lq1 b n) a1 := h
def lq2 {A1 A2 : Type} (b : (A1 → A2 → Prop) → A1 → A2 → Prop) : Nat → A1 → A2 → Prop
  | 0 => fun _ _ => False
  | n + 1 => fun a1 a2 => b (lq2 b n) a1 a2
theorem lq2_0 {A1 A2 : Type} {b : (A1 → A2 → Prop) → A1 → A2 → Prop} {a1 : A1} {a2 : A2} (h : lq2 b 0 a1 a2) : False := h
theorem lq2_s {A1 A2 : Type} {b : (A1 → A2 → Prop) → A1 → A2 → Prop} {n : Nat} {a1 : A1} {a2 : A2} (h : lq2 b (n + 1) a1 a2) : b (lq2 b n) a1 a2 := h
def lq3 {A1 A2 A3 : Type} (b : (A1 → A2 → A3 → Prop) → A1 → A2 → A3 → Prop) : Nat → A1 → A2 → A3 → Prop
  | 0 => fun _ _ _ => False
  | n + 1 => fun a1 a2 a3 => b (lq3 b n) a1 a2 a3
theorem lq3_0 {A1 A2 A3 : Type} {b : (A1 → A2 → A3 → Prop) → A1 → A2 → A3 → Prop} {a1 : A1} {a2 : A2} {a3 : A3} (h : lq3 b 0 a1 a2 a3) : False := h
theorem lq3_s {A1 A2 A3 : Type} {b : (A1 → A2 → A3 → Prop) → A1 → A2 → A3 → Prop} {n : Nat} {a1 : A1} {a2 : A2} {a3 : A3} (h : lq3 b (n + 1) a1 a2 a3) : b (lq3 b n) a1 a2 a3 := h
def lq4 {A1 A2 A3 A4 : Type} (b : (A1 → A2 → A3 → A4 → Prop) → A1 → A2 → A3 → A4 → Prop) : Nat → A1 → A2 → A3 → A4 → Prop
  | 0 => fun _ _ _ _ => False
  | n + 1 => fun a1 a2 a3 a4 => b (lq4 b n) a1 a2 a3 a4
theorem lq4_0 {A1 A2 A3 A4 : Type} {b : (A1 → A2 → A3 → A4 → Prop) → A1 → A2 → A3 → A4 → Prop} {a1 : A1} {a2 : A2} {a3 : A3} {a4 : A4} (h : lq4 b 0 a1 a2 a3 a4) : False := h
theorem lq4_s {A1 A2 A3 A4 : Type} {b : (A1 → A2 → A3 → A4 → Prop) → A1 → A2 → A3 → A4 → Prop} {n : Nat} {a1 : A1} {a2 : A2} {a3 : A3} {a4 : A4} (h : lq4 b (n + 1) a1 a2 a3 a4) : b (lq4 b n) a1 a2 a3 a4 := h
def lq5 {A1 A2 A3 A4 A5 : Type} (b : (A1 → A2 → A3 → A4 → A5 → Prop) → A1 → A2 → A3 → A4 → A5 → Prop) : Nat → A1 → A2 → A3 → A4 → A5 → Prop
  | 0 => fun _ _ _ _ _ => False
  | n + 1 => fun a1 a2 a3 a4 a5 => b (lq5 b n) a1 a2 a3 a4 a5
theorem lq5_0 {A1 A2 A3 A4 A5 : Type} {b : (A1 → A2 → A3 → A4 → A5 → Prop) → A1 → A2 → A3 → A4 → A5 → Prop} {a1 : A1} {a2 : A2} {a3 : A3} {a4 : A4} {a5 : A5} (h : lq5 b 0 a1 a2 a3 a4 a5) : False := h
theorem lq5_s {A1 A2 A3 A4 A5 : Type} {b : (A1 → A2 → A3 → A4 → A5 → Prop) → A1 → A2 → A3 → A4 → A5 → Prop} {n : Nat} {a1 : A1} {a2 : A2} {a3 : A3} {a4 : A4} {a5 : A5} (h : lq5 b (n + 1) a1 a2 a3 a4 a5) : b (lq5 b n) a1 a2 a3 a4 a5 := h
def lq6 {A1 A2 A3 A4 A5 A6 : Type} (b : (A1 → A2 → A3 → A4 → A5 → A6 → Prop) → A1 → A2 → A3 → A4 → A5 → A6 → Prop) : Nat → A1 → A2 → A3 → A4 → A5 → A6 → Prop
  | 0 => fun _ _ _ _ _ _ => False
  | n + 1 => fun a1 a2 a3 a4 a5 a6 => b (lq6 b n) a1 a2 a3 a4 a5 a6
theorem lq6_0 {A1 A2 A3 A4 A5 A6 : Type} {b : (A1 → A2 → A3 → A4 → A5 → A6 → Prop) → A1 → A2 → A3 → A4 → A5 → A6 → Prop} {a1 : A1} {a2 : A2} {a3 : A3} {a4 : A4} {a5 : A5} {a6 : A6} (h : lq6 b 0 a1 a2 a3 a4 a5 a6) : False := h
theorem lq6_s {A1 A2 A3 A4 A5 A6 : Type} {b : (A1 → A2 → A3 → A4 → A5 → A6 → Prop) → A1 → A2 → A3 → A4 → A5 → A6 → Prop} {n : Nat} {a1 : A1} {a2 : A2} {a3 : A3} {a4 : A4} {a5 : A5} {a6 : A6} (h : lq6 b (n + 1) a1 a2 a3 a4 a5 a6) : b (lq6 b n) a1 a2 a3 a4 a5 a6 := h
def lq7 {A1 A2 A3 A4 A5 A6 A7 : Type} (b : (A1 → A2 → A3 → A4 → A5 → A6 → A7 → Prop) → A1 → A2 → A3 → A4 → A5 → A6 → A7 → Prop) : Nat → A1 → A2 → A3 → A4 → A5 → A6 → A7 → Prop
  | 0 => fun _ _ _ _ _ _ _ => False
  | n + 1 => fun a1 a2 a3 a4 a5 a6 a7 => b (lq7 b n) a1 a2 a3 a4 a5 a6 a7
theorem lq7_0 {A1 A2 A3 A4 A5 A6 A7 : Type} {b : (A1 → A2 → A3 → A4 → A5 → A6 → A7 → Prop) → A1 → A2 → A3 → A4 → A5 → A6 → A7 → Prop} {a1 : A1} {a2 : A2} {a3 : A3} {a4 : A4} {a5 : A5} {a6 : A6} {a7 : A7} (h : lq7 b 0 a1 a2 a3 a4 a5 a6 a7) : False := h
theorem lq7_s {A1 A2 A3 A4 A5 A6 A7 : Type} {b : (A1 → A2 → A3 → A4 → A5 → A6 → A7 → Prop) → A1 → A2 → A3 → A4 → A5 → A6 → A7 → Prop} {n : Nat} {a1 : A1} {a2 : A2} {a3 : A3} {a4 : A4} {a5 : A5} {a6 : A6} {a7 : A7} (h : lq7 b (n + 1) a1 a2 a3 a4 a5 a6 a7) : b (lq7 b n) a1 a2 a3 a4 a5 a6 a7 := h
def lq8 {A1 A2 A3 A4 A5 A6 A7 A8 : Type} (b : (A1 → A2 → A3 → A4 → A5 → A6 → A7 → A8 → Prop) → A1 → A2 → A3 → A4 → A5 → A6 → A7 → A8 → Prop) : Nat → A1 → A2 → A3 → A4 → A5 → A6 → A7 → A8 → Prop
  | 0 => fun _ _ _ _ _ _ _ _ => False
  | n + 1 => fun a1 a2 a3 a4 a5 a6 a7 a8 => b (lq8 b n) a1 a2 a3 a4 a5 a6 a7 a8
theorem lq8_0 {A1 A2 A3 A4 A5 A6 A7 A8 : Type} {b : (A1 → A2 → A3 → A4 → A5 → A6 → A7 → A8 → Prop) → A1 → A2 → A3 → A4 → A5 → A6 → A7 → A8 → Prop} {a1 : A1} {a2 : A2} {a3 : A3} {a4 : A4} {a5 : A5} {a6 : A6} {a7 : A7} {a8 : A8} (h : lq8 b 0 a1 a2 a3 a4 a5 a6 a7 a8) : False := h
theorem lq8_s {A1 A2 A3 A4 A5 A6 A7 A8 : Type} {b : (A1 → A2 → A3 → A4 → A5 → A6 → A7 → A8 → Prop) → A1 → A2 → A3 → A4 → A5 → A6 → A7 → A8 → Prop} {n : Nat} {a1 : A1} {a2 : A2} {a3 : A3} {a4 : A4} {a5 : A5} {a6 : A6} {a7 : A7} {a8 : A8} (h : lq8 b (n + 1) a1 a2 a3 a4 a5 a6 a7 a8) : b (lq8 b n) a1 a2 a3 a4 a5 a6 a7 a8 := h
def lq9 {A1 A2 A3 A4 A5 A6 A7 A8 A9 : Type} (b : (A1 → A2 → A3 → A4 → A5 → A6 → A7 → A8 → A9 → Prop) → A1 → A2 → A3 → A4 → A5 → A6 → A7 → A8 → A9 → Prop) : Nat → A1 → A2 → A3 → A4 → A5 → A6 → A7 → A8 → A9 → Prop
  | 0 => fun _ _ _ _ _ _ _ _ _ => False
  | n + 1 => fun a1 a2 a3 a4 a5 a6 a7 a8 a9 => b (lq9 b n) a1 a2 a3 a4 a5 a6 a7 a8 a9
theorem lq9_0 {A1 A2 A3 A4 A5 A6 A7 A8 A9 : Type} {b : (A1 → A2 → A3 → A4 → A5 → A6 → A7 → A8 → A9 → Prop) → A1 → A2 → A3 → A4 → A5 → A6 → A7 → A8 → A9 → Prop} {a1 : A1} {a2 : A2} {a3 : A3} {a4 : A4} {a5 : A5} {a6 : A6} {a7 : A7} {a8 : A8} {a9 : A9} (h : lq9 b 0 a1 a2 a3 a4 a5 a6 a7 a8 a9) : False := h
theorem lq9_s {A1 A2 A3 A4 A5 A6 A7 A8 A9 : Type} {b : (A1 → A2 → A3 → A4 → A5 → A6 → A7 → A8 → A9 → Prop) → A1 → A2 → A3 → A4 → A5 → A6 → A7 → A8 → A9 → Prop} {n : Nat} {a1 : A1} {a2 : A2} {a3 : A3} {a4 : A4} {a5 : A5} {a6 : A6} {a7 : A7} {a8 : A8} {a9 : A9} (h : lq9 b (n + 1) a1 a2 a3 a4 a5 a6 a7 a8 a9) : b (lq9 b n) a1 a2 a3 a4 a5 a6 a7 a8 a9 := h
def lq10 {A1 A2 A3 A4 A5 A6 A7 A8 A9 A10 : Type} (b : (A1 → A2 → A3 → A4 → A5 → A6 → A7 → A8 → A9 → A10 → Prop) → A1 → A2 → A3 → A4 → A5 → A6 → A7 → A8 → A9 → A10 → Prop) : Nat → A1 → A2 → A3 → A4 → A5 → A6 → A7 → A8 → A9 → A10 → Prop
  | 0 => fun _ _ _ _ _ _ _ _ _ _ => False
  | n + 1 => fun a1 a2 a3 a4 a5 a6 a7 a8 a9 a10 => b (lq10 b n) a1 a2 a3 a4 a5 a6 a7 a8 a9 a10
theorem lq10_0 {A1 A2 A3 A4 A5 A6 A7 A8 A9 A10 : Type} {b : (A1 → A2 → A3 → A4 → A5 → A6 → A7 → A8 → A9 → A10 → Prop) → A1 → A2 → A3 → A4 → A5 → A6 → A7 → A8 → A9 → A10 → Prop} {a1 : A1} {a2 : A2} {a3 : A3} {a4 : A4} {a5 : A5} {a6 : A6} {a7 : A7} {a8 : A8} {a9 : A9} {a10 : A10} (h : lq10 b 0 a1 a2 a3 a4 a5 a6 a7 a8 a9 a10) : False := h
theorem lq10_s {A1 A2 A3 A4 A5 A6 A7 A8 A9 A10 : Type} {b : (A1 → A2 → A3 → A4 → A5 → A6 → A7 → A8 → A9 → A10 → Prop) → A1 → A2 → A3 → A4 → A5 → A6 → A7 → A8 → A9 → A10 → Prop} {n : Nat} {a1 : A1} {a2 : A2} {a3 : A3} {a4 : A4} {a5 : A5} {a6 : A6} {a7 : A7} {a8 : A8} {a9 : A9} {a10 : A10} (h : lq10 b (n + 1) a1 a2 a3 a4 a5 a6 a7 a8 a9 a10) : b (lq10 b n) a1 a2 a3 a4 a5 a6 a7 a8 a9 a10 := h
def lq11 {A1 A2 A3 A4 A5 A6 A7 A8 A9 A10 A11 : Type} (b : (A1 → A2 → A3 → A4 → A5 → A6 → A7 → A8 → A9 → A10 → A11 → Prop) → A1 → A2 → A3 → A4 → A5 → A6 → A7 → A8 → A9 → A10 → A11 → Prop) : Nat → A1 → A2 → A3 → A4 → A5 → A6 → A7 → A8 → A9 → A10 → A11 → Prop
  | 0 => fun _ _ _ _ _ _ _ _ _ _ _ => False
  | n + 1 => fun a1 a2 a3 a4 a5 a6 a7 a8 a9 a10 a11 => b (lq11 b n) a1 a2 a3 a4 a5 a6 a7 a8 a9 a10 a11
theorem lq11_0 {A1 A2 A3 A4 A5 A6 A7 A8 A9 A10 A11 : Type} {b : (A1 → A2 → A3 → A4 → A5 → A6 → A7 → A8 → A9 → A10 → A11 → Prop) → A1 → A2 → A3 → A4 → A5 → A6 → A7 → A8 → A9 → A10 → A11 → Prop} {a1 : A1} {a2 : A2} {a3 : A3} {a4 : A4} {a5 : A5} {a6 : A6} {a7 : A7} {a8 : A8} {a9 : A9} {a10 : A10} {a11 : A11} (h : lq11 b 0 a1 a2 a3 a4 a5 a6 a7 a8 a9 a10 a11) : False := h
theorem lq11_s {A1 A2 A3 A4 A5 A6 A7 A8 A9 A10 A11 : Type} {b : (A1 → A2 → A3 → A4 → A5 → A6 → A7 → A8 → A9 → A10 → A11 → Prop) → A1 → A2 → A3 → A4 → A5 → A6 → A7 → A8 → A9 → A10 → A11 → Prop} {n : Nat} {a1 : A1} {a2 : A2} {a3 : A3} {a4 : A4} {a5 : A5} {a6 : A6} {a7 : A7} {a8 : A8} {a9 : A9} {a10 : A10} {a11 : A11} (h : lq11 b (n + 1) a1 a2 a3 a4 a5 a6 a7 a8 a9 a10 a11) : b (lq11 b n) a1 a2 a3 a4 a5 a6 a7 a8 a9 a10 a11 := h
def lq12 {A1 A2 A3 A4 A5 A6 A7 A8 A9 A10 A11 A12 : Type} (b : (A1 → A2 → A3 → A4 → A5 → A6 → A7 → A8 → A9 → A10 → A11 → A12 → Prop) → A1 → A2 → A3 → A4 → A5 → A6 → A7 → A8 → A9 → A10 → A11 → A12 → Prop) : Nat → A1 → A2 → A3 → A4 → A5 → A6 → A7 → A8 → A9 → A10 → A11 → A12 → Prop
  | 0 => fun _ _ _ _ _ _ _ _ _ _ _ _ => False
  | n + 1 => fun a1 a2 a3 a4 a5 a6 a7 a8 a9 a10 a11 a12 => b (lq12 b n) a1 a2 a3 a4 a5 a6 a7 a8 a9 a10 a11 a12
theorem lq12_0 {A1 A2 A3 A4 A5 A6 A7 A8 A9 A10 A11 A12 : Type} {b : (A1 → A2 → A3 → A4 → A5 → A6 → A7 → A8 → A9 → A10 → A11 → A12 → Prop) → A1 → A2 → A3 → A4 → A5 → A6 → A7 → A8 → A9 → A10 → A11 → A12 → Prop} {a1 : A1} {a2 : A2} {a3 : A3} {a4 : A4} {a5 : A5} {a6 : A6} {a7 : A7} {a8 : A8} {a9 : A9} {a10 : A10} {a11 : A11} {a12 : A12} (h : lq12 b 0 a1 a2 a3 a4 a5 a6 a7 a8 a9 a10 a11 a12) : False := h
theorem lq12_s {A1 A2 A3 A4 A5 A6 A7 A8 A9 A10 A11 A12 : Type} {b : (A1 → A2 → A3 → A4 → A5 → A6 → A7 → A8 → A9 → A10 → A11 → A12 → Prop) → A1 → A2 → A3 → A4 → A5 → A6 → A7 → A8 → A9 → A10 → A11 → A12 → Prop} {n : Nat} {a1 : A1} {a2 : A2} {a3 : A3} {a4 : A4} {a5 : A5} {a6 : A6} {a7 : A7} {a8 : A8} {a9 : A9} {a10 : A10} {a11 : A11} {a12 : A12} (h : lq12 b (n + 1) a1 a2 a3 a4 a5 a6 a7 a8 a9 a10 a11 a12) : b (lq12 b n) a1 a2 a3 a4 a5 a6 a7 a8 a9 a10 a11 a12 := h
