def p_X0_isFull (a0_size : Int32) (Q : Int32 → Prop) : Prop :=
  if a0_size < 8 then (Q 0) else (Q 1)
def rmX0_isFull : Room := { frames := 0, cells := 0, slots := 0, locals := 0 }
set_option maxHeartbeats 4000000 in
set_option maxRecDepth 100000 in
theorem c_X0_isFull (l : Launch) (D : va_G) (cI cZ cO : ClassId) (q_a0 q_a0_yards q_a0_truth q_a0_notes q_a0_words q_a0_mud : Nat) (a0_size : Int32) (Q : Int32 → Prop) (hf : p_X0_isFull a0_size Q) : Met l yX0_isFull wsX0_isFull rmX0_isFull (va_Pc [.ref q_a0] (fun U => va_P D vwCl [(q_a0, .inr (0, [.ref q_a0_yards, .ref q_a0_truth, .ref q_a0_notes, .ref q_a0_words, .ref q_a0_mud, .int a0_size]))] U.heap ∧ XK D cI cZ cO U)) (vp_Si Q) 0 0 (fun _ => False) := by
  refine Met.ofW (cc := cX0_isFull) (maxL := 1) (ret := (some .boolean)) (by decide) rfl ?_
  intro p e s m args below meth c s₁ B hml hv
  obtain ⟨rfl, hP, hX⟩ := hv
  have hK := hX.1
  have hx := B.exec
  have hb := B.bytes
  have hr := B.returns
  have hts := atoms_spec (ws := wsX0_isFull) B.pre
  have hown : s.vm.findClass RX0 = some m.cls := findClass_of_methodNamed B.named
  have hlocks := B.notSynchronized
  have in_X0 : ∀ w ∈ wsX00, w ∈ wsX0_isFull := fun _ h => List.mem_cons_of_mem _ (List.mem_append_right _ h)
  have kf_27 := hts (.fieldLink RX0 27 "LeftCrest$Bends" "size" "I") (by decide +kernel)
  generalize hQQ : MQ below _ _ s _ _ _ = QQ
  have hl := lv_entry ([.ref q_a0]) (n := 1) (Nat.le_of_ble_eq_true rfl)
  rw [lg_entry_eq]
  generalize (lg_sl ([.ref q_a0]) ++ List.replicate (1 - (lg_sl ([.ref q_a0])).length) Slot.unset).toArray = ls at hl ⊢
  have hl : lv_has ls 1 [(0, .ref q_a0)] := hl
  unfold p_X0_isFull at hf
  refine lv_aload_n hx hb dX0_isFull_0 rfl (lv_at hl 0 rfl) ?_
  refine va_get (D := D) (ci := 0) (v := .int a0_size) (C := RX0) (T := TX0) (N := 6) hx hb hts in_X0 hown hK hP 0 rfl rfl 5 (by decide) kf_27 (fun _ h9 => h9) rfl dX0_isFull_1 ?_
  refine lv_bipush (v := 8) hx hb dX0_isFull_4 (by decide) ?_
  refine lv_icmp_lt (tgt := 13) hx hb dX0_isFull_6 (by decide) (fun c_1 => ?_) (fun c_1 => ?_)
  · have hf := it_t c_1 hf
    refine lv_iconst (v := 0) hx hb dX0_isFull_13 (by decide) ?_
    subst hQQ
    exact W.zret hx hb hr rfl (fun t ht hW => ⟨_, rfl, hf, ht⟩) (fun _ h => absurd h List.not_mem_nil) dX0_isFull_14
  · have hf := it_f c_1 hf
    refine lv_iconst (v := 1) hx hb dX0_isFull_9 (by decide) ?_
    refine lv_goto (tgt := 14) hx hb dX0_isFull_10 (by decide) ?_
    subst hQQ
    exact W.zret hx hb hr rfl (fun t ht hW => ⟨_, rfl, hf, ht⟩) (fun _ h => absurd h List.not_mem_nil) dX0_isFull_14
def p_X0_has (a0_size : Int32) (x1 : Int32) (Q : Int32 → Prop) : Prop :=
  if x1 < 0 then (Q 0) else (if a0_size ≤ x1 then (Q 0) else (Q 1))
def rmX0_has : Room := { frames := 0, cells := 0, slots := 0, locals := 0 }
set_option maxHeartbeats 4000000 in
set_option maxRecDepth 100000 in
theorem c_X0_has (l : Launch) (D : va_G) (cI cZ cO : ClassId) (q_a0 q_a0_yards q_a0_truth q_a0_notes q_a0_words q_a0_mud : Nat) (a0_size : Int32) (x1 : Int32) (Q : Int32 → Prop) (hf : p_X0_has a0_size x1 Q) : Met l yX0_has wsX0_has rmX0_has (va_Pc [.ref q_a0, .int x1] (fun U => va_P D vwCl [(q_a0, .inr (0, [.ref q_a0_yards, .ref q_a0_truth, .ref q_a0_notes, .ref q_a0_words, .ref q_a0_mud, .int a0_size]))] U.heap ∧ XK D cI cZ cO U)) (vp_Si Q) 0 0 (fun _ => False) := by
  refine Met.ofW (cc := cX0_has) (maxL := 2) (ret := (some .boolean)) (by decide) rfl ?_
  intro p e s m args below meth c s₁ B hml hv
  obtain ⟨rfl, hP, hX⟩ := hv
  have hK := hX.1
  have hx := B.exec
  have hb := B.bytes
  have hr := B.returns
  have hts := atoms_spec (ws := wsX0_has) B.pre
  have hown : s.vm.findClass RX0 = some m.cls := findClass_of_methodNamed B.named
  have hlocks := B.notSynchronized
  have in_X0 : ∀ w ∈ wsX00, w ∈ wsX0_has := fun _ h => List.mem_cons_of_mem _ (List.mem_append_right _ h)
  have kf_27 := hts (.fieldLink RX0 27 "LeftCrest$Bends" "size" "I") (by decide +kernel)
  generalize hQQ : MQ below _ _ s _ _ _ = QQ
  have hl := lv_entry ([.ref q_a0, .int x1]) (n := 2) (Nat.le_of_ble_eq_true rfl)
  rw [lg_entry_eq]
  generalize (lg_sl ([.ref q_a0, .int x1]) ++ List.replicate (2 - (lg_sl ([.ref q_a0, .int x1])).length) Slot.unset).toArray = ls at hl ⊢
  have hl : lv_has ls 2 [(0, .ref q_a0), (1, .int x1)] := hl
  unfold p_X0_has at hf
  refine lv_iload_n hx hb dX0_has_0 rfl (lv_at hl 1 rfl) ?_
  refine lv_if_lt (tgt := 16) hx hb dX0_has_1 (by decide) (fun c_1 => ?_) (fun c_1 => ?_)
  · have hf := it_t c_1 hf
    refine lv_iconst (v := 0) hx hb dX0_has_16 (by decide) ?_
    subst hQQ
    exact W.zret hx hb hr rfl (fun t ht hW => ⟨_, rfl, hf, ht⟩) (fun _ h => absurd h List.not_mem_nil) dX0_has_17
  · have hf := it_f c_1 hf
    refine lv_iload_n hx hb dX0_has_4 rfl (lv_at hl 1 rfl) ?_
    refine lv_aload_n hx hb dX0_has_5 rfl (lv_at hl 0 rfl) ?_
    refine va_get (D := D) (ci := 0) (v := .int a0_size) (C := RX0) (T := TX0) (N := 6) hx hb hts in_X0 hown hK hP 0 rfl rfl 5 (by decide) kf_27 (fun _ h9 => h9) rfl dX0_has_6 ?_
    refine lv_icmp_ge (tgt := 16) hx hb dX0_has_9 (by decide) (fun c_2 => ?_) (fun c_2 => ?_)
    · have hf := it_t c_2 hf
      refine lv_iconst (v := 0) hx hb dX0_has_16 (by decide) ?_
      subst hQQ
      exact W.zret hx hb hr rfl (fun t ht hW => ⟨_, rfl, hf, ht⟩) (fun _ h => absurd h List.not_mem_nil) dX0_has_17
    · have hf := it_f c_2 hf
      refine lv_iconst (v := 1) hx hb dX0_has_12 (by decide) ?_
      refine lv_goto (tgt := 17) hx hb dX0_has_13 (by decide) ?_
      subst hQQ
      exact W.zret hx hb hr rfl (fun t ht hW => ⟨_, rfl, hf, ht⟩) (fun _ h => absurd h List.not_mem_nil) dX0_has_17
def p_X0_add (a0_yards : Nat → Int32) (a0_truth : Nat → Int32) (a0_notes : Nat → Int32) (a0_words : Nat → Int32) (a0_mud : Nat → Int32) (a0_size : Int32) (x1 : Int32) (x2 : Int32) (x3 : Int32) (x4 : Int32) (Q : Int32 → (Nat → Int32) → (Nat → Int32) → (Nat → Int32) → (Nat → Int32) → (Nat → Int32) → Int32 → Prop) : Prop :=
  p_X0_isFull a0_size (fun r_1 => if r_1 = 0 then (vp_in a0_size 8 ∧ (vp_in a0_size 8 ∧ (vp_in a0_size 8 ∧ (vp_in a0_size 8 ∧ (vp_in a0_size 8 ∧ (Q ((a0_size + 1) - 1) (upd a0_yards (a0_size.toNatClampNeg) x1) (upd a0_truth (a0_size.toNatClampNeg) x2) (upd a0_notes (a0_size.toNatClampNeg) x3) (upd a0_words (a0_size.toNatClampNeg) x4) (upd a0_mud (a0_size.toNatClampNeg) 0) (a0_size + 1))))))) else (Q (-4) a0_yards a0_truth a0_notes a0_words a0_mud a0_size))
def rmX0_add : Room := { frames := 1, cells := 0, slots := 0, locals := 20 }
set_option maxHeartbeats 4000000 in
set_option maxRecDepth 100000 in
theorem c_X0_add (l : Launch) (D : va_G) (cI cZ cO : ClassId) (q_a0 q_a0_yards q_a0_truth q_a0_notes q_a0_words q_a0_mud : Nat) (a0_size : Int32) (a0_yards : Nat → Int32) (a0_truth : Nat → Int32) (a0_notes : Nat → Int32) (a0_words : Nat → Int32) (a0_mud : Nat → Int32) (sz : Nat) (x1 : Int32) (x2 : Int32) (x3 : Int32) (x4 : Int32) (Q : Int32 → (Nat → Int32) → (Nat → Int32) → (Nat → Int32) → (Nat → Int32) → (Nat → Int32) → Int32 → Prop) (hf : p_X0_add a0_yards a0_truth a0_notes a0_words a0_mud a0_size x1 x2 x3 x4 Q) : Met l yX0_add wsX0_add rmX0_add (va_Pc [.ref q_a0, .int x1, .int x2, .int x3, .int x4] (fun U => U.heap.size = sz ∧ va_P D vwCl [(q_a0, .inr (0, [.ref q_a0_yards, .ref q_a0_truth, .ref q_a0_notes, .ref q_a0_words, .ref q_a0_mud, .int a0_size])), (q_a0_yards, .inl (cI, 8, .inl a0_yards)), (q_a0_truth, .inl (cI, 8, .inl a0_truth)), (q_a0_notes, .inl (cI, 8, .inl a0_notes)), (q_a0_words, .inl (cI, 8, .inl a0_words)), (q_a0_mud, .inl (cI, 8, .inl a0_mud))] U.heap ∧ XK D cI cZ cO U ∧ va_D (fun _ => True) [(q_a0, .inr (0, [.ref q_a0_yards, .ref q_a0_truth, .ref q_a0_notes, .ref q_a0_words, .ref q_a0_mud, .int a0_size])), (q_a0_yards, .inl (cI, 8, .inl a0_yards)), (q_a0_truth, .inl (cI, 8, .inl a0_truth)), (q_a0_notes, .inl (cI, 8, .inl a0_notes)), (q_a0_words, .inl (cI, 8, .inl a0_words)), (q_a0_mud, .inl (cI, 8, .inl a0_mud))])) (va_Qi (fun r (u : (Nat → Int32) × (Nat → Int32) × (Nat → Int32) × (Nat → Int32) × (Nat → Int32) × Int32) => Q r u.1 u.2.1 u.2.2.1 u.2.2.2.1 u.2.2.2.2.1 u.2.2.2.2.2) (fun (u : (Nat → Int32) × (Nat → Int32) × (Nat → Int32) × (Nat → Int32) × (Nat → Int32) × Int32) t => va_P D vwCl [(q_a0, .inr (0, [.ref q_a0_yards, .ref q_a0_truth, .ref q_a0_notes, .ref q_a0_words, .ref q_a0_mud, .int u.2.2.2.2.2])), (q_a0_yards, .inl (cI, 8, .inl u.1)), (q_a0_truth, .inl (cI, 8, .inl u.2.1)), (q_a0_notes, .inl (cI, 8, .inl u.2.2.1)), (q_a0_words, .inl (cI, 8, .inl u.2.2.2.1)), (q_a0_mud, .inl (cI, 8, .inl u.2.2.2.2.1))] t.heap ∧ va_D (va_A [(q_a0, .inr (0, [.ref q_a0_yards, .ref q_a0_truth, .ref q_a0_notes, .ref q_a0_words, .ref q_a0_mud, .int a0_size])), (q_a0_yards, .inl (cI, 8, .inl a0_yards)), (q_a0_truth, .inl (cI, 8, .inl a0_truth)), (q_a0_notes, .inl (cI, 8, .inl a0_notes)), (q_a0_words, .inl (cI, 8, .inl a0_words)), (q_a0_mud, .inl (cI, 8, .inl a0_mud))] sz) [(q_a0, .inr (0, [.ref q_a0_yards, .ref q_a0_truth, .ref q_a0_notes, .ref q_a0_words, .ref q_a0_mud, .int u.2.2.2.2.2])), (q_a0_yards, .inl (cI, 8, .inl u.1)), (q_a0_truth, .inl (cI, 8, .inl u.2.1)), (q_a0_notes, .inl (cI, 8, .inl u.2.2.1)), (q_a0_words, .inl (cI, 8, .inl u.2.2.2.1)), (q_a0_mud, .inl (cI, 8, .inl u.2.2.2.2.1))]) (va_A [(q_a0, .inr (0, [.ref q_a0_yards, .ref q_a0_truth, .ref q_a0_notes, .ref q_a0_words, .ref q_a0_mud, .int a0_size])), (q_a0_yards, .inl (cI, 8, .inl a0_yards)), (q_a0_truth, .inl (cI, 8, .inl a0_truth)), (q_a0_notes, .inl (cI, 8, .inl a0_notes)), (q_a0_words, .inl (cI, 8, .inl a0_words)), (q_a0_mud, .inl (cI, 8, .inl a0_mud))] sz)) 0 0 (va_A [(q_a0, .inr (0, [.ref q_a0_yards, .ref q_a0_truth, .ref q_a0_notes, .ref q_a0_words, .ref q_a0_mud, .int a0_size])), (q_a0_yards, .inl (cI, 8, .inl a0_yards)), (q_a0_truth, .inl (cI, 8, .inl a0_truth)), (q_a0_notes, .inl (cI, 8, .inl a0_notes)), (q_a0_words, .inl (cI, 8, .inl a0_words)), (q_a0_mud, .inl (cI, 8, .inl a0_mud))] sz) := by
  refine Met.ofW (cc := cX0_add) (maxL := 5) (ret := (some .int)) (by decide) rfl ?_
  intro p e s m args below meth c s₁ B hml hv
  obtain ⟨rfl, hsz, hP, hX, hD0⟩ := hv
  have hK := hX.1
  have hx := B.exec
  have hb := B.bytes
  have hr := B.returns
  have hts := atoms_spec (ws := wsX0_add) B.pre
  have hown : s.vm.findClass RX0 = some m.cls := findClass_of_methodNamed B.named
  have hlocks := B.notSynchronized
  have in_X0 : ∀ w ∈ wsX00, w ∈ wsX0_add := fun _ h => List.mem_cons_of_mem _ (List.mem_append_right _ h)
  have kf_9 := hts (.fieldLink RX0 9 "LeftCrest$Bends" "yards" "[I") (by decide +kernel)
  have kf_27 := hts (.fieldLink RX0 27 "LeftCrest$Bends" "size" "I") (by decide +kernel)
  have kf_15 := hts (.fieldLink RX0 15 "LeftCrest$Bends" "truth" "[I") (by decide +kernel)
  have kf_18 := hts (.fieldLink RX0 18 "LeftCrest$Bends" "notes" "[I") (by decide +kernel)
  have kf_21 := hts (.fieldLink RX0 21 "LeftCrest$Bends" "words" "[I") (by decide +kernel)
  have kf_24 := hts (.fieldLink RX0 24 "LeftCrest$Bends" "mud" "[I") (by decide +kernel)
  subst hsz
  have hD := hD0.self (sz := s.heap.size)
  generalize hAe : va_A [(q_a0, .inr (0, [.ref q_a0_yards, .ref q_a0_truth, .ref q_a0_notes, .ref q_a0_words, .ref q_a0_mud, .int a0_size])), (q_a0_yards, .inl (cI, 8, .inl a0_yards)), (q_a0_truth, .inl (cI, 8, .inl a0_truth)), (q_a0_notes, .inl (cI, 8, .inl a0_notes)), (q_a0_words, .inl (cI, 8, .inl a0_words)), (q_a0_mud, .inl (cI, 8, .inl a0_mud))] s.heap.size = A at hD ⊢
  have hA : ∀ q : Nat, s.heap.size ≤ q → A q := fun q h => by rw [← hAe]; exact Or.inr h
  have hS : va_S A s.heap s.heap [] := va_S.rf
  have hP : va_P D vwCl [(q_a0, .inr (0, [.ref q_a0_yards, .ref q_a0_truth, .ref q_a0_notes, .ref q_a0_words, .ref q_a0_mud, .int a0_size])), (q_a0_yards, .inl (cI, 8, .inl a0_yards)), (q_a0_truth, .inl (cI, 8, .inl a0_truth)), (q_a0_notes, .inl (cI, 8, .inl a0_notes)), (q_a0_words, .inl (cI, 8, .inl a0_words)), (q_a0_mud, .inl (cI, 8, .inl a0_mud))] s.heap := hP
  generalize hQQ : MQ below _ _ s _ _ _ = QQ
  have hl := lv_entry ([.ref q_a0, .int x1, .int x2, .int x3, .int x4]) (n := 5) (Nat.le_of_ble_eq_true rfl)
  rw [lg_entry_eq]
  generalize (lg_sl ([.ref q_a0, .int x1, .int x2, .int x3, .int x4]) ++ List.replicate (5 - (lg_sl ([.ref q_a0, .int x1, .int x2, .int x3, .int x4])).length) Slot.unset).toArray = ls at hl ⊢
  have hl : lv_has ls 5 [(0, .ref q_a0), (1, .int x1), (2, .int x2), (3, .int x3), (4, .int x4)] := hl
  unfold p_X0_add at hf
  refine lv_aload_n hx hb dX0_add_0 rfl (lv_at hl 0 rfl) ?_
  refine ya_csi (va_runV (As := []) (rest := []) ⟨hx, hb, hml, hown, hts⟩ (c_X0_isFull l D cI cZ cO q_a0 q_a0_yards q_a0_truth q_a0_notes q_a0_words q_a0_mud a0_size  _ hf) (cwV 0 hts gX0_add_X0_isFull rfl rfl rfl (by decide +kernel) ⟨Nat.le_of_ble_eq_true rfl, Nat.le_of_ble_eq_true rfl⟩) (pv_ro (ci := 0) (q0 := 0) (hP.sub [0] rfl) hX rfl rfl) rfl rfl hl.1 rfl (lv_room (Nat.le_of_ble_eq_true rfl)) dX0_add_1 ⟨Nat.zero_le _, Nat.zero_le _⟩) (fun r_1 hf => ?_)
  refine lv_if_eq (tgt := 10) hx hb dX0_add_4 (by decide) (fun c_2 => ?_) (fun c_2 => ?_)
  · have hf := it_t c_2 hf
    refine lv_aload_n hx hb dX0_add_10 rfl (lv_at hl 0 rfl) ?_
    refine va_get (D := D) (ci := 0) (v := .ref q_a0_yards) (C := RX0) (T := TX0) (N := 6) hx hb hts in_X0 hown hK hP 0 rfl rfl 0 (by decide) kf_9 (fun _ h9 => h9) rfl dX0_add_11 ?_
    refine lv_aload_n hx hb dX0_add_14 rfl (lv_at hl 0 rfl) ?_
    refine va_get (D := D) (ci := 0) (v := .int a0_size) (C := RX0) (T := TX0) (N := 6) hx hb hts in_X0 hown hK hP 0 rfl rfl 5 (by decide) kf_27 (fun _ h9 => h9) rfl dX0_add_15 ?_
    refine lv_iload_n hx hb dX0_add_18 rfl (lv_at hl 1 rfl) ?_
    refine va_iast hx hb hK hP hD hS 1 0 rfl rfl hf.1 dX0_add_19 (fun H locs hP hD hS => ?_)
    have hP : va_P D vwCl [(q_a0, .inr (0, [.ref q_a0_yards, .ref q_a0_truth, .ref q_a0_notes, .ref q_a0_words, .ref q_a0_mud, .int a0_size])), (q_a0_yards, .inl (cI, 8, .inl (upd a0_yards (a0_size.toNatClampNeg) x1))), (q_a0_truth, .inl (cI, 8, .inl a0_truth)), (q_a0_notes, .inl (cI, 8, .inl a0_notes)), (q_a0_words, .inl (cI, 8, .inl a0_words)), (q_a0_mud, .inl (cI, 8, .inl a0_mud))] H := hP
    have hD : va_D A [(q_a0, .inr (0, [.ref q_a0_yards, .ref q_a0_truth, .ref q_a0_notes, .ref q_a0_words, .ref q_a0_mud, .int a0_size])), (q_a0_yards, .inl (cI, 8, .inl (upd a0_yards (a0_size.toNatClampNeg) x1))), (q_a0_truth, .inl (cI, 8, .inl a0_truth)), (q_a0_notes, .inl (cI, 8, .inl a0_notes)), (q_a0_words, .inl (cI, 8, .inl a0_words)), (q_a0_mud, .inl (cI, 8, .inl a0_mud))] := hD
    have hf := hf.2
    refine lv_aload_n hx hb dX0_add_20 rfl (lv_at hl 0 rfl) ?_
    refine va_get (D := D) (ci := 0) (v := .ref q_a0_truth) (C := RX0) (T := TX0) (N := 6) hx hb hts in_X0 hown hK hP 0 rfl rfl 1 (by decide) kf_15 (fun _ h9 => h9) rfl dX0_add_21 ?_
    refine lv_aload_n hx hb dX0_add_24 rfl (lv_at hl 0 rfl) ?_
    refine va_get (D := D) (ci := 0) (v := .int a0_size) (C := RX0) (T := TX0) (N := 6) hx hb hts in_X0 hown hK hP 0 rfl rfl 5 (by decide) kf_27 (fun _ h9 => h9) rfl dX0_add_25 ?_
    refine lv_iload_n hx hb dX0_add_28 rfl (lv_at hl 2 rfl) ?_
    refine va_iast hx hb hK hP hD hS 2 0 rfl rfl hf.1 dX0_add_29 (fun H locs hP hD hS => ?_)
    have hP : va_P D vwCl [(q_a0, .inr (0, [.ref q_a0_yards, .ref q_a0_truth, .ref q_a0_notes, .ref q_a0_words, .ref q_a0_mud, .int a0_size])), (q_a0_yards, .inl (cI, 8, .inl (upd a0_yards (a0_size.toNatClampNeg) x1))), (q_a0_truth, .inl (cI, 8, .inl (upd a0_truth (a0_size.toNatClampNeg) x2))), (q_a0_notes, .inl (cI, 8, .inl a0_notes)), (q_a0_words, .inl (cI, 8, .inl a0_words)), (q_a0_mud, .inl (cI, 8, .inl a0_mud))] H := hP
    have hD : va_D A [(q_a0, .inr (0, [.ref q_a0_yards, .ref q_a0_truth, .ref q_a0_notes, .ref q_a0_words, .ref q_a0_mud, .int a0_size])), (q_a0_yards, .inl (cI, 8, .inl (upd a0_yards (a0_size.toNatClampNeg) x1))), (q_a0_truth, .inl (cI, 8, .inl (upd a0_truth (a0_size.toNatClampNeg) x2))), (q_a0_notes, .inl (cI, 8, .inl a0_notes)), (q_a0_words, .inl (cI, 8, .inl a0_words)), (q_a0_mud, .inl (cI, 8, .inl a0_mud))] := hD
    have hf := hf.2
    refine lv_aload_n hx hb dX0_add_30 rfl (lv_at hl 0 rfl) ?_
    refine va_get (D := D) (ci := 0) (v := .ref q_a0_notes) (C := RX0) (T := TX0) (N := 6) hx hb hts in_X0 hown hK hP 0 rfl rfl 2 (by decide) kf_18 (fun _ h9 => h9) rfl dX0_add_31 ?_
    refine lv_aload_n hx hb dX0_add_34 rfl (lv_at hl 0 rfl) ?_
    refine va_get (D := D) (ci := 0) (v := .int a0_size) (C := RX0) (T := TX0) (N := 6) hx hb hts in_X0 hown hK hP 0 rfl rfl 5 (by decide) kf_27 (fun _ h9 => h9) rfl dX0_add_35 ?_
    refine lv_iload_n hx hb dX0_add_38 rfl (lv_at hl 3 rfl) ?_
    refine va_iast hx hb hK hP hD hS 3 0 rfl rfl hf.1 dX0_add_39 (fun H locs hP hD hS => ?_)
    have hP : va_P D vwCl [(q_a0, .inr (0, [.ref q_a0_yards, .ref q_a0_truth, .ref q_a0_notes, .ref q_a0_words, .ref q_a0_mud, .int a0_size])), (q_a0_yards, .inl (cI, 8, .inl (upd a0_yards (a0_size.toNatClampNeg) x1))), (q_a0_truth, .inl (cI, 8, .inl (upd a0_truth (a0_size.toNatClampNeg) x2))), (q_a0_notes, .inl (cI, 8, .inl (upd a0_notes (a0_size.toNatClampNeg) x3))), (q_a0_words, .inl (cI, 8, .inl a0_words)), (q_a0_mud, .inl (cI, 8, .inl a0_mud))] H := hP
    have hD : va_D A [(q_a0, .inr (0, [.ref q_a0_yards, .ref q_a0_truth, .ref q_a0_notes, .ref q_a0_words, .ref q_a0_mud, .int a0_size])), (q_a0_yards, .inl (cI, 8, .inl (upd a0_yards (a0_size.toNatClampNeg) x1))), (q_a0_truth, .inl (cI, 8, .inl (upd a0_truth (a0_size.toNatClampNeg) x2))), (q_a0_notes, .inl (cI, 8, .inl (upd a0_notes (a0_size.toNatClampNeg) x3))), (q_a0_words, .inl (cI, 8, .inl a0_words)), (q_a0_mud, .inl (cI, 8, .inl a0_mud))] := hD
    have hf := hf.2
    refine lv_aload_n hx hb dX0_add_40 rfl (lv_at hl 0 rfl) ?_
    refine va_get (D := D) (ci := 0) (v := .ref q_a0_words) (C := RX0) (T := TX0) (N := 6) hx hb hts in_X0 hown hK hP 0 rfl rfl 3 (by decide) kf_21 (fun _ h9 => h9) rfl dX0_add_41 ?_
    refine lv_aload_n hx hb dX0_add_44 rfl (lv_at hl 0 rfl) ?_
    refine va_get (D := D) (ci := 0) (v := .int a0_size) (C := RX0) (T := TX0) (N := 6) hx hb hts in_X0 hown hK hP 0 rfl rfl 5 (by decide) kf_27 (fun _ h9 => h9) rfl dX0_add_45 ?_
    refine lv_iload hx hb dX0_add_48 (lv_at hl 4 rfl) ?_
    refine va_iast hx hb hK hP hD hS 4 0 rfl rfl hf.1 dX0_add_50 (fun H locs hP hD hS => ?_)
    have hP : va_P D vwCl [(q_a0, .inr (0, [.ref q_a0_yards, .ref q_a0_truth, .ref q_a0_notes, .ref q_a0_words, .ref q_a0_mud, .int a0_size])), (q_a0_yards, .inl (cI, 8, .inl (upd a0_yards (a0_size.toNatClampNeg) x1))), (q_a0_truth, .inl (cI, 8, .inl (upd a0_truth (a0_size.toNatClampNeg) x2))), (q_a0_notes, .inl (cI, 8, .inl (upd a0_notes (a0_size.toNatClampNeg) x3))), (q_a0_words, .inl (cI, 8, .inl (upd a0_words (a0_size.toNatClampNeg) x4))), (q_a0_mud, .inl (cI, 8, .inl a0_mud))] H := hP
    have hD : va_D A [(q_a0, .inr (0, [.ref q_a0_yards, .ref q_a0_truth, .ref q_a0_notes, .ref q_a0_words, .ref q_a0_mud, .int a0_size])), (q_a0_yards, .inl (cI, 8, .inl (upd a0_yards (a0_size.toNatClampNeg) x1))), (q_a0_truth, .inl (cI, 8, .inl (upd a0_truth (a0_size.toNatClampNeg) x2))), (q_a0_notes, .inl (cI, 8, .inl (upd a0_notes (a0_size.toNatClampNeg) x3))), (q_a0_words, .inl (cI, 8, .inl (upd a0_words (a0_size.toNatClampNeg) x4))), (q_a0_mud, .inl (cI, 8, .inl a0_mud))] := hD
    have hf := hf.2
    refine lv_aload_n hx hb dX0_add_51 rfl (lv_at hl 0 rfl) ?_
    refine va_get (D := D) (ci := 0) (v := .ref q_a0_mud) (C := RX0) (T := TX0) (N := 6) hx hb hts in_X0 hown hK hP 0 rfl rfl 4 (by decide) kf_24 (fun _ h9 => h9) rfl dX0_add_52 ?_
    refine lv_aload_n hx hb dX0_add_55 rfl (lv_at hl 0 rfl) ?_
    refine va_get (D := D) (ci := 0) (v := .int a0_size) (C := RX0) (T := TX0) (N := 6) hx hb hts in_X0 hown hK hP 0 rfl rfl 5 (by decide) kf_27 (fun _ h9 => h9) rfl dX0_add_56 ?_
    refine lv_iconst (v := 0) hx hb dX0_add_59 (by decide) ?_
    refine va_iast hx hb hK hP hD hS 5 0 rfl rfl hf.1 dX0_add_60 (fun H locs hP hD hS => ?_)
    have hP : va_P D vwCl [(q_a0, .inr (0, [.ref q_a0_yards, .ref q_a0_truth, .ref q_a0_notes, .ref q_a0_words, .ref q_a0_mud, .int a0_size])), (q_a0_yards, .inl (cI, 8, .inl (upd a0_yards (a0_size.toNatClampNeg) x1))), (q_a0_truth, .inl (cI, 8, .inl (upd a0_truth (a0_size.toNatClampNeg) x2))), (q_a0_notes, .inl (cI, 8, .inl (upd a0_notes (a0_size.toNatClampNeg) x3))), (q_a0_words, .inl (cI, 8, .inl (upd a0_words (a0_size.toNatClampNeg) x4))), (q_a0_mud, .inl (cI, 8, .inl (upd a0_mud (a0_size.toNatClampNeg) 0)))] H := hP
    have hD : va_D A [(q_a0, .inr (0, [.ref q_a0_yards, .ref q_a0_truth, .ref q_a0_notes, .ref q_a0_words, .ref q_a0_mud, .int a0_size])), (q_a0_yards, .inl (cI, 8, .inl (upd a0_yards (a0_size.toNatClampNeg) x1))), (q_a0_truth, .inl (cI, 8, .inl (upd a0_truth (a0_size.toNatClampNeg) x2))), (q_a0_notes, .inl (cI, 8, .inl (upd a0_notes (a0_size.toNatClampNeg) x3))), (q_a0_words, .inl (cI, 8, .inl (upd a0_words (a0_size.toNatClampNeg) x4))), (q_a0_mud, .inl (cI, 8, .inl (upd a0_mud (a0_size.toNatClampNeg) 0)))] := hD
    have hf := hf.2
    refine lv_aload_n hx hb dX0_add_61 rfl (lv_at hl 0 rfl) ?_
    refine lv_dup hx hb dX0_add_62 rfl ?_
    refine va_get (D := D) (ci := 0) (v := .int a0_size) (C := RX0) (T := TX0) (N := 6) hx hb hts in_X0 hown hK hP 0 rfl rfl 5 (by decide) kf_27 (fun _ h9 => h9) rfl dX0_add_63 ?_
    refine lv_iconst (v := 1) hx hb dX0_add_66 (by decide) ?_
    refine lv_iadd hx hb dX0_add_67 ?_
    refine va_put (D := D) (ci := 0) (v := .int (a0_size + 1)) (ty := .int) (C := RX0) (T := TX0) (N := 6) hx hb hts in_X0 tyX0 tyX0_ok nmX0 hown hK hP hD hS 0 rfl rfl 5 (by decide) kf_27 (fun _ h9 => h9) rfl (by decide +kernel) rfl rfl (Nat.le_of_ble_eq_true rfl) dX0_add_68 (fun H locs hP hD hS => ?_)
    have hP : va_P D vwCl [(q_a0, .inr (0, [.ref q_a0_yards, .ref q_a0_truth, .ref q_a0_notes, .ref q_a0_words, .ref q_a0_mud, .int (a0_size + 1)])), (q_a0_yards, .inl (cI, 8, .inl (upd a0_yards (a0_size.toNatClampNeg) x1))), (q_a0_truth, .inl (cI, 8, .inl (upd a0_truth (a0_size.toNatClampNeg) x2))), (q_a0_notes, .inl (cI, 8, .inl (upd a0_notes (a0_size.toNatClampNeg) x3))), (q_a0_words, .inl (cI, 8, .inl (upd a0_words (a0_size.toNatClampNeg) x4))), (q_a0_mud, .inl (cI, 8, .inl (upd a0_mud (a0_size.toNatClampNeg) 0)))] H := hP
    have hD : va_D A [(q_a0, .inr (0, [.ref q_a0_yards, .ref q_a0_truth, .ref q_a0_notes, .ref q_a0_words, .ref q_a0_mud, .int (a0_size + 1)])), (q_a0_yards, .inl (cI, 8, .inl (upd a0_yards (a0_size.toNatClampNeg) x1))), (q_a0_truth, .inl (cI, 8, .inl (upd a0_truth (a0_size.toNatClampNeg) x2))), (q_a0_notes, .inl (cI, 8, .inl (upd a0_notes (a0_size.toNatClampNeg) x3))), (q_a0_words, .inl (cI, 8, .inl (upd a0_words (a0_size.toNatClampNeg) x4))), (q_a0_mud, .inl (cI, 8, .inl (upd a0_mud (a0_size.toNatClampNeg) 0)))] := hD
    refine lv_aload_n hx hb dX0_add_71 rfl (lv_at hl 0 rfl) ?_
    refine va_get (D := D) (ci := 0) (v := .int (a0_size + 1)) (C := RX0) (T := TX0) (N := 6) hx hb hts in_X0 hown hK hP 0 rfl rfl 5 (by decide) kf_27 (fun _ h9 => h9) rfl dX0_add_72 ?_
    refine lv_iconst (v := 1) hx hb dX0_add_75 (by decide) ?_
    refine lv_isub hx hb dX0_add_76 ?_
    subst hQQ
    have hP9 := hP.sub (ws' := [(q_a0, .inr (0, [.ref q_a0_yards, .ref q_a0_truth, .ref q_a0_notes, .ref q_a0_words, .ref q_a0_mud, .int (a0_size + 1)])), (q_a0_yards, .inl (cI, 8, .inl (upd a0_yards (a0_size.toNatClampNeg) x1))), (q_a0_truth, .inl (cI, 8, .inl (upd a0_truth (a0_size.toNatClampNeg) x2))), (q_a0_notes, .inl (cI, 8, .inl (upd a0_notes (a0_size.toNatClampNeg) x3))), (q_a0_words, .inl (cI, 8, .inl (upd a0_words (a0_size.toNatClampNeg) x4))), (q_a0_mud, .inl (cI, 8, .inl (upd a0_mud (a0_size.toNatClampNeg) 0)))]) [0, 1, 2, 3, 4, 5] rfl
    have hD9 := hD.sub (ws' := [(q_a0, .inr (0, [.ref q_a0_yards, .ref q_a0_truth, .ref q_a0_notes, .ref q_a0_words, .ref q_a0_mud, .int (a0_size + 1)])), (q_a0_yards, .inl (cI, 8, .inl (upd a0_yards (a0_size.toNatClampNeg) x1))), (q_a0_truth, .inl (cI, 8, .inl (upd a0_truth (a0_size.toNatClampNeg) x2))), (q_a0_notes, .inl (cI, 8, .inl (upd a0_notes (a0_size.toNatClampNeg) x3))), (q_a0_words, .inl (cI, 8, .inl (upd a0_words (a0_size.toNatClampNeg) x4))), (q_a0_mud, .inl (cI, 8, .inl (upd a0_mud (a0_size.toNatClampNeg) 0)))]) [0, 1, 2, 3, 4, 5] (by decide) rfl
    exact W.iret hx hb hr (fun t ht hW => ⟨⟨((a0_size + 1) - 1), (upd a0_yards (a0_size.toNatClampNeg) x1, upd a0_truth (a0_size.toNatClampNeg) x2, upd a0_notes (a0_size.toNatClampNeg) x3, upd a0_words (a0_size.toNatClampNeg) x4, upd a0_mud (a0_size.toNatClampNeg) 0, a0_size + 1), rfl, hf, by rw [ht]; exact hP9, hD9⟩, hS.F ht⟩) hS.2.2 dX0_add_77
  · have hf := it_f c_2 hf
    refine lv_bipush (v := (-4)) hx hb dX0_add_7 (by decide) ?_
    subst hQQ
    have hP9 := hP.sub (ws' := [(q_a0, .inr (0, [.ref q_a0_yards, .ref q_a0_truth, .ref q_a0_notes, .ref q_a0_words, .ref q_a0_mud, .int a0_size])), (q_a0_yards, .inl (cI, 8, .inl a0_yards)), (q_a0_truth, .inl (cI, 8, .inl a0_truth)), (q_a0_notes, .inl (cI, 8, .inl a0_notes)), (q_a0_words, .inl (cI, 8, .inl a0_words)), (q_a0_mud, .inl (cI, 8, .inl a0_mud))]) [0, 1, 2, 3, 4, 5] rfl
    have hD9 := hD.sub (ws' := [(q_a0, .inr (0, [.ref q_a0_yards, .ref q_a0_truth, .ref q_a0_notes, .ref q_a0_words, .ref q_a0_mud, .int a0_size])), (q_a0_yards, .inl (cI, 8, .inl a0_yards)), (q_a0_truth, .inl (cI, 8, .inl a0_truth)), (q_a0_notes, .inl (cI, 8, .inl a0_notes)), (q_a0_words, .inl (cI, 8, .inl a0_words)), (q_a0_mud, .inl (cI, 8, .inl a0_mud))]) [0, 1, 2, 3, 4, 5] (by decide) rfl
    exact W.iret hx hb hr (fun t ht hW => ⟨⟨(-4), (a0_yards, a0_truth, a0_notes, a0_words, a0_mud, a0_size), rfl, hf, by rw [ht]; exact hP9, hD9⟩, hS.F ht⟩) hS.2.2 dX0_add_9
def p_X0_holds (a0_truth : Nat → Int32) (a0_mud : Nat → Int32) (x1 : Int32) (Q : Int32 → Prop) : Prop :=
  vp_in x1 8 ∧ (if (a0_truth x1.toNatClampNeg) ≤ 1 then (Q 1) else (vp_in x1 8 ∧ (vp_in x1 8 ∧ (Q ((a0_truth x1.toNatClampNeg) - (a0_mud x1.toNatClampNeg))))))
def rmX0_holds : Room := { frames := 0, cells := 0, slots := 0, locals := 0 }
set_option maxHeartbeats 4000000 in
set_option maxRecDepth 100000 in
theorem c_X0_holds (l : Launch) (D : va_G) (cI cZ cO : ClassId) (q_a0 q_a0_yards q_a0_truth q_a0_notes q_a0_words q_a0_mud : Nat) (a0_size : Int32) (a0_truth : Nat → Int32) (a0_mud : Nat → Int32) (x1 : Int32) (Q : Int32 → Prop) (hf : p_X0_holds a0_truth a0_mud x1 Q) : Met l yX0_holds wsX0_holds rmX0_holds (va_Pc [.ref q_a0, .int x1] (fun U => va_P D vwCl [(q_a0, .inr (0, [.ref q_a0_yards, .ref q_a0_truth, .ref q_a0_notes, .ref q_a0_words, .ref q_a0_mud, .int a0_size])), (q_a0_truth, .inl (cI, 8, .inl a0_truth)), (q_a0_mud, .inl (cI, 8, .inl a0_mud))] U.heap ∧ XK D cI cZ cO U)) (vp_Si Q) 0 0 (fun _ => False) := by
  refine Met.ofW (cc := cX0_holds) (maxL := 2) (ret := (some .int)) (by decide) rfl ?_
  intro p e s m args below meth c s₁ B hml hv
  obtain ⟨rfl, hP, hX⟩ := hv
  have hK := hX.1
  have hx := B.exec
  have hb := B.bytes
  have hr := B.returns
  have hts := atoms_spec (ws := wsX0_holds) B.pre
  have hown : s.vm.findClass RX0 = some m.cls := findClass_of_methodNamed B.named
  have hlocks := B.notSynchronized
  have in_X0 : ∀ w ∈ wsX00, w ∈ wsX0_holds := fun _ h => List.mem_cons_of_mem _ (List.mem_append_right _ h)
  have kf_15 := hts (.fieldLink RX0 15 "LeftCrest$Bends" "truth" "[I") (by decide +kernel)
  have kf_24 := hts (.fieldLink RX0 24 "LeftCrest$Bends" "mud" "[I") (by decide +kernel)
  generalize hQQ : MQ below _ _ s _ _ _ = QQ
  have hl := lv_entry ([.ref q_a0, .int x1]) (n := 2) (Nat.le_of_ble_eq_true rfl)
  rw [lg_entry_eq]
  generalize (lg_sl ([.ref q_a0, .int x1]) ++ List.replicate (2 - (lg_sl ([.ref q_a0, .int x1])).length) Slot.unset).toArray = ls at hl ⊢
  have hl : lv_has ls 2 [(0, .ref q_a0), (1, .int x1)] := hl
  unfold p_X0_holds at hf
  refine lv_aload_n hx hb dX0_holds_0 rfl (lv_at hl 0 rfl) ?_
  refine va_get (D := D) (ci := 0) (v := .ref q_a0_truth) (C := RX0) (T := TX0) (N := 6) hx hb hts in_X0 hown hK hP 0 rfl rfl 1 (by decide) kf_15 (fun _ h9 => h9) rfl dX0_holds_1 ?_
  refine lv_iload_n hx hb dX0_holds_4 rfl (lv_at hl 1 rfl) ?_
  refine va_iald hx hb hK hP 1 0 rfl rfl hf.1 dX0_holds_5 ?_
  have hf := hf.2
  refine lv_iconst (v := 1) hx hb dX0_holds_6 (by decide) ?_
  refine lv_icmp_le (tgt := 26) hx hb dX0_holds_7 (by decide) (fun c_1 => ?_) (fun c_1 => ?_)
  · have hf := it_t c_1 hf
    refine lv_iconst (v := 1) hx hb dX0_holds_26 (by decide) ?_
    subst hQQ
    exact W.iret hx hb hr (fun t ht hW => ⟨_, rfl, hf, ht⟩) (fun _ h => absurd h List.not_mem_nil) dX0_holds_27
  · have hf := it_f c_1 hf
    refine lv_aload_n hx hb dX0_holds_10 rfl (lv_at hl 0 rfl) ?_
    refine va_get (D := D) (ci := 0) (v := .ref q_a0_truth) (C := RX0) (T := TX0) (N := 6) hx hb hts in_X0 hown hK hP 0 rfl rfl 1 (by decide) kf_15 (fun _ h9 => h9) rfl dX0_holds_11 ?_
    refine lv_iload_n hx hb dX0_holds_14 rfl (lv_at hl 1 rfl) ?_
    refine va_iald hx hb hK hP 1 0 rfl rfl hf.1 dX0_holds_15 ?_
    have hf := hf.2
    refine lv_aload_n hx hb dX0_holds_16 rfl (lv_at hl 0 rfl) ?_
    refine va_get (D := D) (ci := 0) (v := .ref q_a0_mud) (C := RX0) (T := TX0) (N := 6) hx hb hts in_X0 hown hK hP 0 rfl rfl 4 (by decide) kf_24 (fun _ h9 => h9) rfl dX0_holds_17 ?_
    refine lv_iload_n hx hb dX0_holds_20 rfl (lv_at hl 1 rfl) ?_
    refine va_iald hx hb hK hP 2 0 rfl rfl hf.1 dX0_holds_21 ?_
    have hf := hf.2
    refine lv_isub hx hb dX0_holds_22 ?_
    refine lv_goto (tgt := 27) hx hb dX0_holds_23 (by decide) ?_
    subst hQQ
    exact W.iret hx hb hr (fun t ht hW => ⟨_, rfl, hf, ht⟩) (fun _ h => absurd h List.not_mem_nil) dX0_holds_27
def p_X0_tell (a0_yards : Nat → Int32) (a0_truth : Nat → Int32) (a0_notes : Nat → Int32) (a0_words : Nat → Int32) (a0_mud : Nat → Int32) (x1 : Int32) (x2 : Int32) (Q : Int32 → Prop) : Prop :=
  if x2 = 0 then (vp_in x1 8 ∧ (Q (a0_yards x1.toNatClampNeg))) else (if x2 = 1 then (vp_in x1 8 ∧ (Q (a0_truth x1.toNatClampNeg))) else (if x2 = 2 then (vp_in x1 8 ∧ (Q (a0_notes x1.toNatClampNeg))) else (if x2 = 3 then (vp_in x1 8 ∧ (Q (a0_words x1.toNatClampNeg))) else (if x2 = 4 then (vp_in x1 8 ∧ (Q (a0_mud x1.toNatClampNeg))) else (p_X0_holds a0_truth a0_mud x1 (fun r_6 => Q r_6))))))
def rmX0_tell : Room := { frames := 1, cells := 0, slots := 0, locals := 21 }
set_option maxHeartbeats 4000000 in
set_option maxRecDepth 100000 in
theorem c_X0_tell (l : Launch) (D : va_G) (cI cZ cO : ClassId) (q_a0 q_a0_yards q_a0_truth q_a0_notes q_a0_words q_a0_mud : Nat) (a0_size : Int32) (a0_yards : Nat → Int32) (a0_truth : Nat → Int32) (a0_notes : Nat → Int32) (a0_words : Nat → Int32) (a0_mud : Nat → Int32) (x1 : Int32) (x2 : Int32) (Q : Int32 → Prop) (hf : p_X0_tell a0_yards a0_truth a0_notes a0_words a0_mud x1 x2 Q) : Met l yX0_tell wsX0_tell rmX0_tell (va_Pc [.ref q_a0, .int x1, .int x2] (fun U => va_P D vwCl [(q_a0, .inr (0, [.ref q_a0_yards, .ref q_a0_truth, .ref q_a0_notes, .ref q_a0_words, .ref q_a0_mud, .int a0_size])), (q_a0_yards, .inl (cI, 8, .inl a0_yards)), (q_a0_truth, .inl (cI, 8, .inl a0_truth)), (q_a0_notes, .inl (cI, 8, .inl a0_notes)), (q_a0_words, .inl (cI, 8, .inl a0_words)), (q_a0_mud, .inl (cI, 8, .inl a0_mud))] U.heap ∧ XK D cI cZ cO U)) (vp_Si Q) 0 0 (fun _ => False) := by
  refine Met.ofW (cc := cX0_tell) (maxL := 3) (ret := (some .int)) (by decide) rfl ?_
  intro p e s m args below meth c s₁ B hml hv
  obtain ⟨rfl, hP, hX⟩ := hv
  have hK := hX.1
  have hx := B.exec
  have hb := B.bytes
  have hr := B.returns
  have hts := atoms_spec (ws := wsX0_tell) B.pre
  have hown : s.vm.findClass RX0 = some m.cls := findClass_of_methodNamed B.named
  have hlocks := B.notSynchronized
  have in_X0 : ∀ w ∈ wsX00, w ∈ wsX0_tell := fun _ h => List.mem_cons_of_mem _ (List.mem_append_right _ h)
  have kf_9 := hts (.fieldLink RX0 9 "LeftCrest$Bends" "yards" "[I") (by decide +kernel)
  have kf_15 := hts (.fieldLink RX0 15 "LeftCrest$Bends" "truth" "[I") (by decide +kernel)
  have kf_18 := hts (.fieldLink RX0 18 "LeftCrest$Bends" "notes" "[I") (by decide +kernel)
  have kf_21 := hts (.fieldLink RX0 21 "LeftCrest$Bends" "words" "[I") (by decide +kernel)
  have kf_24 := hts (.fieldLink RX0 24 "LeftCrest$Bends" "mud" "[I") (by decide +kernel)
  generalize hQQ : MQ below _ _ s _ _ _ = QQ
  have hl := lv_entry ([.ref q_a0, .int x1, .int x2]) (n := 3) (Nat.le_of_ble_eq_true rfl)
  rw [lg_entry_eq]
  generalize (lg_sl ([.ref q_a0, .int x1, .int x2]) ++ List.replicate (3 - (lg_sl ([.ref q_a0, .int x1, .int x2])).length) Slot.unset).toArray = ls at hl ⊢
  have hl : lv_has ls 3 [(0, .ref q_a0), (1, .int x1), (2, .int x2)] := hl
  unfold p_X0_tell at hf
  refine lv_iload_n hx hb dX0_tell_0 rfl (lv_at hl 2 rfl) ?_
  by_cases c_1 : x2 = 0
  · have hf := it_t c_1 hf
    refine lv_tableIn (tgt := 36) (off := 35) hx hb dX0_tell_1 (by rw [c_1]; decide) (by rw [c_1]; decide) (by rw [c_1]; rfl) (by decide) ?_
    refine lv_aload_n hx hb dX0_tell_36 rfl (lv_at hl 0 rfl) ?_
    refine va_get (D := D) (ci := 0) (v := .ref q_a0_yards) (C := RX0) (T := TX0) (N := 6) hx hb hts in_X0 hown hK hP 0 rfl rfl 0 (by decide) kf_9 (fun _ h9 => h9) rfl dX0_tell_37 ?_
    refine lv_iload_n hx hb dX0_tell_40 rfl (lv_at hl 1 rfl) ?_
    refine va_iald hx hb hK hP 1 0 rfl rfl hf.1 dX0_tell_41 ?_
    have hf := hf.2
    subst hQQ
    exact W.iret hx hb hr (fun t ht hW => ⟨_, rfl, hf, ht⟩) (fun _ h => absurd h List.not_mem_nil) dX0_tell_42
  have hf := it_f c_1 hf
  by_cases c_2 : x2 = 1
  · have hf := it_t c_2 hf
    refine lv_tableIn (tgt := 43) (off := 42) hx hb dX0_tell_1 (by rw [c_2]; decide) (by rw [c_2]; decide) (by rw [c_2]; rfl) (by decide) ?_
    refine lv_aload_n hx hb dX0_tell_43 rfl (lv_at hl 0 rfl) ?_
    refine va_get (D := D) (ci := 0) (v := .ref q_a0_truth) (C := RX0) (T := TX0) (N := 6) hx hb hts in_X0 hown hK hP 0 rfl rfl 1 (by decide) kf_15 (fun _ h9 => h9) rfl dX0_tell_44 ?_
    refine lv_iload_n hx hb dX0_tell_47 rfl (lv_at hl 1 rfl) ?_
    refine va_iald hx hb hK hP 2 0 rfl rfl hf.1 dX0_tell_48 ?_
    have hf := hf.2
    subst hQQ
    exact W.iret hx hb hr (fun t ht hW => ⟨_, rfl, hf, ht⟩) (fun _ h => absurd h List.not_mem_nil) dX0_tell_49
  have hf := it_f c_2 hf
  by_cases c_3 : x2 = 2
  · have hf := it_t c_3 hf
    refine lv_tableIn (tgt := 50) (off := 49) hx hb dX0_tell_1 (by rw [c_3]; decide) (by rw [c_3]; decide) (by rw [c_3]; rfl) (by decide) ?_
    refine lv_aload_n hx hb dX0_tell_50 rfl (lv_at hl 0 rfl) ?_
    refine va_get (D := D) (ci := 0) (v := .ref q_a0_notes) (C := RX0) (T := TX0) (N := 6) hx hb hts in_X0 hown hK hP 0 rfl rfl 2 (by decide) kf_18 (fun _ h9 => h9) rfl dX0_tell_51 ?_
    refine lv_iload_n hx hb dX0_tell_54 rfl (lv_at hl 1 rfl) ?_
    refine va_iald hx hb hK hP 3 0 rfl rfl hf.1 dX0_tell_55 ?_
    have hf := hf.2
    subst hQQ
    exact W.iret hx hb hr (fun t ht hW => ⟨_, rfl, hf, ht⟩) (fun _ h => absurd h List.not_mem_nil) dX0_tell_56
  have hf := it_f c_3 hf
  by_cases c_4 : x2 = 3
  · have hf := it_t c_4 hf
    refine lv_tableIn (tgt := 57) (off := 56) hx hb dX0_tell_1 (by rw [c_4]; decide) (by rw [c_4]; decide) (by rw [c_4]; rfl) (by decide) ?_
    refine lv_aload_n hx hb dX0_tell_57 rfl (lv_at hl 0 rfl) ?_
    refine va_get (D := D) (ci := 0) (v := .ref q_a0_words) (C := RX0) (T := TX0) (N := 6) hx hb hts in_X0 hown hK hP 0 rfl rfl 3 (by decide) kf_21 (fun _ h9 => h9) rfl dX0_tell_58 ?_
    refine lv_iload_n hx hb dX0_tell_61 rfl (lv_at hl 1 rfl) ?_
    refine va_iald hx hb hK hP 4 0 rfl rfl hf.1 dX0_tell_62 ?_
    have hf := hf.2
    subst hQQ
    exact W.iret hx hb hr (fun t ht hW => ⟨_, rfl, hf, ht⟩) (fun _ h => absurd h List.not_mem_nil) dX0_tell_63
  have hf := it_f c_4 hf
  by_cases c_5 : x2 = 4
  · have hf := it_t c_5 hf
    refine lv_tableIn (tgt := 64) (off := 63) hx hb dX0_tell_1 (by rw [c_5]; decide) (by rw [c_5]; decide) (by rw [c_5]; rfl) (by decide) ?_
    refine lv_aload_n hx hb dX0_tell_64 rfl (lv_at hl 0 rfl) ?_
    refine va_get (D := D) (ci := 0) (v := .ref q_a0_mud) (C := RX0) (T := TX0) (N := 6) hx hb hts in_X0 hown hK hP 0 rfl rfl 4 (by decide) kf_24 (fun _ h9 => h9) rfl dX0_tell_65 ?_
    refine lv_iload_n hx hb dX0_tell_68 rfl (lv_at hl 1 rfl) ?_
    refine va_iald hx hb hK hP 5 0 rfl rfl hf.1 dX0_tell_69 ?_
    have hf := hf.2
    subst hQQ
    exact W.iret hx hb hr (fun t ht hW => ⟨_, rfl, hf, ht⟩) (fun _ h => absurd h List.not_mem_nil) dX0_tell_70
  have hf := it_f c_5 hf
  have gc_1 := lv_neT (k := 0) c_1 (a := 0) (by decide)
  have gc_2 := lv_neT (k := 1) c_2 (a := 1) (by decide)
  have gc_3 := lv_neT (k := 2) c_3 (a := 2) (by decide)
  have gc_4 := lv_neT (k := 3) c_4 (a := 3) (by decide)
  have gc_5 := lv_neT (k := 4) c_5 (a := 4) (by decide)
  refine lv_tableOut (tgt := 71) hx hb dX0_tell_1 (by omega) (by decide) ?_
  refine lv_aload_n hx hb dX0_tell_71 rfl (lv_at hl 0 rfl) ?_
  refine lv_iload_n hx hb dX0_tell_72 rfl (lv_at hl 1 rfl) ?_
  refine ya_csi (va_runV (As := [.int x1]) (rest := []) ⟨hx, hb, hml, hown, hts⟩ (c_X0_holds l D cI cZ cO q_a0 q_a0_yards q_a0_truth q_a0_notes q_a0_words q_a0_mud a0_size a0_truth a0_mud x1 _ hf) (cwV 1 hts gX0_tell_X0_holds rfl rfl rfl (by decide +kernel) ⟨Nat.le_of_ble_eq_true rfl, Nat.le_of_ble_eq_true rfl⟩) (pv_ro (ci := 0) (q0 := 0) (hP.sub [0, 2, 5] rfl) hX rfl rfl) rfl rfl hl.1 rfl (lv_room (Nat.le_of_ble_eq_true rfl)) dX0_tell_73 ⟨Nat.zero_le _, Nat.zero_le _⟩) (fun r_6 hf => ?_)
  subst hQQ
  exact W.iret hx hb hr (fun t ht hW => ⟨_, rfl, hf, ht⟩) (fun _ h => absurd h List.not_mem_nil) dX0_tell_76
def bX0_noted_4 (a0_notes : Nat → Int32) (a0_size : Int32) (Q : Int32 → Prop) (k_3 : Int32 → Int32 → Prop) (v_1 : Int32) (v_2 : Int32) : Prop :=
  if a0_size ≤ v_2 then (Q v_1) else (vp_in v_2 8 ∧ (if (a0_notes v_2.toNatClampNeg) = 0 then (k_3 v_1 (v_2 + 1)) else (k_3 (v_1 + 1) (v_2 + 1))))
def p_X0_noted (a0_notes : Nat → Int32) (a0_size : Int32) (Q : Int32 → Prop) : Prop :=
  lq2 (bX0_noted_4 a0_notes a0_size Q) 1000 0 0
def rmX0_noted : Room := { frames := 0, cells := 0, slots := 0, locals := 0 }
set_option maxHeartbeats 4000000 in
set_option maxRecDepth 100000 in
theorem c_X0_noted (l : Launch) (D : va_G) (cI cZ cO : ClassId) (q_a0 q_a0_yards q_a0_truth q_a0_notes q_a0_words q_a0_mud : Nat) (a0_size : Int32) (a0_notes : Nat → Int32) (Q : Int32 → Prop) (hf : p_X0_noted a0_notes a0_size Q) : Met l yX0_noted wsX0_noted rmX0_noted (va_Pc [.ref q_a0] (fun U => va_P D vwCl [(q_a0, .inr (0, [.ref q_a0_yards, .ref q_a0_truth, .ref q_a0_notes, .ref q_a0_words, .ref q_a0_mud, .int a0_size])), (q_a0_notes, .inl (cI, 8, .inl a0_notes))] U.heap ∧ XK D cI cZ cO U)) (vp_Si Q) 0 0 (fun _ => False) := by
  refine Met.ofW (cc := cX0_noted) (maxL := 3) (ret := (some .int)) (by decide) rfl ?_
  intro p e s m args below meth c s₁ B hml hv
  obtain ⟨rfl, hP, hX⟩ := hv
  have hK := hX.1
  have hx := B.exec
  have hb := B.bytes
  have hr := B.returns
  have hts := atoms_spec (ws := wsX0_noted) B.pre
  have hown : s.vm.findClass RX0 = some m.cls := findClass_of_methodNamed B.named
  have hlocks := B.notSynchronized
  have in_X0 : ∀ w ∈ wsX00, w ∈ wsX0_noted := fun _ h => List.mem_cons_of_mem _ (List.mem_append_right _ h)
  have kf_27 := hts (.fieldLink RX0 27 "LeftCrest$Bends" "size" "I") (by decide +kernel)
  have kf_18 := hts (.fieldLink RX0 18 "LeftCrest$Bends" "notes" "[I") (by decide +kernel)
  generalize hQQ : MQ below _ _ s _ _ _ = QQ
  have hl := lv_entry ([.ref q_a0]) (n := 3) (Nat.le_of_ble_eq_true rfl)
  rw [lg_entry_eq]
  generalize (lg_sl ([.ref q_a0]) ++ List.replicate (3 - (lg_sl ([.ref q_a0])).length) Slot.unset).toArray = ls at hl ⊢
  have hl : lv_has ls 3 [(0, .ref q_a0)] := hl
  unfold p_X0_noted at hf
  refine lv_iconst (v := 0) hx hb dX0_noted_0 (by decide) ?_
  refine lv_istore_n (lv' := [(1, .int 0), (0, .ref q_a0)]) hx hb dX0_noted_1 rfl hl (by decide) rfl (fun ls hl => ?_)
  refine lv_iconst (v := 0) hx hb dX0_noted_2 (by decide) ?_
  refine lv_istore_n (lv' := [(2, .int 0), (1, .int 0), (0, .ref q_a0)]) hx hb dX0_noted_3 rfl hl (by decide) rfl (fun ls hl => ?_)
  have hlp_4 : ∀ (n_4 : Nat) (v_1 : Int32) (v_2 : Int32) (ls : Array Slot), lq2 (bX0_noted_4 a0_notes a0_size Q) n_4 v_1 v_2 → lv_has ls 3 [(0, .ref q_a0), (1, .int v_1), (2, .int v_2)] → W p l e (headSpec wsX0_noted rmX0_noted).room s m ([.ref q_a0] : List Value).toArray below meth c s.heap [] 0 0 QQ (F0 m 4 ls []) := by
    intro n_4
    induction n_4 with
    | zero => intro v_1 v_2 ls hf; exact (lq2_0 hf).elim
    | succ n_4 ih =>
      have ih_4 := ih
      intro v_1 v_2 ls hf hl
      have hf := lq2_s hf
      unfold bX0_noted_4 at hf
      refine lv_iload_n hx hb dX0_noted_4 rfl (lv_at hl 2 rfl) ?_
      refine lv_aload_n hx hb dX0_noted_5 rfl (lv_at hl 0 rfl) ?_
      refine va_get (D := D) (ci := 0) (v := .int a0_size) (C := RX0) (T := TX0) (N := 6) hx hb hts in_X0 hown hK hP 0 rfl rfl 5 (by decide) kf_27 (fun _ h9 => h9) rfl dX0_noted_6 ?_
      refine lv_icmp_ge (tgt := 30) hx hb dX0_noted_9 (by decide) (fun c_4 => ?_) (fun c_4 => ?_)
      · have hf := it_t c_4 hf
        refine lv_iload_n hx hb dX0_noted_30 rfl (lv_at hl 1 rfl) ?_
        subst hQQ
        exact W.iret hx hb hr (fun t ht hW => ⟨_, rfl, hf, ht⟩) (fun _ h => absurd h List.not_mem_nil) dX0_noted_31
      · have hf := it_f c_4 hf
        refine lv_aload_n hx hb dX0_noted_12 rfl (lv_at hl 0 rfl) ?_
        refine va_get (D := D) (ci := 0) (v := .ref q_a0_notes) (C := RX0) (T := TX0) (N := 6) hx hb hts in_X0 hown hK hP 0 rfl rfl 2 (by decide) kf_18 (fun _ h9 => h9) rfl dX0_noted_13 ?_
        refine lv_iload_n hx hb dX0_noted_16 rfl (lv_at hl 2 rfl) ?_
        refine va_iald hx hb hK hP 1 0 rfl rfl hf.1 dX0_noted_17 ?_
        have hf := hf.2
        refine lv_if_eq (tgt := 24) hx hb dX0_noted_18 (by decide) (fun c_5 => ?_) (fun c_5 => ?_)
        · have hf := it_t c_5 hf
          refine lv_iinc (v := v_2 + 1) (lv' := [(2, .int (v_2 + 1)), (0, .ref q_a0), (1, .int v_1)]) hx hb dX0_noted_24 hl (k := 2) rfl rfl (by decide) rfl (fun ls hl => ?_)
          refine lv_goto (tgt := 4) hx hb dX0_noted_27 (by decide) ?_
          exact ih v_1 (v_2 + 1) ls hf (lv_sub hl [1, 2, 0] rfl)
        · have hf := it_f c_5 hf
          refine lv_iinc (v := v_1 + 1) (lv' := [(1, .int (v_1 + 1)), (0, .ref q_a0), (2, .int v_2)]) hx hb dX0_noted_21 hl (k := 1) rfl rfl (by decide) rfl (fun ls hl => ?_)
          refine lv_iinc (v := v_2 + 1) (lv' := [(2, .int (v_2 + 1)), (1, .int (v_1 + 1)), (0, .ref q_a0)]) hx hb dX0_noted_24 hl (k := 2) rfl rfl (by decide) rfl (fun ls hl => ?_)
          refine lv_goto (tgt := 4) hx hb dX0_noted_27 (by decide) ?_
          exact ih (v_1 + 1) (v_2 + 1) ls hf (lv_sub hl [2, 1, 0] rfl)
  exact hlp_4 1000 0 0 ls hf (lv_sub hl [2, 1, 0] rfl)
def bX0_withMud_4 (a0_mud : Nat → Int32) (a0_size : Int32) (Q : Int32 → Prop) (k_3 : Int32 → Int32 → Prop) (v_1 : Int32) (v_2 : Int32) : Prop :=
  if a0_size ≤ v_2 then (Q v_1) else (vp_in v_2 8 ∧ (k_3 (v_1 + (a0_mud v_2.toNatClampNeg)) (v_2 + 1)))
def p_X0_withMud (a0_mud : Nat → Int32) (a0_size : Int32) (Q : Int32 → Prop) : Prop :=
  lq2 (bX0_withMud_4 a0_mud a0_size Q) 1000 0 0
def rmX0_withMud : Room := { frames := 0, cells := 0, slots := 0, locals := 0 }
set_option maxHeartbeats 4000000 in
set_option maxRecDepth 100000 in
theorem c_X0_withMud (l : Launch) (D : va_G) (cI cZ cO : ClassId) (q_a0 q_a0_yards q_a0_truth q_a0_notes q_a0_words q_a0_mud : Nat) (a0_size : Int32) (a0_mud : Nat → Int32) (Q : Int32 → Prop) (hf : p_X0_withMud a0_mud a0_size Q) : Met l yX0_withMud wsX0_withMud rmX0_withMud (va_Pc [.ref q_a0] (fun U => va_P D vwCl [(q_a0, .inr (0, [.ref q_a0_yards, .ref q_a0_truth, .ref q_a0_notes, .ref q_a0_words, .ref q_a0_mud, .int a0_size])), (q_a0_mud, .inl (cI, 8, .inl a0_mud))] U.heap ∧ XK D cI cZ cO U)) (vp_Si Q) 0 0 (fun _ => False) := by
  refine Met.ofW (cc := cX0_withMud) (maxL := 3) (ret := (some .int)) (by decide) rfl ?_
  intro p e s m args below meth c s₁ B hml hv
  obtain ⟨rfl, hP, hX⟩ := hv
  have hK := hX.1
  have hx := B.exec
  have hb := B.bytes
  have hr := B.returns
  have hts := atoms_spec (ws := wsX0_withMud) B.pre
  have hown : s.vm.findClass RX0 = some m.cls := findClass_of_methodNamed B.named
  have hlocks := B.notSynchronized
  have in_X0 : ∀ w ∈ wsX00, w ∈ wsX0_withMud := fun _ h => List.mem_cons_of_mem _ (List.mem_append_right _ h)
  have kf_27 := hts (.fieldLink RX0 27 "LeftCrest$Bends" "size" "I") (by decide +kernel)
  have kf_24 := hts (.fieldLink RX0 24 "LeftCrest$Bends" "mud" "[I") (by decide +kernel)
  generalize hQQ : MQ below _ _ s _ _ _ = QQ
  have hl := lv_entry ([.ref q_a0]) (n := 3) (Nat.le_of_ble_eq_true rfl)
  rw [lg_entry_eq]
  generalize (lg_sl ([.ref q_a0]) ++ List.replicate (3 - (lg_sl ([.ref q_a0])).length) Slot.unset).toArray = ls at hl ⊢
  have hl : lv_has ls 3 [(0, .ref q_a0)] := hl
  unfold p_X0_withMud at hf
  refine lv_iconst (v := 0) hx hb dX0_withMud_0 (by decide) ?_
  refine lv_istore_n (lv' := [(1, .int 0), (0, .ref q_a0)]) hx hb dX0_withMud_1 rfl hl (by decide) rfl (fun ls hl => ?_)
  refine lv_iconst (v := 0) hx hb dX0_withMud_2 (by decide) ?_
  refine lv_istore_n (lv' := [(2, .int 0), (1, .int 0), (0, .ref q_a0)]) hx hb dX0_withMud_3 rfl hl (by decide) rfl (fun ls hl => ?_)
  have hlp_4 : ∀ (n_4 : Nat) (v_1 : Int32) (v_2 : Int32) (ls : Array Slot), lq2 (bX0_withMud_4 a0_mud a0_size Q) n_4 v_1 v_2 → lv_has ls 3 [(0, .ref q_a0), (1, .int v_1), (2, .int v_2)] → W p l e (headSpec wsX0_withMud rmX0_withMud).room s m ([.ref q_a0] : List Value).toArray below meth c s.heap [] 0 0 QQ (F0 m 4 ls []) := by
    intro n_4
    induction n_4 with
    | zero => intro v_1 v_2 ls hf; exact (lq2_0 hf).elim
    | succ n_4 ih =>
      have ih_4 := ih
      intro v_1 v_2 ls hf hl
      have hf := lq2_s hf
      unfold bX0_withMud_4 at hf
      refine lv_iload_n hx hb dX0_withMud_4 rfl (lv_at hl 2 rfl) ?_
      refine lv_aload_n hx hb dX0_withMud_5 rfl (lv_at hl 0 rfl) ?_
      refine va_get (D := D) (ci := 0) (v := .int a0_size) (C := RX0) (T := TX0) (N := 6) hx hb hts in_X0 hown hK hP 0 rfl rfl 5 (by decide) kf_27 (fun _ h9 => h9) rfl dX0_withMud_6 ?_
      refine lv_icmp_ge (tgt := 27) hx hb dX0_withMud_9 (by decide) (fun c_4 => ?_) (fun c_4 => ?_)
      · have hf := it_t c_4 hf
        refine lv_iload_n hx hb dX0_withMud_27 rfl (lv_at hl 1 rfl) ?_
        subst hQQ
        exact W.iret hx hb hr (fun t ht hW => ⟨_, rfl, hf, ht⟩) (fun _ h => absurd h List.not_mem_nil) dX0_withMud_28
      · have hf := it_f c_4 hf
        refine lv_iload_n hx hb dX0_withMud_12 rfl (lv_at hl 1 rfl) ?_
        refine lv_aload_n hx hb dX0_withMud_13 rfl (lv_at hl 0 rfl) ?_
        refine va_get (D := D) (ci := 0) (v := .ref q_a0_mud) (C := RX0) (T := TX0) (N := 6) hx hb hts in_X0 hown hK hP 0 rfl rfl 4 (by decide) kf_24 (fun _ h9 => h9) rfl dX0_withMud_14 ?_
        refine lv_iload_n hx hb dX0_withMud_17 rfl (lv_at hl 2 rfl) ?_
        refine va_iald hx hb hK hP 1 0 rfl rfl hf.1 dX0_withMud_18 ?_
        have hf := hf.2
        refine lv_iadd hx hb dX0_withMud_19 ?_
        refine lv_istore_n (lv' := [(1, .int (v_1 + (a0_mud v_2.toNatClampNeg))), (0, .ref q_a0), (2, .int v_2)]) hx hb dX0_withMud_20 rfl hl (by decide) rfl (fun ls hl => ?_)
        refine lv_iinc (v := v_2 + 1) (lv' := [(2, .int (v_2 + 1)), (1, .int (v_1 + (a0_mud v_2.toNatClampNeg))), (0, .ref q_a0)]) hx hb dX0_withMud_21 hl (k := 2) rfl rfl (by decide) rfl (fun ls hl => ?_)
        refine lv_goto (tgt := 4) hx hb dX0_withMud_24 (by decide) ?_
        exact ih (v_1 + (a0_mud v_2.toNatClampNeg)) (v_2 + 1) ls hf (lv_sub hl [2, 1, 0] rfl)
  exact hlp_4 1000 0 0 ls hf (lv_sub hl [2, 1, 0] rfl)
def p_X0_take (a0_yards : Nat → Int32) (a0_truth : Nat → Int32) (a0_notes : Nat → Int32) (a0_words : Nat → Int32) (a0_mud : Nat → Int32) (a0_size : Int32) (a1_yards : Nat → Int32) (a1_truth : Nat → Int32) (a1_notes : Nat → Int32) (a1_words : Nat → Int32) (a1_mud : Nat → Int32) (a1_size : Int32) (Q : (Nat → Int32) → (Nat → Int32) → (Nat → Int32) → (Nat → Int32) → (Nat → Int32) → Int32 → Prop) : Prop :=
  Q (va_cpy a1_yards a0_yards (0 : Int32).toNatClampNeg (0 : Int32).toNatClampNeg (8 : Int32).toNatClampNeg) (va_cpy a1_truth a0_truth (0 : Int32).toNatClampNeg (0 : Int32).toNatClampNeg (8 : Int32).toNatClampNeg) (va_cpy a1_notes a0_notes (0 : Int32).toNatClampNeg (0 : Int32).toNatClampNeg (8 : Int32).toNatClampNeg) (va_cpy a1_words a0_words (0 : Int32).toNatClampNeg (0 : Int32).toNatClampNeg (8 : Int32).toNatClampNeg) (va_cpy a1_mud a0_mud (0 : Int32).toNatClampNeg (0 : Int32).toNatClampNeg (8 : Int32).toNatClampNeg) a1_size
def rmX0_take : Room := { frames := 1, cells := 0, slots := 0, locals := 40 }
set_option maxHeartbeats 4000000 in
set_option maxRecDepth 100000 in
theorem c_X0_take (l : Launch) (D : va_G) (cI cZ cO : ClassId) (q_a0 q_a0_yards q_a0_truth q_a0_notes q_a0_words q_a0_mud q_a1 q_a1_yards q_a1_truth q_a1_notes q_a1_words q_a1_mud : Nat) (a0_size : Int32) (a0_yards : Nat → Int32) (a0_truth : Nat → Int32) (a0_notes : Nat → Int32) (a0_words : Nat → Int32) (a0_mud : Nat → Int32) (a1_size : Int32) (a1_yards : Nat → Int32) (a1_truth : Nat → Int32) (a1_notes : Nat → Int32) (a1_words : Nat → Int32) (a1_mud : Nat → Int32) (sz : Nat) (Q : (Nat → Int32) → (Nat → Int32) → (Nat → Int32) → (Nat → Int32) → (Nat → Int32) → Int32 → Prop) (hf : p_X0_take a0_yards a0_truth a0_notes a0_words a0_mud a0_size a1_yards a1_truth a1_notes a1_words a1_mud a1_size Q) : Met l yX0_take wsX0_take rmX0_take (va_Pc [.ref q_a0, .ref q_a1] (fun U => U.heap.size = sz ∧ va_P D vwCl [(q_a0, .inr (0, [.ref q_a0_yards, .ref q_a0_truth, .ref q_a0_notes, .ref q_a0_words, .ref q_a0_mud, .int a0_size])), (q_a0_yards, .inl (cI, 8, .inl a0_yards)), (q_a0_truth, .inl (cI, 8, .inl a0_truth)), (q_a0_notes, .inl (cI, 8, .inl a0_notes)), (q_a0_words, .inl (cI, 8, .inl a0_words)), (q_a0_mud, .inl (cI, 8, .inl a0_mud)), (q_a1, .inr (0, [.ref q_a1_yards, .ref q_a1_truth, .ref q_a1_notes, .ref q_a1_words, .ref q_a1_mud, .int a1_size])), (q_a1_yards, .inl (cI, 8, .inl a1_yards)), (q_a1_truth, .inl (cI, 8, .inl a1_truth)), (q_a1_notes, .inl (cI, 8, .inl a1_notes)), (q_a1_words, .inl (cI, 8, .inl a1_words)), (q_a1_mud, .inl (cI, 8, .inl a1_mud))] U.heap ∧ XK D cI cZ cO U ∧ va_D (fun _ => True) [(q_a0, .inr (0, [.ref q_a0_yards, .ref q_a0_truth, .ref q_a0_notes, .ref q_a0_words, .ref q_a0_mud, .int a0_size])), (q_a0_yards, .inl (cI, 8, .inl a0_yards)), (q_a0_truth, .inl (cI, 8, .inl a0_truth)), (q_a0_notes, .inl (cI, 8, .inl a0_notes)), (q_a0_words, .inl (cI, 8, .inl a0_words)), (q_a0_mud, .inl (cI, 8, .inl a0_mud)), (q_a1, .inr (0, [.ref q_a1_yards, .ref q_a1_truth, .ref q_a1_notes, .ref q_a1_words, .ref q_a1_mud, .int a1_size])), (q_a1_yards, .inl (cI, 8, .inl a1_yards)), (q_a1_truth, .inl (cI, 8, .inl a1_truth)), (q_a1_notes, .inl (cI, 8, .inl a1_notes)), (q_a1_words, .inl (cI, 8, .inl a1_words)), (q_a1_mud, .inl (cI, 8, .inl a1_mud))])) (va_Qv (fun (u : (Nat → Int32) × (Nat → Int32) × (Nat → Int32) × (Nat → Int32) × (Nat → Int32) × Int32) => Q u.1 u.2.1 u.2.2.1 u.2.2.2.1 u.2.2.2.2.1 u.2.2.2.2.2) (fun (u : (Nat → Int32) × (Nat → Int32) × (Nat → Int32) × (Nat → Int32) × (Nat → Int32) × Int32) t => va_P D vwCl [(q_a0, .inr (0, [.ref q_a0_yards, .ref q_a0_truth, .ref q_a0_notes, .ref q_a0_words, .ref q_a0_mud, .int u.2.2.2.2.2])), (q_a0_yards, .inl (cI, 8, .inl u.1)), (q_a0_truth, .inl (cI, 8, .inl u.2.1)), (q_a0_notes, .inl (cI, 8, .inl u.2.2.1)), (q_a0_words, .inl (cI, 8, .inl u.2.2.2.1)), (q_a0_mud, .inl (cI, 8, .inl u.2.2.2.2.1)), (q_a1, .inr (0, [.ref q_a1_yards, .ref q_a1_truth, .ref q_a1_notes, .ref q_a1_words, .ref q_a1_mud, .int a1_size])), (q_a1_yards, .inl (cI, 8, .inl a1_yards)), (q_a1_truth, .inl (cI, 8, .inl a1_truth)), (q_a1_notes, .inl (cI, 8, .inl a1_notes)), (q_a1_words, .inl (cI, 8, .inl a1_words)), (q_a1_mud, .inl (cI, 8, .inl a1_mud))] t.heap ∧ va_D (va_A [(q_a0, .inr (0, [.ref q_a0_yards, .ref q_a0_truth, .ref q_a0_notes, .ref q_a0_words, .ref q_a0_mud, .int a0_size])), (q_a0_yards, .inl (cI, 8, .inl a0_yards)), (q_a0_truth, .inl (cI, 8, .inl a0_truth)), (q_a0_notes, .inl (cI, 8, .inl a0_notes)), (q_a0_words, .inl (cI, 8, .inl a0_words)), (q_a0_mud, .inl (cI, 8, .inl a0_mud)), (q_a1, .inr (0, [.ref q_a1_yards, .ref q_a1_truth, .ref q_a1_notes, .ref q_a1_words, .ref q_a1_mud, .int a1_size])), (q_a1_yards, .inl (cI, 8, .inl a1_yards)), (q_a1_truth, .inl (cI, 8, .inl a1_truth)), (q_a1_notes, .inl (cI, 8, .inl a1_notes)), (q_a1_words, .inl (cI, 8, .inl a1_words)), (q_a1_mud, .inl (cI, 8, .inl a1_mud))] sz) [(q_a0, .inr (0, [.ref q_a0_yards, .ref q_a0_truth, .ref q_a0_notes, .ref q_a0_words, .ref q_a0_mud, .int u.2.2.2.2.2])), (q_a0_yards, .inl (cI, 8, .inl u.1)), (q_a0_truth, .inl (cI, 8, .inl u.2.1)), (q_a0_notes, .inl (cI, 8, .inl u.2.2.1)), (q_a0_words, .inl (cI, 8, .inl u.2.2.2.1)), (q_a0_mud, .inl (cI, 8, .inl u.2.2.2.2.1)), (q_a1, .inr (0, [.ref q_a1_yards, .ref q_a1_truth, .ref q_a1_notes, .ref q_a1_words, .ref q_a1_mud, .int a1_size])), (q_a1_yards, .inl (cI, 8, .inl a1_yards)), (q_a1_truth, .inl (cI, 8, .inl a1_truth)), (q_a1_notes, .inl (cI, 8, .inl a1_notes)), (q_a1_words, .inl (cI, 8, .inl a1_words)), (q_a1_mud, .inl (cI, 8, .inl a1_mud))]) (va_A [(q_a0, .inr (0, [.ref q_a0_yards, .ref q_a0_truth, .ref q_a0_notes, .ref q_a0_words, .ref q_a0_mud, .int a0_size])), (q_a0_yards, .inl (cI, 8, .inl a0_yards)), (q_a0_truth, .inl (cI, 8, .inl a0_truth)), (q_a0_notes, .inl (cI, 8, .inl a0_notes)), (q_a0_words, .inl (cI, 8, .inl a0_words)), (q_a0_mud, .inl (cI, 8, .inl a0_mud)), (q_a1, .inr (0, [.ref q_a1_yards, .ref q_a1_truth, .ref q_a1_notes, .ref q_a1_words, .ref q_a1_mud, .int a1_size])), (q_a1_yards, .inl (cI, 8, .inl a1_yards)), (q_a1_truth, .inl (cI, 8, .inl a1_truth)), (q_a1_notes, .inl (cI, 8, .inl a1_notes)), (q_a1_words, .inl (cI, 8, .inl a1_words)), (q_a1_mud, .inl (cI, 8, .inl a1_mud))] sz)) 0 0 (va_A [(q_a0, .inr (0, [.ref q_a0_yards, .ref q_a0_truth, .ref q_a0_notes, .ref q_a0_words, .ref q_a0_mud, .int a0_size])), (q_a0_yards, .inl (cI, 8, .inl a0_yards)), (q_a0_truth, .inl (cI, 8, .inl a0_truth)), (q_a0_notes, .inl (cI, 8, .inl a0_notes)), (q_a0_words, .inl (cI, 8, .inl a0_words)), (q_a0_mud, .inl (cI, 8, .inl a0_mud)), (q_a1, .inr (0, [.ref q_a1_yards, .ref q_a1_truth, .ref q_a1_notes, .ref q_a1_words, .ref q_a1_mud, .int a1_size])), (q_a1_yards, .inl (cI, 8, .inl a1_yards)), (q_a1_truth, .inl (cI, 8, .inl a1_truth)), (q_a1_notes, .inl (cI, 8, .inl a1_notes)), (q_a1_words, .inl (cI, 8, .inl a1_words)), (q_a1_mud, .inl (cI, 8, .inl a1_mud))] sz) := by
  refine Met.ofW (cc := cX0_take) (maxL := 2) (ret := none) (by decide) rfl ?_
  intro p e s m args below meth c s₁ B hml hv
  obtain ⟨rfl, hsz, hP, hX, hD0⟩ := hv
  have hK := hX.1
  have hx := B.exec
  have hb := B.bytes
  have hr := B.returns
  have hts := atoms_spec (ws := wsX0_take) B.pre
  have hown : s.vm.findClass RX0 = some m.cls := findClass_of_methodNamed B.named
  have hlocks := B.notSynchronized
  have in_X0 : ∀ w ∈ wsX00, w ∈ wsX0_take := fun _ h => List.mem_cons_of_mem _ (List.mem_append_right _ h)
  have kf_9 := hts (.fieldLink RX0 9 "LeftCrest$Bends" "yards" "[I") (by decide +kernel)
  have kl_39 := hts (.methodLink RX0 39 arraycopyName) (by decide +kernel)
  have kl_nat := hts (.native arraycopyName) (by decide +kernel)
  have kl_sta := hts (.static arraycopyName) (by decide +kernel)
  have kl_ini := hts (.initialized "java/lang/System") (by decide +kernel)
  have kf_15 := hts (.fieldLink RX0 15 "LeftCrest$Bends" "truth" "[I") (by decide +kernel)
  have kf_18 := hts (.fieldLink RX0 18 "LeftCrest$Bends" "notes" "[I") (by decide +kernel)
  have kf_21 := hts (.fieldLink RX0 21 "LeftCrest$Bends" "words" "[I") (by decide +kernel)
  have kf_24 := hts (.fieldLink RX0 24 "LeftCrest$Bends" "mud" "[I") (by decide +kernel)
  have kf_27 := hts (.fieldLink RX0 27 "LeftCrest$Bends" "size" "I") (by decide +kernel)
  subst hsz
  have hD := hD0.self (sz := s.heap.size)
  generalize hAe : va_A [(q_a0, .inr (0, [.ref q_a0_yards, .ref q_a0_truth, .ref q_a0_notes, .ref q_a0_words, .ref q_a0_mud, .int a0_size])), (q_a0_yards, .inl (cI, 8, .inl a0_yards)), (q_a0_truth, .inl (cI, 8, .inl a0_truth)), (q_a0_notes, .inl (cI, 8, .inl a0_notes)), (q_a0_words, .inl (cI, 8, .inl a0_words)), (q_a0_mud, .inl (cI, 8, .inl a0_mud)), (q_a1, .inr (0, [.ref q_a1_yards, .ref q_a1_truth, .ref q_a1_notes, .ref q_a1_words, .ref q_a1_mud, .int a1_size])), (q_a1_yards, .inl (cI, 8, .inl a1_yards)), (q_a1_truth, .inl (cI, 8, .inl a1_truth)), (q_a1_notes, .inl (cI, 8, .inl a1_notes)), (q_a1_words, .inl (cI, 8, .inl a1_words)), (q_a1_mud, .inl (cI, 8, .inl a1_mud))] s.heap.size = A at hD ⊢
  have hA : ∀ q : Nat, s.heap.size ≤ q → A q := fun q h => by rw [← hAe]; exact Or.inr h
  have hS : va_S A s.heap s.heap [] := va_S.rf
  have hP : va_P D vwCl [(q_a0, .inr (0, [.ref q_a0_yards, .ref q_a0_truth, .ref q_a0_notes, .ref q_a0_words, .ref q_a0_mud, .int a0_size])), (q_a0_yards, .inl (cI, 8, .inl a0_yards)), (q_a0_truth, .inl (cI, 8, .inl a0_truth)), (q_a0_notes, .inl (cI, 8, .inl a0_notes)), (q_a0_words, .inl (cI, 8, .inl a0_words)), (q_a0_mud, .inl (cI, 8, .inl a0_mud)), (q_a1, .inr (0, [.ref q_a1_yards, .ref q_a1_truth, .ref q_a1_notes, .ref q_a1_words, .ref q_a1_mud, .int a1_size])), (q_a1_yards, .inl (cI, 8, .inl a1_yards)), (q_a1_truth, .inl (cI, 8, .inl a1_truth)), (q_a1_notes, .inl (cI, 8, .inl a1_notes)), (q_a1_words, .inl (cI, 8, .inl a1_words)), (q_a1_mud, .inl (cI, 8, .inl a1_mud))] s.heap := hP
  generalize hQQ : MQ below _ _ s _ _ _ = QQ
  have hl := lv_entry ([.ref q_a0, .ref q_a1]) (n := 2) (Nat.le_of_ble_eq_true rfl)
  rw [lg_entry_eq]
  generalize (lg_sl ([.ref q_a0, .ref q_a1]) ++ List.replicate (2 - (lg_sl ([.ref q_a0, .ref q_a1])).length) Slot.unset).toArray = ls at hl ⊢
  have hl : lv_has ls 2 [(0, .ref q_a0), (1, .ref q_a1)] := hl
  unfold p_X0_take at hf
  refine lv_aload_n hx hb dX0_take_0 rfl (lv_at hl 1 rfl) ?_
  refine va_get (D := D) (ci := 0) (v := .ref q_a1_yards) (C := RX0) (T := TX0) (N := 6) hx hb hts in_X0 hown hK hP 6 rfl rfl 0 (by decide) kf_9 (fun _ h9 => h9) rfl dX0_take_1 ?_
  refine lv_iconst (v := 0) hx hb dX0_take_4 (by decide) ?_
  refine lv_aload_n hx hb dX0_take_5 rfl (lv_at hl 0 rfl) ?_
  refine va_get (D := D) (ci := 0) (v := .ref q_a0_yards) (C := RX0) (T := TX0) (N := 6) hx hb hts in_X0 hown hK hP 0 rfl rfl 0 (by decide) kf_9 (fun _ h9 => h9) rfl dX0_take_6 ?_
  refine lv_iconst (v := 0) hx hb dX0_take_9 (by decide) ?_
  refine lv_bipush (v := 8) hx hb dX0_take_10 (by decide) ?_
  refine va_copyi hx hb (by rw [hml]; exact hl.1.symm) hown kl_39 kl_nat kl_sta kl_ini hK hP hD hS 7 1 0 0 rfl rfl rfl rfl rfl (by decide) (by decide) (by decide) (by decide) (by decide) (fun _ _ => rfl) (Nat.le_of_ble_eq_true rfl) (Nat.le_of_ble_eq_true rfl) dX0_take_12 (fun H locs hP hD hS => ?_)
  have hP : va_P D vwCl [(q_a0, .inr (0, [.ref q_a0_yards, .ref q_a0_truth, .ref q_a0_notes, .ref q_a0_words, .ref q_a0_mud, .int a0_size])), (q_a0_yards, .inl (cI, 8, .inl (va_cpy a1_yards a0_yards (0 : Int32).toNatClampNeg (0 : Int32).toNatClampNeg (8 : Int32).toNatClampNeg))), (q_a0_truth, .inl (cI, 8, .inl a0_truth)), (q_a0_notes, .inl (cI, 8, .inl a0_notes)), (q_a0_words, .inl (cI, 8, .inl a0_words)), (q_a0_mud, .inl (cI, 8, .inl a0_mud)), (q_a1, .inr (0, [.ref q_a1_yards, .ref q_a1_truth, .ref q_a1_notes, .ref q_a1_words, .ref q_a1_mud, .int a1_size])), (q_a1_yards, .inl (cI, 8, .inl a1_yards)), (q_a1_truth, .inl (cI, 8, .inl a1_truth)), (q_a1_notes, .inl (cI, 8, .inl a1_notes)), (q_a1_words, .inl (cI, 8, .inl a1_words)), (q_a1_mud, .inl (cI, 8, .inl a1_mud))] H := hP
  have hD : va_D A [(q_a0, .inr (0, [.ref q_a0_yards, .ref q_a0_truth, .ref q_a0_notes, .ref q_a0_words, .ref q_a0_mud, .int a0_size])), (q_a0_yards, .inl (cI, 8, .inl (va_cpy a1_yards a0_yards (0 : Int32).toNatClampNeg (0 : Int32).toNatClampNeg (8 : Int32).toNatClampNeg))), (q_a0_truth, .inl (cI, 8, .inl a0_truth)), (q_a0_notes, .inl (cI, 8, .inl a0_notes)), (q_a0_words, .inl (cI, 8, .inl a0_words)), (q_a0_mud, .inl (cI, 8, .inl a0_mud)), (q_a1, .inr (0, [.ref q_a1_yards, .ref q_a1_truth, .ref q_a1_notes, .ref q_a1_words, .ref q_a1_mud, .int a1_size])), (q_a1_yards, .inl (cI, 8, .inl a1_yards)), (q_a1_truth, .inl (cI, 8, .inl a1_truth)), (q_a1_notes, .inl (cI, 8, .inl a1_notes)), (q_a1_words, .inl (cI, 8, .inl a1_words)), (q_a1_mud, .inl (cI, 8, .inl a1_mud))] := hD
  refine lv_aload_n hx hb dX0_take_15 rfl (lv_at hl 1 rfl) ?_
  refine va_get (D := D) (ci := 0) (v := .ref q_a1_truth) (C := RX0) (T := TX0) (N := 6) hx hb hts in_X0 hown hK hP 6 rfl rfl 1 (by decide) kf_15 (fun _ h9 => h9) rfl dX0_take_16 ?_
  refine lv_iconst (v := 0) hx hb dX0_take_19 (by decide) ?_
  refine lv_aload_n hx hb dX0_take_20 rfl (lv_at hl 0 rfl) ?_
  refine va_get (D := D) (ci := 0) (v := .ref q_a0_truth) (C := RX0) (T := TX0) (N := 6) hx hb hts in_X0 hown hK hP 0 rfl rfl 1 (by decide) kf_15 (fun _ h9 => h9) rfl dX0_take_21 ?_
  refine lv_iconst (v := 0) hx hb dX0_take_24 (by decide) ?_
  refine lv_bipush (v := 8) hx hb dX0_take_25 (by decide) ?_
  refine va_copyi hx hb (by rw [hml]; exact hl.1.symm) hown kl_39 kl_nat kl_sta kl_ini hK hP hD hS 8 2 0 0 rfl rfl rfl rfl rfl (by decide) (by decide) (by decide) (by decide) (by decide) (fun _ _ => rfl) (Nat.le_of_ble_eq_true rfl) (Nat.le_of_ble_eq_true rfl) dX0_take_27 (fun H locs hP hD hS => ?_)
  have hP : va_P D vwCl [(q_a0, .inr (0, [.ref q_a0_yards, .ref q_a0_truth, .ref q_a0_notes, .ref q_a0_words, .ref q_a0_mud, .int a0_size])), (q_a0_yards, .inl (cI, 8, .inl (va_cpy a1_yards a0_yards (0 : Int32).toNatClampNeg (0 : Int32).toNatClampNeg (8 : Int32).toNatClampNeg))), (q_a0_truth, .inl (cI, 8, .inl (va_cpy a1_truth a0_truth (0 : Int32).toNatClampNeg (0 : Int32).toNatClampNeg (8 : Int32).toNatClampNeg))), (q_a0_notes, .inl (cI, 8, .inl a0_notes)), (q_a0_words, .inl (cI, 8, .inl a0_words)), (q_a0_mud, .inl (cI, 8, .inl a0_mud)), (q_a1, .inr (0, [.ref q_a1_yards, .ref q_a1_truth, .ref q_a1_notes, .ref q_a1_words, .ref q_a1_mud, .int a1_size])), (q_a1_yards, .inl (cI, 8, .inl a1_yards)), (q_a1_truth, .inl (cI, 8, .inl a1_truth)), (q_a1_notes, .inl (cI, 8, .inl a1_notes)), (q_a1_words, .inl (cI, 8, .inl a1_words)), (q_a1_mud, .inl (cI, 8, .inl a1_mud))] H := hP
  have hD : va_D A [(q_a0, .inr (0, [.ref q_a0_yards, .ref q_a0_truth, .ref q_a0_notes, .ref q_a0_words, .ref q_a0_mud, .int a0_size])), (q_a0_yards, .inl (cI, 8, .inl (va_cpy a1_yards a0_yards (0 : Int32).toNatClampNeg (0 : Int32).toNatClampNeg (8 : Int32).toNatClampNeg))), (q_a0_truth, .inl (cI, 8, .inl (va_cpy a1_truth a0_truth (0 : Int32).toNatClampNeg (0 : Int32).toNatClampNeg (8 : Int32).toNatClampNeg))), (q_a0_notes, .inl (cI, 8, .inl a0_notes)), (q_a0_words, .inl (cI, 8, .inl a0_words)), (q_a0_mud, .inl (cI, 8, .inl a0_mud)), (q_a1, .inr (0, [.ref q_a1_yards, .ref q_a1_truth, .ref q_a1_notes, .ref q_a1_words, .ref q_a1_mud, .int a1_size])), (q_a1_yards, .inl (cI, 8, .inl a1_yards)), (q_a1_truth, .inl (cI, 8, .inl a1_truth)), (q_a1_notes, .inl (cI, 8, .inl a1_notes)), (q_a1_words, .inl (cI, 8, .inl a1_words)), (q_a1_mud, .inl (cI, 8, .inl a1_mud))] := hD
  refine lv_aload_n hx hb dX0_take_30 rfl (lv_at hl 1 rfl) ?_
  refine va_get (D := D) (ci := 0) (v := .ref q_a1_notes) (C := RX0) (T := TX0) (N := 6) hx hb hts in_X0 hown hK hP 6 rfl rfl 2 (by decide) kf_18 (fun _ h9 => h9) rfl dX0_take_31 ?_
  refine lv_iconst (v := 0) hx hb dX0_take_34 (by decide) ?_
  refine lv_aload_n hx hb dX0_take_35 rfl (lv_at hl 0 rfl) ?_
  refine va_get (D := D) (ci := 0) (v := .ref q_a0_notes) (C := RX0) (T := TX0) (N := 6) hx hb hts in_X0 hown hK hP 0 rfl rfl 2 (by decide) kf_18 (fun _ h9 => h9) rfl dX0_take_36 ?_
  refine lv_iconst (v := 0) hx hb dX0_take_39 (by decide) ?_
  refine lv_bipush (v := 8) hx hb dX0_take_40 (by decide) ?_
  refine va_copyi hx hb (by rw [hml]; exact hl.1.symm) hown kl_39 kl_nat kl_sta kl_ini hK hP hD hS 9 3 0 0 rfl rfl rfl rfl rfl (by decide) (by decide) (by decide) (by decide) (by decide) (fun _ _ => rfl) (Nat.le_of_ble_eq_true rfl) (Nat.le_of_ble_eq_true rfl) dX0_take_42 (fun H locs hP hD hS => ?_)
  have hP : va_P D vwCl [(q_a0, .inr (0, [.ref q_a0_yards, .ref q_a0_truth, .ref q_a0_notes, .ref q_a0_words, .ref q_a0_mud, .int a0_size])), (q_a0_yards, .inl (cI, 8, .inl (va_cpy a1_yards a0_yards (0 : Int32).toNatClampNeg (0 : Int32).toNatClampNeg (8 : Int32).toNatClampNeg))), (q_a0_truth, .inl (cI, 8, .inl (va_cpy a1_truth a0_truth (0 : Int32).toNatClampNeg (0 : Int32).toNatClampNeg (8 : Int32).toNatClampNeg))), (q_a0_notes, .inl (cI, 8, .inl (va_cpy a1_notes a0_notes (0 : Int32).toNatClampNeg (0 : Int32).toNatClampNeg (8 : Int32).toNatClampNeg))), (q_a0_words, .inl (cI, 8, .inl a0_words)), (q_a0_mud, .inl (cI, 8, .inl a0_mud)), (q_a1, .inr (0, [.ref q_a1_yards, .ref q_a1_truth, .ref q_a1_notes, .ref q_a1_words, .ref q_a1_mud, .int a1_size])), (q_a1_yards, .inl (cI, 8, .inl a1_yards)), (q_a1_truth, .inl (cI, 8, .inl a1_truth)), (q_a1_notes, .inl (cI, 8, .inl a1_notes)), (q_a1_words, .inl (cI, 8, .inl a1_words)), (q_a1_mud, .inl (cI, 8, .inl a1_mud))] H := hP
  have hD : va_D A [(q_a0, .inr (0, [.ref q_a0_yards, .ref q_a0_truth, .ref q_a0_notes, .ref q_a0_words, .ref q_a0_mud, .int a0_size])), (q_a0_yards, .inl (cI, 8, .inl (va_cpy a1_yards a0_yards (0 : Int32).toNatClampNeg (0 : Int32).toNatClampNeg (8 : Int32).toNatClampNeg))), (q_a0_truth, .inl (cI, 8, .inl (va_cpy a1_truth a0_truth (0 : Int32).toNatClampNeg (0 : Int32).toNatClampNeg (8 : Int32).toNatClampNeg))), (q_a0_notes, .inl (cI, 8, .inl (va_cpy a1_notes a0_notes (0 : Int32).toNatClampNeg (0 : Int32).toNatClampNeg (8 : Int32).toNatClampNeg))), (q_a0_words, .inl (cI, 8, .inl a0_words)), (q_a0_mud, .inl (cI, 8, .inl a0_mud)), (q_a1, .inr (0, [.ref q_a1_yards, .ref q_a1_truth, .ref q_a1_notes, .ref q_a1_words, .ref q_a1_mud, .int a1_size])), (q_a1_yards, .inl (cI, 8, .inl a1_yards)), (q_a1_truth, .inl (cI, 8, .inl a1_truth)), (q_a1_notes, .inl (cI, 8, .inl a1_notes)), (q_a1_words, .inl (cI, 8, .inl a1_words)), (q_a1_mud, .inl (cI, 8, .inl a1_mud))] := hD
  refine lv_aload_n hx hb dX0_take_45 rfl (lv_at hl 1 rfl) ?_
  refine va_get (D := D) (ci := 0) (v := .ref q_a1_words) (C := RX0) (T := TX0) (N := 6) hx hb hts in_X0 hown hK hP 6 rfl rfl 3 (by decide) kf_21 (fun _ h9 => h9) rfl dX0_take_46 ?_
  refine lv_iconst (v := 0) hx hb dX0_take_49 (by decide) ?_
  refine lv_aload_n hx hb dX0_take_50 rfl (lv_at hl 0 rfl) ?_
  refine va_get (D := D) (ci := 0) (v := .ref q_a0_words) (C := RX0) (T := TX0) (N := 6) hx hb hts in_X0 hown hK hP 0 rfl rfl 3 (by decide) kf_21 (fun _ h9 => h9) rfl dX0_take_51 ?_
  refine lv_iconst (v := 0) hx hb dX0_take_54 (by decide) ?_
  refine lv_bipush (v := 8) hx hb dX0_take_55 (by decide) ?_
  refine va_copyi hx hb (by rw [hml]; exact hl.1.symm) hown kl_39 kl_nat kl_sta kl_ini hK hP hD hS 10 4 0 0 rfl rfl rfl rfl rfl (by decide) (by decide) (by decide) (by decide) (by decide) (fun _ _ => rfl) (Nat.le_of_ble_eq_true rfl) (Nat.le_of_ble_eq_true rfl) dX0_take_57 (fun H locs hP hD hS => ?_)
  have hP : va_P D vwCl [(q_a0, .inr (0, [.ref q_a0_yards, .ref q_a0_truth, .ref q_a0_notes, .ref q_a0_words, .ref q_a0_mud, .int a0_size])), (q_a0_yards, .inl (cI, 8, .inl (va_cpy a1_yards a0_yards (0 : Int32).toNatClampNeg (0 : Int32).toNatClampNeg (8 : Int32).toNatClampNeg))), (q_a0_truth, .inl (cI, 8, .inl (va_cpy a1_truth a0_truth (0 : Int32).toNatClampNeg (0 : Int32).toNatClampNeg (8 : Int32).toNatClampNeg))), (q_a0_notes, .inl (cI, 8, .inl (va_cpy a1_notes a0_notes (0 : Int32).toNatClampNeg (0 : Int32).toNatClampNeg (8 : Int32).toNatClampNeg))), (q_a0_words, .inl (cI, 8, .inl (va_cpy a1_words a0_words (0 : Int32).toNatClampNeg (0 : Int32).toNatClampNeg (8 : Int32).toNatClampNeg))), (q_a0_mud, .inl (cI, 8, .inl a0_mud)), (q_a1, .inr (0, [.ref q_a1_yards, .ref q_a1_truth, .ref q_a1_notes, .ref q_a1_words, .ref q_a1_mud, .int a1_size])), (q_a1_yards, .inl (cI, 8, .inl a1_yards)), (q_a1_truth, .inl (cI, 8, .inl a1_truth)), (q_a1_notes, .inl (cI, 8, .inl a1_notes)), (q_a1_words, .inl (cI, 8, .inl a1_words)), (q_a1_mud, .inl (cI, 8, .inl a1_mud))] H := hP
  have hD : va_D A [(q_a0, .inr (0, [.ref q_a0_yards, .ref q_a0_truth, .ref q_a0_notes, .ref q_a0_words, .ref q_a0_mud, .int a0_size])), (q_a0_yards, .inl (cI, 8, .inl (va_cpy a1_yards a0_yards (0 : Int32).toNatClampNeg (0 : Int32).toNatClampNeg (8 : Int32).toNatClampNeg))), (q_a0_truth, .inl (cI, 8, .inl (va_cpy a1_truth a0_truth (0 : Int32).toNatClampNeg (0 : Int32).toNatClampNeg (8 : Int32).toNatClampNeg))), (q_a0_notes, .inl (cI, 8, .inl (va_cpy a1_notes a0_notes (0 : Int32).toNatClampNeg (0 : Int32).toNatClampNeg (8 : Int32).toNatClampNeg))), (q_a0_words, .inl (cI, 8, .inl (va_cpy a1_words a0_words (0 : Int32).toNatClampNeg (0 : Int32).toNatClampNeg (8 : Int32).toNatClampNeg))), (q_a0_mud, .inl (cI, 8, .inl a0_mud)), (q_a1, .inr (0, [.ref q_a1_yards, .ref q_a1_truth, .ref q_a1_notes, .ref q_a1_words, .ref q_a1_mud, .int a1_size])), (q_a1_yards, .inl (cI, 8, .inl a1_yards)), (q_a1_truth, .inl (cI, 8, .inl a1_truth)), (q_a1_notes, .inl (cI, 8, .inl a1_notes)), (q_a1_words, .inl (cI, 8, .inl a1_words)), (q_a1_mud, .inl (cI, 8, .inl a1_mud))] := hD
  refine lv_aload_n hx hb dX0_take_60 rfl (lv_at hl 1 rfl) ?_
  refine va_get (D := D) (ci := 0) (v := .ref q_a1_mud) (C := RX0) (T := TX0) (N := 6) hx hb hts in_X0 hown hK hP 6 rfl rfl 4 (by decide) kf_24 (fun _ h9 => h9) rfl dX0_take_61 ?_
  refine lv_iconst (v := 0) hx hb dX0_take_64 (by decide) ?_
  refine lv_aload_n hx hb dX0_take_65 rfl (lv_at hl 0 rfl) ?_
  refine va_get (D := D) (ci := 0) (v := .ref q_a0_mud) (C := RX0) (T := TX0) (N := 6) hx hb hts in_X0 hown hK hP 0 rfl rfl 4 (by decide) kf_24 (fun _ h9 => h9) rfl dX0_take_66 ?_
  refine lv_iconst (v := 0) hx hb dX0_take_69 (by decide) ?_
  refine lv_bipush (v := 8) hx hb dX0_take_70 (by decide) ?_
  refine va_copyi hx hb (by rw [hml]; exact hl.1.symm) hown kl_39 kl_nat kl_sta kl_ini hK hP hD hS 11 5 0 0 rfl rfl rfl rfl rfl (by decide) (by decide) (by decide) (by decide) (by decide) (fun _ _ => rfl) (Nat.le_of_ble_eq_true rfl) (Nat.le_of_ble_eq_true rfl) dX0_take_72 (fun H locs hP hD hS => ?_)
  have hP : va_P D vwCl [(q_a0, .inr (0, [.ref q_a0_yards, .ref q_a0_truth, .ref q_a0_notes, .ref q_a0_words, .ref q_a0_mud, .int a0_size])), (q_a0_yards, .inl (cI, 8, .inl (va_cpy a1_yards a0_yards (0 : Int32).toNatClampNeg (0 : Int32).toNatClampNeg (8 : Int32).toNatClampNeg))), (q_a0_truth, .inl (cI, 8, .inl (va_cpy a1_truth a0_truth (0 : Int32).toNatClampNeg (0 : Int32).toNatClampNeg (8 : Int32).toNatClampNeg))), (q_a0_notes, .inl (cI, 8, .inl (va_cpy a1_notes a0_notes (0 : Int32).toNatClampNeg (0 : Int32).toNatClampNeg (8 : Int32).toNatClampNeg))), (q_a0_words, .inl (cI, 8, .inl (va_cpy a1_words a0_words (0 : Int32).toNatClampNeg (0 : Int32).toNatClampNeg (8 : Int32).toNatClampNeg))), (q_a0_mud, .inl (cI, 8, .inl (va_cpy a1_mud a0_mud (0 : Int32).toNatClampNeg (0 : Int32).toNatClampNeg (8 : Int32).toNatClampNeg))), (q_a1, .inr (0, [.ref q_a1_yards, .ref q_a1_truth, .ref q_a1_notes, .ref q_a1_words, .ref q_a1_mud, .int a1_size])), (q_a1_yards, .inl (cI, 8, .inl a1_yards)), (q_a1_truth, .inl (cI, 8, .inl a1_truth)), (q_a1_notes, .inl (cI, 8, .inl a1_notes)), (q_a1_words, .inl (cI, 8, .inl a1_words)), (q_a1_mud, .inl (cI, 8, .inl a1_mud))] H := hP
  have hD : va_D A [(q_a0, .inr (0, [.ref q_a0_yards, .ref q_a0_truth, .ref q_a0_notes, .ref q_a0_words, .ref q_a0_mud, .int a0_size])), (q_a0_yards, .inl (cI, 8, .inl (va_cpy a1_yards a0_yards (0 : Int32).toNatClampNeg (0 : Int32).toNatClampNeg (8 : Int32).toNatClampNeg))), (q_a0_truth, .inl (cI, 8, .inl (va_cpy a1_truth a0_truth (0 : Int32).toNatClampNeg (0 : Int32).toNatClampNeg (8 : Int32).toNatClampNeg))), (q_a0_notes, .inl (cI, 8, .inl (va_cpy a1_notes a0_notes (0 : Int32).toNatClampNeg (0 : Int32).toNatClampNeg (8 : Int32).toNatClampNeg))), (q_a0_words, .inl (cI, 8, .inl (va_cpy a1_words a0_words (0 : Int32).toNatClampNeg (0 : Int32).toNatClampNeg (8 : Int32).toNatClampNeg))), (q_a0_mud, .inl (cI, 8, .inl (va_cpy a1_mud a0_mud (0 : Int32).toNatClampNeg (0 : Int32).toNatClampNeg (8 : Int32).toNatClampNeg))), (q_a1, .inr (0, [.ref q_a1_yards, .ref q_a1_truth, .ref q_a1_notes, .ref q_a1_words, .ref q_a1_mud, .int a1_size])), (q_a1_yards, .inl (cI, 8, .inl a1_yards)), (q_a1_truth, .inl (cI, 8, .inl a1_truth)), (q_a1_notes, .inl (cI, 8, .inl a1_notes)), (q_a1_words, .inl (cI, 8, .inl a1_words)), (q_a1_mud, .inl (cI, 8, .inl a1_mud))] := hD
  refine lv_aload_n hx hb dX0_take_75 rfl (lv_at hl 0 rfl) ?_
  refine lv_aload_n hx hb dX0_take_76 rfl (lv_at hl 1 rfl) ?_
  refine va_get (D := D) (ci := 0) (v := .int a1_size) (C := RX0) (T := TX0) (N := 6) hx hb hts in_X0 hown hK hP 6 rfl rfl 5 (by decide) kf_27 (fun _ h9 => h9) rfl dX0_take_77 ?_
  refine va_put (D := D) (ci := 0) (v := .int a1_size) (ty := .int) (C := RX0) (T := TX0) (N := 6) hx hb hts in_X0 tyX0 tyX0_ok nmX0 hown hK hP hD hS 0 rfl rfl 5 (by decide) kf_27 (fun _ h9 => h9) rfl (by decide +kernel) rfl rfl (Nat.le_of_ble_eq_true rfl) dX0_take_80 (fun H locs hP hD hS => ?_)
  have hP : va_P D vwCl [(q_a0, .inr (0, [.ref q_a0_yards, .ref q_a0_truth, .ref q_a0_notes, .ref q_a0_words, .ref q_a0_mud, .int a1_size])), (q_a0_yards, .inl (cI, 8, .inl (va_cpy a1_yards a0_yards (0 : Int32).toNatClampNeg (0 : Int32).toNatClampNeg (8 : Int32).toNatClampNeg))), (q_a0_truth, .inl (cI, 8, .inl (va_cpy a1_truth a0_truth (0 : Int32).toNatClampNeg (0 : Int32).toNatClampNeg (8 : Int32).toNatClampNeg))), (q_a0_notes, .inl (cI, 8, .inl (va_cpy a1_notes a0_notes (0 : Int32).toNatClampNeg (0 : Int32).toNatClampNeg (8 : Int32).toNatClampNeg))), (q_a0_words, .inl (cI, 8, .inl (va_cpy a1_words a0_words (0 : Int32).toNatClampNeg (0 : Int32).toNatClampNeg (8 : Int32).toNatClampNeg))), (q_a0_mud, .inl (cI, 8, .inl (va_cpy a1_mud a0_mud (0 : Int32).toNatClampNeg (0 : Int32).toNatClampNeg (8 : Int32).toNatClampNeg))), (q_a1, .inr (0, [.ref q_a1_yards, .ref q_a1_truth, .ref q_a1_notes, .ref q_a1_words, .ref q_a1_mud, .int a1_size])), (q_a1_yards, .inl (cI, 8, .inl a1_yards)), (q_a1_truth, .inl (cI, 8, .inl a1_truth)), (q_a1_notes, .inl (cI, 8, .inl a1_notes)), (q_a1_words, .inl (cI, 8, .inl a1_words)), (q_a1_mud, .inl (cI, 8, .inl a1_mud))] H := hP
  have hD : va_D A [(q_a0, .inr (0, [.ref q_a0_yards, .ref q_a0_truth, .ref q_a0_notes, .ref q_a0_words, .ref q_a0_mud, .int a1_size])), (q_a0_yards, .inl (cI, 8, .inl (va_cpy a1_yards a0_yards (0 : Int32).toNatClampNeg (0 : Int32).toNatClampNeg (8 : Int32).toNatClampNeg))), (q_a0_truth, .inl (cI, 8, .inl (va_cpy a1_truth a0_truth (0 : Int32).toNatClampNeg (0 : Int32).toNatClampNeg (8 : Int32).toNatClampNeg))), (q_a0_notes, .inl (cI, 8, .inl (va_cpy a1_notes a0_notes (0 : Int32).toNatClampNeg (0 : Int32).toNatClampNeg (8 : Int32).toNatClampNeg))), (q_a0_words, .inl (cI, 8, .inl (va_cpy a1_words a0_words (0 : Int32).toNatClampNeg (0 : Int32).toNatClampNeg (8 : Int32).toNatClampNeg))), (q_a0_mud, .inl (cI, 8, .inl (va_cpy a1_mud a0_mud (0 : Int32).toNatClampNeg (0 : Int32).toNatClampNeg (8 : Int32).toNatClampNeg))), (q_a1, .inr (0, [.ref q_a1_yards, .ref q_a1_truth, .ref q_a1_notes, .ref q_a1_words, .ref q_a1_mud, .int a1_size])), (q_a1_yards, .inl (cI, 8, .inl a1_yards)), (q_a1_truth, .inl (cI, 8, .inl a1_truth)), (q_a1_notes, .inl (cI, 8, .inl a1_notes)), (q_a1_words, .inl (cI, 8, .inl a1_words)), (q_a1_mud, .inl (cI, 8, .inl a1_mud))] := hD
  subst hQQ
  have hP9 := hP.sub (ws' := [(q_a0, .inr (0, [.ref q_a0_yards, .ref q_a0_truth, .ref q_a0_notes, .ref q_a0_words, .ref q_a0_mud, .int a1_size])), (q_a0_yards, .inl (cI, 8, .inl (va_cpy a1_yards a0_yards (0 : Int32).toNatClampNeg (0 : Int32).toNatClampNeg (8 : Int32).toNatClampNeg))), (q_a0_truth, .inl (cI, 8, .inl (va_cpy a1_truth a0_truth (0 : Int32).toNatClampNeg (0 : Int32).toNatClampNeg (8 : Int32).toNatClampNeg))), (q_a0_notes, .inl (cI, 8, .inl (va_cpy a1_notes a0_notes (0 : Int32).toNatClampNeg (0 : Int32).toNatClampNeg (8 : Int32).toNatClampNeg))), (q_a0_words, .inl (cI, 8, .inl (va_cpy a1_words a0_words (0 : Int32).toNatClampNeg (0 : Int32).toNatClampNeg (8 : Int32).toNatClampNeg))), (q_a0_mud, .inl (cI, 8, .inl (va_cpy a1_mud a0_mud (0 : Int32).toNatClampNeg (0 : Int32).toNatClampNeg (8 : Int32).toNatClampNeg))), (q_a1, .inr (0, [.ref q_a1_yards, .ref q_a1_truth, .ref q_a1_notes, .ref q_a1_words, .ref q_a1_mud, .int a1_size])), (q_a1_yards, .inl (cI, 8, .inl a1_yards)), (q_a1_truth, .inl (cI, 8, .inl a1_truth)), (q_a1_notes, .inl (cI, 8, .inl a1_notes)), (q_a1_words, .inl (cI, 8, .inl a1_words)), (q_a1_mud, .inl (cI, 8, .inl a1_mud))]) [0, 1, 2, 3, 4, 5, 6, 7, 8, 9, 10, 11] rfl
  have hD9 := hD.sub (ws' := [(q_a0, .inr (0, [.ref q_a0_yards, .ref q_a0_truth, .ref q_a0_notes, .ref q_a0_words, .ref q_a0_mud, .int a1_size])), (q_a0_yards, .inl (cI, 8, .inl (va_cpy a1_yards a0_yards (0 : Int32).toNatClampNeg (0 : Int32).toNatClampNeg (8 : Int32).toNatClampNeg))), (q_a0_truth, .inl (cI, 8, .inl (va_cpy a1_truth a0_truth (0 : Int32).toNatClampNeg (0 : Int32).toNatClampNeg (8 : Int32).toNatClampNeg))), (q_a0_notes, .inl (cI, 8, .inl (va_cpy a1_notes a0_notes (0 : Int32).toNatClampNeg (0 : Int32).toNatClampNeg (8 : Int32).toNatClampNeg))), (q_a0_words, .inl (cI, 8, .inl (va_cpy a1_words a0_words (0 : Int32).toNatClampNeg (0 : Int32).toNatClampNeg (8 : Int32).toNatClampNeg))), (q_a0_mud, .inl (cI, 8, .inl (va_cpy a1_mud a0_mud (0 : Int32).toNatClampNeg (0 : Int32).toNatClampNeg (8 : Int32).toNatClampNeg))), (q_a1, .inr (0, [.ref q_a1_yards, .ref q_a1_truth, .ref q_a1_notes, .ref q_a1_words, .ref q_a1_mud, .int a1_size])), (q_a1_yards, .inl (cI, 8, .inl a1_yards)), (q_a1_truth, .inl (cI, 8, .inl a1_truth)), (q_a1_notes, .inl (cI, 8, .inl a1_notes)), (q_a1_words, .inl (cI, 8, .inl a1_words)), (q_a1_mud, .inl (cI, 8, .inl a1_mud))]) [0, 1, 2, 3, 4, 5, 6, 7, 8, 9, 10, 11] (by decide) rfl
  exact W.vret hx hb hr (fun t ht hW => ⟨⟨(va_cpy a1_yards a0_yards (0 : Int32).toNatClampNeg (0 : Int32).toNatClampNeg (8 : Int32).toNatClampNeg, va_cpy a1_truth a0_truth (0 : Int32).toNatClampNeg (0 : Int32).toNatClampNeg (8 : Int32).toNatClampNeg, va_cpy a1_notes a0_notes (0 : Int32).toNatClampNeg (0 : Int32).toNatClampNeg (8 : Int32).toNatClampNeg, va_cpy a1_words a0_words (0 : Int32).toNatClampNeg (0 : Int32).toNatClampNeg (8 : Int32).toNatClampNeg, va_cpy a1_mud a0_mud (0 : Int32).toNatClampNeg (0 : Int32).toNatClampNeg (8 : Int32).toNatClampNeg, a1_size), rfl, hf, by rw [ht]; exact hP9, hD9⟩, hS.F ht⟩) hS.2.2 dX0_take_83
def bX0_digestOn_17 (a0_yards : Nat → Int32) (a0_truth : Nat → Int32) (a0_notes : Nat → Int32) (a0_words : Nat → Int32) (a0_mud : Nat → Int32) (k_3 : Int64 → Int32 → Prop) (v_2 : Int32) (k_7 : Int64 → Int32 → Prop) (v_5 : Int64) (v_6 : Int32) : Prop :=
  if 4 < v_6 then (k_3 v_5 (v_2 + 1)) else (p_X0_tell a0_yards a0_truth a0_notes a0_words a0_mud v_2 v_6 (fun r_9 => k_7 ((31 * v_5) + r_9.toInt64) (v_6 + 1)))
def bX0_digestOn_5 (a0_yards : Nat → Int32) (a0_truth : Nat → Int32) (a0_notes : Nat → Int32) (a0_words : Nat → Int32) (a0_mud : Nat → Int32) (a0_size : Int32) (Q : Int64 → Prop) (k_3 : Int64 → Int32 → Prop) (v_1 : Int64) (v_2 : Int32) : Prop :=
  if a0_size ≤ v_2 then (Q v_1) else (lq2 (bX0_digestOn_17 a0_yards a0_truth a0_notes a0_words a0_mud k_3 v_2) 1000 v_1 0)
def p_X0_digestOn (a0_yards : Nat → Int32) (a0_truth : Nat → Int32) (a0_notes : Nat → Int32) (a0_words : Nat → Int32) (a0_mud : Nat → Int32) (a0_size : Int32) (x1 : Int64) (Q : Int64 → Prop) : Prop :=
  lq2 (bX0_digestOn_5 a0_yards a0_truth a0_notes a0_words a0_mud a0_size Q) 1000 x1 0
def rmX0_digestOn : Room := { frames := 2, cells := 0, slots := 0, locals := 43 }
set_option maxHeartbeats 4000000 in
set_option maxRecDepth 100000 in
theorem c_X0_digestOn (l : Launch) (D : va_G) (cI cZ cO : ClassId) (q_a0 q_a0_yards q_a0_truth q_a0_notes q_a0_words q_a0_mud : Nat) (a0_size : Int32) (a0_yards : Nat → Int32) (a0_truth : Nat → Int32) (a0_notes : Nat → Int32) (a0_words : Nat → Int32) (a0_mud : Nat → Int32) (x1 : Int64) (Q : Int64 → Prop) (hf : p_X0_digestOn a0_yards a0_truth a0_notes a0_words a0_mud a0_size x1 Q) : Met l yX0_digestOn wsX0_digestOn rmX0_digestOn (va_Pc [.ref q_a0, .long x1] (fun U => va_P D vwCl [(q_a0, .inr (0, [.ref q_a0_yards, .ref q_a0_truth, .ref q_a0_notes, .ref q_a0_words, .ref q_a0_mud, .int a0_size])), (q_a0_yards, .inl (cI, 8, .inl a0_yards)), (q_a0_truth, .inl (cI, 8, .inl a0_truth)), (q_a0_notes, .inl (cI, 8, .inl a0_notes)), (q_a0_words, .inl (cI, 8, .inl a0_words)), (q_a0_mud, .inl (cI, 8, .inl a0_mud))] U.heap ∧ XK D cI cZ cO U)) (vp_Sl Q) 0 0 (fun _ => False) := by
  refine Met.ofW (cc := cX0_digestOn) (maxL := 7) (ret := (some .long)) (by decide) rfl ?_
  intro p e s m args below meth c s₁ B hml hv
  obtain ⟨rfl, hP, hX⟩ := hv
  have hK := hX.1
  have hx := B.exec
  have hb := B.bytes
  have hr := B.returns
  have hts := atoms_spec (ws := wsX0_digestOn) B.pre
  have hown : s.vm.findClass RX0 = some m.cls := findClass_of_methodNamed B.named
  have hlocks := B.notSynchronized
  have in_X0 : ∀ w ∈ wsX00, w ∈ wsX0_digestOn := fun _ h => List.mem_cons_of_mem _ (List.mem_append_right _ h)
  have kf_27 := hts (.fieldLink RX0 27 "LeftCrest$Bends" "size" "I") (by decide +kernel)
  have kc_45 := hts (.constantLong RX0 45 (31)) (by decide +kernel)
  generalize hQQ : MQ below _ _ s _ _ _ = QQ
  have hl := lv_entry ([.ref q_a0, .long x1]) (n := 7) (Nat.le_of_ble_eq_true rfl)
  rw [lg_entry_eq]
  generalize (lg_sl ([.ref q_a0, .long x1]) ++ List.replicate (7 - (lg_sl ([.ref q_a0, .long x1])).length) Slot.unset).toArray = ls at hl ⊢
  have hl : lv_has ls 7 [(0, .ref q_a0), (1, .long x1)] := hl
  unfold p_X0_digestOn at hf
  refine lv_lload_n hx hb dX0_digestOn_0 rfl (lv_at hl 1 rfl) ?_
  refine lv_lstore_n (lv' := [(3, .long x1), (0, .ref q_a0), (1, .long x1)]) hx hb dX0_digestOn_1 rfl hl (by decide) rfl (fun ls hl => ?_)
  refine lv_iconst (v := 0) hx hb dX0_digestOn_2 (by decide) ?_
  refine lv_istore (lv' := [(5, .int 0), (3, .long x1), (0, .ref q_a0), (1, .long x1)]) hx hb dX0_digestOn_3 hl (by decide) rfl (fun ls hl => ?_)
  have hlp_5 : ∀ (n_5 : Nat) (v_1 : Int64) (v_2 : Int32) (ls : Array Slot), lq2 (bX0_digestOn_5 a0_yards a0_truth a0_notes a0_words a0_mud a0_size Q) n_5 v_1 v_2 → lv_has ls 7 [(0, .ref q_a0), (3, .long v_1), (5, .int v_2)] → W p l e (headSpec wsX0_digestOn rmX0_digestOn).room s m ([.ref q_a0, .long x1] : List Value).toArray below meth c s.heap [] 0 0 QQ (F0 m 5 ls []) := by
    intro n_5
    induction n_5 with
    | zero => intro v_1 v_2 ls hf; exact (lq2_0 hf).elim
    | succ n_5 ih =>
      have ih_5 := ih
      intro v_1 v_2 ls hf hl
      have hf := lq2_s hf
      unfold bX0_digestOn_5 at hf
      refine lv_iload hx hb dX0_digestOn_5 (lv_at hl 2 rfl) ?_
      refine lv_aload_n hx hb dX0_digestOn_7 rfl (lv_at hl 0 rfl) ?_
      refine va_get (D := D) (ci := 0) (v := .int a0_size) (C := RX0) (T := TX0) (N := 6) hx hb hts in_X0 hown hK hP 0 rfl rfl 5 (by decide) kf_27 (fun _ h9 => h9) rfl dX0_digestOn_8 ?_
      refine lv_icmp_ge (tgt := 51) hx hb dX0_digestOn_11 (by decide) (fun c_4 => ?_) (fun c_4 => ?_)
      · have hf := it_t c_4 hf
        refine lv_lload_n hx hb dX0_digestOn_51 rfl (lv_at hl 1 rfl) ?_
        subst hQQ
        exact W.lret hx hb hr (fun t ht hW => ⟨_, rfl, hf, ht⟩) (fun _ h => absurd h List.not_mem_nil) dX0_digestOn_52
      · have hf := it_f c_4 hf
        refine lv_iconst (v := 0) hx hb dX0_digestOn_14 (by decide) ?_
        refine lv_istore (lv' := [(6, .int 0), (0, .ref q_a0), (3, .long v_1), (5, .int v_2)]) hx hb dX0_digestOn_15 hl (by decide) rfl (fun ls hl => ?_)
        have hlp_17 : ∀ (n_17 : Nat) (v_5 : Int64) (v_6 : Int32) (ls : Array Slot), lq2 (bX0_digestOn_17 a0_yards a0_truth a0_notes a0_words a0_mud (lq2 (bX0_digestOn_5 a0_yards a0_truth a0_notes a0_words a0_mud a0_size Q) n_5) v_2) n_17 v_5 v_6 → lv_has ls 7 [(0, .ref q_a0), (3, .long v_5), (5, .int v_2), (6, .int v_6)] → W p l e (headSpec wsX0_digestOn rmX0_digestOn).room s m ([.ref q_a0, .long x1] : List Value).toArray below meth c s.heap [] 0 0 QQ (F0 m 17 ls []) := by
          intro n_17
          induction n_17 with
          | zero => intro v_5 v_6 ls hf; exact (lq2_0 hf).elim
          | succ n_17 ih =>
            have ih_17 := ih
            intro v_5 v_6 ls hf hl
            have hf := lq2_s hf
            unfold bX0_digestOn_17 at hf
            refine lv_iload hx hb dX0_digestOn_17 (lv_at hl 3 rfl) ?_
            refine lv_iconst (v := 4) hx hb dX0_digestOn_19 (by decide) ?_
            refine lv_icmp_gt (tgt := 45) hx hb dX0_digestOn_20 (by decide) (fun c_8 => ?_) (fun c_8 => ?_)
            · have hf := it_t c_8 hf
              refine lv_iinc (v := v_2 + 1) (lv' := [(5, .int (v_2 + 1)), (0, .ref q_a0), (3, .long v_5), (6, .int v_6)]) hx hb dX0_digestOn_45 hl (k := 2) rfl rfl (by decide) rfl (fun ls hl => ?_)
              refine lv_goto (tgt := 5) hx hb dX0_digestOn_48 (by decide) ?_
              exact ih_5 v_5 (v_2 + 1) ls hf (lv_sub hl [1, 2, 0] rfl)
            · have hf := it_f c_8 hf
              refine lv_ldc2 (v := 31) hx hb hown kc_45 dX0_digestOn_23 ?_
              refine lv_lload_n hx hb dX0_digestOn_26 rfl (lv_at hl 1 rfl) ?_
              refine lv_lmul hx hb dX0_digestOn_27 ?_
              refine lv_aload_n hx hb dX0_digestOn_28 rfl (lv_at hl 0 rfl) ?_
              refine lv_iload hx hb dX0_digestOn_29 (lv_at hl 2 rfl) ?_
              refine lv_iload hx hb dX0_digestOn_31 (lv_at hl 3 rfl) ?_
              refine ya_csi (va_runV (As := [.int v_2, .int v_6]) (rest := [.long (31 * v_5)]) ⟨hx, hb, hml, hown, hts⟩ (c_X0_tell l D cI cZ cO q_a0 q_a0_yards q_a0_truth q_a0_notes q_a0_words q_a0_mud a0_size a0_yards a0_truth a0_notes a0_words a0_mud v_2 v_6 _ hf) (cwV 2 hts gX0_digestOn_X0_tell rfl rfl rfl (by decide +kernel) ⟨Nat.le_of_ble_eq_true rfl, Nat.le_of_ble_eq_true rfl⟩) (pv_ro (ci := 0) (q0 := 0) (hP.sub [0, 1, 2, 3, 4, 5] rfl) hX rfl rfl) rfl rfl hl.1 rfl (lv_room (Nat.le_of_ble_eq_true rfl)) dX0_digestOn_33 ⟨Nat.zero_le _, Nat.zero_le _⟩) (fun r_9 hf => ?_)
              refine lv_i2l hx hb dX0_digestOn_36 rfl ?_
              refine lv_ladd hx hb dX0_digestOn_37 ?_
              refine lv_lstore_n (lv' := [(3, .long ((31 * v_5) + r_9.toInt64)), (0, .ref q_a0), (5, .int v_2), (6, .int v_6)]) hx hb dX0_digestOn_38 rfl hl (by decide) rfl (fun ls hl => ?_)
              refine lv_iinc (v := v_6 + 1) (lv' := [(6, .int (v_6 + 1)), (3, .long ((31 * v_5) + r_9.toInt64)), (0, .ref q_a0), (5, .int v_2)]) hx hb dX0_digestOn_39 hl (k := 3) rfl rfl (by decide) rfl (fun ls hl => ?_)
              refine lv_goto (tgt := 17) hx hb dX0_digestOn_42 (by decide) ?_
              exact ih ((31 * v_5) + r_9.toInt64) (v_6 + 1) ls hf (lv_sub hl [2, 1, 3, 0] rfl)
        exact hlp_17 1000 v_1 0 ls hf (lv_sub hl [1, 2, 3, 0] rfl)
  exact hlp_5 1000 x1 0 ls hf (lv_sub hl [2, 1, 0] rfl)
def p_X1_isFull (a0_size : Int32) (Q : Int32 → Prop) : Prop :=
  if a0_size < 3 then (Q 0) else (Q 1)
def rmX1_isFull : Room := { frames := 0, cells := 0, slots := 0, locals := 0 }
set_option maxHeartbeats 4000000 in
set_option maxRecDepth 100000 in
theorem c_X1_isFull (l : Launch) (D : va_G) (cI cZ cO : ClassId) (q_a0 q_a0_holds : Nat) (a0_size : Int32) (Q : Int32 → Prop) (hf : p_X1_isFull a0_size Q) : Met l yX1_isFull wsX1_isFull rmX1_isFull (va_Pc [.ref q_a0] (fun U => va_P D vwCl [(q_a0, .inr (1, [.ref q_a0_holds, .int a0_size]))] U.heap ∧ XK D cI cZ cO U)) (vp_Si Q) 0 0 (fun _ => False) := by
  refine Met.ofW (cc := cX1_isFull) (maxL := 1) (ret := (some .boolean)) (by decide) rfl ?_
  intro p e s m args below meth c s₁ B hml hv
  obtain ⟨rfl, hP, hX⟩ := hv
  have hK := hX.1
  have hx := B.exec
  have hb := B.bytes
  have hr := B.returns
  have hts := atoms_spec (ws := wsX1_isFull) B.pre
  have hown : s.vm.findClass RX1 = some m.cls := findClass_of_methodNamed B.named
  have hlocks := B.notSynchronized
  have in_X1 : ∀ w ∈ wsX10, w ∈ wsX1_isFull := fun _ h => List.mem_cons_of_mem _ (List.mem_append_right _ h)
  have kf_15 := hts (.fieldLink RX1 15 "LeftCrest$Felt" "size" "I") (by decide +kernel)
  generalize hQQ : MQ below _ _ s _ _ _ = QQ
  have hl := lv_entry ([.ref q_a0]) (n := 1) (Nat.le_of_ble_eq_true rfl)
  rw [lg_entry_eq]
  generalize (lg_sl ([.ref q_a0]) ++ List.replicate (1 - (lg_sl ([.ref q_a0])).length) Slot.unset).toArray = ls at hl ⊢
  have hl : lv_has ls 1 [(0, .ref q_a0)] := hl
  unfold p_X1_isFull at hf
  refine lv_aload_n hx hb dX1_isFull_0 rfl (lv_at hl 0 rfl) ?_
  refine va_get (D := D) (ci := 1) (v := .int a0_size) (C := RX1) (T := TX1) (N := 2) hx hb hts in_X1 hown hK hP 0 rfl rfl 1 (by decide) kf_15 (fun _ h9 => h9) rfl dX1_isFull_1 ?_
  refine lv_iconst (v := 3) hx hb dX1_isFull_4 (by decide) ?_
  refine lv_icmp_lt (tgt := 12) hx hb dX1_isFull_5 (by decide) (fun c_1 => ?_) (fun c_1 => ?_)
  · have hf := it_t c_1 hf
    refine lv_iconst (v := 0) hx hb dX1_isFull_12 (by decide) ?_
    subst hQQ
    exact W.zret hx hb hr rfl (fun t ht hW => ⟨_, rfl, hf, ht⟩) (fun _ h => absurd h List.not_mem_nil) dX1_isFull_13
  · have hf := it_f c_1 hf
    refine lv_iconst (v := 1) hx hb dX1_isFull_8 (by decide) ?_
    refine lv_goto (tgt := 13) hx hb dX1_isFull_9 (by decide) ?_
    subst hQQ
    exact W.zret hx hb hr rfl (fun t ht hW => ⟨_, rfl, hf, ht⟩) (fun _ h => absurd h List.not_mem_nil) dX1_isFull_13
def p_X1_add (a0_holds : Nat → Int32) (a0_size : Int32) (x1 : Int32) (Q : Int32 → (Nat → Int32) → Int32 → Prop) : Prop :=
  p_X1_isFull a0_size (fun r_1 => if r_1 = 0 then (vp_in a0_size 3 ∧ (Q (a0_size + 1) (upd a0_holds (a0_size.toNatClampNeg) x1) (a0_size + 1))) else (Q (-4) a0_holds a0_size))
def rmX1_add : Room := { frames := 1, cells := 0, slots := 0, locals := 20 }
set_option maxHeartbeats 4000000 in
set_option maxRecDepth 100000 in
theorem c_X1_add (l : Launch) (D : va_G) (cI cZ cO : ClassId) (q_a0 q_a0_holds : Nat) (a0_size : Int32) (a0_holds : Nat → Int32) (sz : Nat) (x1 : Int32) (Q : Int32 → (Nat → Int32) → Int32 → Prop) (hf : p_X1_add a0_holds a0_size x1 Q) : Met l yX1_add wsX1_add rmX1_add (va_Pc [.ref q_a0, .int x1] (fun U => U.heap.size = sz ∧ va_P D vwCl [(q_a0, .inr (1, [.ref q_a0_holds, .int a0_size])), (q_a0_holds, .inl (cI, 3, .inl a0_holds))] U.heap ∧ XK D cI cZ cO U ∧ va_D (fun _ => True) [(q_a0, .inr (1, [.ref q_a0_holds, .int a0_size])), (q_a0_holds, .inl (cI, 3, .inl a0_holds))])) (va_Qi (fun r (u : (Nat → Int32) × Int32) => Q r u.1 u.2) (fun (u : (Nat → Int32) × Int32) t => va_P D vwCl [(q_a0, .inr (1, [.ref q_a0_holds, .int u.2])), (q_a0_holds, .inl (cI, 3, .inl u.1))] t.heap ∧ va_D (va_A [(q_a0, .inr (1, [.ref q_a0_holds, .int a0_size])), (q_a0_holds, .inl (cI, 3, .inl a0_holds))] sz) [(q_a0, .inr (1, [.ref q_a0_holds, .int u.2])), (q_a0_holds, .inl (cI, 3, .inl u.1))]) (va_A [(q_a0, .inr (1, [.ref q_a0_holds, .int a0_size])), (q_a0_holds, .inl (cI, 3, .inl a0_holds))] sz)) 0 0 (va_A [(q_a0, .inr (1, [.ref q_a0_holds, .int a0_size])), (q_a0_holds, .inl (cI, 3, .inl a0_holds))] sz) := by
  refine Met.ofW (cc := cX1_add) (maxL := 2) (ret := (some .int)) (by decide) rfl ?_
  intro p e s m args below meth c s₁ B hml hv
  obtain ⟨rfl, hsz, hP, hX, hD0⟩ := hv
  have hK := hX.1
  have hx := B.exec
  have hb := B.bytes
  have hr := B.returns
  have hts := atoms_spec (ws := wsX1_add) B.pre
  have hown : s.vm.findClass RX1 = some m.cls := findClass_of_methodNamed B.named
  have hlocks := B.notSynchronized
  have in_X1 : ∀ w ∈ wsX10, w ∈ wsX1_add := fun _ h => List.mem_cons_of_mem _ (List.mem_append_right _ h)
  have kf_9 := hts (.fieldLink RX1 9 "LeftCrest$Felt" "holds" "[I") (by decide +kernel)
  have kf_15 := hts (.fieldLink RX1 15 "LeftCrest$Felt" "size" "I") (by decide +kernel)
  subst hsz
  have hD := hD0.self (sz := s.heap.size)
  generalize hAe : va_A [(q_a0, .inr (1, [.ref q_a0_holds, .int a0_size])), (q_a0_holds, .inl (cI, 3, .inl a0_holds))] s.heap.size = A at hD ⊢
  have hA : ∀ q : Nat, s.heap.size ≤ q → A q := fun q h => by rw [← hAe]; exact Or.inr h
  have hS : va_S A s.heap s.heap [] := va_S.rf
  have hP : va_P D vwCl [(q_a0, .inr (1, [.ref q_a0_holds, .int a0_size])), (q_a0_holds, .inl (cI, 3, .inl a0_holds))] s.heap := hP
  generalize hQQ : MQ below _ _ s _ _ _ = QQ
  have hl := lv_entry ([.ref q_a0, .int x1]) (n := 2) (Nat.le_of_ble_eq_true rfl)
  rw [lg_entry_eq]
  generalize (lg_sl ([.ref q_a0, .int x1]) ++ List.replicate (2 - (lg_sl ([.ref q_a0, .int x1])).length) Slot.unset).toArray = ls at hl ⊢
  have hl : lv_has ls 2 [(0, .ref q_a0), (1, .int x1)] := hl
  unfold p_X1_add at hf
  refine lv_aload_n hx hb dX1_add_0 rfl (lv_at hl 0 rfl) ?_
  refine ya_csi (va_runV (As := []) (rest := []) ⟨hx, hb, hml, hown, hts⟩ (c_X1_isFull l D cI cZ cO q_a0 q_a0_holds a0_size  _ hf) (cwV 0 hts gX1_add_X1_isFull rfl rfl rfl (by decide +kernel) ⟨Nat.le_of_ble_eq_true rfl, Nat.le_of_ble_eq_true rfl⟩) (pv_ro (ci := 1) (q0 := 0) (hP.sub [0] rfl) hX rfl rfl) rfl rfl hl.1 rfl (lv_room (Nat.le_of_ble_eq_true rfl)) dX1_add_1 ⟨Nat.zero_le _, Nat.zero_le _⟩) (fun r_1 hf => ?_)
  refine lv_if_eq (tgt := 10) hx hb dX1_add_4 (by decide) (fun c_2 => ?_) (fun c_2 => ?_)
  · have hf := it_t c_2 hf
    refine lv_aload_n hx hb dX1_add_10 rfl (lv_at hl 0 rfl) ?_
    refine va_get (D := D) (ci := 1) (v := .ref q_a0_holds) (C := RX1) (T := TX1) (N := 2) hx hb hts in_X1 hown hK hP 0 rfl rfl 0 (by decide) kf_9 (fun _ h9 => h9) rfl dX1_add_11 ?_
    refine lv_aload_n hx hb dX1_add_14 rfl (lv_at hl 0 rfl) ?_
    refine va_get (D := D) (ci := 1) (v := .int a0_size) (C := RX1) (T := TX1) (N := 2) hx hb hts in_X1 hown hK hP 0 rfl rfl 1 (by decide) kf_15 (fun _ h9 => h9) rfl dX1_add_15 ?_
    refine lv_iload_n hx hb dX1_add_18 rfl (lv_at hl 1 rfl) ?_
    refine va_iast hx hb hK hP hD hS 1 0 rfl rfl hf.1 dX1_add_19 (fun H locs hP hD hS => ?_)
    have hP : va_P D vwCl [(q_a0, .inr (1, [.ref q_a0_holds, .int a0_size])), (q_a0_holds, .inl (cI, 3, .inl (upd a0_holds (a0_size.toNatClampNeg) x1)))] H := hP
    have hD : va_D A [(q_a0, .inr (1, [.ref q_a0_holds, .int a0_size])), (q_a0_holds, .inl (cI, 3, .inl (upd a0_holds (a0_size.toNatClampNeg) x1)))] := hD
    have hf := hf.2
    refine lv_aload_n hx hb dX1_add_20 rfl (lv_at hl 0 rfl) ?_
    refine lv_dup hx hb dX1_add_21 rfl ?_
    refine va_get (D := D) (ci := 1) (v := .int a0_size) (C := RX1) (T := TX1) (N := 2) hx hb hts in_X1 hown hK hP 0 rfl rfl 1 (by decide) kf_15 (fun _ h9 => h9) rfl dX1_add_22 ?_
    refine lv_iconst (v := 1) hx hb dX1_add_25 (by decide) ?_
    refine lv_iadd hx hb dX1_add_26 ?_
    refine va_put (D := D) (ci := 1) (v := .int (a0_size + 1)) (ty := .int) (C := RX1) (T := TX1) (N := 2) hx hb hts in_X1 tyX1 tyX1_ok nmX1 hown hK hP hD hS 0 rfl rfl 1 (by decide) kf_15 (fun _ h9 => h9) rfl (by decide +kernel) rfl rfl (Nat.le_of_ble_eq_true rfl) dX1_add_27 (fun H locs hP hD hS => ?_)
    have hP : va_P D vwCl [(q_a0, .inr (1, [.ref q_a0_holds, .int (a0_size + 1)])), (q_a0_holds, .inl (cI, 3, .inl (upd a0_holds (a0_size.toNatClampNeg) x1)))] H := hP
    have hD : va_D A [(q_a0, .inr (1, [.ref q_a0_holds, .int (a0_size + 1)])), (q_a0_holds, .inl (cI, 3, .inl (upd a0_holds (a0_size.toNatClampNeg) x1)))] := hD
    refine lv_aload_n hx hb dX1_add_30 rfl (lv_at hl 0 rfl) ?_
    refine va_get (D := D) (ci := 1) (v := .int (a0_size + 1)) (C := RX1) (T := TX1) (N := 2) hx hb hts in_X1 hown hK hP 0 rfl rfl 1 (by decide) kf_15 (fun _ h9 => h9) rfl dX1_add_31 ?_
    subst hQQ
    have hP9 := hP.sub (ws' := [(q_a0, .inr (1, [.ref q_a0_holds, .int (a0_size + 1)])), (q_a0_holds, .inl (cI, 3, .inl (upd a0_holds (a0_size.toNatClampNeg) x1)))]) [0, 1] rfl
    have hD9 := hD.sub (ws' := [(q_a0, .inr (1, [.ref q_a0_holds, .int (a0_size + 1)])), (q_a0_holds, .inl (cI, 3, .inl (upd a0_holds (a0_size.toNatClampNeg) x1)))]) [0, 1] (by decide) rfl
    exact W.iret hx hb hr (fun t ht hW => ⟨⟨(a0_size + 1), (upd a0_holds (a0_size.toNatClampNeg) x1, a0_size + 1), rfl, hf, by rw [ht]; exact hP9, hD9⟩, hS.F ht⟩) hS.2.2 dX1_add_34
  · have hf := it_f c_2 hf
    refine lv_bipush (v := (-4)) hx hb dX1_add_7 (by decide) ?_
    subst hQQ
    have hP9 := hP.sub (ws' := [(q_a0, .inr (1, [.ref q_a0_holds, .int a0_size])), (q_a0_holds, .inl (cI, 3, .inl a0_holds))]) [0, 1] rfl
    have hD9 := hD.sub (ws' := [(q_a0, .inr (1, [.ref q_a0_holds, .int a0_size])), (q_a0_holds, .inl (cI, 3, .inl a0_holds))]) [0, 1] (by decide) rfl
    exact W.iret hx hb hr (fun t ht hW => ⟨⟨(-4), (a0_holds, a0_size), rfl, hf, by rw [ht]; exact hP9, hD9⟩, hS.F ht⟩) hS.2.2 dX1_add_9
def bX1_mayEndAt_25 (a0_holds : Nat → Int32) (a0_size : Int32) (a1_truth : Nat → Int32) (a1_mud : Nat → Int32) (Q : Int32 → Prop) (v_1 : Int32) (k_3 : Int32 → Prop) (v_2 : Int32) : Prop :=
  if a0_size ≤ v_2 then (Q 1) else (p_X0_holds a1_truth a1_mud (v_1 + v_2) (fun r_5 => vp_in v_2 3 ∧ (if r_5 = (a0_holds v_2.toNatClampNeg) then (k_3 (v_2 + 1)) else (Q 0))))
def jX1_mayEndAt_22 (a0_holds : Nat → Int32) (a0_size : Int32) (a1_truth : Nat → Int32) (a1_mud : Nat → Int32) (Q : Int32 → Prop) (v_1 : Int32) : Prop :=
  lq1 (bX1_mayEndAt_25 a0_holds a0_size a1_truth a1_mud Q v_1) 1000 0
def p_X1_mayEndAt (a0_holds : Nat → Int32) (a0_size : Int32) (a1_truth : Nat → Int32) (a1_mud : Nat → Int32) (x2 : Int32) (Q : Int32 → Prop) : Prop :=
  if a0_size ≤ 0 then (jX1_mayEndAt_22 a0_holds a0_size a1_truth a1_mud Q ((x2 + 1) - a0_size)) else (if 0 ≤ ((x2 + 1) - a0_size) then (jX1_mayEndAt_22 a0_holds a0_size a1_truth a1_mud Q ((x2 + 1) - a0_size)) else (Q 0))
def rmX1_mayEndAt : Room := { frames := 1, cells := 0, slots := 0, locals := 21 }
set_option maxHeartbeats 4000000 in
set_option maxRecDepth 100000 in
theorem c_X1_mayEndAt (l : Launch) (D : va_G) (cI cZ cO : ClassId) (q_a0 q_a0_holds q_a1 q_a1_yards q_a1_truth q_a1_notes q_a1_words q_a1_mud : Nat) (a0_size : Int32) (a0_holds : Nat → Int32) (a1_size : Int32) (a1_truth : Nat → Int32) (a1_mud : Nat → Int32) (x2 : Int32) (Q : Int32 → Prop) (hf : p_X1_mayEndAt a0_holds a0_size a1_truth a1_mud x2 Q) : Met l yX1_mayEndAt wsX1_mayEndAt rmX1_mayEndAt (va_Pc [.ref q_a0, .ref q_a1, .int x2] (fun U => va_P D vwCl [(q_a0, .inr (1, [.ref q_a0_holds, .int a0_size])), (q_a0_holds, .inl (cI, 3, .inl a0_holds)), (q_a1, .inr (0, [.ref q_a1_yards, .ref q_a1_truth, .ref q_a1_notes, .ref q_a1_words, .ref q_a1_mud, .int a1_size])), (q_a1_truth, .inl (cI, 8, .inl a1_truth)), (q_a1_mud, .inl (cI, 8, .inl a1_mud))] U.heap ∧ XK D cI cZ cO U)) (vp_Si Q) 0 0 (fun _ => False) := by
  refine Met.ofW (cc := cX1_mayEndAt) (maxL := 5) (ret := (some .boolean)) (by decide) rfl ?_
  intro p e s m args below meth c s₁ B hml hv
  obtain ⟨rfl, hP, hX⟩ := hv
  have hK := hX.1
  have hx := B.exec
  have hb := B.bytes
  have hr := B.returns
  have hts := atoms_spec (ws := wsX1_mayEndAt) B.pre
  have hown : s.vm.findClass RX1 = some m.cls := findClass_of_methodNamed B.named
  have hlocks := B.notSynchronized
  have in_X1 : ∀ w ∈ wsX10, w ∈ wsX1_mayEndAt := fun _ h => List.mem_cons_of_mem _ (List.mem_append_left _ (List.mem_append_right _ h))
  have kf_15 := hts (.fieldLink RX1 15 "LeftCrest$Felt" "size" "I") (by decide +kernel)
  have kf_9 := hts (.fieldLink RX1 9 "LeftCrest$Felt" "holds" "[I") (by decide +kernel)
  generalize hQQ : MQ below _ _ s _ _ _ = QQ
  have hl := lv_entry ([.ref q_a0, .ref q_a1, .int x2]) (n := 5) (Nat.le_of_ble_eq_true rfl)
  rw [lg_entry_eq]
  generalize (lg_sl ([.ref q_a0, .ref q_a1, .int x2]) ++ List.replicate (5 - (lg_sl ([.ref q_a0, .ref q_a1, .int x2])).length) Slot.unset).toArray = ls at hl ⊢
  have hl : lv_has ls 5 [(0, .ref q_a0), (1, .ref q_a1), (2, .int x2)] := hl
  have hj_22 : ∀ (v_1 : Int32), jX1_mayEndAt_22 a0_holds a0_size a1_truth a1_mud Q v_1 → ∀ ls : Array Slot, lv_has ls 5 [(0, .ref q_a0), (1, .ref q_a1), (3, .int v_1)] → W p l e (headSpec wsX1_mayEndAt rmX1_mayEndAt).room s m ([.ref q_a0, .ref q_a1, .int x2] : List Value).toArray below meth c s.heap [] 0 0 QQ (F0 m 22 ls []) := by
    intro v_1 hf ls hl
    unfold jX1_mayEndAt_22 at hf
    refine lv_iconst (v := 0) hx hb dX1_mayEndAt_22 (by decide) ?_
    refine lv_istore (lv' := [(4, .int 0), (0, .ref q_a0), (1, .ref q_a1), (3, .int v_1)]) hx hb dX1_mayEndAt_23 hl (by decide) rfl (fun ls hl => ?_)
    have hlp_25 : ∀ (n_25 : Nat) (v_2 : Int32) (ls : Array Slot), lq1 (bX1_mayEndAt_25 a0_holds a0_size a1_truth a1_mud Q v_1) n_25 v_2 → lv_has ls 5 [(0, .ref q_a0), (1, .ref q_a1), (3, .int v_1), (4, .int v_2)] → W p l e (headSpec wsX1_mayEndAt rmX1_mayEndAt).room s m ([.ref q_a0, .ref q_a1, .int x2] : List Value).toArray below meth c s.heap [] 0 0 QQ (F0 m 25 ls []) := by
      intro n_25
      induction n_25 with
      | zero => intro v_2 ls hf; exact (lq1_0 hf).elim
      | succ n_25 ih =>
        have ih_25 := ih
        intro v_2 ls hf hl
        have hf := lq1_s hf
        unfold bX1_mayEndAt_25 at hf
        refine lv_iload hx hb dX1_mayEndAt_25 (lv_at hl 3 rfl) ?_
        refine lv_aload_n hx hb dX1_mayEndAt_27 rfl (lv_at hl 0 rfl) ?_
        refine va_get (D := D) (ci := 1) (v := .int a0_size) (C := RX1) (T := TX1) (N := 2) hx hb hts in_X1 hown hK hP 0 rfl rfl 1 (by decide) kf_15 (fun _ h9 => h9) rfl dX1_mayEndAt_28 ?_
        refine lv_icmp_ge (tgt := 60) hx hb dX1_mayEndAt_31 (by decide) (fun c_4 => ?_) (fun c_4 => ?_)
        · have hf := it_t c_4 hf
          refine lv_iconst (v := 1) hx hb dX1_mayEndAt_60 (by decide) ?_
          subst hQQ
          exact W.zret hx hb hr rfl (fun t ht hW => ⟨_, rfl, hf, ht⟩) (fun _ h => absurd h List.not_mem_nil) dX1_mayEndAt_61
        · have hf := it_f c_4 hf
          refine lv_aload_n hx hb dX1_mayEndAt_34 rfl (lv_at hl 1 rfl) ?_
          refine lv_iload_n hx hb dX1_mayEndAt_35 rfl (lv_at hl 2 rfl) ?_
          refine lv_iload hx hb dX1_mayEndAt_36 (lv_at hl 3 rfl) ?_
          refine lv_iadd hx hb dX1_mayEndAt_38 ?_
          refine ya_csi (va_runV (As := [.int (v_1 + v_2)]) (rest := []) ⟨hx, hb, hml, hown, hts⟩ (c_X0_holds l D cI cZ cO q_a1 q_a1_yards q_a1_truth q_a1_notes q_a1_words q_a1_mud a1_size a1_truth a1_mud (v_1 + v_2) _ hf) (cwV 1 hts gX1_mayEndAt_X0_holds rfl rfl rfl (by decide +kernel) ⟨Nat.le_of_ble_eq_true rfl, Nat.le_of_ble_eq_true rfl⟩) (pv_ro (ci := 0) (q0 := 0) (hP.sub [2, 3, 4] rfl) hX rfl rfl) rfl rfl hl.1 rfl (lv_room (Nat.le_of_ble_eq_true rfl)) dX1_mayEndAt_39 ⟨Nat.zero_le _, Nat.zero_le _⟩) (fun r_5 hf => ?_)
          refine lv_aload_n hx hb dX1_mayEndAt_42 rfl (lv_at hl 0 rfl) ?_
          refine va_get (D := D) (ci := 1) (v := .ref q_a0_holds) (C := RX1) (T := TX1) (N := 2) hx hb hts in_X1 hown hK hP 0 rfl rfl 0 (by decide) kf_9 (fun _ h9 => h9) rfl dX1_mayEndAt_43 ?_
          refine lv_iload hx hb dX1_mayEndAt_46 (lv_at hl 3 rfl) ?_
          refine va_iald hx hb hK hP 1 0 rfl rfl hf.1 dX1_mayEndAt_48 ?_
          have hf := hf.2
          refine lv_icmp_eq (tgt := 54) hx hb dX1_mayEndAt_49 (by decide) (fun c_6 => ?_) (fun c_6 => ?_)
          · have hf := it_t c_6 hf
            refine lv_iinc (v := v_2 + 1) (lv' := [(4, .int (v_2 + 1)), (0, .ref q_a0), (1, .ref q_a1), (3, .int v_1)]) hx hb dX1_mayEndAt_54 hl (k := 3) rfl rfl (by decide) rfl (fun ls hl => ?_)
            refine lv_goto (tgt := 25) hx hb dX1_mayEndAt_57 (by decide) ?_
            exact ih (v_2 + 1) ls hf (lv_sub hl [1, 2, 3, 0] rfl)
          · have hf := it_f c_6 hf
            refine lv_iconst (v := 0) hx hb dX1_mayEndAt_52 (by decide) ?_
            subst hQQ
            exact W.zret hx hb hr rfl (fun t ht hW => ⟨_, rfl, hf, ht⟩) (fun _ h => absurd h List.not_mem_nil) dX1_mayEndAt_53
    exact hlp_25 1000 0 ls hf (lv_sub hl [1, 2, 3, 0] rfl)
  unfold p_X1_mayEndAt at hf
  refine lv_iload_n hx hb dX1_mayEndAt_0 rfl (lv_at hl 2 rfl) ?_
  refine lv_iconst (v := 1) hx hb dX1_mayEndAt_1 (by decide) ?_
  refine lv_iadd hx hb dX1_mayEndAt_2 ?_
  refine lv_aload_n hx hb dX1_mayEndAt_3 rfl (lv_at hl 0 rfl) ?_
  refine va_get (D := D) (ci := 1) (v := .int a0_size) (C := RX1) (T := TX1) (N := 2) hx hb hts in_X1 hown hK hP 0 rfl rfl 1 (by decide) kf_15 (fun _ h9 => h9) rfl dX1_mayEndAt_4 ?_
  refine lv_isub hx hb dX1_mayEndAt_7 ?_
  refine lv_istore_n (lv' := [(3, .int ((x2 + 1) - a0_size)), (0, .ref q_a0), (1, .ref q_a1), (2, .int x2)]) hx hb dX1_mayEndAt_8 rfl hl (by decide) rfl (fun ls hl => ?_)
  refine lv_aload_n hx hb dX1_mayEndAt_9 rfl (lv_at hl 1 rfl) ?_
  refine va_get (D := D) (ci := 1) (v := .int a0_size) (C := RX1) (T := TX1) (N := 2) hx hb hts in_X1 hown hK hP 0 rfl rfl 1 (by decide) kf_15 (fun _ h9 => h9) rfl dX1_mayEndAt_10 ?_
  refine lv_if_le (tgt := 22) hx hb dX1_mayEndAt_13 (by decide) (fun c_7 => ?_) (fun c_7 => ?_)
  · have hf := it_t c_7 hf
    exact hj_22 ((x2 + 1) - a0_size) hf ls (lv_sub hl [1, 2, 0] rfl)
  · have hf := it_f c_7 hf
    refine lv_iload_n hx hb dX1_mayEndAt_16 rfl (lv_at hl 0 rfl) ?_
    refine lv_if_ge (tgt := 22) hx hb dX1_mayEndAt_17 (by decide) (fun c_8 => ?_) (fun c_8 => ?_)
    · have hf := it_t c_8 hf
      exact hj_22 ((x2 + 1) - a0_size) hf ls (lv_sub hl [1, 2, 0] rfl)
    · have hf := it_f c_8 hf
      refine lv_iconst (v := 0) hx hb dX1_mayEndAt_20 (by decide) ?_
      subst hQQ
      exact W.zret hx hb hr rfl (fun t ht hW => ⟨_, rfl, hf, ht⟩) (fun _ h => absurd h List.not_mem_nil) dX1_mayEndAt_21
def bX1_places_4 (a0_holds : Nat → Int32) (a0_size : Int32) (a1_truth : Nat → Int32) (a1_mud : Nat → Int32) (a1_size : Int32) (Q : Int32 → Prop) (k_3 : Int32 → Int32 → Prop) (v_1 : Int32) (v_2 : Int32) : Prop :=
  if a1_size ≤ v_2 then (Q v_1) else (p_X1_mayEndAt a0_holds a0_size a1_truth a1_mud v_2 (fun r_5 => if r_5 = 0 then (k_3 v_1 (v_2 + 1)) else (k_3 (v_1 ||| (1 <<< (v_2 &&& 31))) (v_2 + 1))))
def p_X1_places (a0_holds : Nat → Int32) (a0_size : Int32) (a1_truth : Nat → Int32) (a1_mud : Nat → Int32) (a1_size : Int32) (Q : Int32 → Prop) : Prop :=
  lq2 (bX1_places_4 a0_holds a0_size a1_truth a1_mud a1_size Q) 1000 0 0
def rmX1_places : Room := { frames := 2, cells := 0, slots := 0, locals := 45 }
set_option maxHeartbeats 4000000 in
set_option maxRecDepth 100000 in
theorem c_X1_places (l : Launch) (D : va_G) (cI cZ cO : ClassId) (q_a0 q_a0_holds q_a1 q_a1_yards q_a1_truth q_a1_notes q_a1_words q_a1_mud : Nat) (a0_size : Int32) (a0_holds : Nat → Int32) (a1_size : Int32) (a1_truth : Nat → Int32) (a1_mud : Nat → Int32) (Q : Int32 → Prop) (hf : p_X1_places a0_holds a0_size a1_truth a1_mud a1_size Q) : Met l yX1_places wsX1_places rmX1_places (va_Pc [.ref q_a0, .ref q_a1] (fun U => va_P D vwCl [(q_a0, .inr (1, [.ref q_a0_holds, .int a0_size])), (q_a0_holds, .inl (cI, 3, .inl a0_holds)), (q_a1, .inr (0, [.ref q_a1_yards, .ref q_a1_truth, .ref q_a1_notes, .ref q_a1_words, .ref q_a1_mud, .int a1_size])), (q_a1_truth, .inl (cI, 8, .inl a1_truth)), (q_a1_mud, .inl (cI, 8, .inl a1_mud))] U.heap ∧ XK D cI cZ cO U)) (vp_Si Q) 0 0 (fun _ => False) := by
  refine Met.ofW (cc := cX1_places) (maxL := 4) (ret := (some .int)) (by decide) rfl ?_
  intro p e s m args below meth c s₁ B hml hv
  obtain ⟨rfl, hP, hX⟩ := hv
  have hK := hX.1
  have hx := B.exec
  have hb := B.bytes
  have hr := B.returns
  have hts := atoms_spec (ws := wsX1_places) B.pre
  have hown : s.vm.findClass RX1 = some m.cls := findClass_of_methodNamed B.named
  have hlocks := B.notSynchronized
  have in_X0 : ∀ w ∈ wsX00, w ∈ wsX1_places := fun _ h => List.mem_cons_of_mem _ (List.mem_append_left _ (List.mem_append_right _ h))
  have kf_23 := hts (.fieldLink RX1 23 "LeftCrest$Bends" "size" "I") (by decide +kernel)
  generalize hQQ : MQ below _ _ s _ _ _ = QQ
  have hl := lv_entry ([.ref q_a0, .ref q_a1]) (n := 4) (Nat.le_of_ble_eq_true rfl)
  rw [lg_entry_eq]
  generalize (lg_sl ([.ref q_a0, .ref q_a1]) ++ List.replicate (4 - (lg_sl ([.ref q_a0, .ref q_a1])).length) Slot.unset).toArray = ls at hl ⊢
  have hl : lv_has ls 4 [(0, .ref q_a0), (1, .ref q_a1)] := hl
  unfold p_X1_places at hf
  refine lv_iconst (v := 0) hx hb dX1_places_0 (by decide) ?_
  refine lv_istore_n (lv' := [(2, .int 0), (0, .ref q_a0), (1, .ref q_a1)]) hx hb dX1_places_1 rfl hl (by decide) rfl (fun ls hl => ?_)
  refine lv_iconst (v := 0) hx hb dX1_places_2 (by decide) ?_
  refine lv_istore_n (lv' := [(3, .int 0), (2, .int 0), (0, .ref q_a0), (1, .ref q_a1)]) hx hb dX1_places_3 rfl hl (by decide) rfl (fun ls hl => ?_)
  have hlp_4 : ∀ (n_4 : Nat) (v_1 : Int32) (v_2 : Int32) (ls : Array Slot), lq2 (bX1_places_4 a0_holds a0_size a1_truth a1_mud a1_size Q) n_4 v_1 v_2 → lv_has ls 4 [(0, .ref q_a0), (1, .ref q_a1), (2, .int v_1), (3, .int v_2)] → W p l e (headSpec wsX1_places rmX1_places).room s m ([.ref q_a0, .ref q_a1] : List Value).toArray below meth c s.heap [] 0 0 QQ (F0 m 4 ls []) := by
    intro n_4
    induction n_4 with
    | zero => intro v_1 v_2 ls hf; exact (lq2_0 hf).elim
    | succ n_4 ih =>
      have ih_4 := ih
      intro v_1 v_2 ls hf hl
      have hf := lq2_s hf
      unfold bX1_places_4 at hf
      refine lv_iload_n hx hb dX1_places_4 rfl (lv_at hl 3 rfl) ?_
      refine lv_aload_n hx hb dX1_places_5 rfl (lv_at hl 1 rfl) ?_
      refine va_get (D := D) (ci := 0) (v := .int a1_size) (C := RX0) (T := TX0) (N := 6) hx hb hts in_X0 hown hK hP 2 rfl rfl 5 (by decide) kf_23 (fun _ h9 => h9) rfl dX1_places_6 ?_
      refine lv_icmp_ge (tgt := 33) hx hb dX1_places_9 (by decide) (fun c_4 => ?_) (fun c_4 => ?_)
      · have hf := it_t c_4 hf
        refine lv_iload_n hx hb dX1_places_33 rfl (lv_at hl 2 rfl) ?_
        subst hQQ
        exact W.iret hx hb hr (fun t ht hW => ⟨_, rfl, hf, ht⟩) (fun _ h => absurd h List.not_mem_nil) dX1_places_34
      · have hf := it_f c_4 hf
        refine lv_aload_n hx hb dX1_places_12 rfl (lv_at hl 0 rfl) ?_
        refine lv_aload_n hx hb dX1_places_13 rfl (lv_at hl 1 rfl) ?_
        refine lv_iload_n hx hb dX1_places_14 rfl (lv_at hl 3 rfl) ?_
        refine ya_csi (va_runV (As := [.ref q_a1, .int v_2]) (rest := []) ⟨hx, hb, hml, hown, hts⟩ (c_X1_mayEndAt l D cI cZ cO q_a0 q_a0_holds q_a1 q_a1_yards q_a1_truth q_a1_notes q_a1_words q_a1_mud a0_size a0_holds a1_size a1_truth a1_mud v_2 _ hf) (cwV 2 hts gX1_places_X1_mayEndAt rfl rfl rfl (by decide +kernel) ⟨Nat.le_of_ble_eq_true rfl, Nat.le_of_ble_eq_true rfl⟩) (pv_ro (ci := 1) (q0 := 0) (hP.sub [0, 1, 2, 3, 4] rfl) hX rfl rfl) rfl rfl hl.1 rfl (lv_room (Nat.le_of_ble_eq_true rfl)) dX1_places_15 ⟨Nat.zero_le _, Nat.zero_le _⟩) (fun r_5 hf => ?_)
        refine lv_if_eq (tgt := 27) hx hb dX1_places_18 (by decide) (fun c_6 => ?_) (fun c_6 => ?_)
        · have hf := it_t c_6 hf
          refine lv_iinc (v := v_2 + 1) (lv' := [(3, .int (v_2 + 1)), (0, .ref q_a0), (1, .ref q_a1), (2, .int v_1)]) hx hb dX1_places_27 hl (k := 3) rfl rfl (by decide) rfl (fun ls hl => ?_)
          refine lv_goto (tgt := 4) hx hb dX1_places_30 (by decide) ?_
          exact ih v_1 (v_2 + 1) ls hf (lv_sub hl [1, 2, 3, 0] rfl)
        · have hf := it_f c_6 hf
          refine lv_iload_n hx hb dX1_places_21 rfl (lv_at hl 2 rfl) ?_
          refine lv_iconst (v := 1) hx hb dX1_places_22 (by decide) ?_
          refine lv_iload_n hx hb dX1_places_23 rfl (lv_at hl 3 rfl) ?_
          refine lv_ishl hx hb dX1_places_24 ?_
          refine lv_ior hx hb dX1_places_25 ?_
          refine lv_istore_n (lv' := [(2, .int (v_1 ||| (1 <<< (v_2 &&& 31)))), (0, .ref q_a0), (1, .ref q_a1), (3, .int v_2)]) hx hb dX1_places_26 rfl hl (by decide) rfl (fun ls hl => ?_)
          refine lv_iinc (v := v_2 + 1) (lv' := [(3, .int (v_2 + 1)), (2, .int (v_1 ||| (1 <<< (v_2 &&& 31)))), (0, .ref q_a0), (1, .ref q_a1)]) hx hb dX1_places_27 hl (k := 3) rfl rfl (by decide) rfl (fun ls hl => ?_)
          refine lv_goto (tgt := 4) hx hb dX1_places_30 (by decide) ?_
          exact ih (v_1 ||| (1 <<< (v_2 &&& 31))) (v_2 + 1) ls hf (lv_sub hl [2, 3, 1, 0] rfl)
  exact hlp_4 1000 0 0 ls hf (lv_sub hl [2, 3, 1, 0] rfl)
def p_J6_bitCount_0f7a4 (x0 : Int32) (Q : Int32 → Prop) : Prop :=
  Q ((((((((x0 - (((x0.toUInt32 >>> ((1 : Int32).toUInt32 &&& Int32.toUInt32 31)).toInt32) &&& 1431655765)) &&& 858993459) + ((((x0 - (((x0.toUInt32 >>> ((1 : Int32).toUInt32 &&& Int32.toUInt32 31)).toInt32) &&& 1431655765)).toUInt32 >>> ((2 : Int32).toUInt32 &&& Int32.toUInt32 31)).toInt32) &&& 858993459)) + (((((x0 - (((x0.toUInt32 >>> ((1 : Int32).toUInt32 &&& Int32.toUInt32 31)).toInt32) &&& 1431655765)) &&& 858993459) + ((((x0 - (((x0.toUInt32 >>> ((1 : Int32).toUInt32 &&& Int32.toUInt32 31)).toInt32) &&& 1431655765)).toUInt32 >>> ((2 : Int32).toUInt32 &&& Int32.toUInt32 31)).toInt32) &&& 858993459)).toUInt32 >>> ((4 : Int32).toUInt32 &&& Int32.toUInt32 31)).toInt32)) &&& 252645135) + (((((((x0 - (((x0.toUInt32 >>> ((1 : Int32).toUInt32 &&& Int32.toUInt32 31)).toInt32) &&& 1431655765)) &&& 858993459) + ((((x0 - (((x0.toUInt32 >>> ((1 : Int32).toUInt32 &&& Int32.toUInt32 31)).toInt32) &&& 1431655765)).toUInt32 >>> ((2 : Int32).toUInt32 &&& Int32.toUInt32 31)).toInt32) &&& 858993459)) + (((((x0 - (((x0.toUInt32 >>> ((1 : Int32).toUInt32 &&& Int32.toUInt32 31)).toInt32) &&& 1431655765)) &&& 858993459) + ((((x0 - (((x0.toUInt32 >>> ((1 : Int32).toUInt32 &&& Int32.toUInt32 31)).toInt32) &&& 1431655765)).toUInt32 >>> ((2 : Int32).toUInt32 &&& Int32.toUInt32 31)).toInt32) &&& 858993459)).toUInt32 >>> ((4 : Int32).toUInt32 &&& Int32.toUInt32 31)).toInt32)) &&& 252645135).toUInt32 >>> ((8 : Int32).toUInt32 &&& Int32.toUInt32 31)).toInt32)) + ((((((((x0 - (((x0.toUInt32 >>> ((1 : Int32).toUInt32 &&& Int32.toUInt32 31)).toInt32) &&& 1431655765)) &&& 858993459) + ((((x0 - (((x0.toUInt32 >>> ((1 : Int32).toUInt32 &&& Int32.toUInt32 31)).toInt32) &&& 1431655765)).toUInt32 >>> ((2 : Int32).toUInt32 &&& Int32.toUInt32 31)).toInt32) &&& 858993459)) + (((((x0 - (((x0.toUInt32 >>> ((1 : Int32).toUInt32 &&& Int32.toUInt32 31)).toInt32) &&& 1431655765)) &&& 858993459) + ((((x0 - (((x0.toUInt32 >>> ((1 : Int32).toUInt32 &&& Int32.toUInt32 31)).toInt32) &&& 1431655765)).toUInt32 >>> ((2 : Int32).toUInt32 &&& Int32.toUInt32 31)).toInt32) &&& 858993459)).toUInt32 >>> ((4 : Int32).toUInt32 &&& Int32.toUInt32 31)).toInt32)) &&& 252645135) + (((((((x0 - (((x0.toUInt32 >>> ((1 : Int32).toUInt32 &&& Int32.toUInt32 31)).toInt32) &&& 1431655765)) &&& 858993459) + ((((x0 - (((x0.toUInt32 >>> ((1 : Int32).toUInt32 &&& Int32.toUInt32 31)).toInt32) &&& 1431655765)).toUInt32 >>> ((2 : Int32).toUInt32 &&& Int32.toUInt32 31)).toInt32) &&& 858993459)) + (((((x0 - (((x0.toUInt32 >>> ((1 : Int32).toUInt32 &&& Int32.toUInt32 31)).toInt32) &&& 1431655765)) &&& 858993459) + ((((x0 - (((x0.toUInt32 >>> ((1 : Int32).toUInt32 &&& Int32.toUInt32 31)).toInt32) &&& 1431655765)).toUInt32 >>> ((2 : Int32).toUInt32 &&& Int32.toUInt32 31)).toInt32) &&& 858993459)).toUInt32 >>> ((4 : Int32).toUInt32 &&& Int32.toUInt32 31)).toInt32)) &&& 252645135).toUInt32 >>> ((8 : Int32).toUInt32 &&& Int32.toUInt32 31)).toInt32)).toUInt32 >>> ((16 : Int32).toUInt32 &&& Int32.toUInt32 31)).toInt32)) &&& 63)
def rmJ6_bitCount_0f7a4 : Room := { frames := 0, cells := 0, slots := 0, locals := 0 }
set_option maxHeartbeats 4000000 in
set_option maxRecDepth 100000 in
theorem c_J6_bitCount_0f7a4 (l : Launch) (D : va_G) (cI cZ cO : ClassId) (x0 : Int32) (Q : Int32 → Prop) (hf : p_J6_bitCount_0f7a4 x0 Q) : Met l yJ6_bitCount_0f7a4 wsJ6_bitCount_0f7a4 rmJ6_bitCount_0f7a4 (va_Pc [.int x0] (fun U => va_P D vwCl [] U.heap ∧ XK D cI cZ cO U)) (vp_Si Q) 0 0 (fun _ => False) := by
  refine Met.ofW (cc := cJ6_bitCount_0f7a4) (maxL := 1) (ret := (some .int)) (by decide) rfl ?_
  intro p e s m args below meth c s₁ B hml hv
  obtain ⟨rfl, hP, hX⟩ := hv
  have hK := hX.1
  have hx := B.exec
  have hb := B.bytes
  have hr := B.returns
  have hts := atoms_spec (ws := wsJ6_bitCount_0f7a4) B.pre
  have hown : s.vm.findClass RJ6 = some m.cls := findClass_of_methodNamed B.named
  have hlocks := B.notSynchronized
  have kc_265 := hts (.constant RJ6 265 (1431655765)) (by decide +kernel)
  have kc_266 := hts (.constant RJ6 266 (858993459)) (by decide +kernel)
  have kc_267 := hts (.constant RJ6 267 (252645135)) (by decide +kernel)
  generalize hQQ : MQ below _ _ s _ _ _ = QQ
  have hl := lv_entry ([.int x0]) (n := 1) (Nat.le_of_ble_eq_true rfl)
  rw [lg_entry_eq]
  generalize (lg_sl ([.int x0]) ++ List.replicate (1 - (lg_sl ([.int x0])).length) Slot.unset).toArray = ls at hl ⊢
  have hl : lv_has ls 1 [(0, .int x0)] := hl
  unfold p_J6_bitCount_0f7a4 at hf
  refine lv_iload_n hx hb dJ6_bitCount_0f7a4_0 rfl (lv_at hl 0 rfl) ?_
  refine lv_iload_n hx hb dJ6_bitCount_0f7a4_1 rfl (lv_at hl 0 rfl) ?_
  refine lv_iconst (v := 1) hx hb dJ6_bitCount_0f7a4_2 (by decide) ?_
  refine lv_iushr hx hb dJ6_bitCount_0f7a4_3 rfl ?_
  refine lv_ldcw (v := 1431655765) hx hb hown kc_265 dJ6_bitCount_0f7a4_4 ?_
  refine lv_iand hx hb dJ6_bitCount_0f7a4_7 ?_
  refine lv_isub hx hb dJ6_bitCount_0f7a4_8 ?_
  refine lv_istore_n (lv' := [(0, .int (x0 - (((x0.toUInt32 >>> ((1 : Int32).toUInt32 &&& Int32.toUInt32 31)).toInt32) &&& 1431655765)))]) hx hb dJ6_bitCount_0f7a4_9 rfl hl (by decide) rfl (fun ls hl => ?_)
  refine lv_iload_n hx hb dJ6_bitCount_0f7a4_10 rfl (lv_at hl 0 rfl) ?_
  refine lv_ldcw (v := 858993459) hx hb hown kc_266 dJ6_bitCount_0f7a4_11 ?_
  refine lv_iand hx hb dJ6_bitCount_0f7a4_14 ?_
  refine lv_iload_n hx hb dJ6_bitCount_0f7a4_15 rfl (lv_at hl 0 rfl) ?_
  refine lv_iconst (v := 2) hx hb dJ6_bitCount_0f7a4_16 (by decide) ?_
  refine lv_iushr hx hb dJ6_bitCount_0f7a4_17 rfl ?_
  refine lv_ldcw (v := 858993459) hx hb hown kc_266 dJ6_bitCount_0f7a4_18 ?_
  refine lv_iand hx hb dJ6_bitCount_0f7a4_21 ?_
  refine lv_iadd hx hb dJ6_bitCount_0f7a4_22 ?_
  refine lv_istore_n (lv' := [(0, .int (((x0 - (((x0.toUInt32 >>> ((1 : Int32).toUInt32 &&& Int32.toUInt32 31)).toInt32) &&& 1431655765)) &&& 858993459) + ((((x0 - (((x0.toUInt32 >>> ((1 : Int32).toUInt32 &&& Int32.toUInt32 31)).toInt32) &&& 1431655765)).toUInt32 >>> ((2 : Int32).toUInt32 &&& Int32.toUInt32 31)).toInt32) &&& 858993459)))]) hx hb dJ6_bitCount_0f7a4_23 rfl hl (by decide) rfl (fun ls hl => ?_)
  refine lv_iload_n hx hb dJ6_bitCount_0f7a4_24 rfl (lv_at hl 0 rfl) ?_
  refine lv_iload_n hx hb dJ6_bitCount_0f7a4_25 rfl (lv_at hl 0 rfl) ?_
  refine lv_iconst (v := 4) hx hb dJ6_bitCount_0f7a4_26 (by decide) ?_
  refine lv_iushr hx hb dJ6_bitCount_0f7a4_27 rfl ?_
  refine lv_iadd hx hb dJ6_bitCount_0f7a4_28 ?_
  refine lv_ldcw (v := 252645135) hx hb hown kc_267 dJ6_bitCount_0f7a4_29 ?_
  refine lv_iand hx hb dJ6_bitCount_0f7a4_32 ?_
  refine lv_istore_n (lv' := [(0, .int (((((x0 - (((x0.toUInt32 >>> ((1 : Int32).toUInt32 &&& Int32.toUInt32 31)).toInt32) &&& 1431655765)) &&& 858993459) + ((((x0 - (((x0.toUInt32 >>> ((1 : Int32).toUInt32 &&& Int32.toUInt32 31)).toInt32) &&& 1431655765)).toUInt32 >>> ((2 : Int32).toUInt32 &&& Int32.toUInt32 31)).toInt32) &&& 858993459)) + (((((x0 - (((x0.toUInt32 >>> ((1 : Int32).toUInt32 &&& Int32.toUInt32 31)).toInt32) &&& 1431655765)) &&& 858993459) + ((((x0 - (((x0.toUInt32 >>> ((1 : Int32).toUInt32 &&& Int32.toUInt32 31)).toInt32) &&& 1431655765)).toUInt32 >>> ((2 : Int32).toUInt32 &&& Int32.toUInt32 31)).toInt32) &&& 858993459)).toUInt32 >>> ((4 : Int32).toUInt32 &&& Int32.toUInt32 31)).toInt32)) &&& 252645135))]) hx hb dJ6_bitCount_0f7a4_33 rfl hl (by decide) rfl (fun ls hl => ?_)
  refine lv_iload_n hx hb dJ6_bitCount_0f7a4_34 rfl (lv_at hl 0 rfl) ?_
  refine lv_iload_n hx hb dJ6_bitCount_0f7a4_35 rfl (lv_at hl 0 rfl) ?_
  refine lv_bipush (v := 8) hx hb dJ6_bitCount_0f7a4_36 (by decide) ?_
  refine lv_iushr hx hb dJ6_bitCount_0f7a4_38 rfl ?_
  refine lv_iadd hx hb dJ6_bitCount_0f7a4_39 ?_
  refine lv_istore_n (lv' := [(0, .int ((((((x0 - (((x0.toUInt32 >>> ((1 : Int32).toUInt32 &&& Int32.toUInt32 31)).toInt32) &&& 1431655765)) &&& 858993459) + ((((x0 - (((x0.toUInt32 >>> ((1 : Int32).toUInt32 &&& Int32.toUInt32 31)).toInt32) &&& 1431655765)).toUInt32 >>> ((2 : Int32).toUInt32 &&& Int32.toUInt32 31)).toInt32) &&& 858993459)) + (((((x0 - (((x0.toUInt32 >>> ((1 : Int32).toUInt32 &&& Int32.toUInt32 31)).toInt32) &&& 1431655765)) &&& 858993459) + ((((x0 - (((x0.toUInt32 >>> ((1 : Int32).toUInt32 &&& Int32.toUInt32 31)).toInt32) &&& 1431655765)).toUInt32 >>> ((2 : Int32).toUInt32 &&& Int32.toUInt32 31)).toInt32) &&& 858993459)).toUInt32 >>> ((4 : Int32).toUInt32 &&& Int32.toUInt32 31)).toInt32)) &&& 252645135) + (((((((x0 - (((x0.toUInt32 >>> ((1 : Int32).toUInt32 &&& Int32.toUInt32 31)).toInt32) &&& 1431655765)) &&& 858993459) + ((((x0 - (((x0.toUInt32 >>> ((1 : Int32).toUInt32 &&& Int32.toUInt32 31)).toInt32) &&& 1431655765)).toUInt32 >>> ((2 : Int32).toUInt32 &&& Int32.toUInt32 31)).toInt32) &&& 858993459)) + (((((x0 - (((x0.toUInt32 >>> ((1 : Int32).toUInt32 &&& Int32.toUInt32 31)).toInt32) &&& 1431655765)) &&& 858993459) + ((((x0 - (((x0.toUInt32 >>> ((1 : Int32).toUInt32 &&& Int32.toUInt32 31)).toInt32) &&& 1431655765)).toUInt32 >>> ((2 : Int32).toUInt32 &&& Int32.toUInt32 31)).toInt32) &&& 858993459)).toUInt32 >>> ((4 : Int32).toUInt32 &&& Int32.toUInt32 31)).toInt32)) &&& 252645135).toUInt32 >>> ((8 : Int32).toUInt32 &&& Int32.toUInt32 31)).toInt32)))]) hx hb dJ6_bitCount_0f7a4_40 rfl hl (by decide) rfl (fun ls hl => ?_)
  refine lv_iload_n hx hb dJ6_bitCount_0f7a4_41 rfl (lv_at hl 0 rfl) ?_
  refine lv_iload_n hx hb dJ6_bitCount_0f7a4_42 rfl (lv_at hl 0 rfl) ?_
  refine lv_bipush (v := 16) hx hb dJ6_bitCount_0f7a4_43 (by decide) ?_
  refine lv_iushr hx hb dJ6_bitCount_0f7a4_45 rfl ?_
  refine lv_iadd hx hb dJ6_bitCount_0f7a4_46 ?_
  refine lv_istore_n (lv' := [(0, .int (((((((x0 - (((x0.toUInt32 >>> ((1 : Int32).toUInt32 &&& Int32.toUInt32 31)).toInt32) &&& 1431655765)) &&& 858993459) + ((((x0 - (((x0.toUInt32 >>> ((1 : Int32).toUInt32 &&& Int32.toUInt32 31)).toInt32) &&& 1431655765)).toUInt32 >>> ((2 : Int32).toUInt32 &&& Int32.toUInt32 31)).toInt32) &&& 858993459)) + (((((x0 - (((x0.toUInt32 >>> ((1 : Int32).toUInt32 &&& Int32.toUInt32 31)).toInt32) &&& 1431655765)) &&& 858993459) + ((((x0 - (((x0.toUInt32 >>> ((1 : Int32).toUInt32 &&& Int32.toUInt32 31)).toInt32) &&& 1431655765)).toUInt32 >>> ((2 : Int32).toUInt32 &&& Int32.toUInt32 31)).toInt32) &&& 858993459)).toUInt32 >>> ((4 : Int32).toUInt32 &&& Int32.toUInt32 31)).toInt32)) &&& 252645135) + (((((((x0 - (((x0.toUInt32 >>> ((1 : Int32).toUInt32 &&& Int32.toUInt32 31)).toInt32) &&& 1431655765)) &&& 858993459) + ((((x0 - (((x0.toUInt32 >>> ((1 : Int32).toUInt32 &&& Int32.toUInt32 31)).toInt32) &&& 1431655765)).toUInt32 >>> ((2 : Int32).toUInt32 &&& Int32.toUInt32 31)).toInt32) &&& 858993459)) + (((((x0 - (((x0.toUInt32 >>> ((1 : Int32).toUInt32 &&& Int32.toUInt32 31)).toInt32) &&& 1431655765)) &&& 858993459) + ((((x0 - (((x0.toUInt32 >>> ((1 : Int32).toUInt32 &&& Int32.toUInt32 31)).toInt32) &&& 1431655765)).toUInt32 >>> ((2 : Int32).toUInt32 &&& Int32.toUInt32 31)).toInt32) &&& 858993459)).toUInt32 >>> ((4 : Int32).toUInt32 &&& Int32.toUInt32 31)).toInt32)) &&& 252645135).toUInt32 >>> ((8 : Int32).toUInt32 &&& Int32.toUInt32 31)).toInt32)) + ((((((((x0 - (((x0.toUInt32 >>> ((1 : Int32).toUInt32 &&& Int32.toUInt32 31)).toInt32) &&& 1431655765)) &&& 858993459) + ((((x0 - (((x0.toUInt32 >>> ((1 : Int32).toUInt32 &&& Int32.toUInt32 31)).toInt32) &&& 1431655765)).toUInt32 >>> ((2 : Int32).toUInt32 &&& Int32.toUInt32 31)).toInt32) &&& 858993459)) + (((((x0 - (((x0.toUInt32 >>> ((1 : Int32).toUInt32 &&& Int32.toUInt32 31)).toInt32) &&& 1431655765)) &&& 858993459) + ((((x0 - (((x0.toUInt32 >>> ((1 : Int32).toUInt32 &&& Int32.toUInt32 31)).toInt32) &&& 1431655765)).toUInt32 >>> ((2 : Int32).toUInt32 &&& Int32.toUInt32 31)).toInt32) &&& 858993459)).toUInt32 >>> ((4 : Int32).toUInt32 &&& Int32.toUInt32 31)).toInt32)) &&& 252645135) + (((((((x0 - (((x0.toUInt32 >>> ((1 : Int32).toUInt32 &&& Int32.toUInt32 31)).toInt32) &&& 1431655765)) &&& 858993459) + ((((x0 - (((x0.toUInt32 >>> ((1 : Int32).toUInt32 &&& Int32.toUInt32 31)).toInt32) &&& 1431655765)).toUInt32 >>> ((2 : Int32).toUInt32 &&& Int32.toUInt32 31)).toInt32) &&& 858993459)) + (((((x0 - (((x0.toUInt32 >>> ((1 : Int32).toUInt32 &&& Int32.toUInt32 31)).toInt32) &&& 1431655765)) &&& 858993459) + ((((x0 - (((x0.toUInt32 >>> ((1 : Int32).toUInt32 &&& Int32.toUInt32 31)).toInt32) &&& 1431655765)).toUInt32 >>> ((2 : Int32).toUInt32 &&& Int32.toUInt32 31)).toInt32) &&& 858993459)).toUInt32 >>> ((4 : Int32).toUInt32 &&& Int32.toUInt32 31)).toInt32)) &&& 252645135).toUInt32 >>> ((8 : Int32).toUInt32 &&& Int32.toUInt32 31)).toInt32)).toUInt32 >>> ((16 : Int32).toUInt32 &&& Int32.toUInt32 31)).toInt32)))]) hx hb dJ6_bitCount_0f7a4_47 rfl hl (by decide) rfl (fun ls hl => ?_)
  refine lv_iload_n hx hb dJ6_bitCount_0f7a4_48 rfl (lv_at hl 0 rfl) ?_
  refine lv_bipush (v := 63) hx hb dJ6_bitCount_0f7a4_49 (by decide) ?_
  refine lv_iand hx hb dJ6_bitCount_0f7a4_51 ?_
  subst hQQ
  exact W.iret hx hb hr (fun t ht hW => ⟨_, rfl, hf, ht⟩) (fun _ h => absurd h List.not_mem_nil) dJ6_bitCount_0f7a4_52
def bX1_waysOn_4 (a0_holds : Nat → Int32) (a0_size : Int32) (a1_truth : Nat → Int32) (a1_mud : Nat → Int32) (a1_size : Int32) (Q : Int32 → Prop) (k_3 : Int32 → Int32 → Prop) (v_1 : Int32) (v_2 : Int32) : Prop :=
  if a1_size ≤ (v_2 + 1) then (p_J6_bitCount_0f7a4 v_1 (fun r_5 => Q r_5)) else (p_X1_mayEndAt a0_holds a0_size a1_truth a1_mud v_2 (fun r_6 => if r_6 = 0 then (k_3 v_1 (v_2 + 1)) else (p_X0_holds a1_truth a1_mud (v_2 + 1) (fun r_8 => k_3 (v_1 ||| (1 <<< (r_8 &&& 31))) (v_2 + 1)))))
def p_X1_waysOn (a0_holds : Nat → Int32) (a0_size : Int32) (a1_truth : Nat → Int32) (a1_mud : Nat → Int32) (a1_size : Int32) (Q : Int32 → Prop) : Prop :=
  lq2 (bX1_waysOn_4 a0_holds a0_size a1_truth a1_mud a1_size Q) 1000 0 0
def rmX1_waysOn : Room := { frames := 2, cells := 0, slots := 0, locals := 45 }
set_option maxHeartbeats 4000000 in
set_option maxRecDepth 100000 in
theorem c_X1_waysOn (l : Launch) (D : va_G) (cI cZ cO : ClassId) (q_a0 q_a0_holds q_a1 q_a1_yards q_a1_truth q_a1_notes q_a1_words q_a1_mud : Nat) (a0_size : Int32) (a0_holds : Nat → Int32) (a1_size : Int32) (a1_truth : Nat → Int32) (a1_mud : Nat → Int32) (Q : Int32 → Prop) (hf : p_X1_waysOn a0_holds a0_size a1_truth a1_mud a1_size Q) : Met l yX1_waysOn wsX1_waysOn rmX1_waysOn (va_Pc [.ref q_a0, .ref q_a1] (fun U => va_P D vwCl [(q_a0, .inr (1, [.ref q_a0_holds, .int a0_size])), (q_a0_holds, .inl (cI, 3, .inl a0_holds)), (q_a1, .inr (0, [.ref q_a1_yards, .ref q_a1_truth, .ref q_a1_notes, .ref q_a1_words, .ref q_a1_mud, .int a1_size])), (q_a1_truth, .inl (cI, 8, .inl a1_truth)), (q_a1_mud, .inl (cI, 8, .inl a1_mud))] U.heap ∧ XK D cI cZ cO U)) (vp_Si Q) 0 0 (fun _ => False) := by
  refine Met.ofW (cc := cX1_waysOn) (maxL := 4) (ret := (some .int)) (by decide) rfl ?_
  intro p e s m args below meth c s₁ B hml hv
  obtain ⟨rfl, hP, hX⟩ := hv
  have hK := hX.1
  have hx := B.exec
  have hb := B.bytes
  have hr := B.returns
  have hts := atoms_spec (ws := wsX1_waysOn) B.pre
  have hown : s.vm.findClass RX1 = some m.cls := findClass_of_methodNamed B.named
  have hlocks := B.notSynchronized
  have in_X0 : ∀ w ∈ wsX00, w ∈ wsX1_waysOn := fun _ h => List.mem_cons_of_mem _ (List.mem_append_left _ (List.mem_append_right _ h))
  have kf_23 := hts (.fieldLink RX1 23 "LeftCrest$Bends" "size" "I") (by decide +kernel)
  generalize hQQ : MQ below _ _ s _ _ _ = QQ
  have hl := lv_entry ([.ref q_a0, .ref q_a1]) (n := 4) (Nat.le_of_ble_eq_true rfl)
  rw [lg_entry_eq]
  generalize (lg_sl ([.ref q_a0, .ref q_a1]) ++ List.replicate (4 - (lg_sl ([.ref q_a0, .ref q_a1])).length) Slot.unset).toArray = ls at hl ⊢
  have hl : lv_has ls 4 [(0, .ref q_a0), (1, .ref q_a1)] := hl
  unfold p_X1_waysOn at hf
  refine lv_iconst (v := 0) hx hb dX1_waysOn_0 (by decide) ?_
  refine lv_istore_n (lv' := [(2, .int 0), (0, .ref q_a0), (1, .ref q_a1)]) hx hb dX1_waysOn_1 rfl hl (by decide) rfl (fun ls hl => ?_)
  refine lv_iconst (v := 0) hx hb dX1_waysOn_2 (by decide) ?_
  refine lv_istore_n (lv' := [(3, .int 0), (2, .int 0), (0, .ref q_a0), (1, .ref q_a1)]) hx hb dX1_waysOn_3 rfl hl (by decide) rfl (fun ls hl => ?_)
  have hlp_4 : ∀ (n_4 : Nat) (v_1 : Int32) (v_2 : Int32) (ls : Array Slot), lq2 (bX1_waysOn_4 a0_holds a0_size a1_truth a1_mud a1_size Q) n_4 v_1 v_2 → lv_has ls 4 [(0, .ref q_a0), (1, .ref q_a1), (2, .int v_1), (3, .int v_2)] → W p l e (headSpec wsX1_waysOn rmX1_waysOn).room s m ([.ref q_a0, .ref q_a1] : List Value).toArray below meth c s.heap [] 0 0 QQ (F0 m 4 ls []) := by
    intro n_4
    induction n_4 with
    | zero => intro v_1 v_2 ls hf; exact (lq2_0 hf).elim
    | succ n_4 ih =>
      have ih_4 := ih
      intro v_1 v_2 ls hf hl
      have hf := lq2_s hf
      unfold bX1_waysOn_4 at hf
      refine lv_iload_n hx hb dX1_waysOn_4 rfl (lv_at hl 3 rfl) ?_
      refine lv_iconst (v := 1) hx hb dX1_waysOn_5 (by decide) ?_
      refine lv_iadd hx hb dX1_waysOn_6 ?_
      refine lv_aload_n hx hb dX1_waysOn_7 rfl (lv_at hl 1 rfl) ?_
      refine va_get (D := D) (ci := 0) (v := .int a1_size) (C := RX0) (T := TX0) (N := 6) hx hb hts in_X0 hown hK hP 2 rfl rfl 5 (by decide) kf_23 (fun _ h9 => h9) rfl dX1_waysOn_8 ?_
      refine lv_icmp_ge (tgt := 41) hx hb dX1_waysOn_11 (by decide) (fun c_4 => ?_) (fun c_4 => ?_)
      · have hf := it_t c_4 hf
        refine lv_iload_n hx hb dX1_waysOn_41 rfl (lv_at hl 2 rfl) ?_
        refine ya_csi (va_runS (As := [.int v_1]) (rest := []) ⟨hx, hb, hml, hown, hts⟩ (c_J6_bitCount_0f7a4 l D cI cZ cO  v_1 _ hf) (va_cwS 1 hts gX1_waysOn_J6_bitCount_0f7a4 rfl rfl rfl (by decide +kernel) ⟨Nat.le_of_ble_eq_true rfl, Nat.le_of_ble_eq_true rfl⟩) (ps_ro va_P0 hX) rfl rfl hl.1 rfl (lv_room (Nat.le_of_ble_eq_true rfl)) dX1_waysOn_42 ⟨Nat.zero_le _, Nat.zero_le _⟩) (fun r_5 hf => ?_)
        subst hQQ
        exact W.iret hx hb hr (fun t ht hW => ⟨_, rfl, hf, ht⟩) (fun _ h => absurd h List.not_mem_nil) dX1_waysOn_45
      · have hf := it_f c_4 hf
        refine lv_aload_n hx hb dX1_waysOn_14 rfl (lv_at hl 0 rfl) ?_
        refine lv_aload_n hx hb dX1_waysOn_15 rfl (lv_at hl 1 rfl) ?_
        refine lv_iload_n hx hb dX1_waysOn_16 rfl (lv_at hl 3 rfl) ?_
        refine ya_csi (va_runV (As := [.ref q_a1, .int v_2]) (rest := []) ⟨hx, hb, hml, hown, hts⟩ (c_X1_mayEndAt l D cI cZ cO q_a0 q_a0_holds q_a1 q_a1_yards q_a1_truth q_a1_notes q_a1_words q_a1_mud a0_size a0_holds a1_size a1_truth a1_mud v_2 _ hf) (cwV 2 hts gX1_waysOn_X1_mayEndAt rfl rfl rfl (by decide +kernel) ⟨Nat.le_of_ble_eq_true rfl, Nat.le_of_ble_eq_true rfl⟩) (pv_ro (ci := 1) (q0 := 0) (hP.sub [0, 1, 2, 3, 4] rfl) hX rfl rfl) rfl rfl hl.1 rfl (lv_room (Nat.le_of_ble_eq_true rfl)) dX1_waysOn_17 ⟨Nat.zero_le _, Nat.zero_le _⟩) (fun r_6 hf => ?_)
        refine lv_if_eq (tgt := 35) hx hb dX1_waysOn_20 (by decide) (fun c_7 => ?_) (fun c_7 => ?_)
        · have hf := it_t c_7 hf
          refine lv_iinc (v := v_2 + 1) (lv' := [(3, .int (v_2 + 1)), (0, .ref q_a0), (1, .ref q_a1), (2, .int v_1)]) hx hb dX1_waysOn_35 hl (k := 3) rfl rfl (by decide) rfl (fun ls hl => ?_)
          refine lv_goto (tgt := 4) hx hb dX1_waysOn_38 (by decide) ?_
          exact ih v_1 (v_2 + 1) ls hf (lv_sub hl [1, 2, 3, 0] rfl)
        · have hf := it_f c_7 hf
          refine lv_iload_n hx hb dX1_waysOn_23 rfl (lv_at hl 2 rfl) ?_
          refine lv_iconst (v := 1) hx hb dX1_waysOn_24 (by decide) ?_
          refine lv_aload_n hx hb dX1_waysOn_25 rfl (lv_at hl 1 rfl) ?_
          refine lv_iload_n hx hb dX1_waysOn_26 rfl (lv_at hl 3 rfl) ?_
          refine lv_iconst (v := 1) hx hb dX1_waysOn_27 (by decide) ?_
          refine lv_iadd hx hb dX1_waysOn_28 ?_
          refine ya_csi (va_runV (As := [.int (v_2 + 1)]) (rest := [.int 1, .int v_1]) ⟨hx, hb, hml, hown, hts⟩ (c_X0_holds l D cI cZ cO q_a1 q_a1_yards q_a1_truth q_a1_notes q_a1_words q_a1_mud a1_size a1_truth a1_mud (v_2 + 1) _ hf) (cwV 1 hts gX1_waysOn_X0_holds rfl rfl rfl (by decide +kernel) ⟨Nat.le_of_ble_eq_true rfl, Nat.le_of_ble_eq_true rfl⟩) (pv_ro (ci := 0) (q0 := 0) (hP.sub [2, 3, 4] rfl) hX rfl rfl) rfl rfl hl.1 rfl (lv_room (Nat.le_of_ble_eq_true rfl)) dX1_waysOn_29 ⟨Nat.zero_le _, Nat.zero_le _⟩) (fun r_8 hf => ?_)
          refine lv_ishl hx hb dX1_waysOn_32 ?_
          refine lv_ior hx hb dX1_waysOn_33 ?_
          refine lv_istore_n (lv' := [(2, .int (v_1 ||| (1 <<< (r_8 &&& 31)))), (0, .ref q_a0), (1, .ref q_a1), (3, .int v_2)]) hx hb dX1_waysOn_34 rfl hl (by decide) rfl (fun ls hl => ?_)
          refine lv_iinc (v := v_2 + 1) (lv' := [(3, .int (v_2 + 1)), (2, .int (v_1 ||| (1 <<< (r_8 &&& 31)))), (0, .ref q_a0), (1, .ref q_a1)]) hx hb dX1_waysOn_35 hl (k := 3) rfl rfl (by decide) rfl (fun ls hl => ?_)
          refine lv_goto (tgt := 4) hx hb dX1_waysOn_38 (by decide) ?_
          exact ih (v_1 ||| (1 <<< (r_8 &&& 31))) (v_2 + 1) ls hf (lv_sub hl [2, 3, 1, 0] rfl)
  exact hlp_4 1000 0 0 ls hf (lv_sub hl [2, 3, 1, 0] rfl)
def p_X1_take (a0_holds : Nat → Int32) (a0_size : Int32) (a1_holds : Nat → Int32) (a1_size : Int32) (Q : (Nat → Int32) → Int32 → Prop) : Prop :=
  Q (va_cpy a1_holds a0_holds (0 : Int32).toNatClampNeg (0 : Int32).toNatClampNeg (3 : Int32).toNatClampNeg) a1_size
def rmX1_take : Room := { frames := 1, cells := 0, slots := 0, locals := 40 }
set_option maxHeartbeats 4000000 in
set_option maxRecDepth 100000 in
theorem c_X1_take (l : Launch) (D : va_G) (cI cZ cO : ClassId) (q_a0 q_a0_holds q_a1 q_a1_holds : Nat) (a0_size : Int32) (a0_holds : Nat → Int32) (a1_size : Int32) (a1_holds : Nat → Int32) (sz : Nat) (Q : (Nat → Int32) → Int32 → Prop) (hf : p_X1_take a0_holds a0_size a1_holds a1_size Q) : Met l yX1_take wsX1_take rmX1_take (va_Pc [.ref q_a0, .ref q_a1] (fun U => U.heap.size = sz ∧ va_P D vwCl [(q_a0, .inr (1, [.ref q_a0_holds, .int a0_size])), (q_a0_holds, .inl (cI, 3, .inl a0_holds)), (q_a1, .inr (1, [.ref q_a1_holds, .int a1_size])), (q_a1_holds, .inl (cI, 3, .inl a1_holds))] U.heap ∧ XK D cI cZ cO U ∧ va_D (fun _ => True) [(q_a0, .inr (1, [.ref q_a0_holds, .int a0_size])), (q_a0_holds, .inl (cI, 3, .inl a0_holds)), (q_a1, .inr (1, [.ref q_a1_holds, .int a1_size])), (q_a1_holds, .inl (cI, 3, .inl a1_holds))])) (va_Qv (fun (u : (Nat → Int32) × Int32) => Q u.1 u.2) (fun (u : (Nat → Int32) × Int32) t => va_P D vwCl [(q_a0, .inr (1, [.ref q_a0_holds, .int u.2])), (q_a0_holds, .inl (cI, 3, .inl u.1)), (q_a1, .inr (1, [.ref q_a1_holds, .int a1_size])), (q_a1_holds, .inl (cI, 3, .inl a1_holds))] t.heap ∧ va_D (va_A [(q_a0, .inr (1, [.ref q_a0_holds, .int a0_size])), (q_a0_holds, .inl (cI, 3, .inl a0_holds)), (q_a1, .inr (1, [.ref q_a1_holds, .int a1_size])), (q_a1_holds, .inl (cI, 3, .inl a1_holds))] sz) [(q_a0, .inr (1, [.ref q_a0_holds, .int u.2])), (q_a0_holds, .inl (cI, 3, .inl u.1)), (q_a1, .inr (1, [.ref q_a1_holds, .int a1_size])), (q_a1_holds, .inl (cI, 3, .inl a1_holds))]) (va_A [(q_a0, .inr (1, [.ref q_a0_holds, .int a0_size])), (q_a0_holds, .inl (cI, 3, .inl a0_holds)), (q_a1, .inr (1, [.ref q_a1_holds, .int a1_size])), (q_a1_holds, .inl (cI, 3, .inl a1_holds))] sz)) 0 0 (va_A [(q_a0, .inr (1, [.ref q_a0_holds, .int a0_size])), (q_a0_holds, .inl (cI, 3, .inl a0_holds)), (q_a1, .inr (1, [.ref q_a1_holds, .int a1_size])), (q_a1_holds, .inl (cI, 3, .inl a1_holds))] sz) := by
  refine Met.ofW (cc := cX1_take) (maxL := 2) (ret := none) (by decide) rfl ?_
  intro p e s m args below meth c s₁ B hml hv
  obtain ⟨rfl, hsz, hP, hX, hD0⟩ := hv
  have hK := hX.1
  have hx := B.exec
  have hb := B.bytes
  have hr := B.returns
  have hts := atoms_spec (ws := wsX1_take) B.pre
  have hown : s.vm.findClass RX1 = some m.cls := findClass_of_methodNamed B.named
  have hlocks := B.notSynchronized
  have in_X1 : ∀ w ∈ wsX10, w ∈ wsX1_take := fun _ h => List.mem_cons_of_mem _ (List.mem_append_right _ h)
  have kf_9 := hts (.fieldLink RX1 9 "LeftCrest$Felt" "holds" "[I") (by decide +kernel)
  have kl_38 := hts (.methodLink RX1 38 arraycopyName) (by decide +kernel)
  have kl_nat := hts (.native arraycopyName) (by decide +kernel)
  have kl_sta := hts (.static arraycopyName) (by decide +kernel)
  have kl_ini := hts (.initialized "java/lang/System") (by decide +kernel)
  have kf_15 := hts (.fieldLink RX1 15 "LeftCrest$Felt" "size" "I") (by decide +kernel)
  subst hsz
  have hD := hD0.self (sz := s.heap.size)
  generalize hAe : va_A [(q_a0, .inr (1, [.ref q_a0_holds, .int a0_size])), (q_a0_holds, .inl (cI, 3, .inl a0_holds)), (q_a1, .inr (1, [.ref q_a1_holds, .int a1_size])), (q_a1_holds, .inl (cI, 3, .inl a1_holds))] s.heap.size = A at hD ⊢
  have hA : ∀ q : Nat, s.heap.size ≤ q → A q := fun q h => by rw [← hAe]; exact Or.inr h
  have hS : va_S A s.heap s.heap [] := va_S.rf
  have hP : va_P D vwCl [(q_a0, .inr (1, [.ref q_a0_holds, .int a0_size])), (q_a0_holds, .inl (cI, 3, .inl a0_holds)), (q_a1, .inr (1, [.ref q_a1_holds, .int a1_size])), (q_a1_holds, .inl (cI, 3, .inl a1_holds))] s.heap := hP
  generalize hQQ : MQ below _ _ s _ _ _ = QQ
  have hl := lv_entry ([.ref q_a0, .ref q_a1]) (n := 2) (Nat.le_of_ble_eq_true rfl)
  rw [lg_entry_eq]
  generalize (lg_sl ([.ref q_a0, .ref q_a1]) ++ List.replicate (2 - (lg_sl ([.ref q_a0, .ref q_a1])).length) Slot.unset).toArray = ls at hl ⊢
  have hl : lv_has ls 2 [(0, .ref q_a0), (1, .ref q_a1)] := hl
  unfold p_X1_take at hf
  refine lv_aload_n hx hb dX1_take_0 rfl (lv_at hl 1 rfl) ?_
  refine va_get (D := D) (ci := 1) (v := .ref q_a1_holds) (C := RX1) (T := TX1) (N := 2) hx hb hts in_X1 hown hK hP 2 rfl rfl 0 (by decide) kf_9 (fun _ h9 => h9) rfl dX1_take_1 ?_
  refine lv_iconst (v := 0) hx hb dX1_take_4 (by decide) ?_
  refine lv_aload_n hx hb dX1_take_5 rfl (lv_at hl 0 rfl) ?_
  refine va_get (D := D) (ci := 1) (v := .ref q_a0_holds) (C := RX1) (T := TX1) (N := 2) hx hb hts in_X1 hown hK hP 0 rfl rfl 0 (by decide) kf_9 (fun _ h9 => h9) rfl dX1_take_6 ?_
  refine lv_iconst (v := 0) hx hb dX1_take_9 (by decide) ?_
  refine lv_iconst (v := 3) hx hb dX1_take_10 (by decide) ?_
  refine va_copyi hx hb (by rw [hml]; exact hl.1.symm) hown kl_38 kl_nat kl_sta kl_ini hK hP hD hS 3 1 0 0 rfl rfl rfl rfl rfl (by decide) (by decide) (by decide) (by decide) (by decide) (fun _ _ => rfl) (Nat.le_of_ble_eq_true rfl) (Nat.le_of_ble_eq_true rfl) dX1_take_11 (fun H locs hP hD hS => ?_)
  have hP : va_P D vwCl [(q_a0, .inr (1, [.ref q_a0_holds, .int a0_size])), (q_a0_holds, .inl (cI, 3, .inl (va_cpy a1_holds a0_holds (0 : Int32).toNatClampNeg (0 : Int32).toNatClampNeg (3 : Int32).toNatClampNeg))), (q_a1, .inr (1, [.ref q_a1_holds, .int a1_size])), (q_a1_holds, .inl (cI, 3, .inl a1_holds))] H := hP
  have hD : va_D A [(q_a0, .inr (1, [.ref q_a0_holds, .int a0_size])), (q_a0_holds, .inl (cI, 3, .inl (va_cpy a1_holds a0_holds (0 : Int32).toNatClampNeg (0 : Int32).toNatClampNeg (3 : Int32).toNatClampNeg))), (q_a1, .inr (1, [.ref q_a1_holds, .int a1_size])), (q_a1_holds, .inl (cI, 3, .inl a1_holds))] := hD
  refine lv_aload_n hx hb dX1_take_14 rfl (lv_at hl 0 rfl) ?_
  refine lv_aload_n hx hb dX1_take_15 rfl (lv_at hl 1 rfl) ?_
  refine va_get (D := D) (ci := 1) (v := .int a1_size) (C := RX1) (T := TX1) (N := 2) hx hb hts in_X1 hown hK hP 2 rfl rfl 1 (by decide) kf_15 (fun _ h9 => h9) rfl dX1_take_16 ?_
  refine va_put (D := D) (ci := 1) (v := .int a1_size) (ty := .int) (C := RX1) (T := TX1) (N := 2) hx hb hts in_X1 tyX1 tyX1_ok nmX1 hown hK hP hD hS 0 rfl rfl 1 (by decide) kf_15 (fun _ h9 => h9) rfl (by decide +kernel) rfl rfl (Nat.le_of_ble_eq_true rfl) dX1_take_19 (fun H locs hP hD hS => ?_)
  have hP : va_P D vwCl [(q_a0, .inr (1, [.ref q_a0_holds, .int a1_size])), (q_a0_holds, .inl (cI, 3, .inl (va_cpy a1_holds a0_holds (0 : Int32).toNatClampNeg (0 : Int32).toNatClampNeg (3 : Int32).toNatClampNeg))), (q_a1, .inr (1, [.ref q_a1_holds, .int a1_size])), (q_a1_holds, .inl (cI, 3, .inl a1_holds))] H := hP
  have hD : va_D A [(q_a0, .inr (1, [.ref q_a0_holds, .int a1_size])), (q_a0_holds, .inl (cI, 3, .inl (va_cpy a1_holds a0_holds (0 : Int32).toNatClampNeg (0 : Int32).toNatClampNeg (3 : Int32).toNatClampNeg))), (q_a1, .inr (1, [.ref q_a1_holds, .int a1_size])), (q_a1_holds, .inl (cI, 3, .inl a1_holds))] := hD
  subst hQQ
  have hP9 := hP.sub (ws' := [(q_a0, .inr (1, [.ref q_a0_holds, .int a1_size])), (q_a0_holds, .inl (cI, 3, .inl (va_cpy a1_holds a0_holds (0 : Int32).toNatClampNeg (0 : Int32).toNatClampNeg (3 : Int32).toNatClampNeg))), (q_a1, .inr (1, [.ref q_a1_holds, .int a1_size])), (q_a1_holds, .inl (cI, 3, .inl a1_holds))]) [0, 1, 2, 3] rfl
  have hD9 := hD.sub (ws' := [(q_a0, .inr (1, [.ref q_a0_holds, .int a1_size])), (q_a0_holds, .inl (cI, 3, .inl (va_cpy a1_holds a0_holds (0 : Int32).toNatClampNeg (0 : Int32).toNatClampNeg (3 : Int32).toNatClampNeg))), (q_a1, .inr (1, [.ref q_a1_holds, .int a1_size])), (q_a1_holds, .inl (cI, 3, .inl a1_holds))]) [0, 1, 2, 3] (by decide) rfl
  exact W.vret hx hb hr (fun t ht hW => ⟨⟨(va_cpy a1_holds a0_holds (0 : Int32).toNatClampNeg (0 : Int32).toNatClampNeg (3 : Int32).toNatClampNeg, a1_size), rfl, hf, by rw [ht]; exact hP9, hD9⟩, hS.F ht⟩) hS.2.2 dX1_take_22
def bX1_digestOn_5 (a0_holds : Nat → Int32) (a0_size : Int32) (Q : Int64 → Prop) (k_3 : Int64 → Int32 → Prop) (v_1 : Int64) (v_2 : Int32) : Prop :=
  if a0_size ≤ v_2 then (Q v_1) else (vp_in v_2 3 ∧ (k_3 ((31 * v_1) + ((a0_holds v_2.toNatClampNeg).toInt64)) (v_2 + 1)))
def p_X1_digestOn (a0_holds : Nat → Int32) (a0_size : Int32) (x1 : Int64) (Q : Int64 → Prop) : Prop :=
  lq2 (bX1_digestOn_5 a0_holds a0_size Q) 1000 x1 0
def rmX1_digestOn : Room := { frames := 0, cells := 0, slots := 0, locals := 0 }
set_option maxHeartbeats 4000000 in
set_option maxRecDepth 100000 in
theorem c_X1_digestOn (l : Launch) (D : va_G) (cI cZ cO : ClassId) (q_a0 q_a0_holds : Nat) (a0_size : Int32) (a0_holds : Nat → Int32) (x1 : Int64) (Q : Int64 → Prop) (hf : p_X1_digestOn a0_holds a0_size x1 Q) : Met l yX1_digestOn wsX1_digestOn rmX1_digestOn (va_Pc [.ref q_a0, .long x1] (fun U => va_P D vwCl [(q_a0, .inr (1, [.ref q_a0_holds, .int a0_size])), (q_a0_holds, .inl (cI, 3, .inl a0_holds))] U.heap ∧ XK D cI cZ cO U)) (vp_Sl Q) 0 0 (fun _ => False) := by
  refine Met.ofW (cc := cX1_digestOn) (maxL := 6) (ret := (some .long)) (by decide) rfl ?_
  intro p e s m args below meth c s₁ B hml hv
  obtain ⟨rfl, hP, hX⟩ := hv
  have hK := hX.1
  have hx := B.exec
  have hb := B.bytes
  have hr := B.returns
  have hts := atoms_spec (ws := wsX1_digestOn) B.pre
  have hown : s.vm.findClass RX1 = some m.cls := findClass_of_methodNamed B.named
  have hlocks := B.notSynchronized
  have in_X1 : ∀ w ∈ wsX10, w ∈ wsX1_digestOn := fun _ h => List.mem_cons_of_mem _ (List.mem_append_right _ h)
  have kf_15 := hts (.fieldLink RX1 15 "LeftCrest$Felt" "size" "I") (by decide +kernel)
  have kc_44 := hts (.constantLong RX1 44 (31)) (by decide +kernel)
  have kf_9 := hts (.fieldLink RX1 9 "LeftCrest$Felt" "holds" "[I") (by decide +kernel)
  generalize hQQ : MQ below _ _ s _ _ _ = QQ
  have hl := lv_entry ([.ref q_a0, .long x1]) (n := 6) (Nat.le_of_ble_eq_true rfl)
  rw [lg_entry_eq]
  generalize (lg_sl ([.ref q_a0, .long x1]) ++ List.replicate (6 - (lg_sl ([.ref q_a0, .long x1])).length) Slot.unset).toArray = ls at hl ⊢
  have hl : lv_has ls 6 [(0, .ref q_a0), (1, .long x1)] := hl
  unfold p_X1_digestOn at hf
  refine lv_lload_n hx hb dX1_digestOn_0 rfl (lv_at hl 1 rfl) ?_
  refine lv_lstore_n (lv' := [(3, .long x1), (0, .ref q_a0), (1, .long x1)]) hx hb dX1_digestOn_1 rfl hl (by decide) rfl (fun ls hl => ?_)
  refine lv_iconst (v := 0) hx hb dX1_digestOn_2 (by decide) ?_
  refine lv_istore (lv' := [(5, .int 0), (3, .long x1), (0, .ref q_a0), (1, .long x1)]) hx hb dX1_digestOn_3 hl (by decide) rfl (fun ls hl => ?_)
  have hlp_5 : ∀ (n_5 : Nat) (v_1 : Int64) (v_2 : Int32) (ls : Array Slot), lq2 (bX1_digestOn_5 a0_holds a0_size Q) n_5 v_1 v_2 → lv_has ls 6 [(0, .ref q_a0), (3, .long v_1), (5, .int v_2)] → W p l e (headSpec wsX1_digestOn rmX1_digestOn).room s m ([.ref q_a0, .long x1] : List Value).toArray below meth c s.heap [] 0 0 QQ (F0 m 5 ls []) := by
    intro n_5
    induction n_5 with
    | zero => intro v_1 v_2 ls hf; exact (lq2_0 hf).elim
    | succ n_5 ih =>
      have ih_5 := ih
      intro v_1 v_2 ls hf hl
      have hf := lq2_s hf
      unfold bX1_digestOn_5 at hf
      refine lv_iload hx hb dX1_digestOn_5 (lv_at hl 2 rfl) ?_
      refine lv_aload_n hx hb dX1_digestOn_7 rfl (lv_at hl 0 rfl) ?_
      refine va_get (D := D) (ci := 1) (v := .int a0_size) (C := RX1) (T := TX1) (N := 2) hx hb hts in_X1 hown hK hP 0 rfl rfl 1 (by decide) kf_15 (fun _ h9 => h9) rfl dX1_digestOn_8 ?_
      refine lv_icmp_ge (tgt := 35) hx hb dX1_digestOn_11 (by decide) (fun c_4 => ?_) (fun c_4 => ?_)
      · have hf := it_t c_4 hf
        refine lv_lload_n hx hb dX1_digestOn_35 rfl (lv_at hl 1 rfl) ?_
        subst hQQ
        exact W.lret hx hb hr (fun t ht hW => ⟨_, rfl, hf, ht⟩) (fun _ h => absurd h List.not_mem_nil) dX1_digestOn_36
      · have hf := it_f c_4 hf
        refine lv_ldc2 (v := 31) hx hb hown kc_44 dX1_digestOn_14 ?_
        refine lv_lload_n hx hb dX1_digestOn_17 rfl (lv_at hl 1 rfl) ?_
        refine lv_lmul hx hb dX1_digestOn_18 ?_
        refine lv_aload_n hx hb dX1_digestOn_19 rfl (lv_at hl 0 rfl) ?_
        refine va_get (D := D) (ci := 1) (v := .ref q_a0_holds) (C := RX1) (T := TX1) (N := 2) hx hb hts in_X1 hown hK hP 0 rfl rfl 0 (by decide) kf_9 (fun _ h9 => h9) rfl dX1_digestOn_20 ?_
        refine lv_iload hx hb dX1_digestOn_23 (lv_at hl 2 rfl) ?_
        refine va_iald hx hb hK hP 1 0 rfl rfl hf.1 dX1_digestOn_25 ?_
        have hf := hf.2
        refine lv_i2l hx hb dX1_digestOn_26 rfl ?_
        refine lv_ladd hx hb dX1_digestOn_27 ?_
        refine lv_lstore_n (lv' := [(3, .long ((31 * v_1) + ((a0_holds v_2.toNatClampNeg).toInt64))), (0, .ref q_a0), (5, .int v_2)]) hx hb dX1_digestOn_28 rfl hl (by decide) rfl (fun ls hl => ?_)
        refine lv_iinc (v := v_2 + 1) (lv' := [(5, .int (v_2 + 1)), (3, .long ((31 * v_1) + ((a0_holds v_2.toNatClampNeg).toInt64))), (0, .ref q_a0)]) hx hb dX1_digestOn_29 hl (k := 2) rfl rfl (by decide) rfl (fun ls hl => ?_)
        refine lv_goto (tgt := 5) hx hb dX1_digestOn_32 (by decide) ?_
        exact ih ((31 * v_1) + ((a0_holds v_2.toNatClampNeg).toInt64)) (v_2 + 1) ls hf (lv_sub hl [2, 1, 0] rfl)
  exact hlp_5 1000 x1 0 ls hf (lv_sub hl [2, 1, 0] rfl)
def jX2_paceOf_59 (x0 : Int32) (x2 : Int32) (x3 : Int32) (x4 : Int32) (Q : Int32 → Prop) (v_1 : Int32) (v_2 : Int32) (v_3 : Int32) (t_4 : Int32) : Prop :=
  if x0 = 1 then (if 3 < x3 then (Q v_1) else (Q x2)) else (if x0 = 2 then (Q v_2) else (if x0 = 3 then (Q v_3) else (if x0 = 4 then (if 7 ≤ x3 then (Q v_3) else (Q (v_3 + 1))) else (if x0 = 5 then (if x4 = 1 then (Q t_4) else (Q v_2)) else (Q v_1)))))
def jX2_paceOf_43 (x0 : Int32) (x2 : Int32) (x3 : Int32) (x4 : Int32) (Q : Int32 → Prop) (v_13 : Int32) (v_14 : Int32) (t_15 : Int32) : Prop :=
  if v_14 ≤ 3 then (jX2_paceOf_59 x0 x2 x3 x4 Q v_13 v_14 t_15 1) else (jX2_paceOf_59 x0 x2 x3 x4 Q v_13 v_14 t_15 (v_14 - 2))
def jX2_paceOf_27 (x0 : Int32) (x2 : Int32) (x3 : Int32) (x4 : Int32) (Q : Int32 → Prop) (v_17 : Int32) (t_18 : Int32) : Prop :=
  if v_17 ≤ 1 then (jX2_paceOf_43 x0 x2 x3 x4 Q v_17 t_18 1) else (jX2_paceOf_43 x0 x2 x3 x4 Q v_17 t_18 (v_17 - 1))
def jX2_paceOf_9 (x0 : Int32) (x2 : Int32) (x3 : Int32) (x4 : Int32) (Q : Int32 → Prop) (t_20 : Int32) : Prop :=
  if 7 ≤ t_20 then (jX2_paceOf_27 x0 x2 x3 x4 Q t_20 7) else (jX2_paceOf_27 x0 x2 x3 x4 Q t_20 (t_20 + 1))
def p_X2_paceOf (x0 : Int32) (x1 : Int32) (x2 : Int32) (x3 : Int32) (x4 : Int32) (Q : Int32 → Prop) : Prop :=
  if x1 = 0 then (jX2_paceOf_9 x0 x2 x3 x4 Q 2) else (jX2_paceOf_9 x0 x2 x3 x4 Q x1)
def rmX2_paceOf : Room := { frames := 0, cells := 0, slots := 0, locals := 0 }
set_option maxHeartbeats 4000000 in
set_option maxRecDepth 100000 in
theorem c_X2_paceOf (l : Launch) (D : va_G) (cI cZ cO : ClassId) (x0 : Int32) (x1 : Int32) (x2 : Int32) (x3 : Int32) (x4 : Int32) (Q : Int32 → Prop) (hf : p_X2_paceOf x0 x1 x2 x3 x4 Q) : Met l yX2_paceOf wsX2_paceOf rmX2_paceOf (va_Pc [.int x0, .int x1, .int x2, .int x3, .int x4] (fun U => va_P D vwCl [] U.heap ∧ XK D cI cZ cO U)) (vp_Si Q) 0 0 (fun _ => False) := by
  refine Met.ofW (cc := cX2_paceOf) (maxL := 9) (ret := (some .int)) (by decide) rfl ?_
  intro p e s m args below meth c s₁ B hml hv
  obtain ⟨rfl, hP, hX⟩ := hv
  have hK := hX.1
  have hx := B.exec
  have hb := B.bytes
  have hr := B.returns
  have hts := atoms_spec (ws := wsX2_paceOf) B.pre
  have hown : s.vm.findClass RX2 = some m.cls := findClass_of_methodNamed B.named
  have hlocks := B.notSynchronized
  generalize hQQ : MQ below _ _ s _ _ _ = QQ
  have hl := lv_entry ([.int x0, .int x1, .int x2, .int x3, .int x4]) (n := 9) (Nat.le_of_ble_eq_true rfl)
  rw [lg_entry_eq]
  generalize (lg_sl ([.int x0, .int x1, .int x2, .int x3, .int x4]) ++ List.replicate (9 - (lg_sl ([.int x0, .int x1, .int x2, .int x3, .int x4])).length) Slot.unset).toArray = ls at hl ⊢
  have hl : lv_has ls 9 [(0, .int x0), (1, .int x1), (2, .int x2), (3, .int x3), (4, .int x4)] := hl
  have hj_59 : ∀ (v_1 : Int32) (v_2 : Int32) (v_3 : Int32) (t_4 : Int32), jX2_paceOf_59 x0 x2 x3 x4 Q v_1 v_2 v_3 t_4 → ∀ ls : Array Slot, lv_has ls 9 [(0, .int x0), (2, .int x2), (3, .int x3), (4, .int x4), (5, .int v_1), (6, .int v_2), (7, .int v_3)] → W p l e (headSpec wsX2_paceOf rmX2_paceOf).room s m ([.int x0, .int x1, .int x2, .int x3, .int x4] : List Value).toArray below meth c s.heap [] 0 0 QQ (F0 m 59 ls [.int t_4]) := by
    intro v_1 v_2 v_3 t_4 hf ls hl
    unfold jX2_paceOf_59 at hf
    refine lv_istore (lv' := [(8, .int t_4), (0, .int x0), (2, .int x2), (3, .int x3), (4, .int x4), (5, .int v_1), (6, .int v_2), (7, .int v_3)]) hx hb dX2_paceOf_59 hl (by decide) rfl (fun ls hl => ?_)
    refine lv_iload_n hx hb dX2_paceOf_61 rfl (lv_at hl 1 rfl) ?_
    by_cases c_5 : x0 = 1
    · have hf := it_t c_5 hf
      refine lv_tableIn (tgt := 96) (off := 34) hx hb dX2_paceOf_62 (by rw [c_5]; decide) (by rw [c_5]; decide) (by rw [c_5]; rfl) (by decide) ?_
      refine lv_iload_n hx hb dX2_paceOf_96 rfl (lv_at hl 3 rfl) ?_
      refine lv_iconst (v := 3) hx hb dX2_paceOf_97 (by decide) ?_
      refine lv_icmp_gt (tgt := 105) hx hb dX2_paceOf_98 (by decide) (fun c_6 => ?_) (fun c_6 => ?_)
      · have hf := it_t c_6 hf
        refine lv_iload hx hb dX2_paceOf_105 (lv_at hl 5 rfl) ?_
        subst hQQ
        exact W.iret hx hb hr (fun t ht hW => ⟨_, rfl, hf, ht⟩) (fun _ h => absurd h List.not_mem_nil) dX2_paceOf_107
      · have hf := it_f c_6 hf
        refine lv_iload_n hx hb dX2_paceOf_101 rfl (lv_at hl 2 rfl) ?_
        refine lv_goto (tgt := 107) hx hb dX2_paceOf_102 (by decide) ?_
        subst hQQ
        exact W.iret hx hb hr (fun t ht hW => ⟨_, rfl, hf, ht⟩) (fun _ h => absurd h List.not_mem_nil) dX2_paceOf_107
    have hf := it_f c_5 hf
    by_cases c_7 : x0 = 2
    · have hf := it_t c_7 hf
      refine lv_tableIn (tgt := 108) (off := 46) hx hb dX2_paceOf_62 (by rw [c_7]; decide) (by rw [c_7]; decide) (by rw [c_7]; rfl) (by decide) ?_
      refine lv_iload hx hb dX2_paceOf_108 (lv_at hl 6 rfl) ?_
      subst hQQ
      exact W.iret hx hb hr (fun t ht hW => ⟨_, rfl, hf, ht⟩) (fun _ h => absurd h List.not_mem_nil) dX2_paceOf_110
    have hf := it_f c_7 hf
    by_cases c_8 : x0 = 3
    · have hf := it_t c_8 hf
      refine lv_tableIn (tgt := 111) (off := 49) hx hb dX2_paceOf_62 (by rw [c_8]; decide) (by rw [c_8]; decide) (by rw [c_8]; rfl) (by decide) ?_
      refine lv_iload hx hb dX2_paceOf_111 (lv_at hl 7 rfl) ?_
      subst hQQ
      exact W.iret hx hb hr (fun t ht hW => ⟨_, rfl, hf, ht⟩) (fun _ h => absurd h List.not_mem_nil) dX2_paceOf_113
    have hf := it_f c_8 hf
    by_cases c_9 : x0 = 4
    · have hf := it_t c_9 hf
      refine lv_tableIn (tgt := 114) (off := 52) hx hb dX2_paceOf_62 (by rw [c_9]; decide) (by rw [c_9]; decide) (by rw [c_9]; rfl) (by decide) ?_
      refine lv_iload_n hx hb dX2_paceOf_114 rfl (lv_at hl 3 rfl) ?_
      refine lv_bipush (v := 7) hx hb dX2_paceOf_115 (by decide) ?_
      refine lv_icmp_ge (tgt := 127) hx hb dX2_paceOf_117 (by decide) (fun c_10 => ?_) (fun c_10 => ?_)
      · have hf := it_t c_10 hf
        refine lv_iload hx hb dX2_paceOf_127 (lv_at hl 7 rfl) ?_
        subst hQQ
        exact W.iret hx hb hr (fun t ht hW => ⟨_, rfl, hf, ht⟩) (fun _ h => absurd h List.not_mem_nil) dX2_paceOf_129
      · have hf := it_f c_10 hf
        refine lv_iload hx hb dX2_paceOf_120 (lv_at hl 7 rfl) ?_
        refine lv_iconst (v := 1) hx hb dX2_paceOf_122 (by decide) ?_
        refine lv_iadd hx hb dX2_paceOf_123 ?_
        refine lv_goto (tgt := 129) hx hb dX2_paceOf_124 (by decide) ?_
        subst hQQ
        exact W.iret hx hb hr (fun t ht hW => ⟨_, rfl, hf, ht⟩) (fun _ h => absurd h List.not_mem_nil) dX2_paceOf_129
    have hf := it_f c_9 hf
    by_cases c_11 : x0 = 5
    · have hf := it_t c_11 hf
      refine lv_tableIn (tgt := 130) (off := 68) hx hb dX2_paceOf_62 (by rw [c_11]; decide) (by rw [c_11]; decide) (by rw [c_11]; rfl) (by decide) ?_
      refine lv_iload hx hb dX2_paceOf_130 (lv_at hl 4 rfl) ?_
      refine lv_iconst (v := 1) hx hb dX2_paceOf_132 (by decide) ?_
      refine lv_icmp_ne (tgt := 141) hx hb dX2_paceOf_133 (by decide) (fun c_12 => ?_) (fun c_12 => ?_)
      · have hf := it_f c_12 hf
        refine lv_iload hx hb dX2_paceOf_141 (lv_at hl 6 rfl) ?_
        subst hQQ
        exact W.iret hx hb hr (fun t ht hW => ⟨_, rfl, hf, ht⟩) (fun _ h => absurd h List.not_mem_nil) dX2_paceOf_143
      · have hf := it_t c_12 hf
        refine lv_iload hx hb dX2_paceOf_136 (lv_at hl 0 rfl) ?_
        refine lv_goto (tgt := 143) hx hb dX2_paceOf_138 (by decide) ?_
        subst hQQ
        exact W.iret hx hb hr (fun t ht hW => ⟨_, rfl, hf, ht⟩) (fun _ h => absurd h List.not_mem_nil) dX2_paceOf_143
    have hf := it_f c_11 hf
    have gc_5 := lv_neT (k := 1) c_5 (a := 1) (by decide)
    have gc_7 := lv_neT (k := 2) c_7 (a := 2) (by decide)
    have gc_8 := lv_neT (k := 3) c_8 (a := 3) (by decide)
    have gc_9 := lv_neT (k := 4) c_9 (a := 4) (by decide)
    have gc_11 := lv_neT (k := 5) c_11 (a := 5) (by decide)
    refine lv_tableOut (tgt := 144) hx hb dX2_paceOf_62 (by omega) (by decide) ?_
    refine lv_iload hx hb dX2_paceOf_144 (lv_at hl 5 rfl) ?_
    subst hQQ
    exact W.iret hx hb hr (fun t ht hW => ⟨_, rfl, hf, ht⟩) (fun _ h => absurd h List.not_mem_nil) dX2_paceOf_146
  have hj_43 : ∀ (v_13 : Int32) (v_14 : Int32) (t_15 : Int32), jX2_paceOf_43 x0 x2 x3 x4 Q v_13 v_14 t_15 → ∀ ls : Array Slot, lv_has ls 9 [(0, .int x0), (2, .int x2), (3, .int x3), (4, .int x4), (5, .int v_13), (6, .int v_14)] → W p l e (headSpec wsX2_paceOf rmX2_paceOf).room s m ([.int x0, .int x1, .int x2, .int x3, .int x4] : List Value).toArray below meth c s.heap [] 0 0 QQ (F0 m 43 ls [.int t_15]) := by
    intro v_13 v_14 t_15 hf ls hl
    unfold jX2_paceOf_43 at hf
    refine lv_istore (lv' := [(7, .int t_15), (0, .int x0), (2, .int x2), (3, .int x3), (4, .int x4), (5, .int v_13), (6, .int v_14)]) hx hb dX2_paceOf_43 hl (by decide) rfl (fun ls hl => ?_)
    refine lv_iload hx hb dX2_paceOf_45 (lv_at hl 6 rfl) ?_
    refine lv_iconst (v := 3) hx hb dX2_paceOf_47 (by decide) ?_
    refine lv_icmp_le (tgt := 58) hx hb dX2_paceOf_48 (by decide) (fun c_16 => ?_) (fun c_16 => ?_)
    · have hf := it_t c_16 hf
      refine lv_iconst (v := 1) hx hb dX2_paceOf_58 (by decide) ?_
      exact hj_59 v_13 v_14 t_15 1 hf ls (lv_sub hl [1, 2, 3, 4, 5, 6, 0] rfl)
    · have hf := it_f c_16 hf
      refine lv_iload hx hb dX2_paceOf_51 (lv_at hl 6 rfl) ?_
      refine lv_iconst (v := 2) hx hb dX2_paceOf_53 (by decide) ?_
      refine lv_isub hx hb dX2_paceOf_54 ?_
      refine lv_goto (tgt := 59) hx hb dX2_paceOf_55 (by decide) ?_
      exact hj_59 v_13 v_14 t_15 (v_14 - 2) hf ls (lv_sub hl [1, 2, 3, 4, 5, 6, 0] rfl)
  have hj_27 : ∀ (v_17 : Int32) (t_18 : Int32), jX2_paceOf_27 x0 x2 x3 x4 Q v_17 t_18 → ∀ ls : Array Slot, lv_has ls 9 [(0, .int x0), (2, .int x2), (3, .int x3), (4, .int x4), (5, .int v_17)] → W p l e (headSpec wsX2_paceOf rmX2_paceOf).room s m ([.int x0, .int x1, .int x2, .int x3, .int x4] : List Value).toArray below meth c s.heap [] 0 0 QQ (F0 m 27 ls [.int t_18]) := by
    intro v_17 t_18 hf ls hl
    unfold jX2_paceOf_27 at hf
    refine lv_istore (lv' := [(6, .int t_18), (0, .int x0), (2, .int x2), (3, .int x3), (4, .int x4), (5, .int v_17)]) hx hb dX2_paceOf_27 hl (by decide) rfl (fun ls hl => ?_)
    refine lv_iload hx hb dX2_paceOf_29 (lv_at hl 5 rfl) ?_
    refine lv_iconst (v := 1) hx hb dX2_paceOf_31 (by decide) ?_
    refine lv_icmp_le (tgt := 42) hx hb dX2_paceOf_32 (by decide) (fun c_19 => ?_) (fun c_19 => ?_)
    · have hf := it_t c_19 hf
      refine lv_iconst (v := 1) hx hb dX2_paceOf_42 (by decide) ?_
      exact hj_43 v_17 t_18 1 hf ls (lv_sub hl [1, 2, 3, 4, 5, 0] rfl)
    · have hf := it_f c_19 hf
      refine lv_iload hx hb dX2_paceOf_35 (lv_at hl 5 rfl) ?_
      refine lv_iconst (v := 1) hx hb dX2_paceOf_37 (by decide) ?_
      refine lv_isub hx hb dX2_paceOf_38 ?_
      refine lv_goto (tgt := 43) hx hb dX2_paceOf_39 (by decide) ?_
      exact hj_43 v_17 t_18 (v_17 - 1) hf ls (lv_sub hl [1, 2, 3, 4, 5, 0] rfl)
  have hj_9 : ∀ (t_20 : Int32), jX2_paceOf_9 x0 x2 x3 x4 Q t_20 → ∀ ls : Array Slot, lv_has ls 9 [(0, .int x0), (2, .int x2), (3, .int x3), (4, .int x4)] → W p l e (headSpec wsX2_paceOf rmX2_paceOf).room s m ([.int x0, .int x1, .int x2, .int x3, .int x4] : List Value).toArray below meth c s.heap [] 0 0 QQ (F0 m 9 ls [.int t_20]) := by
    intro t_20 hf ls hl
    unfold jX2_paceOf_9 at hf
    refine lv_istore (lv' := [(5, .int t_20), (0, .int x0), (2, .int x2), (3, .int x3), (4, .int x4)]) hx hb dX2_paceOf_9 hl (by decide) rfl (fun ls hl => ?_)
    refine lv_iload hx hb dX2_paceOf_11 (lv_at hl 0 rfl) ?_
    refine lv_bipush (v := 7) hx hb dX2_paceOf_13 (by decide) ?_
    refine lv_icmp_ge (tgt := 25) hx hb dX2_paceOf_15 (by decide) (fun c_21 => ?_) (fun c_21 => ?_)
    · have hf := it_t c_21 hf
      refine lv_bipush (v := 7) hx hb dX2_paceOf_25 (by decide) ?_
      exact hj_27 t_20 7 hf ls (lv_sub hl [1, 2, 3, 4, 0] rfl)
    · have hf := it_f c_21 hf
      refine lv_iload hx hb dX2_paceOf_18 (lv_at hl 0 rfl) ?_
      refine lv_iconst (v := 1) hx hb dX2_paceOf_20 (by decide) ?_
      refine lv_iadd hx hb dX2_paceOf_21 ?_
      refine lv_goto (tgt := 27) hx hb dX2_paceOf_22 (by decide) ?_
      exact hj_27 t_20 (t_20 + 1) hf ls (lv_sub hl [1, 2, 3, 4, 0] rfl)
  unfold p_X2_paceOf at hf
  refine lv_iload_n hx hb dX2_paceOf_0 rfl (lv_at hl 1 rfl) ?_
  refine lv_if_ne (tgt := 8) hx hb dX2_paceOf_1 (by decide) (fun c_22 => ?_) (fun c_22 => ?_)
  · have hf := it_f c_22 hf
    refine lv_iload_n hx hb dX2_paceOf_8 rfl (lv_at hl 1 rfl) ?_
    exact hj_9 x1 hf ls (lv_sub hl [0, 2, 3, 4] rfl)
  · have hf := it_t c_22 hf
    refine lv_iconst (v := 2) hx hb dX2_paceOf_4 (by decide) ?_
    refine lv_goto (tgt := 9) hx hb dX2_paceOf_5 (by decide) ?_
    exact hj_9 2 hf ls (lv_sub hl [0, 2, 3, 4] rfl)
def p_X2_costOf (x0 : Int32) (x1 : Int32) (Q : Int32 → Prop) : Prop :=
  if x1 < x0 then (if x0 = (x1 + 1) then (Q 7) else (Q 60)) else (Q (3 * (x1 - x0)))
def rmX2_costOf : Room := { frames := 0, cells := 0, slots := 0, locals := 0 }
set_option maxHeartbeats 4000000 in
set_option maxRecDepth 100000 in
theorem c_X2_costOf (l : Launch) (D : va_G) (cI cZ cO : ClassId) (x0 : Int32) (x1 : Int32) (Q : Int32 → Prop) (hf : p_X2_costOf x0 x1 Q) : Met l yX2_costOf wsX2_costOf rmX2_costOf (va_Pc [.int x0, .int x1] (fun U => va_P D vwCl [] U.heap ∧ XK D cI cZ cO U)) (vp_Si Q) 0 0 (fun _ => False) := by
  refine Met.ofW (cc := cX2_costOf) (maxL := 2) (ret := (some .int)) (by decide) rfl ?_
  intro p e s m args below meth c s₁ B hml hv
  obtain ⟨rfl, hP, hX⟩ := hv
  have hK := hX.1
  have hx := B.exec
  have hb := B.bytes
  have hr := B.returns
  have hts := atoms_spec (ws := wsX2_costOf) B.pre
  have hown : s.vm.findClass RX2 = some m.cls := findClass_of_methodNamed B.named
  have hlocks := B.notSynchronized
  generalize hQQ : MQ below _ _ s _ _ _ = QQ
  have hl := lv_entry ([.int x0, .int x1]) (n := 2) (Nat.le_of_ble_eq_true rfl)
  rw [lg_entry_eq]
  generalize (lg_sl ([.int x0, .int x1]) ++ List.replicate (2 - (lg_sl ([.int x0, .int x1])).length) Slot.unset).toArray = ls at hl ⊢
  have hl : lv_has ls 2 [(0, .int x0), (1, .int x1)] := hl
  unfold p_X2_costOf at hf
  refine lv_iload_n hx hb dX2_costOf_0 rfl (lv_at hl 0 rfl) ?_
  refine lv_iload_n hx hb dX2_costOf_1 rfl (lv_at hl 1 rfl) ?_
  refine lv_icmp_gt (tgt := 11) hx hb dX2_costOf_2 (by decide) (fun c_1 => ?_) (fun c_1 => ?_)
  · have hf := it_t c_1 hf
    refine lv_iload_n hx hb dX2_costOf_11 rfl (lv_at hl 0 rfl) ?_
    refine lv_iload_n hx hb dX2_costOf_12 rfl (lv_at hl 1 rfl) ?_
    refine lv_iconst (v := 1) hx hb dX2_costOf_13 (by decide) ?_
    refine lv_iadd hx hb dX2_costOf_14 ?_
    refine lv_icmp_ne (tgt := 23) hx hb dX2_costOf_15 (by decide) (fun c_2 => ?_) (fun c_2 => ?_)
    · have hf := it_f c_2 hf
      refine lv_bipush (v := 60) hx hb dX2_costOf_23 (by decide) ?_
      subst hQQ
      exact W.iret hx hb hr (fun t ht hW => ⟨_, rfl, hf, ht⟩) (fun _ h => absurd h List.not_mem_nil) dX2_costOf_25
    · have hf := it_t c_2 hf
      refine lv_bipush (v := 7) hx hb dX2_costOf_18 (by decide) ?_
      refine lv_goto (tgt := 25) hx hb dX2_costOf_20 (by decide) ?_
      subst hQQ
      exact W.iret hx hb hr (fun t ht hW => ⟨_, rfl, hf, ht⟩) (fun _ h => absurd h List.not_mem_nil) dX2_costOf_25
  · have hf := it_f c_1 hf
    refine lv_iconst (v := 3) hx hb dX2_costOf_5 (by decide) ?_
    refine lv_iload_n hx hb dX2_costOf_6 rfl (lv_at hl 1 rfl) ?_
    refine lv_iload_n hx hb dX2_costOf_7 rfl (lv_at hl 0 rfl) ?_
    refine lv_isub hx hb dX2_costOf_8 ?_
    refine lv_imul hx hb dX2_costOf_9 ?_
    subst hQQ
    exact W.iret hx hb hr (fun t ht hW => ⟨_, rfl, hf, ht⟩) (fun _ h => absurd h List.not_mem_nil) dX2_costOf_10
def p_X3_isFull (a0_size : Int32) (Q : Int32 → Prop) : Prop :=
  if a0_size < 6 then (Q 0) else (Q 1)
def rmX3_isFull : Room := { frames := 0, cells := 0, slots := 0, locals := 0 }
set_option maxHeartbeats 4000000 in
set_option maxRecDepth 100000 in
theorem c_X3_isFull (l : Launch) (D : va_G) (cI cZ cO : ClassId) (q_a0 q_a0_rows : Nat) (a0_size : Int32) (Q : Int32 → Prop) (hf : p_X3_isFull a0_size Q) : Met l yX3_isFull wsX3_isFull rmX3_isFull (va_Pc [.ref q_a0] (fun U => va_P D vwCl [(q_a0, .inr (2, [.ref q_a0_rows, .int a0_size]))] U.heap ∧ XK D cI cZ cO U)) (vp_Si Q) 0 0 (fun _ => False) := by
  refine Met.ofW (cc := cX3_isFull) (maxL := 1) (ret := (some .boolean)) (by decide) rfl ?_
  intro p e s m args below meth c s₁ B hml hv
  obtain ⟨rfl, hP, hX⟩ := hv
  have hK := hX.1
  have hx := B.exec
  have hb := B.bytes
  have hr := B.returns
  have hts := atoms_spec (ws := wsX3_isFull) B.pre
  have hown : s.vm.findClass RX3 = some m.cls := findClass_of_methodNamed B.named
  have hlocks := B.notSynchronized
  have in_X3 : ∀ w ∈ wsX30, w ∈ wsX3_isFull := fun _ h => List.mem_cons_of_mem _ (List.mem_append_right _ h)
  have kf_15 := hts (.fieldLink RX3 15 "LeftCrest$Paces" "size" "I") (by decide +kernel)
  generalize hQQ : MQ below _ _ s _ _ _ = QQ
  have hl := lv_entry ([.ref q_a0]) (n := 1) (Nat.le_of_ble_eq_true rfl)
  rw [lg_entry_eq]
  generalize (lg_sl ([.ref q_a0]) ++ List.replicate (1 - (lg_sl ([.ref q_a0])).length) Slot.unset).toArray = ls at hl ⊢
  have hl : lv_has ls 1 [(0, .ref q_a0)] := hl
  unfold p_X3_isFull at hf
  refine lv_aload_n hx hb dX3_isFull_0 rfl (lv_at hl 0 rfl) ?_
  refine va_get (D := D) (ci := 2) (v := .int a0_size) (C := RX3) (T := TX3) (N := 2) hx hb hts in_X3 hown hK hP 0 rfl rfl 1 (by decide) kf_15 (fun _ h9 => h9) rfl dX3_isFull_1 ?_
  refine lv_bipush (v := 6) hx hb dX3_isFull_4 (by decide) ?_
  refine lv_icmp_lt (tgt := 13) hx hb dX3_isFull_6 (by decide) (fun c_1 => ?_) (fun c_1 => ?_)
  · have hf := it_t c_1 hf
    refine lv_iconst (v := 0) hx hb dX3_isFull_13 (by decide) ?_
    subst hQQ
    exact W.zret hx hb hr rfl (fun t ht hW => ⟨_, rfl, hf, ht⟩) (fun _ h => absurd h List.not_mem_nil) dX3_isFull_14
  · have hf := it_f c_1 hf
    refine lv_iconst (v := 1) hx hb dX3_isFull_9 (by decide) ?_
    refine lv_goto (tgt := 14) hx hb dX3_isFull_10 (by decide) ?_
    subst hQQ
    exact W.zret hx hb hr rfl (fun t ht hW => ⟨_, rfl, hf, ht⟩) (fun _ h => absurd h List.not_mem_nil) dX3_isFull_14
def p_X3_add (a0_rows : Nat → Int32) (a0_size : Int32) (x1 : Int32) (x2 : Int32) (x3 : Int32) (x4 : Int32) (x5 : Int32) (Q : Int32 → (Nat → Int32) → Int32 → Prop) : Prop :=
  p_X3_isFull a0_size (fun r_1 => if r_1 = 0 then (vp_in (a0_size * 5) 30 ∧ (vp_in ((a0_size * 5) + 1) 30 ∧ (vp_in ((a0_size * 5) + 2) 30 ∧ (vp_in ((a0_size * 5) + 3) 30 ∧ (vp_in ((a0_size * 5) + 4) 30 ∧ (Q (a0_size + 1) (upd (upd (upd (upd (upd a0_rows ((a0_size * 5).toNatClampNeg) x1) (((a0_size * 5) + 1).toNatClampNeg) x2) (((a0_size * 5) + 2).toNatClampNeg) x3) (((a0_size * 5) + 3).toNatClampNeg) x4) (((a0_size * 5) + 4).toNatClampNeg) x5) (a0_size + 1))))))) else (Q (-4) a0_rows a0_size))
def rmX3_add : Room := { frames := 1, cells := 0, slots := 0, locals := 20 }
set_option maxHeartbeats 4000000 in
set_option maxRecDepth 100000 in
theorem c_X3_add (l : Launch) (D : va_G) (cI cZ cO : ClassId) (q_a0 q_a0_rows : Nat) (a0_size : Int32) (a0_rows : Nat → Int32) (sz : Nat) (x1 : Int32) (x2 : Int32) (x3 : Int32) (x4 : Int32) (x5 : Int32) (Q : Int32 → (Nat → Int32) → Int32 → Prop) (hf : p_X3_add a0_rows a0_size x1 x2 x3 x4 x5 Q) : Met l yX3_add wsX3_add rmX3_add (va_Pc [.ref q_a0, .int x1, .int x2, .int x3, .int x4, .int x5] (fun U => U.heap.size = sz ∧ va_P D vwCl [(q_a0, .inr (2, [.ref q_a0_rows, .int a0_size])), (q_a0_rows, .inl (cI, 30, .inl a0_rows))] U.heap ∧ XK D cI cZ cO U ∧ va_D (fun _ => True) [(q_a0, .inr (2, [.ref q_a0_rows, .int a0_size])), (q_a0_rows, .inl (cI, 30, .inl a0_rows))])) (va_Qi (fun r (u : (Nat → Int32) × Int32) => Q r u.1 u.2) (fun (u : (Nat → Int32) × Int32) t => va_P D vwCl [(q_a0, .inr (2, [.ref q_a0_rows, .int u.2])), (q_a0_rows, .inl (cI, 30, .inl u.1))] t.heap ∧ va_D (va_A [(q_a0, .inr (2, [.ref q_a0_rows, .int a0_size])), (q_a0_rows, .inl (cI, 30, .inl a0_rows))] sz) [(q_a0, .inr (2, [.ref q_a0_rows, .int u.2])), (q_a0_rows, .inl (cI, 30, .inl u.1))]) (va_A [(q_a0, .inr (2, [.ref q_a0_rows, .int a0_size])), (q_a0_rows, .inl (cI, 30, .inl a0_rows))] sz)) 0 0 (va_A [(q_a0, .inr (2, [.ref q_a0_rows, .int a0_size])), (q_a0_rows, .inl (cI, 30, .inl a0_rows))] sz) := by
  refine Met.ofW (cc := cX3_add) (maxL := 7) (ret := (some .int)) (by decide) rfl ?_
  intro p e s m args below meth c s₁ B hml hv
  obtain ⟨rfl, hsz, hP, hX, hD0⟩ := hv
  have hK := hX.1
  have hx := B.exec
  have hb := B.bytes
  have hr := B.returns
  have hts := atoms_spec (ws := wsX3_add) B.pre
  have hown : s.vm.findClass RX3 = some m.cls := findClass_of_methodNamed B.named
  have hlocks := B.notSynchronized
  have in_X3 : ∀ w ∈ wsX30, w ∈ wsX3_add := fun _ h => List.mem_cons_of_mem _ (List.mem_append_right _ h)
  have kf_15 := hts (.fieldLink RX3 15 "LeftCrest$Paces" "size" "I") (by decide +kernel)
  have kf_11 := hts (.fieldLink RX3 11 "LeftCrest$Paces" "rows" "[I") (by decide +kernel)
  subst hsz
  have hD := hD0.self (sz := s.heap.size)
  generalize hAe : va_A [(q_a0, .inr (2, [.ref q_a0_rows, .int a0_size])), (q_a0_rows, .inl (cI, 30, .inl a0_rows))] s.heap.size = A at hD ⊢
  have hA : ∀ q : Nat, s.heap.size ≤ q → A q := fun q h => by rw [← hAe]; exact Or.inr h
  have hS : va_S A s.heap s.heap [] := va_S.rf
  have hP : va_P D vwCl [(q_a0, .inr (2, [.ref q_a0_rows, .int a0_size])), (q_a0_rows, .inl (cI, 30, .inl a0_rows))] s.heap := hP
  generalize hQQ : MQ below _ _ s _ _ _ = QQ
  have hl := lv_entry ([.ref q_a0, .int x1, .int x2, .int x3, .int x4, .int x5]) (n := 7) (Nat.le_of_ble_eq_true rfl)
  rw [lg_entry_eq]
  generalize (lg_sl ([.ref q_a0, .int x1, .int x2, .int x3, .int x4, .int x5]) ++ List.replicate (7 - (lg_sl ([.ref q_a0, .int x1, .int x2, .int x3, .int x4, .int x5])).length) Slot.unset).toArray = ls at hl ⊢
  have hl : lv_has ls 7 [(0, .ref q_a0), (1, .int x1), (2, .int x2), (3, .int x3), (4, .int x4), (5, .int x5)] := hl
  unfold p_X3_add at hf
  refine lv_aload_n hx hb dX3_add_0 rfl (lv_at hl 0 rfl) ?_
  refine ya_csi (va_runV (As := []) (rest := []) ⟨hx, hb, hml, hown, hts⟩ (c_X3_isFull l D cI cZ cO q_a0 q_a0_rows a0_size  _ hf) (cwV 0 hts gX3_add_X3_isFull rfl rfl rfl (by decide +kernel) ⟨Nat.le_of_ble_eq_true rfl, Nat.le_of_ble_eq_true rfl⟩) (pv_ro (ci := 2) (q0 := 0) (hP.sub [0] rfl) hX rfl rfl) rfl rfl hl.1 rfl (lv_room (Nat.le_of_ble_eq_true rfl)) dX3_add_1 ⟨Nat.zero_le _, Nat.zero_le _⟩) (fun r_1 hf => ?_)
  refine lv_if_eq (tgt := 10) hx hb dX3_add_4 (by decide) (fun c_2 => ?_) (fun c_2 => ?_)
  · have hf := it_t c_2 hf
    refine lv_aload_n hx hb dX3_add_10 rfl (lv_at hl 0 rfl) ?_
    refine va_get (D := D) (ci := 2) (v := .int a0_size) (C := RX3) (T := TX3) (N := 2) hx hb hts in_X3 hown hK hP 0 rfl rfl 1 (by decide) kf_15 (fun _ h9 => h9) rfl dX3_add_11 ?_
    refine lv_iconst (v := 5) hx hb dX3_add_14 (by decide) ?_
    refine lv_imul hx hb dX3_add_15 ?_
    refine lv_istore (lv' := [(6, .int (a0_size * 5)), (0, .ref q_a0), (1, .int x1), (2, .int x2), (3, .int x3), (4, .int x4), (5, .int x5)]) hx hb dX3_add_16 hl (by decide) rfl (fun ls hl => ?_)
    refine lv_aload_n hx hb dX3_add_18 rfl (lv_at hl 1 rfl) ?_
    refine va_get (D := D) (ci := 2) (v := .ref q_a0_rows) (C := RX3) (T := TX3) (N := 2) hx hb hts in_X3 hown hK hP 0 rfl rfl 0 (by decide) kf_11 (fun _ h9 => h9) rfl dX3_add_19 ?_
    refine lv_iload hx hb dX3_add_22 (lv_at hl 0 rfl) ?_
    refine lv_iload_n hx hb dX3_add_24 rfl (lv_at hl 2 rfl) ?_
    refine va_iast hx hb hK hP hD hS 1 0 rfl rfl hf.1 dX3_add_25 (fun H locs hP hD hS => ?_)
    have hP : va_P D vwCl [(q_a0, .inr (2, [.ref q_a0_rows, .int a0_size])), (q_a0_rows, .inl (cI, 30, .inl (upd a0_rows ((a0_size * 5).toNatClampNeg) x1)))] H := hP
    have hD : va_D A [(q_a0, .inr (2, [.ref q_a0_rows, .int a0_size])), (q_a0_rows, .inl (cI, 30, .inl (upd a0_rows ((a0_size * 5).toNatClampNeg) x1)))] := hD
    have hf := hf.2
    refine lv_aload_n hx hb dX3_add_26 rfl (lv_at hl 1 rfl) ?_
    refine va_get (D := D) (ci := 2) (v := .ref q_a0_rows) (C := RX3) (T := TX3) (N := 2) hx hb hts in_X3 hown hK hP 0 rfl rfl 0 (by decide) kf_11 (fun _ h9 => h9) rfl dX3_add_27 ?_
    refine lv_iload hx hb dX3_add_30 (lv_at hl 0 rfl) ?_
    refine lv_iconst (v := 1) hx hb dX3_add_32 (by decide) ?_
    refine lv_iadd hx hb dX3_add_33 ?_
    refine lv_iload_n hx hb dX3_add_34 rfl (lv_at hl 3 rfl) ?_
    refine va_iast hx hb hK hP hD hS 1 0 rfl rfl hf.1 dX3_add_35 (fun H locs hP hD hS => ?_)
    have hP : va_P D vwCl [(q_a0, .inr (2, [.ref q_a0_rows, .int a0_size])), (q_a0_rows, .inl (cI, 30, .inl (upd (upd a0_rows ((a0_size * 5).toNatClampNeg) x1) (((a0_size * 5) + 1).toNatClampNeg) x2)))] H := hP
    have hD : va_D A [(q_a0, .inr (2, [.ref q_a0_rows, .int a0_size])), (q_a0_rows, .inl (cI, 30, .inl (upd (upd a0_rows ((a0_size * 5).toNatClampNeg) x1) (((a0_size * 5) + 1).toNatClampNeg) x2)))] := hD
    have hf := hf.2
    refine lv_aload_n hx hb dX3_add_36 rfl (lv_at hl 1 rfl) ?_
    refine va_get (D := D) (ci := 2) (v := .ref q_a0_rows) (C := RX3) (T := TX3) (N := 2) hx hb hts in_X3 hown hK hP 0 rfl rfl 0 (by decide) kf_11 (fun _ h9 => h9) rfl dX3_add_37 ?_
    refine lv_iload hx hb dX3_add_40 (lv_at hl 0 rfl) ?_
    refine lv_iconst (v := 2) hx hb dX3_add_42 (by decide) ?_
    refine lv_iadd hx hb dX3_add_43 ?_
    refine lv_iload_n hx hb dX3_add_44 rfl (lv_at hl 4 rfl) ?_
    refine va_iast hx hb hK hP hD hS 1 0 rfl rfl hf.1 dX3_add_45 (fun H locs hP hD hS => ?_)
    have hP : va_P D vwCl [(q_a0, .inr (2, [.ref q_a0_rows, .int a0_size])), (q_a0_rows, .inl (cI, 30, .inl (upd (upd (upd a0_rows ((a0_size * 5).toNatClampNeg) x1) (((a0_size * 5) + 1).toNatClampNeg) x2) (((a0_size * 5) + 2).toNatClampNeg) x3)))] H := hP
    have hD : va_D A [(q_a0, .inr (2, [.ref q_a0_rows, .int a0_size])), (q_a0_rows, .inl (cI, 30, .inl (upd (upd (upd a0_rows ((a0_size * 5).toNatClampNeg) x1) (((a0_size * 5) + 1).toNatClampNeg) x2) (((a0_size * 5) + 2).toNatClampNeg) x3)))] := hD
    have hf := hf.2
    refine lv_aload_n hx hb dX3_add_46 rfl (lv_at hl 1 rfl) ?_
    refine va_get (D := D) (ci := 2) (v := .ref q_a0_rows) (C := RX3) (T := TX3) (N := 2) hx hb hts in_X3 hown hK hP 0 rfl rfl 0 (by decide) kf_11 (fun _ h9 => h9) rfl dX3_add_47 ?_
    refine lv_iload hx hb dX3_add_50 (lv_at hl 0 rfl) ?_
    refine lv_iconst (v := 3) hx hb dX3_add_52 (by decide) ?_
    refine lv_iadd hx hb dX3_add_53 ?_
    refine lv_iload hx hb dX3_add_54 (lv_at hl 5 rfl) ?_
    refine va_iast hx hb hK hP hD hS 1 0 rfl rfl hf.1 dX3_add_56 (fun H locs hP hD hS => ?_)
    have hP : va_P D vwCl [(q_a0, .inr (2, [.ref q_a0_rows, .int a0_size])), (q_a0_rows, .inl (cI, 30, .inl (upd (upd (upd (upd a0_rows ((a0_size * 5).toNatClampNeg) x1) (((a0_size * 5) + 1).toNatClampNeg) x2) (((a0_size * 5) + 2).toNatClampNeg) x3) (((a0_size * 5) + 3).toNatClampNeg) x4)))] H := hP
    have hD : va_D A [(q_a0, .inr (2, [.ref q_a0_rows, .int a0_size])), (q_a0_rows, .inl (cI, 30, .inl (upd (upd (upd (upd a0_rows ((a0_size * 5).toNatClampNeg) x1) (((a0_size * 5) + 1).toNatClampNeg) x2) (((a0_size * 5) + 2).toNatClampNeg) x3) (((a0_size * 5) + 3).toNatClampNeg) x4)))] := hD
    have hf := hf.2
    refine lv_aload_n hx hb dX3_add_57 rfl (lv_at hl 1 rfl) ?_
    refine va_get (D := D) (ci := 2) (v := .ref q_a0_rows) (C := RX3) (T := TX3) (N := 2) hx hb hts in_X3 hown hK hP 0 rfl rfl 0 (by decide) kf_11 (fun _ h9 => h9) rfl dX3_add_58 ?_
    refine lv_iload hx hb dX3_add_61 (lv_at hl 0 rfl) ?_
    refine lv_iconst (v := 4) hx hb dX3_add_63 (by decide) ?_
    refine lv_iadd hx hb dX3_add_64 ?_
    refine lv_iload hx hb dX3_add_65 (lv_at hl 6 rfl) ?_
    refine va_iast hx hb hK hP hD hS 1 0 rfl rfl hf.1 dX3_add_67 (fun H locs hP hD hS => ?_)
    have hP : va_P D vwCl [(q_a0, .inr (2, [.ref q_a0_rows, .int a0_size])), (q_a0_rows, .inl (cI, 30, .inl (upd (upd (upd (upd (upd a0_rows ((a0_size * 5).toNatClampNeg) x1) (((a0_size * 5) + 1).toNatClampNeg) x2) (((a0_size * 5) + 2).toNatClampNeg) x3) (((a0_size * 5) + 3).toNatClampNeg) x4) (((a0_size * 5) + 4).toNatClampNeg) x5)))] H := hP
    have hD : va_D A [(q_a0, .inr (2, [.ref q_a0_rows, .int a0_size])), (q_a0_rows, .inl (cI, 30, .inl (upd (upd (upd (upd (upd a0_rows ((a0_size * 5).toNatClampNeg) x1) (((a0_size * 5) + 1).toNatClampNeg) x2) (((a0_size * 5) + 2).toNatClampNeg) x3) (((a0_size * 5) + 3).toNatClampNeg) x4) (((a0_size * 5) + 4).toNatClampNeg) x5)))] := hD
    have hf := hf.2
    refine lv_aload_n hx hb dX3_add_68 rfl (lv_at hl 1 rfl) ?_
    refine lv_dup hx hb dX3_add_69 rfl ?_
    refine va_get (D := D) (ci := 2) (v := .int a0_size) (C := RX3) (T := TX3) (N := 2) hx hb hts in_X3 hown hK hP 0 rfl rfl 1 (by decide) kf_15 (fun _ h9 => h9) rfl dX3_add_70 ?_
    refine lv_iconst (v := 1) hx hb dX3_add_73 (by decide) ?_
    refine lv_iadd hx hb dX3_add_74 ?_
    refine va_put (D := D) (ci := 2) (v := .int (a0_size + 1)) (ty := .int) (C := RX3) (T := TX3) (N := 2) hx hb hts in_X3 tyX3 tyX3_ok nmX3 hown hK hP hD hS 0 rfl rfl 1 (by decide) kf_15 (fun _ h9 => h9) rfl (by decide +kernel) rfl rfl (Nat.le_of_ble_eq_true rfl) dX3_add_75 (fun H locs hP hD hS => ?_)
    have hP : va_P D vwCl [(q_a0, .inr (2, [.ref q_a0_rows, .int (a0_size + 1)])), (q_a0_rows, .inl (cI, 30, .inl (upd (upd (upd (upd (upd a0_rows ((a0_size * 5).toNatClampNeg) x1) (((a0_size * 5) + 1).toNatClampNeg) x2) (((a0_size * 5) + 2).toNatClampNeg) x3) (((a0_size * 5) + 3).toNatClampNeg) x4) (((a0_size * 5) + 4).toNatClampNeg) x5)))] H := hP
    have hD : va_D A [(q_a0, .inr (2, [.ref q_a0_rows, .int (a0_size + 1)])), (q_a0_rows, .inl (cI, 30, .inl (upd (upd (upd (upd (upd a0_rows ((a0_size * 5).toNatClampNeg) x1) (((a0_size * 5) + 1).toNatClampNeg) x2) (((a0_size * 5) + 2).toNatClampNeg) x3) (((a0_size * 5) + 3).toNatClampNeg) x4) (((a0_size * 5) + 4).toNatClampNeg) x5)))] := hD
    refine lv_aload_n hx hb dX3_add_78 rfl (lv_at hl 1 rfl) ?_
    refine va_get (D := D) (ci := 2) (v := .int (a0_size + 1)) (C := RX3) (T := TX3) (N := 2) hx hb hts in_X3 hown hK hP 0 rfl rfl 1 (by decide) kf_15 (fun _ h9 => h9) rfl dX3_add_79 ?_
    subst hQQ
    have hP9 := hP.sub (ws' := [(q_a0, .inr (2, [.ref q_a0_rows, .int (a0_size + 1)])), (q_a0_rows, .inl (cI, 30, .inl (upd (upd (upd (upd (upd a0_rows ((a0_size * 5).toNatClampNeg) x1) (((a0_size * 5) + 1).toNatClampNeg) x2) (((a0_size * 5) + 2).toNatClampNeg) x3) (((a0_size * 5) + 3).toNatClampNeg) x4) (((a0_size * 5) + 4).toNatClampNeg) x5)))]) [0, 1] rfl
    have hD9 := hD.sub (ws' := [(q_a0, .inr (2, [.ref q_a0_rows, .int (a0_size + 1)])), (q_a0_rows, .inl (cI, 30, .inl (upd (upd (upd (upd (upd a0_rows ((a0_size * 5).toNatClampNeg) x1) (((a0_size * 5) + 1).toNatClampNeg) x2) (((a0_size * 5) + 2).toNatClampNeg) x3) (((a0_size * 5) + 3).toNatClampNeg) x4) (((a0_size * 5) + 4).toNatClampNeg) x5)))]) [0, 1] (by decide) rfl
    exact W.iret hx hb hr (fun t ht hW => ⟨⟨(a0_size + 1), (upd (upd (upd (upd (upd a0_rows ((a0_size * 5).toNatClampNeg) x1) (((a0_size * 5) + 1).toNatClampNeg) x2) (((a0_size * 5) + 2).toNatClampNeg) x3) (((a0_size * 5) + 3).toNatClampNeg) x4) (((a0_size * 5) + 4).toNatClampNeg) x5, a0_size + 1), rfl, hf, by rw [ht]; exact hP9, hD9⟩, hS.F ht⟩) hS.2.2 dX3_add_82
  · have hf := it_f c_2 hf
    refine lv_bipush (v := (-4)) hx hb dX3_add_7 (by decide) ?_
    subst hQQ
    have hP9 := hP.sub (ws' := [(q_a0, .inr (2, [.ref q_a0_rows, .int a0_size])), (q_a0_rows, .inl (cI, 30, .inl a0_rows))]) [0, 1] rfl
    have hD9 := hD.sub (ws' := [(q_a0, .inr (2, [.ref q_a0_rows, .int a0_size])), (q_a0_rows, .inl (cI, 30, .inl a0_rows))]) [0, 1] (by decide) rfl
    exact W.iret hx hb hr (fun t ht hW => ⟨⟨(-4), (a0_rows, a0_size), rfl, hf, by rw [ht]; exact hP9, hD9⟩, hS.F ht⟩) hS.2.2 dX3_add_9
def bX3_fits_2 (a0_rows : Nat → Int32) (a0_size : Int32) (x1 : Int32) (Q : Int32 → Prop) (k_2 : Int32 → Prop) (v_1 : Int32) : Prop :=
  if a0_size ≤ v_1 then (Q 1) else (vp_in (v_1 * 5) 30 ∧ (vp_in ((v_1 * 5) + 1) 30 ∧ (vp_in ((v_1 * 5) + 2) 30 ∧ (vp_in ((v_1 * 5) + 3) 30 ∧ (p_X2_paceOf x1 (a0_rows (v_1 * 5).toNatClampNeg) (a0_rows ((v_1 * 5) + 1).toNatClampNeg) (a0_rows ((v_1 * 5) + 2).toNatClampNeg) (a0_rows ((v_1 * 5) + 3).toNatClampNeg) (fun r_4 => vp_in ((v_1 * 5) + 4) 30 ∧ (if r_4 = (a0_rows ((v_1 * 5) + 4).toNatClampNeg) then (k_2 (v_1 + 1)) else (Q 0))))))))
def p_X3_fits (a0_rows : Nat → Int32) (a0_size : Int32) (x1 : Int32) (Q : Int32 → Prop) : Prop :=
  lq1 (bX3_fits_2 a0_rows a0_size x1 Q) 1000 0
def rmX3_fits : Room := { frames := 1, cells := 0, slots := 0, locals := 28 }
set_option maxHeartbeats 4000000 in
set_option maxRecDepth 100000 in
theorem c_X3_fits (l : Launch) (D : va_G) (cI cZ cO : ClassId) (q_a0 q_a0_rows : Nat) (a0_size : Int32) (a0_rows : Nat → Int32) (x1 : Int32) (Q : Int32 → Prop) (hf : p_X3_fits a0_rows a0_size x1 Q) : Met l yX3_fits wsX3_fits rmX3_fits (va_Pc [.ref q_a0, .int x1] (fun U => va_P D vwCl [(q_a0, .inr (2, [.ref q_a0_rows, .int a0_size])), (q_a0_rows, .inl (cI, 30, .inl a0_rows))] U.heap ∧ XK D cI cZ cO U)) (vp_Si Q) 0 0 (fun _ => False) := by
  refine Met.ofW (cc := cX3_fits) (maxL := 5) (ret := (some .boolean)) (by decide) rfl ?_
  intro p e s m args below meth c s₁ B hml hv
  obtain ⟨rfl, hP, hX⟩ := hv
  have hK := hX.1
  have hx := B.exec
  have hb := B.bytes
  have hr := B.returns
  have hts := atoms_spec (ws := wsX3_fits) B.pre
  have hown : s.vm.findClass RX3 = some m.cls := findClass_of_methodNamed B.named
  have hlocks := B.notSynchronized
  have in_X3 : ∀ w ∈ wsX30, w ∈ wsX3_fits := fun _ h => List.mem_cons_of_mem _ (List.mem_append_right _ h)
  have kf_15 := hts (.fieldLink RX3 15 "LeftCrest$Paces" "size" "I") (by decide +kernel)
  have kf_11 := hts (.fieldLink RX3 11 "LeftCrest$Paces" "rows" "[I") (by decide +kernel)
  generalize hQQ : MQ below _ _ s _ _ _ = QQ
  have hl := lv_entry ([.ref q_a0, .int x1]) (n := 5) (Nat.le_of_ble_eq_true rfl)
  rw [lg_entry_eq]
  generalize (lg_sl ([.ref q_a0, .int x1]) ++ List.replicate (5 - (lg_sl ([.ref q_a0, .int x1])).length) Slot.unset).toArray = ls at hl ⊢
  have hl : lv_has ls 5 [(0, .ref q_a0), (1, .int x1)] := hl
  unfold p_X3_fits at hf
  refine lv_iconst (v := 0) hx hb dX3_fits_0 (by decide) ?_
  refine lv_istore_n (lv' := [(2, .int 0), (0, .ref q_a0), (1, .int x1)]) hx hb dX3_fits_1 rfl hl (by decide) rfl (fun ls hl => ?_)
  have hlp_2 : ∀ (n_2 : Nat) (v_1 : Int32) (ls : Array Slot), lq1 (bX3_fits_2 a0_rows a0_size x1 Q) n_2 v_1 → lv_has ls 5 [(0, .ref q_a0), (1, .int x1), (2, .int v_1)] → W p l e (headSpec wsX3_fits rmX3_fits).room s m ([.ref q_a0, .int x1] : List Value).toArray below meth c s.heap [] 0 0 QQ (F0 m 2 ls []) := by
    intro n_2
    induction n_2 with
    | zero => intro v_1 ls hf; exact (lq1_0 hf).elim
    | succ n_2 ih =>
      have ih_2 := ih
      intro v_1 ls hf hl
      have hf := lq1_s hf
      unfold bX3_fits_2 at hf
      refine lv_iload_n hx hb dX3_fits_2 rfl (lv_at hl 2 rfl) ?_
      refine lv_aload_n hx hb dX3_fits_3 rfl (lv_at hl 0 rfl) ?_
      refine va_get (D := D) (ci := 2) (v := .int a0_size) (C := RX3) (T := TX3) (N := 2) hx hb hts in_X3 hown hK hP 0 rfl rfl 1 (by decide) kf_15 (fun _ h9 => h9) rfl dX3_fits_4 ?_
      refine lv_icmp_ge (tgt := 71) hx hb dX3_fits_7 (by decide) (fun c_3 => ?_) (fun c_3 => ?_)
      · have hf := it_t c_3 hf
        refine lv_iconst (v := 1) hx hb dX3_fits_71 (by decide) ?_
        subst hQQ
        exact W.zret hx hb hr rfl (fun t ht hW => ⟨_, rfl, hf, ht⟩) (fun _ h => absurd h List.not_mem_nil) dX3_fits_72
      · have hf := it_f c_3 hf
        refine lv_iload_n hx hb dX3_fits_10 rfl (lv_at hl 2 rfl) ?_
        refine lv_iconst (v := 5) hx hb dX3_fits_11 (by decide) ?_
        refine lv_imul hx hb dX3_fits_12 ?_
        refine lv_istore_n (lv' := [(3, .int (v_1 * 5)), (0, .ref q_a0), (1, .int x1), (2, .int v_1)]) hx hb dX3_fits_13 rfl hl (by decide) rfl (fun ls hl => ?_)
        refine lv_iload_n hx hb dX3_fits_14 rfl (lv_at hl 2 rfl) ?_
        refine lv_aload_n hx hb dX3_fits_15 rfl (lv_at hl 1 rfl) ?_
        refine va_get (D := D) (ci := 2) (v := .ref q_a0_rows) (C := RX3) (T := TX3) (N := 2) hx hb hts in_X3 hown hK hP 0 rfl rfl 0 (by decide) kf_11 (fun _ h9 => h9) rfl dX3_fits_16 ?_
        refine lv_iload_n hx hb dX3_fits_19 rfl (lv_at hl 0 rfl) ?_
        refine va_iald hx hb hK hP 1 0 rfl rfl hf.1 dX3_fits_20 ?_
        have hf := hf.2
        refine lv_aload_n hx hb dX3_fits_21 rfl (lv_at hl 1 rfl) ?_
        refine va_get (D := D) (ci := 2) (v := .ref q_a0_rows) (C := RX3) (T := TX3) (N := 2) hx hb hts in_X3 hown hK hP 0 rfl rfl 0 (by decide) kf_11 (fun _ h9 => h9) rfl dX3_fits_22 ?_
        refine lv_iload_n hx hb dX3_fits_25 rfl (lv_at hl 0 rfl) ?_
        refine lv_iconst (v := 1) hx hb dX3_fits_26 (by decide) ?_
        refine lv_iadd hx hb dX3_fits_27 ?_
        refine va_iald hx hb hK hP 1 0 rfl rfl hf.1 dX3_fits_28 ?_
        have hf := hf.2
        refine lv_aload_n hx hb dX3_fits_29 rfl (lv_at hl 1 rfl) ?_
        refine va_get (D := D) (ci := 2) (v := .ref q_a0_rows) (C := RX3) (T := TX3) (N := 2) hx hb hts in_X3 hown hK hP 0 rfl rfl 0 (by decide) kf_11 (fun _ h9 => h9) rfl dX3_fits_30 ?_
        refine lv_iload_n hx hb dX3_fits_33 rfl (lv_at hl 0 rfl) ?_
        refine lv_iconst (v := 2) hx hb dX3_fits_34 (by decide) ?_
        refine lv_iadd hx hb dX3_fits_35 ?_
        refine va_iald hx hb hK hP 1 0 rfl rfl hf.1 dX3_fits_36 ?_
        have hf := hf.2
        refine lv_aload_n hx hb dX3_fits_37 rfl (lv_at hl 1 rfl) ?_
        refine va_get (D := D) (ci := 2) (v := .ref q_a0_rows) (C := RX3) (T := TX3) (N := 2) hx hb hts in_X3 hown hK hP 0 rfl rfl 0 (by decide) kf_11 (fun _ h9 => h9) rfl dX3_fits_38 ?_
        refine lv_iload_n hx hb dX3_fits_41 rfl (lv_at hl 0 rfl) ?_
        refine lv_iconst (v := 3) hx hb dX3_fits_42 (by decide) ?_
        refine lv_iadd hx hb dX3_fits_43 ?_
        refine va_iald hx hb hK hP 1 0 rfl rfl hf.1 dX3_fits_44 ?_
        have hf := hf.2
        refine ya_csi (va_runS (As := [.int x1, .int (a0_rows (v_1 * 5).toNatClampNeg), .int (a0_rows ((v_1 * 5) + 1).toNatClampNeg), .int (a0_rows ((v_1 * 5) + 2).toNatClampNeg), .int (a0_rows ((v_1 * 5) + 3).toNatClampNeg)]) (rest := []) ⟨hx, hb, hml, hown, hts⟩ (c_X2_paceOf l D cI cZ cO  x1 (a0_rows (v_1 * 5).toNatClampNeg) (a0_rows ((v_1 * 5) + 1).toNatClampNeg) (a0_rows ((v_1 * 5) + 2).toNatClampNeg) (a0_rows ((v_1 * 5) + 3).toNatClampNeg) _ hf) (va_cwS 5 hts gX3_fits_X2_paceOf rfl rfl rfl (by decide +kernel) ⟨Nat.le_of_ble_eq_true rfl, Nat.le_of_ble_eq_true rfl⟩) (ps_ro va_P0 hX) rfl rfl hl.1 rfl (lv_room (Nat.le_of_ble_eq_true rfl)) dX3_fits_45 ⟨Nat.zero_le _, Nat.zero_le _⟩) (fun r_4 hf => ?_)
        refine lv_istore (lv' := [(4, .int r_4), (3, .int (v_1 * 5)), (0, .ref q_a0), (1, .int x1), (2, .int v_1)]) hx hb dX3_fits_48 hl (by decide) rfl (fun ls hl => ?_)
        refine lv_iload hx hb dX3_fits_50 (lv_at hl 0 rfl) ?_
        refine lv_aload_n hx hb dX3_fits_52 rfl (lv_at hl 2 rfl) ?_
        refine va_get (D := D) (ci := 2) (v := .ref q_a0_rows) (C := RX3) (T := TX3) (N := 2) hx hb hts in_X3 hown hK hP 0 rfl rfl 0 (by decide) kf_11 (fun _ h9 => h9) rfl dX3_fits_53 ?_
        refine lv_iload_n hx hb dX3_fits_56 rfl (lv_at hl 1 rfl) ?_
        refine lv_iconst (v := 4) hx hb dX3_fits_57 (by decide) ?_
        refine lv_iadd hx hb dX3_fits_58 ?_
        refine va_iald hx hb hK hP 1 0 rfl rfl hf.1 dX3_fits_59 ?_
        have hf := hf.2
        refine lv_icmp_eq (tgt := 65) hx hb dX3_fits_60 (by decide) (fun c_5 => ?_) (fun c_5 => ?_)
        · have hf := it_t c_5 hf
          refine lv_iinc (v := v_1 + 1) (lv' := [(2, .int (v_1 + 1)), (4, .int r_4), (3, .int (v_1 * 5)), (0, .ref q_a0), (1, .int x1)]) hx hb dX3_fits_65 hl (k := 4) rfl rfl (by decide) rfl (fun ls hl => ?_)
          refine lv_goto (tgt := 2) hx hb dX3_fits_68 (by decide) ?_
          exact ih (v_1 + 1) ls hf (lv_sub hl [3, 4, 0] rfl)
        · have hf := it_f c_5 hf
          refine lv_iconst (v := 0) hx hb dX3_fits_63 (by decide) ?_
          subst hQQ
          exact W.zret hx hb hr rfl (fun t ht hW => ⟨_, rfl, hf, ht⟩) (fun _ h => absurd h List.not_mem_nil) dX3_fits_64
  exact hlp_2 1000 0 ls hf (lv_sub hl [1, 2, 0] rfl)
def bX3_kinds_4 (a0_rows : Nat → Int32) (a0_size : Int32) (Q : Int32 → Prop) (k_3 : Int32 → Int32 → Prop) (v_1 : Int32) (v_2 : Int32) : Prop :=
  if 5 < v_2 then (Q v_1) else (p_X3_fits a0_rows a0_size v_2 (fun r_5 => if r_5 = 0 then (k_3 v_1 (v_2 + 1)) else (k_3 (v_1 ||| (1 <<< (v_2 &&& 31))) (v_2 + 1))))
def p_X3_kinds (a0_rows : Nat → Int32) (a0_size : Int32) (Q : Int32 → Prop) : Prop :=
  lq2 (bX3_kinds_4 a0_rows a0_size Q) 1000 0 0
def rmX3_kinds : Room := { frames := 2, cells := 0, slots := 0, locals := 52 }
set_option maxHeartbeats 4000000 in
set_option maxRecDepth 100000 in
theorem c_X3_kinds (l : Launch) (D : va_G) (cI cZ cO : ClassId) (q_a0 q_a0_rows : Nat) (a0_size : Int32) (a0_rows : Nat → Int32) (Q : Int32 → Prop) (hf : p_X3_kinds a0_rows a0_size Q) : Met l yX3_kinds wsX3_kinds rmX3_kinds (va_Pc [.ref q_a0] (fun U => va_P D vwCl [(q_a0, .inr (2, [.ref q_a0_rows, .int a0_size])), (q_a0_rows, .inl (cI, 30, .inl a0_rows))] U.heap ∧ XK D cI cZ cO U)) (vp_Si Q) 0 0 (fun _ => False) := by
  refine Met.ofW (cc := cX3_kinds) (maxL := 3) (ret := (some .int)) (by decide) rfl ?_
  intro p e s m args below meth c s₁ B hml hv
  obtain ⟨rfl, hP, hX⟩ := hv
  have hK := hX.1
  have hx := B.exec
  have hb := B.bytes
  have hr := B.returns
  have hts := atoms_spec (ws := wsX3_kinds) B.pre
  have hown : s.vm.findClass RX3 = some m.cls := findClass_of_methodNamed B.named
  have hlocks := B.notSynchronized
  generalize hQQ : MQ below _ _ s _ _ _ = QQ
  have hl := lv_entry ([.ref q_a0]) (n := 3) (Nat.le_of_ble_eq_true rfl)
  rw [lg_entry_eq]
  generalize (lg_sl ([.ref q_a0]) ++ List.replicate (3 - (lg_sl ([.ref q_a0])).length) Slot.unset).toArray = ls at hl ⊢
  have hl : lv_has ls 3 [(0, .ref q_a0)] := hl
  unfold p_X3_kinds at hf
  refine lv_iconst (v := 0) hx hb dX3_kinds_0 (by decide) ?_
  refine lv_istore_n (lv' := [(1, .int 0), (0, .ref q_a0)]) hx hb dX3_kinds_1 rfl hl (by decide) rfl (fun ls hl => ?_)
  refine lv_iconst (v := 0) hx hb dX3_kinds_2 (by decide) ?_
  refine lv_istore_n (lv' := [(2, .int 0), (1, .int 0), (0, .ref q_a0)]) hx hb dX3_kinds_3 rfl hl (by decide) rfl (fun ls hl => ?_)
  have hlp_4 : ∀ (n_4 : Nat) (v_1 : Int32) (v_2 : Int32) (ls : Array Slot), lq2 (bX3_kinds_4 a0_rows a0_size Q) n_4 v_1 v_2 → lv_has ls 3 [(0, .ref q_a0), (1, .int v_1), (2, .int v_2)] → W p l e (headSpec wsX3_kinds rmX3_kinds).room s m ([.ref q_a0] : List Value).toArray below meth c s.heap [] 0 0 QQ (F0 m 4 ls []) := by
    intro n_4
    induction n_4 with
    | zero => intro v_1 v_2 ls hf; exact (lq2_0 hf).elim
    | succ n_4 ih =>
      have ih_4 := ih
      intro v_1 v_2 ls hf hl
      have hf := lq2_s hf
      unfold bX3_kinds_4 at hf
      refine lv_iload_n hx hb dX3_kinds_4 rfl (lv_at hl 2 rfl) ?_
      refine lv_iconst (v := 5) hx hb dX3_kinds_5 (by decide) ?_
      refine lv_icmp_gt (tgt := 29) hx hb dX3_kinds_6 (by decide) (fun c_4 => ?_) (fun c_4 => ?_)
      · have hf := it_t c_4 hf
        refine lv_iload_n hx hb dX3_kinds_29 rfl (lv_at hl 1 rfl) ?_
        subst hQQ
        exact W.iret hx hb hr (fun t ht hW => ⟨_, rfl, hf, ht⟩) (fun _ h => absurd h List.not_mem_nil) dX3_kinds_30
      · have hf := it_f c_4 hf
        refine lv_aload_n hx hb dX3_kinds_9 rfl (lv_at hl 0 rfl) ?_
        refine lv_iload_n hx hb dX3_kinds_10 rfl (lv_at hl 2 rfl) ?_
        refine ya_csi (va_runV (As := [.int v_2]) (rest := []) ⟨hx, hb, hml, hown, hts⟩ (c_X3_fits l D cI cZ cO q_a0 q_a0_rows a0_size a0_rows v_2 _ hf) (cwV 1 hts gX3_kinds_X3_fits rfl rfl rfl (by decide +kernel) ⟨Nat.le_of_ble_eq_true rfl, Nat.le_of_ble_eq_true rfl⟩) (pv_ro (ci := 2) (q0 := 0) (hP.sub [0, 1] rfl) hX rfl rfl) rfl rfl hl.1 rfl (lv_room (Nat.le_of_ble_eq_true rfl)) dX3_kinds_11 ⟨Nat.zero_le _, Nat.zero_le _⟩) (fun r_5 hf => ?_)
        refine lv_if_eq (tgt := 23) hx hb dX3_kinds_14 (by decide) (fun c_6 => ?_) (fun c_6 => ?_)
        · have hf := it_t c_6 hf
          refine lv_iinc (v := v_2 + 1) (lv' := [(2, .int (v_2 + 1)), (0, .ref q_a0), (1, .int v_1)]) hx hb dX3_kinds_23 hl (k := 2) rfl rfl (by decide) rfl (fun ls hl => ?_)
          refine lv_goto (tgt := 4) hx hb dX3_kinds_26 (by decide) ?_
          exact ih v_1 (v_2 + 1) ls hf (lv_sub hl [1, 2, 0] rfl)
        · have hf := it_f c_6 hf
          refine lv_iload_n hx hb dX3_kinds_17 rfl (lv_at hl 1 rfl) ?_
          refine lv_iconst (v := 1) hx hb dX3_kinds_18 (by decide) ?_
          refine lv_iload_n hx hb dX3_kinds_19 rfl (lv_at hl 2 rfl) ?_
          refine lv_ishl hx hb dX3_kinds_20 ?_
          refine lv_ior hx hb dX3_kinds_21 ?_
          refine lv_istore_n (lv' := [(1, .int (v_1 ||| (1 <<< (v_2 &&& 31)))), (0, .ref q_a0), (2, .int v_2)]) hx hb dX3_kinds_22 rfl hl (by decide) rfl (fun ls hl => ?_)
          refine lv_iinc (v := v_2 + 1) (lv' := [(2, .int (v_2 + 1)), (1, .int (v_1 ||| (1 <<< (v_2 &&& 31)))), (0, .ref q_a0)]) hx hb dX3_kinds_23 hl (k := 2) rfl rfl (by decide) rfl (fun ls hl => ?_)
          refine lv_goto (tgt := 4) hx hb dX3_kinds_26 (by decide) ?_
          exact ih (v_1 ||| (1 <<< (v_2 &&& 31))) (v_2 + 1) ls hf (lv_sub hl [2, 1, 0] rfl)
  exact hlp_4 1000 0 0 ls hf (lv_sub hl [2, 1, 0] rfl)
def p_X3_take (a0_rows : Nat → Int32) (a0_size : Int32) (a1_rows : Nat → Int32) (a1_size : Int32) (Q : (Nat → Int32) → Int32 → Prop) : Prop :=
  Q (va_cpy a1_rows a0_rows (0 : Int32).toNatClampNeg (0 : Int32).toNatClampNeg (30 : Int32).toNatClampNeg) a1_size
def rmX3_take : Room := { frames := 1, cells := 0, slots := 0, locals := 40 }
set_option maxHeartbeats 4000000 in
set_option maxRecDepth 100000 in
theorem c_X3_take (l : Launch) (D : va_G) (cI cZ cO : ClassId) (q_a0 q_a0_rows q_a1 q_a1_rows : Nat) (a0_size : Int32) (a0_rows : Nat → Int32) (a1_size : Int32) (a1_rows : Nat → Int32) (sz : Nat) (Q : (Nat → Int32) → Int32 → Prop) (hf : p_X3_take a0_rows a0_size a1_rows a1_size Q) : Met l yX3_take wsX3_take rmX3_take (va_Pc [.ref q_a0, .ref q_a1] (fun U => U.heap.size = sz ∧ va_P D vwCl [(q_a0, .inr (2, [.ref q_a0_rows, .int a0_size])), (q_a0_rows, .inl (cI, 30, .inl a0_rows)), (q_a1, .inr (2, [.ref q_a1_rows, .int a1_size])), (q_a1_rows, .inl (cI, 30, .inl a1_rows))] U.heap ∧ XK D cI cZ cO U ∧ va_D (fun _ => True) [(q_a0, .inr (2, [.ref q_a0_rows, .int a0_size])), (q_a0_rows, .inl (cI, 30, .inl a0_rows)), (q_a1, .inr (2, [.ref q_a1_rows, .int a1_size])), (q_a1_rows, .inl (cI, 30, .inl a1_rows))])) (va_Qv (fun (u : (Nat → Int32) × Int32) => Q u.1 u.2) (fun (u : (Nat → Int32) × Int32) t => va_P D vwCl [(q_a0, .inr (2, [.ref q_a0_rows, .int u.2])), (q_a0_rows, .inl (cI, 30, .inl u.1)), (q_a1, .inr (2, [.ref q_a1_rows, .int a1_size])), (q_a1_rows, .inl (cI, 30, .inl a1_rows))] t.heap ∧ va_D (va_A [(q_a0, .inr (2, [.ref q_a0_rows, .int a0_size])), (q_a0_rows, .inl (cI, 30, .inl a0_rows)), (q_a1, .inr (2, [.ref q_a1_rows, .int a1_size])), (q_a1_rows, .inl (cI, 30, .inl a1_rows))] sz) [(q_a0, .inr (2, [.ref q_a0_rows, .int u.2])), (q_a0_rows, .inl (cI, 30, .inl u.1)), (q_a1, .inr (2, [.ref q_a1_rows, .int a1_size])), (q_a1_rows, .inl (cI, 30, .inl a1_rows))]) (va_A [(q_a0, .inr (2, [.ref q_a0_rows, .int a0_size])), (q_a0_rows, .inl (cI, 30, .inl a0_rows)), (q_a1, .inr (2, [.ref q_a1_rows, .int a1_size])), (q_a1_rows, .inl (cI, 30, .inl a1_rows))] sz)) 0 0 (va_A [(q_a0, .inr (2, [.ref q_a0_rows, .int a0_size])), (q_a0_rows, .inl (cI, 30, .inl a0_rows)), (q_a1, .inr (2, [.ref q_a1_rows, .int a1_size])), (q_a1_rows, .inl (cI, 30, .inl a1_rows))] sz) := by
  refine Met.ofW (cc := cX3_take) (maxL := 2) (ret := none) (by decide) rfl ?_
  intro p e s m args below meth c s₁ B hml hv
  obtain ⟨rfl, hsz, hP, hX, hD0⟩ := hv
  have hK := hX.1
  have hx := B.exec
  have hb := B.bytes
  have hr := B.returns
  have hts := atoms_spec (ws := wsX3_take) B.pre
  have hown : s.vm.findClass RX3 = some m.cls := findClass_of_methodNamed B.named
  have hlocks := B.notSynchronized
  have in_X3 : ∀ w ∈ wsX30, w ∈ wsX3_take := fun _ h => List.mem_cons_of_mem _ (List.mem_append_right _ h)
  have kf_11 := hts (.fieldLink RX3 11 "LeftCrest$Paces" "rows" "[I") (by decide +kernel)
  have kl_33 := hts (.methodLink RX3 33 arraycopyName) (by decide +kernel)
  have kl_nat := hts (.native arraycopyName) (by decide +kernel)
  have kl_sta := hts (.static arraycopyName) (by decide +kernel)
  have kl_ini := hts (.initialized "java/lang/System") (by decide +kernel)
  have kf_15 := hts (.fieldLink RX3 15 "LeftCrest$Paces" "size" "I") (by decide +kernel)
  subst hsz
  have hD := hD0.self (sz := s.heap.size)
  generalize hAe : va_A [(q_a0, .inr (2, [.ref q_a0_rows, .int a0_size])), (q_a0_rows, .inl (cI, 30, .inl a0_rows)), (q_a1, .inr (2, [.ref q_a1_rows, .int a1_size])), (q_a1_rows, .inl (cI, 30, .inl a1_rows))] s.heap.size = A at hD ⊢
  have hA : ∀ q : Nat, s.heap.size ≤ q → A q := fun q h => by rw [← hAe]; exact Or.inr h
  have hS : va_S A s.heap s.heap [] := va_S.rf
  have hP : va_P D vwCl [(q_a0, .inr (2, [.ref q_a0_rows, .int a0_size])), (q_a0_rows, .inl (cI, 30, .inl a0_rows)), (q_a1, .inr (2, [.ref q_a1_rows, .int a1_size])), (q_a1_rows, .inl (cI, 30, .inl a1_rows))] s.heap := hP
  generalize hQQ : MQ below _ _ s _ _ _ = QQ
  have hl := lv_entry ([.ref q_a0, .ref q_a1]) (n := 2) (Nat.le_of_ble_eq_true rfl)
  rw [lg_entry_eq]
  generalize (lg_sl ([.ref q_a0, .ref q_a1]) ++ List.replicate (2 - (lg_sl ([.ref q_a0, .ref q_a1])).length) Slot.unset).toArray = ls at hl ⊢
  have hl : lv_has ls 2 [(0, .ref q_a0), (1, .ref q_a1)] := hl
  unfold p_X3_take at hf
  refine lv_aload_n hx hb dX3_take_0 rfl (lv_at hl 1 rfl) ?_
  refine va_get (D := D) (ci := 2) (v := .ref q_a1_rows) (C := RX3) (T := TX3) (N := 2) hx hb hts in_X3 hown hK hP 2 rfl rfl 0 (by decide) kf_11 (fun _ h9 => h9) rfl dX3_take_1 ?_
  refine lv_iconst (v := 0) hx hb dX3_take_4 (by decide) ?_
  refine lv_aload_n hx hb dX3_take_5 rfl (lv_at hl 0 rfl) ?_
  refine va_get (D := D) (ci := 2) (v := .ref q_a0_rows) (C := RX3) (T := TX3) (N := 2) hx hb hts in_X3 hown hK hP 0 rfl rfl 0 (by decide) kf_11 (fun _ h9 => h9) rfl dX3_take_6 ?_
  refine lv_iconst (v := 0) hx hb dX3_take_9 (by decide) ?_
  refine lv_bipush (v := 30) hx hb dX3_take_10 (by decide) ?_
  refine va_copyi hx hb (by rw [hml]; exact hl.1.symm) hown kl_33 kl_nat kl_sta kl_ini hK hP hD hS 3 1 0 0 rfl rfl rfl rfl rfl (by decide) (by decide) (by decide) (by decide) (by decide) (fun _ _ => rfl) (Nat.le_of_ble_eq_true rfl) (Nat.le_of_ble_eq_true rfl) dX3_take_12 (fun H locs hP hD hS => ?_)
  have hP : va_P D vwCl [(q_a0, .inr (2, [.ref q_a0_rows, .int a0_size])), (q_a0_rows, .inl (cI, 30, .inl (va_cpy a1_rows a0_rows (0 : Int32).toNatClampNeg (0 : Int32).toNatClampNeg (30 : Int32).toNatClampNeg))), (q_a1, .inr (2, [.ref q_a1_rows, .int a1_size])), (q_a1_rows, .inl (cI, 30, .inl a1_rows))] H := hP
  have hD : va_D A [(q_a0, .inr (2, [.ref q_a0_rows, .int a0_size])), (q_a0_rows, .inl (cI, 30, .inl (va_cpy a1_rows a0_rows (0 : Int32).toNatClampNeg (0 : Int32).toNatClampNeg (30 : Int32).toNatClampNeg))), (q_a1, .inr (2, [.ref q_a1_rows, .int a1_size])), (q_a1_rows, .inl (cI, 30, .inl a1_rows))] := hD
  refine lv_aload_n hx hb dX3_take_15 rfl (lv_at hl 0 rfl) ?_
  refine lv_aload_n hx hb dX3_take_16 rfl (lv_at hl 1 rfl) ?_
  refine va_get (D := D) (ci := 2) (v := .int a1_size) (C := RX3) (T := TX3) (N := 2) hx hb hts in_X3 hown hK hP 2 rfl rfl 1 (by decide) kf_15 (fun _ h9 => h9) rfl dX3_take_17 ?_
  refine va_put (D := D) (ci := 2) (v := .int a1_size) (ty := .int) (C := RX3) (T := TX3) (N := 2) hx hb hts in_X3 tyX3 tyX3_ok nmX3 hown hK hP hD hS 0 rfl rfl 1 (by decide) kf_15 (fun _ h9 => h9) rfl (by decide +kernel) rfl rfl (Nat.le_of_ble_eq_true rfl) dX3_take_20 (fun H locs hP hD hS => ?_)
  have hP : va_P D vwCl [(q_a0, .inr (2, [.ref q_a0_rows, .int a1_size])), (q_a0_rows, .inl (cI, 30, .inl (va_cpy a1_rows a0_rows (0 : Int32).toNatClampNeg (0 : Int32).toNatClampNeg (30 : Int32).toNatClampNeg))), (q_a1, .inr (2, [.ref q_a1_rows, .int a1_size])), (q_a1_rows, .inl (cI, 30, .inl a1_rows))] H := hP
  have hD : va_D A [(q_a0, .inr (2, [.ref q_a0_rows, .int a1_size])), (q_a0_rows, .inl (cI, 30, .inl (va_cpy a1_rows a0_rows (0 : Int32).toNatClampNeg (0 : Int32).toNatClampNeg (30 : Int32).toNatClampNeg))), (q_a1, .inr (2, [.ref q_a1_rows, .int a1_size])), (q_a1_rows, .inl (cI, 30, .inl a1_rows))] := hD
  subst hQQ
  have hP9 := hP.sub (ws' := [(q_a0, .inr (2, [.ref q_a0_rows, .int a1_size])), (q_a0_rows, .inl (cI, 30, .inl (va_cpy a1_rows a0_rows (0 : Int32).toNatClampNeg (0 : Int32).toNatClampNeg (30 : Int32).toNatClampNeg))), (q_a1, .inr (2, [.ref q_a1_rows, .int a1_size])), (q_a1_rows, .inl (cI, 30, .inl a1_rows))]) [0, 1, 2, 3] rfl
  have hD9 := hD.sub (ws' := [(q_a0, .inr (2, [.ref q_a0_rows, .int a1_size])), (q_a0_rows, .inl (cI, 30, .inl (va_cpy a1_rows a0_rows (0 : Int32).toNatClampNeg (0 : Int32).toNatClampNeg (30 : Int32).toNatClampNeg))), (q_a1, .inr (2, [.ref q_a1_rows, .int a1_size])), (q_a1_rows, .inl (cI, 30, .inl a1_rows))]) [0, 1, 2, 3] (by decide) rfl
  exact W.vret hx hb hr (fun t ht hW => ⟨⟨(va_cpy a1_rows a0_rows (0 : Int32).toNatClampNeg (0 : Int32).toNatClampNeg (30 : Int32).toNatClampNeg, a1_size), rfl, hf, by rw [ht]; exact hP9, hD9⟩, hS.F ht⟩) hS.2.2 dX3_take_23
def bX3_digestOn_5 (a0_rows : Nat → Int32) (a0_size : Int32) (Q : Int64 → Prop) (k_3 : Int64 → Int32 → Prop) (v_1 : Int64) (v_2 : Int32) : Prop :=
  if (a0_size * 5) ≤ v_2 then (Q v_1) else (vp_in v_2 30 ∧ (k_3 ((31 * v_1) + ((a0_rows v_2.toNatClampNeg).toInt64)) (v_2 + 1)))
def p_X3_digestOn (a0_rows : Nat → Int32) (a0_size : Int32) (x1 : Int64) (Q : Int64 → Prop) : Prop :=
  lq2 (bX3_digestOn_5 a0_rows a0_size Q) 1000 x1 0
def rmX3_digestOn : Room := { frames := 0, cells := 0, slots := 0, locals := 0 }
set_option maxHeartbeats 4000000 in
set_option maxRecDepth 100000 in
theorem c_X3_digestOn (l : Launch) (D : va_G) (cI cZ cO : ClassId) (q_a0 q_a0_rows : Nat) (a0_size : Int32) (a0_rows : Nat → Int32) (x1 : Int64) (Q : Int64 → Prop) (hf : p_X3_digestOn a0_rows a0_size x1 Q) : Met l yX3_digestOn wsX3_digestOn rmX3_digestOn (va_Pc [.ref q_a0, .long x1] (fun U => va_P D vwCl [(q_a0, .inr (2, [.ref q_a0_rows, .int a0_size])), (q_a0_rows, .inl (cI, 30, .inl a0_rows))] U.heap ∧ XK D cI cZ cO U)) (vp_Sl Q) 0 0 (fun _ => False) := by
  refine Met.ofW (cc := cX3_digestOn) (maxL := 6) (ret := (some .long)) (by decide) rfl ?_
  intro p e s m args below meth c s₁ B hml hv
  obtain ⟨rfl, hP, hX⟩ := hv
  have hK := hX.1
  have hx := B.exec
  have hb := B.bytes
  have hr := B.returns
  have hts := atoms_spec (ws := wsX3_digestOn) B.pre
  have hown : s.vm.findClass RX3 = some m.cls := findClass_of_methodNamed B.named
  have hlocks := B.notSynchronized
  have in_X3 : ∀ w ∈ wsX30, w ∈ wsX3_digestOn := fun _ h => List.mem_cons_of_mem _ (List.mem_append_right _ h)
  have kf_15 := hts (.fieldLink RX3 15 "LeftCrest$Paces" "size" "I") (by decide +kernel)
  have kc_39 := hts (.constantLong RX3 39 (31)) (by decide +kernel)
  have kf_11 := hts (.fieldLink RX3 11 "LeftCrest$Paces" "rows" "[I") (by decide +kernel)
  generalize hQQ : MQ below _ _ s _ _ _ = QQ
  have hl := lv_entry ([.ref q_a0, .long x1]) (n := 6) (Nat.le_of_ble_eq_true rfl)
  rw [lg_entry_eq]
  generalize (lg_sl ([.ref q_a0, .long x1]) ++ List.replicate (6 - (lg_sl ([.ref q_a0, .long x1])).length) Slot.unset).toArray = ls at hl ⊢
  have hl : lv_has ls 6 [(0, .ref q_a0), (1, .long x1)] := hl
  unfold p_X3_digestOn at hf
  refine lv_lload_n hx hb dX3_digestOn_0 rfl (lv_at hl 1 rfl) ?_
  refine lv_lstore_n (lv' := [(3, .long x1), (0, .ref q_a0), (1, .long x1)]) hx hb dX3_digestOn_1 rfl hl (by decide) rfl (fun ls hl => ?_)
  refine lv_iconst (v := 0) hx hb dX3_digestOn_2 (by decide) ?_
  refine lv_istore (lv' := [(5, .int 0), (3, .long x1), (0, .ref q_a0), (1, .long x1)]) hx hb dX3_digestOn_3 hl (by decide) rfl (fun ls hl => ?_)
  have hlp_5 : ∀ (n_5 : Nat) (v_1 : Int64) (v_2 : Int32) (ls : Array Slot), lq2 (bX3_digestOn_5 a0_rows a0_size Q) n_5 v_1 v_2 → lv_has ls 6 [(0, .ref q_a0), (3, .long v_1), (5, .int v_2)] → W p l e (headSpec wsX3_digestOn rmX3_digestOn).room s m ([.ref q_a0, .long x1] : List Value).toArray below meth c s.heap [] 0 0 QQ (F0 m 5 ls []) := by
    intro n_5
    induction n_5 with
    | zero => intro v_1 v_2 ls hf; exact (lq2_0 hf).elim
    | succ n_5 ih =>
      have ih_5 := ih
      intro v_1 v_2 ls hf hl
      have hf := lq2_s hf
      unfold bX3_digestOn_5 at hf
      refine lv_iload hx hb dX3_digestOn_5 (lv_at hl 2 rfl) ?_
      refine lv_aload_n hx hb dX3_digestOn_7 rfl (lv_at hl 0 rfl) ?_
      refine va_get (D := D) (ci := 2) (v := .int a0_size) (C := RX3) (T := TX3) (N := 2) hx hb hts in_X3 hown hK hP 0 rfl rfl 1 (by decide) kf_15 (fun _ h9 => h9) rfl dX3_digestOn_8 ?_
      refine lv_iconst (v := 5) hx hb dX3_digestOn_11 (by decide) ?_
      refine lv_imul hx hb dX3_digestOn_12 ?_
      refine lv_icmp_ge (tgt := 37) hx hb dX3_digestOn_13 (by decide) (fun c_4 => ?_) (fun c_4 => ?_)
      · have hf := it_t c_4 hf
        refine lv_lload_n hx hb dX3_digestOn_37 rfl (lv_at hl 1 rfl) ?_
        subst hQQ
        exact W.lret hx hb hr (fun t ht hW => ⟨_, rfl, hf, ht⟩) (fun _ h => absurd h List.not_mem_nil) dX3_digestOn_38
      · have hf := it_f c_4 hf
        refine lv_ldc2 (v := 31) hx hb hown kc_39 dX3_digestOn_16 ?_
        refine lv_lload_n hx hb dX3_digestOn_19 rfl (lv_at hl 1 rfl) ?_
        refine lv_lmul hx hb dX3_digestOn_20 ?_
        refine lv_aload_n hx hb dX3_digestOn_21 rfl (lv_at hl 0 rfl) ?_
        refine va_get (D := D) (ci := 2) (v := .ref q_a0_rows) (C := RX3) (T := TX3) (N := 2) hx hb hts in_X3 hown hK hP 0 rfl rfl 0 (by decide) kf_11 (fun _ h9 => h9) rfl dX3_digestOn_22 ?_
        refine lv_iload hx hb dX3_digestOn_25 (lv_at hl 2 rfl) ?_
        refine va_iald hx hb hK hP 1 0 rfl rfl hf.1 dX3_digestOn_27 ?_
        have hf := hf.2
        refine lv_i2l hx hb dX3_digestOn_28 rfl ?_
        refine lv_ladd hx hb dX3_digestOn_29 ?_
        refine lv_lstore_n (lv' := [(3, .long ((31 * v_1) + ((a0_rows v_2.toNatClampNeg).toInt64))), (0, .ref q_a0), (5, .int v_2)]) hx hb dX3_digestOn_30 rfl hl (by decide) rfl (fun ls hl => ?_)
        refine lv_iinc (v := v_2 + 1) (lv' := [(5, .int (v_2 + 1)), (3, .long ((31 * v_1) + ((a0_rows v_2.toNatClampNeg).toInt64))), (0, .ref q_a0)]) hx hb dX3_digestOn_31 hl (k := 2) rfl rfl (by decide) rfl (fun ls hl => ?_)
        refine lv_goto (tgt := 5) hx hb dX3_digestOn_34 (by decide) ?_
        exact ih ((31 * v_1) + ((a0_rows v_2.toNatClampNeg).toInt64)) (v_2 + 1) ls hf (lv_sub hl [2, 1, 0] rfl)
  exact hlp_5 1000 x1 0 ls hf (lv_sub hl [2, 1, 0] rfl)
def jX4_keep_31 (a1_bends_notes : Nat → Int32) (a1_here : Int32) (a1_seconds : Int32) (a1_crashes : Int32) (Q : (Nat → Int32) → Int32 → Prop) (w_1 : Nat → Int32) (w_2 : Int32) : Prop :=
  vp_in (w_2 * 11) 88 ∧ (vp_in ((w_2 * 11) + 1) 88 ∧ (vp_in ((w_2 * 11) + 2) 88 ∧ (cpok (0 : Int32) ((w_2 * 11) + 3) (8 : Int32) 8 88 ∧ (Q (va_cpy a1_bends_notes (upd (upd (upd w_1 ((w_2 * 11).toNatClampNeg) a1_here) (((w_2 * 11) + 1).toNatClampNeg) a1_seconds) (((w_2 * 11) + 2).toNatClampNeg) a1_crashes) (0 : Int32).toNatClampNeg ((w_2 * 11) + 3).toNatClampNeg (8 : Int32).toNatClampNeg) (w_2 + 1)))))
def p_X4_keep (a1_bends_notes : Nat → Int32) (a1_past_rows : Nat → Int32) (a1_past_size : Int32) (a1_here : Int32) (a1_seconds : Int32) (a1_crashes : Int32) (Q : (Nat → Int32) → Int32 → Prop) : Prop :=
  if a1_past_size < 8 then (jX4_keep_31 a1_bends_notes a1_here a1_seconds a1_crashes Q a1_past_rows a1_past_size) else (jX4_keep_31 a1_bends_notes a1_here a1_seconds a1_crashes Q (va_cpy a1_past_rows a1_past_rows (11 : Int32).toNatClampNeg (0 : Int32).toNatClampNeg (77 : Int32).toNatClampNeg) 7)
def rmX4_keep : Room := { frames := 1, cells := 0, slots := 0, locals := 40 }
set_option maxHeartbeats 4000000 in
set_option maxRecDepth 100000 in
theorem c_X4_keep (l : Launch) (D : va_G) (cI cZ cO : ClassId) (q_a1 q_a1_bends q_a1_felt q_a1_paces q_a1_past q_a1_bends_yards q_a1_bends_truth q_a1_bends_notes q_a1_bends_words q_a1_bends_mud q_a1_past_rows : Nat) (a1_kind : Int32) (a1_fog : Int32) (a1_here : Int32) (a1_seconds : Int32) (a1_crashes : Int32) (a1_bends_size : Int32) (a1_bends_notes : Nat → Int32) (a1_past_size : Int32) (a1_past_rows : Nat → Int32) (sz : Nat) (Q : (Nat → Int32) → Int32 → Prop) (hf : p_X4_keep a1_bends_notes a1_past_rows a1_past_size a1_here a1_seconds a1_crashes Q) : Met l yX4_keep wsX4_keep rmX4_keep (va_Pc [.ref q_a1_past, .ref q_a1] (fun U => U.heap.size = sz ∧ va_P D vwCl [(q_a1, .inr (5, [.ref q_a1_bends, .ref q_a1_felt, .ref q_a1_paces, .ref q_a1_past, .int a1_kind, .int a1_fog, .int a1_here, .int a1_seconds, .int a1_crashes])), (q_a1_bends, .inr (0, [.ref q_a1_bends_yards, .ref q_a1_bends_truth, .ref q_a1_bends_notes, .ref q_a1_bends_words, .ref q_a1_bends_mud, .int a1_bends_size])), (q_a1_bends_notes, .inl (cI, 8, .inl a1_bends_notes)), (q_a1_past, .inr (3, [.ref q_a1_past_rows, .int a1_past_size])), (q_a1_past_rows, .inl (cI, 88, .inl a1_past_rows))] U.heap ∧ XK D cI cZ cO U ∧ va_D (fun _ => True) [(q_a1, .inr (5, [.ref q_a1_bends, .ref q_a1_felt, .ref q_a1_paces, .ref q_a1_past, .int a1_kind, .int a1_fog, .int a1_here, .int a1_seconds, .int a1_crashes])), (q_a1_bends, .inr (0, [.ref q_a1_bends_yards, .ref q_a1_bends_truth, .ref q_a1_bends_notes, .ref q_a1_bends_words, .ref q_a1_bends_mud, .int a1_bends_size])), (q_a1_bends_notes, .inl (cI, 8, .inl a1_bends_notes)), (q_a1_past, .inr (3, [.ref q_a1_past_rows, .int a1_past_size])), (q_a1_past_rows, .inl (cI, 88, .inl a1_past_rows))])) (va_Qv (fun (u : (Nat → Int32) × Int32) => Q u.1 u.2) (fun (u : (Nat → Int32) × Int32) t => va_P D vwCl [(q_a1, .inr (5, [.ref q_a1_bends, .ref q_a1_felt, .ref q_a1_paces, .ref q_a1_past, .int a1_kind, .int a1_fog, .int a1_here, .int a1_seconds, .int a1_crashes])), (q_a1_bends, .inr (0, [.ref q_a1_bends_yards, .ref q_a1_bends_truth, .ref q_a1_bends_notes, .ref q_a1_bends_words, .ref q_a1_bends_mud, .int a1_bends_size])), (q_a1_bends_notes, .inl (cI, 8, .inl a1_bends_notes)), (q_a1_past, .inr (3, [.ref q_a1_past_rows, .int u.2])), (q_a1_past_rows, .inl (cI, 88, .inl u.1))] t.heap ∧ va_D (va_A [(q_a1, .inr (5, [.ref q_a1_bends, .ref q_a1_felt, .ref q_a1_paces, .ref q_a1_past, .int a1_kind, .int a1_fog, .int a1_here, .int a1_seconds, .int a1_crashes])), (q_a1_bends, .inr (0, [.ref q_a1_bends_yards, .ref q_a1_bends_truth, .ref q_a1_bends_notes, .ref q_a1_bends_words, .ref q_a1_bends_mud, .int a1_bends_size])), (q_a1_bends_notes, .inl (cI, 8, .inl a1_bends_notes)), (q_a1_past, .inr (3, [.ref q_a1_past_rows, .int a1_past_size])), (q_a1_past_rows, .inl (cI, 88, .inl a1_past_rows))] sz) [(q_a1, .inr (5, [.ref q_a1_bends, .ref q_a1_felt, .ref q_a1_paces, .ref q_a1_past, .int a1_kind, .int a1_fog, .int a1_here, .int a1_seconds, .int a1_crashes])), (q_a1_bends, .inr (0, [.ref q_a1_bends_yards, .ref q_a1_bends_truth, .ref q_a1_bends_notes, .ref q_a1_bends_words, .ref q_a1_bends_mud, .int a1_bends_size])), (q_a1_bends_notes, .inl (cI, 8, .inl a1_bends_notes)), (q_a1_past, .inr (3, [.ref q_a1_past_rows, .int u.2])), (q_a1_past_rows, .inl (cI, 88, .inl u.1))]) (va_A [(q_a1, .inr (5, [.ref q_a1_bends, .ref q_a1_felt, .ref q_a1_paces, .ref q_a1_past, .int a1_kind, .int a1_fog, .int a1_here, .int a1_seconds, .int a1_crashes])), (q_a1_bends, .inr (0, [.ref q_a1_bends_yards, .ref q_a1_bends_truth, .ref q_a1_bends_notes, .ref q_a1_bends_words, .ref q_a1_bends_mud, .int a1_bends_size])), (q_a1_bends_notes, .inl (cI, 8, .inl a1_bends_notes)), (q_a1_past, .inr (3, [.ref q_a1_past_rows, .int a1_past_size])), (q_a1_past_rows, .inl (cI, 88, .inl a1_past_rows))] sz)) 0 0 (va_A [(q_a1, .inr (5, [.ref q_a1_bends, .ref q_a1_felt, .ref q_a1_paces, .ref q_a1_past, .int a1_kind, .int a1_fog, .int a1_here, .int a1_seconds, .int a1_crashes])), (q_a1_bends, .inr (0, [.ref q_a1_bends_yards, .ref q_a1_bends_truth, .ref q_a1_bends_notes, .ref q_a1_bends_words, .ref q_a1_bends_mud, .int a1_bends_size])), (q_a1_bends_notes, .inl (cI, 8, .inl a1_bends_notes)), (q_a1_past, .inr (3, [.ref q_a1_past_rows, .int a1_past_size])), (q_a1_past_rows, .inl (cI, 88, .inl a1_past_rows))] sz) := by
  refine Met.ofW (cc := cX4_keep) (maxL := 3) (ret := none) (by decide) rfl ?_
  intro p e s m args below meth c s₁ B hml hv
  obtain ⟨rfl, hsz, hP, hX, hD0⟩ := hv
  have hK := hX.1
  have hx := B.exec
  have hb := B.bytes
  have hr := B.returns
  have hts := atoms_spec (ws := wsX4_keep) B.pre
  have hown : s.vm.findClass RX4 = some m.cls := findClass_of_methodNamed B.named
  have hlocks := B.notSynchronized
  have in_X4 : ∀ w ∈ wsX40, w ∈ wsX4_keep := fun _ h => List.mem_cons_of_mem _ (List.mem_append_left _ (List.mem_append_left _ (List.mem_append_right _ h)))
  have in_X6 : ∀ w ∈ wsX60, w ∈ wsX4_keep := fun _ h => List.mem_cons_of_mem _ (List.mem_append_left _ (List.mem_append_right _ h))
  have in_X0 : ∀ w ∈ wsX00, w ∈ wsX4_keep := fun _ h => List.mem_cons_of_mem _ (List.mem_append_right _ h)
  have kf_15 := hts (.fieldLink RX4 15 "LeftCrest$Past" "size" "I") (by decide +kernel)
  have kf_11 := hts (.fieldLink RX4 11 "LeftCrest$Past" "rows" "[I") (by decide +kernel)
  have kf_25 := hts (.fieldLink RX4 25 "LeftCrest$Stage" "here" "I") (by decide +kernel)
  have kf_30 := hts (.fieldLink RX4 30 "LeftCrest$Stage" "seconds" "I") (by decide +kernel)
  have kf_33 := hts (.fieldLink RX4 33 "LeftCrest$Stage" "crashes" "I") (by decide +kernel)
  have kf_36 := hts (.fieldLink RX4 36 "LeftCrest$Stage" "bends" "LLeftCrest$Bends;") (by decide +kernel)
  have kf_40 := hts (.fieldLink RX4 40 "LeftCrest$Bends" "notes" "[I") (by decide +kernel)
  have kl_19 := hts (.methodLink RX4 19 arraycopyName) (by decide +kernel)
  have kl_nat := hts (.native arraycopyName) (by decide +kernel)
  have kl_sta := hts (.static arraycopyName) (by decide +kernel)
  have kl_ini := hts (.initialized "java/lang/System") (by decide +kernel)
  subst hsz
  have hD := hD0.self (sz := s.heap.size)
  generalize hAe : va_A [(q_a1, .inr (5, [.ref q_a1_bends, .ref q_a1_felt, .ref q_a1_paces, .ref q_a1_past, .int a1_kind, .int a1_fog, .int a1_here, .int a1_seconds, .int a1_crashes])), (q_a1_bends, .inr (0, [.ref q_a1_bends_yards, .ref q_a1_bends_truth, .ref q_a1_bends_notes, .ref q_a1_bends_words, .ref q_a1_bends_mud, .int a1_bends_size])), (q_a1_bends_notes, .inl (cI, 8, .inl a1_bends_notes)), (q_a1_past, .inr (3, [.ref q_a1_past_rows, .int a1_past_size])), (q_a1_past_rows, .inl (cI, 88, .inl a1_past_rows))] s.heap.size = A at hD ⊢
  have hA : ∀ q : Nat, s.heap.size ≤ q → A q := fun q h => by rw [← hAe]; exact Or.inr h
  have hS : va_S A s.heap s.heap [] := va_S.rf
  have hP : va_P D vwCl [(q_a1, .inr (5, [.ref q_a1_bends, .ref q_a1_felt, .ref q_a1_paces, .ref q_a1_past, .int a1_kind, .int a1_fog, .int a1_here, .int a1_seconds, .int a1_crashes])), (q_a1_bends, .inr (0, [.ref q_a1_bends_yards, .ref q_a1_bends_truth, .ref q_a1_bends_notes, .ref q_a1_bends_words, .ref q_a1_bends_mud, .int a1_bends_size])), (q_a1_bends_notes, .inl (cI, 8, .inl a1_bends_notes)), (q_a1_past, .inr (3, [.ref q_a1_past_rows, .int a1_past_size])), (q_a1_past_rows, .inl (cI, 88, .inl a1_past_rows))] s.heap := hP
  generalize hQQ : MQ below _ _ s _ _ _ = QQ
  have hl := lv_entry ([.ref q_a1_past, .ref q_a1]) (n := 3) (Nat.le_of_ble_eq_true rfl)
  rw [lg_entry_eq]
  generalize (lg_sl ([.ref q_a1_past, .ref q_a1]) ++ List.replicate (3 - (lg_sl ([.ref q_a1_past, .ref q_a1])).length) Slot.unset).toArray = ls at hl ⊢
  have hl : lv_has ls 3 [(0, .ref q_a1_past), (1, .ref q_a1)] := hl
  have hj_31 : ∀ (w_1 : Nat → Int32) (w_2 : Int32) (H : Heap) (locs : List Loc), jX4_keep_31 a1_bends_notes a1_here a1_seconds a1_crashes Q w_1 w_2 → va_P D vwCl [(q_a1, .inr (5, [.ref q_a1_bends, .ref q_a1_felt, .ref q_a1_paces, .ref q_a1_past, .int a1_kind, .int a1_fog, .int a1_here, .int a1_seconds, .int a1_crashes])), (q_a1_bends, .inr (0, [.ref q_a1_bends_yards, .ref q_a1_bends_truth, .ref q_a1_bends_notes, .ref q_a1_bends_words, .ref q_a1_bends_mud, .int a1_bends_size])), (q_a1_bends_notes, .inl (cI, 8, .inl a1_bends_notes)), (q_a1_past, .inr (3, [.ref q_a1_past_rows, .int w_2])), (q_a1_past_rows, .inl (cI, 88, .inl w_1))] H → va_D A [(q_a1, .inr (5, [.ref q_a1_bends, .ref q_a1_felt, .ref q_a1_paces, .ref q_a1_past, .int a1_kind, .int a1_fog, .int a1_here, .int a1_seconds, .int a1_crashes])), (q_a1_bends, .inr (0, [.ref q_a1_bends_yards, .ref q_a1_bends_truth, .ref q_a1_bends_notes, .ref q_a1_bends_words, .ref q_a1_bends_mud, .int a1_bends_size])), (q_a1_bends_notes, .inl (cI, 8, .inl a1_bends_notes)), (q_a1_past, .inr (3, [.ref q_a1_past_rows, .int w_2])), (q_a1_past_rows, .inl (cI, 88, .inl w_1))] → va_S A s.heap H locs → ∀ ls : Array Slot, lv_has ls 3 [(0, .ref q_a1_past), (1, .ref q_a1)] → W p l e (headSpec wsX4_keep rmX4_keep).room s m ([.ref q_a1_past, .ref q_a1] : List Value).toArray below meth c H locs 0 0 QQ (F0 m 31 ls []) := by
    intro w_1 w_2 H locs hf hP hD hS ls hl
    unfold jX4_keep_31 at hf
    refine lv_aload_n hx hb dX4_keep_31 rfl (lv_at hl 0 rfl) ?_
    refine va_get (D := D) (ci := 3) (v := .int w_2) (C := RX4) (T := TX4) (N := 2) hx hb hts in_X4 hown hK hP 3 rfl rfl 1 (by decide) kf_15 (fun _ h9 => h9) rfl dX4_keep_32 ?_
    refine lv_bipush (v := 11) hx hb dX4_keep_35 (by decide) ?_
    refine lv_imul hx hb dX4_keep_37 ?_
    refine lv_istore_n (lv' := [(2, .int (w_2 * 11)), (0, .ref q_a1_past), (1, .ref q_a1)]) hx hb dX4_keep_38 rfl hl (by decide) rfl (fun ls hl => ?_)
    refine lv_aload_n hx hb dX4_keep_39 rfl (lv_at hl 1 rfl) ?_
    refine va_get (D := D) (ci := 3) (v := .ref q_a1_past_rows) (C := RX4) (T := TX4) (N := 2) hx hb hts in_X4 hown hK hP 3 rfl rfl 0 (by decide) kf_11 (fun _ h9 => h9) rfl dX4_keep_40 ?_
    refine lv_iload_n hx hb dX4_keep_43 rfl (lv_at hl 0 rfl) ?_
    refine lv_aload_n hx hb dX4_keep_44 rfl (lv_at hl 2 rfl) ?_
    refine va_get (D := D) (ci := 5) (v := .int a1_here) (C := RX6) (T := TX6) (N := 9) hx hb hts in_X6 hown hK hP 0 rfl rfl 6 (by decide) kf_25 (fun _ h9 => h9) rfl dX4_keep_45 ?_
    refine va_iast hx hb hK hP hD hS 4 0 rfl rfl hf.1 dX4_keep_48 (fun H locs hP hD hS => ?_)
    have hP : va_P D vwCl [(q_a1, .inr (5, [.ref q_a1_bends, .ref q_a1_felt, .ref q_a1_paces, .ref q_a1_past, .int a1_kind, .int a1_fog, .int a1_here, .int a1_seconds, .int a1_crashes])), (q_a1_bends, .inr (0, [.ref q_a1_bends_yards, .ref q_a1_bends_truth, .ref q_a1_bends_notes, .ref q_a1_bends_words, .ref q_a1_bends_mud, .int a1_bends_size])), (q_a1_bends_notes, .inl (cI, 8, .inl a1_bends_notes)), (q_a1_past, .inr (3, [.ref q_a1_past_rows, .int w_2])), (q_a1_past_rows, .inl (cI, 88, .inl (upd w_1 ((w_2 * 11).toNatClampNeg) a1_here)))] H := hP
    have hD : va_D A [(q_a1, .inr (5, [.ref q_a1_bends, .ref q_a1_felt, .ref q_a1_paces, .ref q_a1_past, .int a1_kind, .int a1_fog, .int a1_here, .int a1_seconds, .int a1_crashes])), (q_a1_bends, .inr (0, [.ref q_a1_bends_yards, .ref q_a1_bends_truth, .ref q_a1_bends_notes, .ref q_a1_bends_words, .ref q_a1_bends_mud, .int a1_bends_size])), (q_a1_bends_notes, .inl (cI, 8, .inl a1_bends_notes)), (q_a1_past, .inr (3, [.ref q_a1_past_rows, .int w_2])), (q_a1_past_rows, .inl (cI, 88, .inl (upd w_1 ((w_2 * 11).toNatClampNeg) a1_here)))] := hD
    have hf := hf.2
    refine lv_aload_n hx hb dX4_keep_49 rfl (lv_at hl 1 rfl) ?_
    refine va_get (D := D) (ci := 3) (v := .ref q_a1_past_rows) (C := RX4) (T := TX4) (N := 2) hx hb hts in_X4 hown hK hP 3 rfl rfl 0 (by decide) kf_11 (fun _ h9 => h9) rfl dX4_keep_50 ?_
    refine lv_iload_n hx hb dX4_keep_53 rfl (lv_at hl 0 rfl) ?_
    refine lv_iconst (v := 1) hx hb dX4_keep_54 (by decide) ?_
    refine lv_iadd hx hb dX4_keep_55 ?_
    refine lv_aload_n hx hb dX4_keep_56 rfl (lv_at hl 2 rfl) ?_
    refine va_get (D := D) (ci := 5) (v := .int a1_seconds) (C := RX6) (T := TX6) (N := 9) hx hb hts in_X6 hown hK hP 0 rfl rfl 7 (by decide) kf_30 (fun _ h9 => h9) rfl dX4_keep_57 ?_
    refine va_iast hx hb hK hP hD hS 4 0 rfl rfl hf.1 dX4_keep_60 (fun H locs hP hD hS => ?_)
    have hP : va_P D vwCl [(q_a1, .inr (5, [.ref q_a1_bends, .ref q_a1_felt, .ref q_a1_paces, .ref q_a1_past, .int a1_kind, .int a1_fog, .int a1_here, .int a1_seconds, .int a1_crashes])), (q_a1_bends, .inr (0, [.ref q_a1_bends_yards, .ref q_a1_bends_truth, .ref q_a1_bends_notes, .ref q_a1_bends_words, .ref q_a1_bends_mud, .int a1_bends_size])), (q_a1_bends_notes, .inl (cI, 8, .inl a1_bends_notes)), (q_a1_past, .inr (3, [.ref q_a1_past_rows, .int w_2])), (q_a1_past_rows, .inl (cI, 88, .inl (upd (upd w_1 ((w_2 * 11).toNatClampNeg) a1_here) (((w_2 * 11) + 1).toNatClampNeg) a1_seconds)))] H := hP
    have hD : va_D A [(q_a1, .inr (5, [.ref q_a1_bends, .ref q_a1_felt, .ref q_a1_paces, .ref q_a1_past, .int a1_kind, .int a1_fog, .int a1_here, .int a1_seconds, .int a1_crashes])), (q_a1_bends, .inr (0, [.ref q_a1_bends_yards, .ref q_a1_bends_truth, .ref q_a1_bends_notes, .ref q_a1_bends_words, .ref q_a1_bends_mud, .int a1_bends_size])), (q_a1_bends_notes, .inl (cI, 8, .inl a1_bends_notes)), (q_a1_past, .inr (3, [.ref q_a1_past_rows, .int w_2])), (q_a1_past_rows, .inl (cI, 88, .inl (upd (upd w_1 ((w_2 * 11).toNatClampNeg) a1_here) (((w_2 * 11) + 1).toNatClampNeg) a1_seconds)))] := hD
    have hf := hf.2
    refine lv_aload_n hx hb dX4_keep_61 rfl (lv_at hl 1 rfl) ?_
    refine va_get (D := D) (ci := 3) (v := .ref q_a1_past_rows) (C := RX4) (T := TX4) (N := 2) hx hb hts in_X4 hown hK hP 3 rfl rfl 0 (by decide) kf_11 (fun _ h9 => h9) rfl dX4_keep_62 ?_
    refine lv_iload_n hx hb dX4_keep_65 rfl (lv_at hl 0 rfl) ?_
    refine lv_iconst (v := 2) hx hb dX4_keep_66 (by decide) ?_
    refine lv_iadd hx hb dX4_keep_67 ?_
    refine lv_aload_n hx hb dX4_keep_68 rfl (lv_at hl 2 rfl) ?_
    refine va_get (D := D) (ci := 5) (v := .int a1_crashes) (C := RX6) (T := TX6) (N := 9) hx hb hts in_X6 hown hK hP 0 rfl rfl 8 (by decide) kf_33 (fun _ h9 => h9) rfl dX4_keep_69 ?_
    refine va_iast hx hb hK hP hD hS 4 0 rfl rfl hf.1 dX4_keep_72 (fun H locs hP hD hS => ?_)
    have hP : va_P D vwCl [(q_a1, .inr (5, [.ref q_a1_bends, .ref q_a1_felt, .ref q_a1_paces, .ref q_a1_past, .int a1_kind, .int a1_fog, .int a1_here, .int a1_seconds, .int a1_crashes])), (q_a1_bends, .inr (0, [.ref q_a1_bends_yards, .ref q_a1_bends_truth, .ref q_a1_bends_notes, .ref q_a1_bends_words, .ref q_a1_bends_mud, .int a1_bends_size])), (q_a1_bends_notes, .inl (cI, 8, .inl a1_bends_notes)), (q_a1_past, .inr (3, [.ref q_a1_past_rows, .int w_2])), (q_a1_past_rows, .inl (cI, 88, .inl (upd (upd (upd w_1 ((w_2 * 11).toNatClampNeg) a1_here) (((w_2 * 11) + 1).toNatClampNeg) a1_seconds) (((w_2 * 11) + 2).toNatClampNeg) a1_crashes)))] H := hP
    have hD : va_D A [(q_a1, .inr (5, [.ref q_a1_bends, .ref q_a1_felt, .ref q_a1_paces, .ref q_a1_past, .int a1_kind, .int a1_fog, .int a1_here, .int a1_seconds, .int a1_crashes])), (q_a1_bends, .inr (0, [.ref q_a1_bends_yards, .ref q_a1_bends_truth, .ref q_a1_bends_notes, .ref q_a1_bends_words, .ref q_a1_bends_mud, .int a1_bends_size])), (q_a1_bends_notes, .inl (cI, 8, .inl a1_bends_notes)), (q_a1_past, .inr (3, [.ref q_a1_past_rows, .int w_2])), (q_a1_past_rows, .inl (cI, 88, .inl (upd (upd (upd w_1 ((w_2 * 11).toNatClampNeg) a1_here) (((w_2 * 11) + 1).toNatClampNeg) a1_seconds) (((w_2 * 11) + 2).toNatClampNeg) a1_crashes)))] := hD
    have hf := hf.2
    refine lv_aload_n hx hb dX4_keep_73 rfl (lv_at hl 2 rfl) ?_
    refine va_get (D := D) (ci := 5) (v := .ref q_a1_bends) (C := RX6) (T := TX6) (N := 9) hx hb hts in_X6 hown hK hP 0 rfl rfl 0 (by decide) kf_36 (fun _ h9 => h9) rfl dX4_keep_74 ?_
    refine va_get (D := D) (ci := 0) (v := .ref q_a1_bends_notes) (C := RX0) (T := TX0) (N := 6) hx hb hts in_X0 hown hK hP 1 rfl rfl 2 (by decide) kf_40 (fun _ h9 => h9) rfl dX4_keep_77 ?_
    refine lv_iconst (v := 0) hx hb dX4_keep_80 (by decide) ?_
    refine lv_aload_n hx hb dX4_keep_81 rfl (lv_at hl 1 rfl) ?_
    refine va_get (D := D) (ci := 3) (v := .ref q_a1_past_rows) (C := RX4) (T := TX4) (N := 2) hx hb hts in_X4 hown hK hP 3 rfl rfl 0 (by decide) kf_11 (fun _ h9 => h9) rfl dX4_keep_82 ?_
    refine lv_iload_n hx hb dX4_keep_85 rfl (lv_at hl 0 rfl) ?_
    refine lv_iconst (v := 3) hx hb dX4_keep_86 (by decide) ?_
    refine lv_iadd hx hb dX4_keep_87 ?_
    refine lv_bipush (v := 8) hx hb dX4_keep_88 (by decide) ?_
    refine va_copyi hx hb (by rw [hml]; exact hl.1.symm) hown kl_19 kl_nat kl_sta kl_ini hK hP hD hS 2 4 0 0 rfl rfl rfl rfl rfl hf.1.1 hf.1.2.1 hf.1.2.2.1 hf.1.2.2.2.1 hf.1.2.2.2.2 (fun _ _ => rfl) (Nat.le_of_ble_eq_true rfl) (Nat.le_of_ble_eq_true rfl) dX4_keep_90 (fun H locs hP hD hS => ?_)
    have hP : va_P D vwCl [(q_a1, .inr (5, [.ref q_a1_bends, .ref q_a1_felt, .ref q_a1_paces, .ref q_a1_past, .int a1_kind, .int a1_fog, .int a1_here, .int a1_seconds, .int a1_crashes])), (q_a1_bends, .inr (0, [.ref q_a1_bends_yards, .ref q_a1_bends_truth, .ref q_a1_bends_notes, .ref q_a1_bends_words, .ref q_a1_bends_mud, .int a1_bends_size])), (q_a1_bends_notes, .inl (cI, 8, .inl a1_bends_notes)), (q_a1_past, .inr (3, [.ref q_a1_past_rows, .int w_2])), (q_a1_past_rows, .inl (cI, 88, .inl (va_cpy a1_bends_notes (upd (upd (upd w_1 ((w_2 * 11).toNatClampNeg) a1_here) (((w_2 * 11) + 1).toNatClampNeg) a1_seconds) (((w_2 * 11) + 2).toNatClampNeg) a1_crashes) (0 : Int32).toNatClampNeg ((w_2 * 11) + 3).toNatClampNeg (8 : Int32).toNatClampNeg)))] H := hP
    have hD : va_D A [(q_a1, .inr (5, [.ref q_a1_bends, .ref q_a1_felt, .ref q_a1_paces, .ref q_a1_past, .int a1_kind, .int a1_fog, .int a1_here, .int a1_seconds, .int a1_crashes])), (q_a1_bends, .inr (0, [.ref q_a1_bends_yards, .ref q_a1_bends_truth, .ref q_a1_bends_notes, .ref q_a1_bends_words, .ref q_a1_bends_mud, .int a1_bends_size])), (q_a1_bends_notes, .inl (cI, 8, .inl a1_bends_notes)), (q_a1_past, .inr (3, [.ref q_a1_past_rows, .int w_2])), (q_a1_past_rows, .inl (cI, 88, .inl (va_cpy a1_bends_notes (upd (upd (upd w_1 ((w_2 * 11).toNatClampNeg) a1_here) (((w_2 * 11) + 1).toNatClampNeg) a1_seconds) (((w_2 * 11) + 2).toNatClampNeg) a1_crashes) (0 : Int32).toNatClampNeg ((w_2 * 11) + 3).toNatClampNeg (8 : Int32).toNatClampNeg)))] := hD
    have hf := hf.2
    refine lv_aload_n hx hb dX4_keep_93 rfl (lv_at hl 1 rfl) ?_
    refine lv_dup hx hb dX4_keep_94 rfl ?_
    refine va_get (D := D) (ci := 3) (v := .int w_2) (C := RX4) (T := TX4) (N := 2) hx hb hts in_X4 hown hK hP 3 rfl rfl 1 (by decide) kf_15 (fun _ h9 => h9) rfl dX4_keep_95 ?_
    refine lv_iconst (v := 1) hx hb dX4_keep_98 (by decide) ?_
    refine lv_iadd hx hb dX4_keep_99 ?_
    refine va_put (D := D) (ci := 3) (v := .int (w_2 + 1)) (ty := .int) (C := RX4) (T := TX4) (N := 2) hx hb hts in_X4 tyX4 tyX4_ok nmX4 hown hK hP hD hS 3 rfl rfl 1 (by decide) kf_15 (fun _ h9 => h9) rfl (by decide +kernel) rfl rfl (Nat.le_of_ble_eq_true rfl) dX4_keep_100 (fun H locs hP hD hS => ?_)
    have hP : va_P D vwCl [(q_a1, .inr (5, [.ref q_a1_bends, .ref q_a1_felt, .ref q_a1_paces, .ref q_a1_past, .int a1_kind, .int a1_fog, .int a1_here, .int a1_seconds, .int a1_crashes])), (q_a1_bends, .inr (0, [.ref q_a1_bends_yards, .ref q_a1_bends_truth, .ref q_a1_bends_notes, .ref q_a1_bends_words, .ref q_a1_bends_mud, .int a1_bends_size])), (q_a1_bends_notes, .inl (cI, 8, .inl a1_bends_notes)), (q_a1_past, .inr (3, [.ref q_a1_past_rows, .int (w_2 + 1)])), (q_a1_past_rows, .inl (cI, 88, .inl (va_cpy a1_bends_notes (upd (upd (upd w_1 ((w_2 * 11).toNatClampNeg) a1_here) (((w_2 * 11) + 1).toNatClampNeg) a1_seconds) (((w_2 * 11) + 2).toNatClampNeg) a1_crashes) (0 : Int32).toNatClampNeg ((w_2 * 11) + 3).toNatClampNeg (8 : Int32).toNatClampNeg)))] H := hP
    have hD : va_D A [(q_a1, .inr (5, [.ref q_a1_bends, .ref q_a1_felt, .ref q_a1_paces, .ref q_a1_past, .int a1_kind, .int a1_fog, .int a1_here, .int a1_seconds, .int a1_crashes])), (q_a1_bends, .inr (0, [.ref q_a1_bends_yards, .ref q_a1_bends_truth, .ref q_a1_bends_notes, .ref q_a1_bends_words, .ref q_a1_bends_mud, .int a1_bends_size])), (q_a1_bends_notes, .inl (cI, 8, .inl a1_bends_notes)), (q_a1_past, .inr (3, [.ref q_a1_past_rows, .int (w_2 + 1)])), (q_a1_past_rows, .inl (cI, 88, .inl (va_cpy a1_bends_notes (upd (upd (upd w_1 ((w_2 * 11).toNatClampNeg) a1_here) (((w_2 * 11) + 1).toNatClampNeg) a1_seconds) (((w_2 * 11) + 2).toNatClampNeg) a1_crashes) (0 : Int32).toNatClampNeg ((w_2 * 11) + 3).toNatClampNeg (8 : Int32).toNatClampNeg)))] := hD
    subst hQQ
    have hP9 := hP.sub (ws' := [(q_a1, .inr (5, [.ref q_a1_bends, .ref q_a1_felt, .ref q_a1_paces, .ref q_a1_past, .int a1_kind, .int a1_fog, .int a1_here, .int a1_seconds, .int a1_crashes])), (q_a1_bends, .inr (0, [.ref q_a1_bends_yards, .ref q_a1_bends_truth, .ref q_a1_bends_notes, .ref q_a1_bends_words, .ref q_a1_bends_mud, .int a1_bends_size])), (q_a1_bends_notes, .inl (cI, 8, .inl a1_bends_notes)), (q_a1_past, .inr (3, [.ref q_a1_past_rows, .int (w_2 + 1)])), (q_a1_past_rows, .inl (cI, 88, .inl (va_cpy a1_bends_notes (upd (upd (upd w_1 ((w_2 * 11).toNatClampNeg) a1_here) (((w_2 * 11) + 1).toNatClampNeg) a1_seconds) (((w_2 * 11) + 2).toNatClampNeg) a1_crashes) (0 : Int32).toNatClampNeg ((w_2 * 11) + 3).toNatClampNeg (8 : Int32).toNatClampNeg)))]) [0, 1, 2, 3, 4] rfl
    have hD9 := hD.sub (ws' := [(q_a1, .inr (5, [.ref q_a1_bends, .ref q_a1_felt, .ref q_a1_paces, .ref q_a1_past, .int a1_kind, .int a1_fog, .int a1_here, .int a1_seconds, .int a1_crashes])), (q_a1_bends, .inr (0, [.ref q_a1_bends_yards, .ref q_a1_bends_truth, .ref q_a1_bends_notes, .ref q_a1_bends_words, .ref q_a1_bends_mud, .int a1_bends_size])), (q_a1_bends_notes, .inl (cI, 8, .inl a1_bends_notes)), (q_a1_past, .inr (3, [.ref q_a1_past_rows, .int (w_2 + 1)])), (q_a1_past_rows, .inl (cI, 88, .inl (va_cpy a1_bends_notes (upd (upd (upd w_1 ((w_2 * 11).toNatClampNeg) a1_here) (((w_2 * 11) + 1).toNatClampNeg) a1_seconds) (((w_2 * 11) + 2).toNatClampNeg) a1_crashes) (0 : Int32).toNatClampNeg ((w_2 * 11) + 3).toNatClampNeg (8 : Int32).toNatClampNeg)))]) [0, 1, 2, 3, 4] (by decide) rfl
    exact W.vret hx hb hr (fun t ht hW => ⟨⟨(va_cpy a1_bends_notes (upd (upd (upd w_1 ((w_2 * 11).toNatClampNeg) a1_here) (((w_2 * 11) + 1).toNatClampNeg) a1_seconds) (((w_2 * 11) + 2).toNatClampNeg) a1_crashes) (0 : Int32).toNatClampNeg ((w_2 * 11) + 3).toNatClampNeg (8 : Int32).toNatClampNeg, w_2 + 1), rfl, hf, by rw [ht]; exact hP9, hD9⟩, hS.F ht⟩) hS.2.2 dX4_keep_103
  unfold p_X4_keep at hf
  refine lv_aload_n hx hb dX4_keep_0 rfl (lv_at hl 0 rfl) ?_
  refine va_get (D := D) (ci := 3) (v := .int a1_past_size) (C := RX4) (T := TX4) (N := 2) hx hb hts in_X4 hown hK hP 3 rfl rfl 1 (by decide) kf_15 (fun _ h9 => h9) rfl dX4_keep_1 ?_
  refine lv_bipush (v := 8) hx hb dX4_keep_4 (by decide) ?_
  refine lv_icmp_lt (tgt := 31) hx hb dX4_keep_6 (by decide) (fun c_3 => ?_) (fun c_3 => ?_)
  · have hf := it_t c_3 hf
    exact hj_31 a1_past_rows a1_past_size _ _ hf (hP.sub [0, 1, 2, 3, 4] rfl) (hD.sub [0, 1, 2, 3, 4] (by decide) rfl) hS ls (lv_sub hl [0, 1] rfl)
  · have hf := it_f c_3 hf
    refine lv_aload_n hx hb dX4_keep_9 rfl (lv_at hl 0 rfl) ?_
    refine va_get (D := D) (ci := 3) (v := .ref q_a1_past_rows) (C := RX4) (T := TX4) (N := 2) hx hb hts in_X4 hown hK hP 3 rfl rfl 0 (by decide) kf_11 (fun _ h9 => h9) rfl dX4_keep_10 ?_
    refine lv_bipush (v := 11) hx hb dX4_keep_13 (by decide) ?_
    refine lv_aload_n hx hb dX4_keep_15 rfl (lv_at hl 0 rfl) ?_
    refine va_get (D := D) (ci := 3) (v := .ref q_a1_past_rows) (C := RX4) (T := TX4) (N := 2) hx hb hts in_X4 hown hK hP 3 rfl rfl 0 (by decide) kf_11 (fun _ h9 => h9) rfl dX4_keep_16 ?_
    refine lv_iconst (v := 0) hx hb dX4_keep_19 (by decide) ?_
    refine lv_bipush (v := 77) hx hb dX4_keep_20 (by decide) ?_
    refine va_copyi hx hb (by rw [hml]; exact hl.1.symm) hown kl_19 kl_nat kl_sta kl_ini hK hP hD hS 4 4 0 0 rfl rfl rfl rfl rfl (by decide) (by decide) (by decide) (by decide) (by decide) (fun _ _ => rfl) (Nat.le_of_ble_eq_true rfl) (Nat.le_of_ble_eq_true rfl) dX4_keep_22 (fun H locs hP hD hS => ?_)
    have hP : va_P D vwCl [(q_a1, .inr (5, [.ref q_a1_bends, .ref q_a1_felt, .ref q_a1_paces, .ref q_a1_past, .int a1_kind, .int a1_fog, .int a1_here, .int a1_seconds, .int a1_crashes])), (q_a1_bends, .inr (0, [.ref q_a1_bends_yards, .ref q_a1_bends_truth, .ref q_a1_bends_notes, .ref q_a1_bends_words, .ref q_a1_bends_mud, .int a1_bends_size])), (q_a1_bends_notes, .inl (cI, 8, .inl a1_bends_notes)), (q_a1_past, .inr (3, [.ref q_a1_past_rows, .int a1_past_size])), (q_a1_past_rows, .inl (cI, 88, .inl (va_cpy a1_past_rows a1_past_rows (11 : Int32).toNatClampNeg (0 : Int32).toNatClampNeg (77 : Int32).toNatClampNeg)))] H := hP
    have hD : va_D A [(q_a1, .inr (5, [.ref q_a1_bends, .ref q_a1_felt, .ref q_a1_paces, .ref q_a1_past, .int a1_kind, .int a1_fog, .int a1_here, .int a1_seconds, .int a1_crashes])), (q_a1_bends, .inr (0, [.ref q_a1_bends_yards, .ref q_a1_bends_truth, .ref q_a1_bends_notes, .ref q_a1_bends_words, .ref q_a1_bends_mud, .int a1_bends_size])), (q_a1_bends_notes, .inl (cI, 8, .inl a1_bends_notes)), (q_a1_past, .inr (3, [.ref q_a1_past_rows, .int a1_past_size])), (q_a1_past_rows, .inl (cI, 88, .inl (va_cpy a1_past_rows a1_past_rows (11 : Int32).toNatClampNeg (0 : Int32).toNatClampNeg (77 : Int32).toNatClampNeg)))] := hD
    refine lv_aload_n hx hb dX4_keep_25 rfl (lv_at hl 0 rfl) ?_
    refine lv_bipush (v := 7) hx hb dX4_keep_26 (by decide) ?_
    refine va_put (D := D) (ci := 3) (v := .int 7) (ty := .int) (C := RX4) (T := TX4) (N := 2) hx hb hts in_X4 tyX4 tyX4_ok nmX4 hown hK hP hD hS 3 rfl rfl 1 (by decide) kf_15 (fun _ h9 => h9) rfl (by decide +kernel) rfl rfl (Nat.le_of_ble_eq_true rfl) dX4_keep_28 (fun H locs hP hD hS => ?_)
    have hP : va_P D vwCl [(q_a1, .inr (5, [.ref q_a1_bends, .ref q_a1_felt, .ref q_a1_paces, .ref q_a1_past, .int a1_kind, .int a1_fog, .int a1_here, .int a1_seconds, .int a1_crashes])), (q_a1_bends, .inr (0, [.ref q_a1_bends_yards, .ref q_a1_bends_truth, .ref q_a1_bends_notes, .ref q_a1_bends_words, .ref q_a1_bends_mud, .int a1_bends_size])), (q_a1_bends_notes, .inl (cI, 8, .inl a1_bends_notes)), (q_a1_past, .inr (3, [.ref q_a1_past_rows, .int 7])), (q_a1_past_rows, .inl (cI, 88, .inl (va_cpy a1_past_rows a1_past_rows (11 : Int32).toNatClampNeg (0 : Int32).toNatClampNeg (77 : Int32).toNatClampNeg)))] H := hP
    have hD : va_D A [(q_a1, .inr (5, [.ref q_a1_bends, .ref q_a1_felt, .ref q_a1_paces, .ref q_a1_past, .int a1_kind, .int a1_fog, .int a1_here, .int a1_seconds, .int a1_crashes])), (q_a1_bends, .inr (0, [.ref q_a1_bends_yards, .ref q_a1_bends_truth, .ref q_a1_bends_notes, .ref q_a1_bends_words, .ref q_a1_bends_mud, .int a1_bends_size])), (q_a1_bends_notes, .inl (cI, 8, .inl a1_bends_notes)), (q_a1_past, .inr (3, [.ref q_a1_past_rows, .int 7])), (q_a1_past_rows, .inl (cI, 88, .inl (va_cpy a1_past_rows a1_past_rows (11 : Int32).toNatClampNeg (0 : Int32).toNatClampNeg (77 : Int32).toNatClampNeg)))] := hD
    exact hj_31 (va_cpy a1_past_rows a1_past_rows (11 : Int32).toNatClampNeg (0 : Int32).toNatClampNeg (77 : Int32).toNatClampNeg) 7 _ _ hf (hP.sub [0, 1, 2, 3, 4] rfl) (hD.sub [0, 1, 2, 3, 4] (by decide) rfl) hS ls (lv_sub hl [0, 1] rfl)
