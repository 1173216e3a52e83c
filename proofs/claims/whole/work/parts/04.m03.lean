def p_X7_isFull (a0_size : Int32) (Q : Int32 → Prop) : Prop :=
  if a0_size < 150 then (Q 0) else (Q 1)
def rmX7_isFull : Room := { frames := 0, cells := 0, slots := 0, locals := 0 }
set_option maxHeartbeats 4000000 in
set_option maxRecDepth 100000 in
theorem c_X7_isFull (l : Launch) (D : va_G) (cI cZ cO : ClassId) (q_a0 q_a0_bytes : Nat) (a0_size : Int32) (a0_sort : Int32) (a0_start : Int32) (a0_behind : Int32) (Q : Int32 → Prop) (hf : p_X7_isFull a0_size Q) : Met l yX7_isFull wsX7_isFull rmX7_isFull (va_Pc [.ref q_a0] (fun U => va_P D vwCl [(q_a0, .inr (6, [.ref q_a0_bytes, .int a0_size, .int a0_sort, .int a0_start, .int a0_behind]))] U.heap ∧ XK D cI cZ cO U)) (vp_Si Q) 0 0 (fun _ => False) := by
  refine Met.ofW (cc := cX7_isFull) (maxL := 1) (ret := (some .boolean)) (by decide) rfl ?_
  intro p e s m args below meth c s₁ B hml hv
  obtain ⟨rfl, hP, hX⟩ := hv
  have hK := hX.1
  have hx := B.exec
  have hb := B.bytes
  have hr := B.returns
  have hts := atoms_spec (ws := wsX7_isFull) B.pre
  have hown : s.vm.findClass RX7 = some m.cls := findClass_of_methodNamed B.named
  have hlocks := B.notSynchronized
  have in_X7 : ∀ w ∈ wsX70, w ∈ wsX7_isFull := fun _ h => List.mem_cons_of_mem _ (List.mem_append_right _ h)
  have kf_15 := hts (.fieldLink RX7 15 "LeftCrest$Text" "size" "I") (by decide +kernel)
  generalize hQQ : MQ below _ _ s _ _ _ = QQ
  have hl := lv_entry ([.ref q_a0]) (n := 1) (Nat.le_of_ble_eq_true rfl)
  rw [lg_entry_eq]
  generalize (lg_sl ([.ref q_a0]) ++ List.replicate (1 - (lg_sl ([.ref q_a0])).length) Slot.unset).toArray = ls at hl ⊢
  have hl : lv_has ls 1 [(0, .ref q_a0)] := hl
  unfold p_X7_isFull at hf
  refine lv_aload_n hx hb dX7_isFull_0 rfl (lv_at hl 0 rfl) ?_
  refine va_get (D := D) (ci := 6) (v := .int a0_size) (C := RX7) (T := TX7) (N := 5) hx hb hts in_X7 hown hK hP 0 rfl rfl 1 (by decide) kf_15 (fun _ h9 => h9) rfl dX7_isFull_1 ?_
  refine lv_sipush (v := 150) hx hb dX7_isFull_4 (by decide) ?_
  refine lv_icmp_lt (tgt := 14) hx hb dX7_isFull_7 (by decide) (fun c_1 => ?_) (fun c_1 => ?_)
  · have hf := it_t c_1 hf
    refine lv_iconst (v := 0) hx hb dX7_isFull_14 (by decide) ?_
    subst hQQ
    exact W.zret hx hb hr rfl (fun t ht hW => ⟨_, rfl, hf, ht⟩) (fun _ h => absurd h List.not_mem_nil) dX7_isFull_15
  · have hf := it_f c_1 hf
    refine lv_iconst (v := 1) hx hb dX7_isFull_10 (by decide) ?_
    refine lv_goto (tgt := 15) hx hb dX7_isFull_11 (by decide) ?_
    subst hQQ
    exact W.zret hx hb hr rfl (fun t ht hW => ⟨_, rfl, hf, ht⟩) (fun _ h => absurd h List.not_mem_nil) dX7_isFull_15
def p_X7_add (a0_bytes : Nat → Int32) (a0_size : Int32) (x1 : Int32) (Q : Int32 → (Nat → Int32) → Int32 → Prop) : Prop :=
  p_X7_isFull a0_size (fun r_1 => if r_1 = 0 then (vp_in a0_size 150 ∧ (Q (a0_size + 1) (upd a0_bytes (a0_size.toNatClampNeg) x1) (a0_size + 1))) else (Q (-4) a0_bytes a0_size))
def rmX7_add : Room := { frames := 1, cells := 0, slots := 0, locals := 20 }
set_option maxHeartbeats 4000000 in
set_option maxRecDepth 100000 in
theorem c_X7_add (l : Launch) (D : va_G) (cI cZ cO : ClassId) (q_a0 q_a0_bytes : Nat) (a0_size : Int32) (a0_sort : Int32) (a0_start : Int32) (a0_behind : Int32) (a0_bytes : Nat → Int32) (sz : Nat) (x1 : Int32) (Q : Int32 → (Nat → Int32) → Int32 → Prop) (hf : p_X7_add a0_bytes a0_size x1 Q) : Met l yX7_add wsX7_add rmX7_add (va_Pc [.ref q_a0, .int x1] (fun U => U.heap.size = sz ∧ va_P D vwCl [(q_a0, .inr (6, [.ref q_a0_bytes, .int a0_size, .int a0_sort, .int a0_start, .int a0_behind])), (q_a0_bytes, .inl (cI, 150, .inl a0_bytes))] U.heap ∧ XK D cI cZ cO U ∧ va_D (fun _ => True) [(q_a0, .inr (6, [.ref q_a0_bytes, .int a0_size, .int a0_sort, .int a0_start, .int a0_behind])), (q_a0_bytes, .inl (cI, 150, .inl a0_bytes))])) (va_Qi (fun r (u : (Nat → Int32) × Int32) => Q r u.1 u.2) (fun (u : (Nat → Int32) × Int32) t => va_P D vwCl [(q_a0, .inr (6, [.ref q_a0_bytes, .int u.2, .int a0_sort, .int a0_start, .int a0_behind])), (q_a0_bytes, .inl (cI, 150, .inl u.1))] t.heap ∧ va_D (va_A [(q_a0, .inr (6, [.ref q_a0_bytes, .int a0_size, .int a0_sort, .int a0_start, .int a0_behind])), (q_a0_bytes, .inl (cI, 150, .inl a0_bytes))] sz) [(q_a0, .inr (6, [.ref q_a0_bytes, .int u.2, .int a0_sort, .int a0_start, .int a0_behind])), (q_a0_bytes, .inl (cI, 150, .inl u.1))]) (va_A [(q_a0, .inr (6, [.ref q_a0_bytes, .int a0_size, .int a0_sort, .int a0_start, .int a0_behind])), (q_a0_bytes, .inl (cI, 150, .inl a0_bytes))] sz)) 0 0 (va_A [(q_a0, .inr (6, [.ref q_a0_bytes, .int a0_size, .int a0_sort, .int a0_start, .int a0_behind])), (q_a0_bytes, .inl (cI, 150, .inl a0_bytes))] sz) := by
  refine Met.ofW (cc := cX7_add) (maxL := 2) (ret := (some .int)) (by decide) rfl ?_
  intro p e s m args below meth c s₁ B hml hv
  obtain ⟨rfl, hsz, hP, hX, hD0⟩ := hv
  have hK := hX.1
  have hx := B.exec
  have hb := B.bytes
  have hr := B.returns
  have hts := atoms_spec (ws := wsX7_add) B.pre
  have hown : s.vm.findClass RX7 = some m.cls := findClass_of_methodNamed B.named
  have hlocks := B.notSynchronized
  have in_X7 : ∀ w ∈ wsX70, w ∈ wsX7_add := fun _ h => List.mem_cons_of_mem _ (List.mem_append_right _ h)
  have kf_9 := hts (.fieldLink RX7 9 "LeftCrest$Text" "bytes" "[I") (by decide +kernel)
  have kf_15 := hts (.fieldLink RX7 15 "LeftCrest$Text" "size" "I") (by decide +kernel)
  subst hsz
  have hD := hD0.self (sz := s.heap.size)
  generalize hAe : va_A [(q_a0, .inr (6, [.ref q_a0_bytes, .int a0_size, .int a0_sort, .int a0_start, .int a0_behind])), (q_a0_bytes, .inl (cI, 150, .inl a0_bytes))] s.heap.size = A at hD ⊢
  have hA : ∀ q : Nat, s.heap.size ≤ q → A q := fun q h => by rw [← hAe]; exact Or.inr h
  have hS : va_S A s.heap s.heap [] := va_S.rf
  have hP : va_P D vwCl [(q_a0, .inr (6, [.ref q_a0_bytes, .int a0_size, .int a0_sort, .int a0_start, .int a0_behind])), (q_a0_bytes, .inl (cI, 150, .inl a0_bytes))] s.heap := hP
  generalize hQQ : MQ below _ _ s _ _ _ = QQ
  have hl := lv_entry ([.ref q_a0, .int x1]) (n := 2) (Nat.le_of_ble_eq_true rfl)
  rw [lg_entry_eq]
  generalize (lg_sl ([.ref q_a0, .int x1]) ++ List.replicate (2 - (lg_sl ([.ref q_a0, .int x1])).length) Slot.unset).toArray = ls at hl ⊢
  have hl : lv_has ls 2 [(0, .ref q_a0), (1, .int x1)] := hl
  unfold p_X7_add at hf
  refine lv_aload_n hx hb dX7_add_0 rfl (lv_at hl 0 rfl) ?_
  refine ya_csi (va_runV (As := []) (rest := []) ⟨hx, hb, hml, hown, hts⟩ (c_X7_isFull l D cI cZ cO q_a0 q_a0_bytes a0_size a0_sort a0_start a0_behind  _ hf) (cwV 0 hts gX7_add_X7_isFull rfl rfl rfl (by decide +kernel) ⟨Nat.le_of_ble_eq_true rfl, Nat.le_of_ble_eq_true rfl⟩) (pv_ro (ci := 6) (q0 := 0) (hP.sub [0] rfl) hX rfl rfl) rfl rfl hl.1 rfl (lv_room (Nat.le_of_ble_eq_true rfl)) dX7_add_1 ⟨Nat.zero_le _, Nat.zero_le _⟩) (fun r_1 hf => ?_)
  refine lv_if_eq (tgt := 10) hx hb dX7_add_4 (by decide) (fun c_2 => ?_) (fun c_2 => ?_)
  · have hf := it_t c_2 hf
    refine lv_aload_n hx hb dX7_add_10 rfl (lv_at hl 0 rfl) ?_
    refine va_get (D := D) (ci := 6) (v := .ref q_a0_bytes) (C := RX7) (T := TX7) (N := 5) hx hb hts in_X7 hown hK hP 0 rfl rfl 0 (by decide) kf_9 (fun _ h9 => h9) rfl dX7_add_11 ?_
    refine lv_aload_n hx hb dX7_add_14 rfl (lv_at hl 0 rfl) ?_
    refine va_get (D := D) (ci := 6) (v := .int a0_size) (C := RX7) (T := TX7) (N := 5) hx hb hts in_X7 hown hK hP 0 rfl rfl 1 (by decide) kf_15 (fun _ h9 => h9) rfl dX7_add_15 ?_
    refine lv_iload_n hx hb dX7_add_18 rfl (lv_at hl 1 rfl) ?_
    refine va_iast hx hb hK hP hD hS 1 0 rfl rfl hf.1 dX7_add_19 (fun H locs hP hD hS => ?_)
    have hP : va_P D vwCl [(q_a0, .inr (6, [.ref q_a0_bytes, .int a0_size, .int a0_sort, .int a0_start, .int a0_behind])), (q_a0_bytes, .inl (cI, 150, .inl (upd a0_bytes (a0_size.toNatClampNeg) x1)))] H := hP
    have hD : va_D A [(q_a0, .inr (6, [.ref q_a0_bytes, .int a0_size, .int a0_sort, .int a0_start, .int a0_behind])), (q_a0_bytes, .inl (cI, 150, .inl (upd a0_bytes (a0_size.toNatClampNeg) x1)))] := hD
    have hf := hf.2
    refine lv_aload_n hx hb dX7_add_20 rfl (lv_at hl 0 rfl) ?_
    refine lv_dup hx hb dX7_add_21 rfl ?_
    refine va_get (D := D) (ci := 6) (v := .int a0_size) (C := RX7) (T := TX7) (N := 5) hx hb hts in_X7 hown hK hP 0 rfl rfl 1 (by decide) kf_15 (fun _ h9 => h9) rfl dX7_add_22 ?_
    refine lv_iconst (v := 1) hx hb dX7_add_25 (by decide) ?_
    refine lv_iadd hx hb dX7_add_26 ?_
    refine va_put (D := D) (ci := 6) (v := .int (a0_size + 1)) (ty := .int) (C := RX7) (T := TX7) (N := 5) hx hb hts in_X7 tyX7 tyX7_ok nmX7 hown hK hP hD hS 0 rfl rfl 1 (by decide) kf_15 (fun _ h9 => h9) rfl (by decide +kernel) rfl rfl (Nat.le_of_ble_eq_true rfl) dX7_add_27 (fun H locs hP hD hS => ?_)
    have hP : va_P D vwCl [(q_a0, .inr (6, [.ref q_a0_bytes, .int (a0_size + 1), .int a0_sort, .int a0_start, .int a0_behind])), (q_a0_bytes, .inl (cI, 150, .inl (upd a0_bytes (a0_size.toNatClampNeg) x1)))] H := hP
    have hD : va_D A [(q_a0, .inr (6, [.ref q_a0_bytes, .int (a0_size + 1), .int a0_sort, .int a0_start, .int a0_behind])), (q_a0_bytes, .inl (cI, 150, .inl (upd a0_bytes (a0_size.toNatClampNeg) x1)))] := hD
    refine lv_aload_n hx hb dX7_add_30 rfl (lv_at hl 0 rfl) ?_
    refine va_get (D := D) (ci := 6) (v := .int (a0_size + 1)) (C := RX7) (T := TX7) (N := 5) hx hb hts in_X7 hown hK hP 0 rfl rfl 1 (by decide) kf_15 (fun _ h9 => h9) rfl dX7_add_31 ?_
    subst hQQ
    have hP9 := hP.sub (ws' := [(q_a0, .inr (6, [.ref q_a0_bytes, .int (a0_size + 1), .int a0_sort, .int a0_start, .int a0_behind])), (q_a0_bytes, .inl (cI, 150, .inl (upd a0_bytes (a0_size.toNatClampNeg) x1)))]) [0, 1] rfl
    have hD9 := hD.sub (ws' := [(q_a0, .inr (6, [.ref q_a0_bytes, .int (a0_size + 1), .int a0_sort, .int a0_start, .int a0_behind])), (q_a0_bytes, .inl (cI, 150, .inl (upd a0_bytes (a0_size.toNatClampNeg) x1)))]) [0, 1] (by decide) rfl
    exact W.iret hx hb hr (fun t ht hW => ⟨⟨(a0_size + 1), (upd a0_bytes (a0_size.toNatClampNeg) x1, a0_size + 1), rfl, hf, by rw [ht]; exact hP9, hD9⟩, hS.F ht⟩) hS.2.2 dX7_add_34
  · have hf := it_f c_2 hf
    refine lv_bipush (v := (-4)) hx hb dX7_add_7 (by decide) ?_
    subst hQQ
    have hP9 := hP.sub (ws' := [(q_a0, .inr (6, [.ref q_a0_bytes, .int a0_size, .int a0_sort, .int a0_start, .int a0_behind])), (q_a0_bytes, .inl (cI, 150, .inl a0_bytes))]) [0, 1] rfl
    have hD9 := hD.sub (ws' := [(q_a0, .inr (6, [.ref q_a0_bytes, .int a0_size, .int a0_sort, .int a0_start, .int a0_behind])), (q_a0_bytes, .inl (cI, 150, .inl a0_bytes))]) [0, 1] (by decide) rfl
    exact W.iret hx hb hr (fun t ht hW => ⟨⟨(-4), (a0_bytes, a0_size), rfl, hf, by rw [ht]; exact hP9, hD9⟩, hS.F ht⟩) hS.2.2 dX7_add_9
def bX7_runEnd_3 (a0_bytes : Nat → Int32) (a0_size : Int32) (x2 : Int32) (x3 : Int32) (Q : Int32 → Prop) (k_2 : Int32 → Prop) (v_1 : Int32) : Prop :=
  if a0_size ≤ v_1 then (Q a0_size) else (vp_in v_1 150 ∧ (if (a0_bytes v_1.toNatClampNeg) < x2 then (Q v_1) else (vp_in v_1 150 ∧ (if (a0_bytes v_1.toNatClampNeg) ≤ x3 then (k_2 (v_1 + 1)) else (Q v_1)))))
def p_X7_runEnd (a0_bytes : Nat → Int32) (a0_size : Int32) (x1 : Int32) (x2 : Int32) (x3 : Int32) (Q : Int32 → Prop) : Prop :=
  lq1 (bX7_runEnd_3 a0_bytes a0_size x2 x3 Q) 1000 x1
def rmX7_runEnd : Room := { frames := 0, cells := 0, slots := 0, locals := 0 }
set_option maxHeartbeats 4000000 in
set_option maxRecDepth 100000 in
theorem c_X7_runEnd (l : Launch) (D : va_G) (cI cZ cO : ClassId) (q_a0 q_a0_bytes : Nat) (a0_size : Int32) (a0_sort : Int32) (a0_start : Int32) (a0_behind : Int32) (a0_bytes : Nat → Int32) (x1 : Int32) (x2 : Int32) (x3 : Int32) (Q : Int32 → Prop) (hf : p_X7_runEnd a0_bytes a0_size x1 x2 x3 Q) : Met l yX7_runEnd wsX7_runEnd rmX7_runEnd (va_Pc [.ref q_a0, .int x1, .int x2, .int x3] (fun U => va_P D vwCl [(q_a0, .inr (6, [.ref q_a0_bytes, .int a0_size, .int a0_sort, .int a0_start, .int a0_behind])), (q_a0_bytes, .inl (cI, 150, .inl a0_bytes))] U.heap ∧ XK D cI cZ cO U)) (vp_Si Q) 0 0 (fun _ => False) := by
  refine Met.ofW (cc := cX7_runEnd) (maxL := 5) (ret := (some .int)) (by decide) rfl ?_
  intro p e s m args below meth c s₁ B hml hv
  obtain ⟨rfl, hP, hX⟩ := hv
  have hK := hX.1
  have hx := B.exec
  have hb := B.bytes
  have hr := B.returns
  have hts := atoms_spec (ws := wsX7_runEnd) B.pre
  have hown : s.vm.findClass RX7 = some m.cls := findClass_of_methodNamed B.named
  have hlocks := B.notSynchronized
  have in_X7 : ∀ w ∈ wsX70, w ∈ wsX7_runEnd := fun _ h => List.mem_cons_of_mem _ (List.mem_append_right _ h)
  have kf_15 := hts (.fieldLink RX7 15 "LeftCrest$Text" "size" "I") (by decide +kernel)
  have kf_9 := hts (.fieldLink RX7 9 "LeftCrest$Text" "bytes" "[I") (by decide +kernel)
  generalize hQQ : MQ below _ _ s _ _ _ = QQ
  have hl := lv_entry ([.ref q_a0, .int x1, .int x2, .int x3]) (n := 5) (Nat.le_of_ble_eq_true rfl)
  rw [lg_entry_eq]
  generalize (lg_sl ([.ref q_a0, .int x1, .int x2, .int x3]) ++ List.replicate (5 - (lg_sl ([.ref q_a0, .int x1, .int x2, .int x3])).length) Slot.unset).toArray = ls at hl ⊢
  have hl : lv_has ls 5 [(0, .ref q_a0), (1, .int x1), (2, .int x2), (3, .int x3)] := hl
  unfold p_X7_runEnd at hf
  refine lv_iload_n hx hb dX7_runEnd_0 rfl (lv_at hl 1 rfl) ?_
  refine lv_istore (lv' := [(4, .int x1), (0, .ref q_a0), (1, .int x1), (2, .int x2), (3, .int x3)]) hx hb dX7_runEnd_1 hl (by decide) rfl (fun ls hl => ?_)
  have hlp_3 : ∀ (n_3 : Nat) (v_1 : Int32) (ls : Array Slot), lq1 (bX7_runEnd_3 a0_bytes a0_size x2 x3 Q) n_3 v_1 → lv_has ls 5 [(0, .ref q_a0), (2, .int x2), (3, .int x3), (4, .int v_1)] → W p l e (headSpec wsX7_runEnd rmX7_runEnd).room s m ([.ref q_a0, .int x1, .int x2, .int x3] : List Value).toArray below meth c s.heap [] 0 0 QQ (F0 m 3 ls []) := by
    intro n_3
    induction n_3 with
    | zero => intro v_1 ls hf; exact (lq1_0 hf).elim
    | succ n_3 ih =>
      have ih_3 := ih
      intro v_1 ls hf hl
      have hf := lq1_s hf
      unfold bX7_runEnd_3 at hf
      refine lv_iload hx hb dX7_runEnd_3 (lv_at hl 3 rfl) ?_
      refine lv_aload_n hx hb dX7_runEnd_5 rfl (lv_at hl 0 rfl) ?_
      refine va_get (D := D) (ci := 6) (v := .int a0_size) (C := RX7) (T := TX7) (N := 5) hx hb hts in_X7 hown hK hP 0 rfl rfl 1 (by decide) kf_15 (fun _ h9 => h9) rfl dX7_runEnd_6 ?_
      refine lv_icmp_ge (tgt := 43) hx hb dX7_runEnd_9 (by decide) (fun c_3 => ?_) (fun c_3 => ?_)
      · have hf := it_t c_3 hf
        refine lv_aload_n hx hb dX7_runEnd_43 rfl (lv_at hl 0 rfl) ?_
        refine va_get (D := D) (ci := 6) (v := .int a0_size) (C := RX7) (T := TX7) (N := 5) hx hb hts in_X7 hown hK hP 0 rfl rfl 1 (by decide) kf_15 (fun _ h9 => h9) rfl dX7_runEnd_44 ?_
        subst hQQ
        exact W.iret hx hb hr (fun t ht hW => ⟨_, rfl, hf, ht⟩) (fun _ h => absurd h List.not_mem_nil) dX7_runEnd_47
      · have hf := it_f c_3 hf
        refine lv_aload_n hx hb dX7_runEnd_12 rfl (lv_at hl 0 rfl) ?_
        refine va_get (D := D) (ci := 6) (v := .ref q_a0_bytes) (C := RX7) (T := TX7) (N := 5) hx hb hts in_X7 hown hK hP 0 rfl rfl 0 (by decide) kf_9 (fun _ h9 => h9) rfl dX7_runEnd_13 ?_
        refine lv_iload hx hb dX7_runEnd_16 (lv_at hl 3 rfl) ?_
        refine va_iald hx hb hK hP 1 0 rfl rfl hf.1 dX7_runEnd_18 ?_
        have hf := hf.2
        refine lv_iload_n hx hb dX7_runEnd_19 rfl (lv_at hl 1 rfl) ?_
        refine lv_icmp_lt (tgt := 34) hx hb dX7_runEnd_20 (by decide) (fun c_4 => ?_) (fun c_4 => ?_)
        · have hf := it_t c_4 hf
          refine lv_iload hx hb dX7_runEnd_34 (lv_at hl 3 rfl) ?_
          subst hQQ
          exact W.iret hx hb hr (fun t ht hW => ⟨_, rfl, hf, ht⟩) (fun _ h => absurd h List.not_mem_nil) dX7_runEnd_36
        · have hf := it_f c_4 hf
          refine lv_aload_n hx hb dX7_runEnd_23 rfl (lv_at hl 0 rfl) ?_
          refine va_get (D := D) (ci := 6) (v := .ref q_a0_bytes) (C := RX7) (T := TX7) (N := 5) hx hb hts in_X7 hown hK hP 0 rfl rfl 0 (by decide) kf_9 (fun _ h9 => h9) rfl dX7_runEnd_24 ?_
          refine lv_iload hx hb dX7_runEnd_27 (lv_at hl 3 rfl) ?_
          refine va_iald hx hb hK hP 1 0 rfl rfl hf.1 dX7_runEnd_29 ?_
          have hf := hf.2
          refine lv_iload_n hx hb dX7_runEnd_30 rfl (lv_at hl 2 rfl) ?_
          refine lv_icmp_le (tgt := 37) hx hb dX7_runEnd_31 (by decide) (fun c_5 => ?_) (fun c_5 => ?_)
          · have hf := it_t c_5 hf
            refine lv_iinc (v := v_1 + 1) (lv' := [(4, .int (v_1 + 1)), (0, .ref q_a0), (2, .int x2), (3, .int x3)]) hx hb dX7_runEnd_37 hl (k := 3) rfl rfl (by decide) rfl (fun ls hl => ?_)
            refine lv_goto (tgt := 3) hx hb dX7_runEnd_40 (by decide) ?_
            exact ih (v_1 + 1) ls hf (lv_sub hl [1, 2, 3, 0] rfl)
          · have hf := it_f c_5 hf
            refine lv_iload hx hb dX7_runEnd_34 (lv_at hl 3 rfl) ?_
            subst hQQ
            exact W.iret hx hb hr (fun t ht hW => ⟨_, rfl, hf, ht⟩) (fun _ h => absurd h List.not_mem_nil) dX7_runEnd_36
  exact hlp_3 1000 x1 ls hf (lv_sub hl [1, 3, 4, 0] rfl)
def p_X7_step (a0_bytes : Nat → Int32) (a0_size : Int32) (a0_sort : Int32) (a0_start : Int32) (a0_behind : Int32) (Q : Int32 → Int32 → Int32 → Prop) : Prop :=
  p_X7_runEnd a0_bytes a0_size a0_behind 32 32 (fun r_1 => if r_1 < a0_size then (vp_in r_1 150 ∧ (p_X8_within (a0_bytes r_1.toNatClampNeg) 97 122 (fun r_3 => if r_3 = 0 then (vp_in r_1 150 ∧ (p_X8_within (a0_bytes r_1.toNatClampNeg) 48 57 (fun r_5 => if r_5 = 0 then (vp_in r_1 150 ∧ (if (a0_bytes r_1.toNatClampNeg) = 59 then (Q 3 r_1 (r_1 + 1)) else (Q 4 r_1 (r_1 + 1)))) else (p_X7_runEnd a0_bytes a0_size r_1 48 57 (fun r_8 => if 2 < (r_8 - r_1) then (Q 4 r_1 r_8) else (Q 2 r_1 r_8)))))) else (p_X7_runEnd a0_bytes a0_size r_1 97 122 (fun r_10 => Q 1 r_1 r_10))))) else (Q 0 r_1 r_1))
def rmX7_step : Room := { frames := 1, cells := 0, slots := 0, locals := 24 }
set_option maxHeartbeats 4000000 in
set_option maxRecDepth 100000 in
theorem c_X7_step (l : Launch) (D : va_G) (cI cZ cO : ClassId) (q_a0 q_a0_bytes : Nat) (a0_size : Int32) (a0_sort : Int32) (a0_start : Int32) (a0_behind : Int32) (a0_bytes : Nat → Int32) (sz : Nat) (Q : Int32 → Int32 → Int32 → Prop) (hf : p_X7_step a0_bytes a0_size a0_sort a0_start a0_behind Q) : Met l yX7_step wsX7_step rmX7_step (va_Pc [.ref q_a0] (fun U => U.heap.size = sz ∧ va_P D vwCl [(q_a0, .inr (6, [.ref q_a0_bytes, .int a0_size, .int a0_sort, .int a0_start, .int a0_behind])), (q_a0_bytes, .inl (cI, 150, .inl a0_bytes))] U.heap ∧ XK D cI cZ cO U ∧ va_D (fun _ => True) [(q_a0, .inr (6, [.ref q_a0_bytes, .int a0_size, .int a0_sort, .int a0_start, .int a0_behind])), (q_a0_bytes, .inl (cI, 150, .inl a0_bytes))])) (va_Qv (fun (u : Int32 × Int32 × Int32) => Q u.1 u.2.1 u.2.2) (fun (u : Int32 × Int32 × Int32) t => va_P D vwCl [(q_a0, .inr (6, [.ref q_a0_bytes, .int a0_size, .int u.1, .int u.2.1, .int u.2.2])), (q_a0_bytes, .inl (cI, 150, .inl a0_bytes))] t.heap ∧ va_D (va_A [(q_a0, .inr (6, [.ref q_a0_bytes, .int a0_size, .int a0_sort, .int a0_start, .int a0_behind])), (q_a0_bytes, .inl (cI, 150, .inl a0_bytes))] sz) [(q_a0, .inr (6, [.ref q_a0_bytes, .int a0_size, .int u.1, .int u.2.1, .int u.2.2])), (q_a0_bytes, .inl (cI, 150, .inl a0_bytes))]) (va_A [(q_a0, .inr (6, [.ref q_a0_bytes, .int a0_size, .int a0_sort, .int a0_start, .int a0_behind])), (q_a0_bytes, .inl (cI, 150, .inl a0_bytes))] sz)) 0 0 (va_A [(q_a0, .inr (6, [.ref q_a0_bytes, .int a0_size, .int a0_sort, .int a0_start, .int a0_behind])), (q_a0_bytes, .inl (cI, 150, .inl a0_bytes))] sz) := by
  refine Met.ofW (cc := cX7_step) (maxL := 1) (ret := none) (by decide) rfl ?_
  intro p e s m args below meth c s₁ B hml hv
  obtain ⟨rfl, hsz, hP, hX, hD0⟩ := hv
  have hK := hX.1
  have hx := B.exec
  have hb := B.bytes
  have hr := B.returns
  have hts := atoms_spec (ws := wsX7_step) B.pre
  have hown : s.vm.findClass RX7 = some m.cls := findClass_of_methodNamed B.named
  have hlocks := B.notSynchronized
  have in_X7 : ∀ w ∈ wsX70, w ∈ wsX7_step := fun _ h => List.mem_cons_of_mem _ (List.mem_append_right _ h)
  have kf_25 := hts (.fieldLink RX7 25 "LeftCrest$Text" "behind" "I") (by decide +kernel)
  have kf_22 := hts (.fieldLink RX7 22 "LeftCrest$Text" "start" "I") (by decide +kernel)
  have kf_15 := hts (.fieldLink RX7 15 "LeftCrest$Text" "size" "I") (by decide +kernel)
  have kf_9 := hts (.fieldLink RX7 9 "LeftCrest$Text" "bytes" "[I") (by decide +kernel)
  have ki_X8 := hts (.initialized RX8) (by decide +kernel)
  have ks_X8_within := hts (.static yX8_within) (by decide +kernel)
  have kf_19 := hts (.fieldLink RX7 19 "LeftCrest$Text" "sort" "I") (by decide +kernel)
  subst hsz
  have hD := hD0.self (sz := s.heap.size)
  generalize hAe : va_A [(q_a0, .inr (6, [.ref q_a0_bytes, .int a0_size, .int a0_sort, .int a0_start, .int a0_behind])), (q_a0_bytes, .inl (cI, 150, .inl a0_bytes))] s.heap.size = A at hD ⊢
  have hA : ∀ q : Nat, s.heap.size ≤ q → A q := fun q h => by rw [← hAe]; exact Or.inr h
  have hS : va_S A s.heap s.heap [] := va_S.rf
  have hP : va_P D vwCl [(q_a0, .inr (6, [.ref q_a0_bytes, .int a0_size, .int a0_sort, .int a0_start, .int a0_behind])), (q_a0_bytes, .inl (cI, 150, .inl a0_bytes))] s.heap := hP
  generalize hQQ : MQ below _ _ s _ _ _ = QQ
  have hl := lv_entry ([.ref q_a0]) (n := 1) (Nat.le_of_ble_eq_true rfl)
  rw [lg_entry_eq]
  generalize (lg_sl ([.ref q_a0]) ++ List.replicate (1 - (lg_sl ([.ref q_a0])).length) Slot.unset).toArray = ls at hl ⊢
  have hl : lv_has ls 1 [(0, .ref q_a0)] := hl
  unfold p_X7_step at hf
  refine lv_aload_n hx hb dX7_step_0 rfl (lv_at hl 0 rfl) ?_
  refine lv_aload_n hx hb dX7_step_1 rfl (lv_at hl 0 rfl) ?_
  refine lv_aload_n hx hb dX7_step_2 rfl (lv_at hl 0 rfl) ?_
  refine va_get (D := D) (ci := 6) (v := .int a0_behind) (C := RX7) (T := TX7) (N := 5) hx hb hts in_X7 hown hK hP 0 rfl rfl 4 (by decide) kf_25 (fun _ h9 => h9) rfl dX7_step_3 ?_
  refine lv_bipush (v := 32) hx hb dX7_step_6 (by decide) ?_
  refine lv_bipush (v := 32) hx hb dX7_step_8 (by decide) ?_
  refine ya_csi (va_runV (As := [.int a0_behind, .int 32, .int 32]) (rest := [.ref q_a0]) ⟨hx, hb, hml, hown, hts⟩ (c_X7_runEnd l D cI cZ cO q_a0 q_a0_bytes a0_size a0_sort a0_start a0_behind a0_bytes a0_behind 32 32 _ hf) (cwV 3 hts gX7_step_X7_runEnd rfl rfl rfl (by decide +kernel) ⟨Nat.le_of_ble_eq_true rfl, Nat.le_of_ble_eq_true rfl⟩) (pv_ro (ci := 6) (q0 := 0) (hP.sub [0, 1] rfl) hX rfl rfl) rfl rfl hl.1 rfl (lv_room (Nat.le_of_ble_eq_true rfl)) dX7_step_10 ⟨Nat.zero_le _, Nat.zero_le _⟩) (fun r_1 hf => ?_)
  refine va_put (D := D) (ci := 6) (v := .int r_1) (ty := .int) (C := RX7) (T := TX7) (N := 5) hx hb hts in_X7 tyX7 tyX7_ok nmX7 hown hK hP hD hS 0 rfl rfl 3 (by decide) kf_22 (fun _ h9 => h9) rfl (by decide +kernel) rfl rfl (Nat.le_of_ble_eq_true rfl) dX7_step_13 (fun H locs hP hD hS => ?_)
  have hP : va_P D vwCl [(q_a0, .inr (6, [.ref q_a0_bytes, .int a0_size, .int a0_sort, .int r_1, .int a0_behind])), (q_a0_bytes, .inl (cI, 150, .inl a0_bytes))] H := hP
  have hD : va_D A [(q_a0, .inr (6, [.ref q_a0_bytes, .int a0_size, .int a0_sort, .int r_1, .int a0_behind])), (q_a0_bytes, .inl (cI, 150, .inl a0_bytes))] := hD
  refine lv_aload_n hx hb dX7_step_16 rfl (lv_at hl 0 rfl) ?_
  refine lv_aload_n hx hb dX7_step_17 rfl (lv_at hl 0 rfl) ?_
  refine va_get (D := D) (ci := 6) (v := .int r_1) (C := RX7) (T := TX7) (N := 5) hx hb hts in_X7 hown hK hP 0 rfl rfl 3 (by decide) kf_22 (fun _ h9 => h9) rfl dX7_step_18 ?_
  refine lv_iconst (v := 1) hx hb dX7_step_21 (by decide) ?_
  refine lv_iadd hx hb dX7_step_22 ?_
  refine va_put (D := D) (ci := 6) (v := .int (r_1 + 1)) (ty := .int) (C := RX7) (T := TX7) (N := 5) hx hb hts in_X7 tyX7 tyX7_ok nmX7 hown hK hP hD hS 0 rfl rfl 4 (by decide) kf_25 (fun _ h9 => h9) rfl (by decide +kernel) rfl rfl (Nat.le_of_ble_eq_true rfl) dX7_step_23 (fun H locs hP hD hS => ?_)
  have hP : va_P D vwCl [(q_a0, .inr (6, [.ref q_a0_bytes, .int a0_size, .int a0_sort, .int r_1, .int (r_1 + 1)])), (q_a0_bytes, .inl (cI, 150, .inl a0_bytes))] H := hP
  have hD : va_D A [(q_a0, .inr (6, [.ref q_a0_bytes, .int a0_size, .int a0_sort, .int r_1, .int (r_1 + 1)])), (q_a0_bytes, .inl (cI, 150, .inl a0_bytes))] := hD
  refine lv_aload_n hx hb dX7_step_26 rfl (lv_at hl 0 rfl) ?_
  refine va_get (D := D) (ci := 6) (v := .int r_1) (C := RX7) (T := TX7) (N := 5) hx hb hts in_X7 hown hK hP 0 rfl rfl 3 (by decide) kf_22 (fun _ h9 => h9) rfl dX7_step_27 ?_
  refine lv_aload_n hx hb dX7_step_30 rfl (lv_at hl 0 rfl) ?_
  refine va_get (D := D) (ci := 6) (v := .int a0_size) (C := RX7) (T := TX7) (N := 5) hx hb hts in_X7 hown hK hP 0 rfl rfl 1 (by decide) kf_15 (fun _ h9 => h9) rfl dX7_step_31 ?_
  refine lv_icmp_lt (tgt := 53) hx hb dX7_step_34 (by decide) (fun c_2 => ?_) (fun c_2 => ?_)
  · have hf := it_t c_2 hf
    refine lv_aload_n hx hb dX7_step_53 rfl (lv_at hl 0 rfl) ?_
    refine va_get (D := D) (ci := 6) (v := .ref q_a0_bytes) (C := RX7) (T := TX7) (N := 5) hx hb hts in_X7 hown hK hP 0 rfl rfl 0 (by decide) kf_9 (fun _ h9 => h9) rfl dX7_step_54 ?_
    refine lv_aload_n hx hb dX7_step_57 rfl (lv_at hl 0 rfl) ?_
    refine va_get (D := D) (ci := 6) (v := .int r_1) (C := RX7) (T := TX7) (N := 5) hx hb hts in_X7 hown hK hP 0 rfl rfl 3 (by decide) kf_22 (fun _ h9 => h9) rfl dX7_step_58 ?_
    refine va_iald hx hb hK hP 1 0 rfl rfl hf.1 dX7_step_61 ?_
    have hf := hf.2
    refine lv_bipush (v := 97) hx hb dX7_step_62 (by decide) ?_
    refine lv_bipush (v := 122) hx hb dX7_step_64 (by decide) ?_
    refine ya_csi (va_runSN (As := [.int (a0_bytes r_1.toNatClampNeg), .int 97, .int 122]) (rest := []) ⟨hx, hb, hml, hown, hts⟩ (c_X8_within l D cI cZ cO  (a0_bytes r_1.toNatClampNeg) 97 122 _ hf) (⟨va_cnB 3 hts gX7_step_X8_within_n104 rfl rfl rfl hX.n_X7_104 ki_X8 (by decide +kernel) ⟨Nat.le_of_ble_eq_true rfl, Nat.le_of_ble_eq_true rfl⟩, ks_X8_within, trivial⟩) (ps_ro va_P0 hX) rfl rfl hl.1 rfl (lv_room (Nat.le_of_ble_eq_true rfl)) dX7_step_66 ⟨Nat.zero_le _, Nat.zero_le _⟩) (fun r_3 hf => ?_)
    refine lv_if_eq (tgt := 96) hx hb dX7_step_69 (by decide) (fun c_4 => ?_) (fun c_4 => ?_)
    · have hf := it_t c_4 hf
      refine lv_aload_n hx hb dX7_step_96 rfl (lv_at hl 0 rfl) ?_
      refine va_get (D := D) (ci := 6) (v := .ref q_a0_bytes) (C := RX7) (T := TX7) (N := 5) hx hb hts in_X7 hown hK hP 0 rfl rfl 0 (by decide) kf_9 (fun _ h9 => h9) rfl dX7_step_97 ?_
      refine lv_aload_n hx hb dX7_step_100 rfl (lv_at hl 0 rfl) ?_
      refine va_get (D := D) (ci := 6) (v := .int r_1) (C := RX7) (T := TX7) (N := 5) hx hb hts in_X7 hown hK hP 0 rfl rfl 3 (by decide) kf_22 (fun _ h9 => h9) rfl dX7_step_101 ?_
      refine va_iald hx hb hK hP 1 0 rfl rfl hf.1 dX7_step_104 ?_
      have hf := hf.2
      refine lv_bipush (v := 48) hx hb dX7_step_105 (by decide) ?_
      refine lv_bipush (v := 57) hx hb dX7_step_107 (by decide) ?_
      refine ya_csi (va_runSN (As := [.int (a0_bytes r_1.toNatClampNeg), .int 48, .int 57]) (rest := []) ⟨hx, hb, hml, hown, hts⟩ (c_X8_within l D cI cZ cO  (a0_bytes r_1.toNatClampNeg) 48 57 _ hf) (⟨va_cnB 3 hts gX7_step_X8_within_n104 rfl rfl rfl hX.n_X7_104 ki_X8 (by decide +kernel) ⟨Nat.le_of_ble_eq_true rfl, Nat.le_of_ble_eq_true rfl⟩, ks_X8_within, trivial⟩) (ps_ro va_P0 hX) rfl rfl hl.1 rfl (lv_room (Nat.le_of_ble_eq_true rfl)) dX7_step_109 ⟨Nat.zero_le _, Nat.zero_le _⟩) (fun r_5 hf => ?_)
      refine lv_if_eq (tgt := 156) hx hb dX7_step_112 (by decide) (fun c_6 => ?_) (fun c_6 => ?_)
      · have hf := it_t c_6 hf
        refine lv_aload_n hx hb dX7_step_156 rfl (lv_at hl 0 rfl) ?_
        refine lv_aload_n hx hb dX7_step_157 rfl (lv_at hl 0 rfl) ?_
        refine va_get (D := D) (ci := 6) (v := .ref q_a0_bytes) (C := RX7) (T := TX7) (N := 5) hx hb hts in_X7 hown hK hP 0 rfl rfl 0 (by decide) kf_9 (fun _ h9 => h9) rfl dX7_step_158 ?_
        refine lv_aload_n hx hb dX7_step_161 rfl (lv_at hl 0 rfl) ?_
        refine va_get (D := D) (ci := 6) (v := .int r_1) (C := RX7) (T := TX7) (N := 5) hx hb hts in_X7 hown hK hP 0 rfl rfl 3 (by decide) kf_22 (fun _ h9 => h9) rfl dX7_step_162 ?_
        refine va_iald hx hb hK hP 1 0 rfl rfl hf.1 dX7_step_165 ?_
        have hf := hf.2
        refine lv_bipush (v := 59) hx hb dX7_step_166 (by decide) ?_
        refine lv_icmp_ne (tgt := 175) hx hb dX7_step_168 (by decide) (fun c_7 => ?_) (fun c_7 => ?_)
        · have hf := it_f c_7 hf
          refine lv_iconst (v := 4) hx hb dX7_step_175 (by decide) ?_
          refine va_put (D := D) (ci := 6) (v := .int 4) (ty := .int) (C := RX7) (T := TX7) (N := 5) hx hb hts in_X7 tyX7 tyX7_ok nmX7 hown hK hP hD hS 0 rfl rfl 2 (by decide) kf_19 (fun _ h9 => h9) rfl (by decide +kernel) rfl rfl (Nat.le_of_ble_eq_true rfl) dX7_step_176 (fun H locs hP hD hS => ?_)
          have hP : va_P D vwCl [(q_a0, .inr (6, [.ref q_a0_bytes, .int a0_size, .int 4, .int r_1, .int (r_1 + 1)])), (q_a0_bytes, .inl (cI, 150, .inl a0_bytes))] H := hP
          have hD : va_D A [(q_a0, .inr (6, [.ref q_a0_bytes, .int a0_size, .int 4, .int r_1, .int (r_1 + 1)])), (q_a0_bytes, .inl (cI, 150, .inl a0_bytes))] := hD
          subst hQQ
          have hP9 := hP.sub (ws' := [(q_a0, .inr (6, [.ref q_a0_bytes, .int a0_size, .int 4, .int r_1, .int (r_1 + 1)])), (q_a0_bytes, .inl (cI, 150, .inl a0_bytes))]) [0, 1] rfl
          have hD9 := hD.sub (ws' := [(q_a0, .inr (6, [.ref q_a0_bytes, .int a0_size, .int 4, .int r_1, .int (r_1 + 1)])), (q_a0_bytes, .inl (cI, 150, .inl a0_bytes))]) [0, 1] (by decide) rfl
          exact W.vret hx hb hr (fun t ht hW => ⟨⟨(4, r_1, r_1 + 1), rfl, hf, by rw [ht]; exact hP9, hD9⟩, hS.F ht⟩) hS.2.2 dX7_step_179
        · have hf := it_t c_7 hf
          refine lv_iconst (v := 3) hx hb dX7_step_171 (by decide) ?_
          refine lv_goto (tgt := 176) hx hb dX7_step_172 (by decide) ?_
          refine va_put (D := D) (ci := 6) (v := .int 3) (ty := .int) (C := RX7) (T := TX7) (N := 5) hx hb hts in_X7 tyX7 tyX7_ok nmX7 hown hK hP hD hS 0 rfl rfl 2 (by decide) kf_19 (fun _ h9 => h9) rfl (by decide +kernel) rfl rfl (Nat.le_of_ble_eq_true rfl) dX7_step_176 (fun H locs hP hD hS => ?_)
          have hP : va_P D vwCl [(q_a0, .inr (6, [.ref q_a0_bytes, .int a0_size, .int 3, .int r_1, .int (r_1 + 1)])), (q_a0_bytes, .inl (cI, 150, .inl a0_bytes))] H := hP
          have hD : va_D A [(q_a0, .inr (6, [.ref q_a0_bytes, .int a0_size, .int 3, .int r_1, .int (r_1 + 1)])), (q_a0_bytes, .inl (cI, 150, .inl a0_bytes))] := hD
          subst hQQ
          have hP9 := hP.sub (ws' := [(q_a0, .inr (6, [.ref q_a0_bytes, .int a0_size, .int 3, .int r_1, .int (r_1 + 1)])), (q_a0_bytes, .inl (cI, 150, .inl a0_bytes))]) [0, 1] rfl
          have hD9 := hD.sub (ws' := [(q_a0, .inr (6, [.ref q_a0_bytes, .int a0_size, .int 3, .int r_1, .int (r_1 + 1)])), (q_a0_bytes, .inl (cI, 150, .inl a0_bytes))]) [0, 1] (by decide) rfl
          exact W.vret hx hb hr (fun t ht hW => ⟨⟨(3, r_1, r_1 + 1), rfl, hf, by rw [ht]; exact hP9, hD9⟩, hS.F ht⟩) hS.2.2 dX7_step_179
      · have hf := it_f c_6 hf
        refine lv_aload_n hx hb dX7_step_115 rfl (lv_at hl 0 rfl) ?_
        refine lv_aload_n hx hb dX7_step_116 rfl (lv_at hl 0 rfl) ?_
        refine lv_aload_n hx hb dX7_step_117 rfl (lv_at hl 0 rfl) ?_
        refine va_get (D := D) (ci := 6) (v := .int r_1) (C := RX7) (T := TX7) (N := 5) hx hb hts in_X7 hown hK hP 0 rfl rfl 3 (by decide) kf_22 (fun _ h9 => h9) rfl dX7_step_118 ?_
        refine lv_bipush (v := 48) hx hb dX7_step_121 (by decide) ?_
        refine lv_bipush (v := 57) hx hb dX7_step_123 (by decide) ?_
        refine ya_csi (va_runV (As := [.int r_1, .int 48, .int 57]) (rest := [.ref q_a0]) ⟨hx, hb, hml, hown, hts⟩ (c_X7_runEnd l D cI cZ cO q_a0 q_a0_bytes a0_size a0_sort r_1 (r_1 + 1) a0_bytes r_1 48 57 _ hf) (cwV 3 hts gX7_step_X7_runEnd rfl rfl rfl (by decide +kernel) ⟨Nat.le_of_ble_eq_true rfl, Nat.le_of_ble_eq_true rfl⟩) (pv_ro (ci := 6) (q0 := 0) (hP.sub [0, 1] rfl) hX rfl rfl) rfl rfl hl.1 rfl (lv_room (Nat.le_of_ble_eq_true rfl)) dX7_step_125 ⟨Nat.zero_le _, Nat.zero_le _⟩) (fun r_8 hf => ?_)
        refine va_put (D := D) (ci := 6) (v := .int r_8) (ty := .int) (C := RX7) (T := TX7) (N := 5) hx hb hts in_X7 tyX7 tyX7_ok nmX7 hown hK hP hD hS 0 rfl rfl 4 (by decide) kf_25 (fun _ h9 => h9) rfl (by decide +kernel) rfl rfl (Nat.le_of_ble_eq_true rfl) dX7_step_128 (fun H locs hP hD hS => ?_)
        have hP : va_P D vwCl [(q_a0, .inr (6, [.ref q_a0_bytes, .int a0_size, .int a0_sort, .int r_1, .int r_8])), (q_a0_bytes, .inl (cI, 150, .inl a0_bytes))] H := hP
        have hD : va_D A [(q_a0, .inr (6, [.ref q_a0_bytes, .int a0_size, .int a0_sort, .int r_1, .int r_8])), (q_a0_bytes, .inl (cI, 150, .inl a0_bytes))] := hD
        refine lv_aload_n hx hb dX7_step_131 rfl (lv_at hl 0 rfl) ?_
        refine lv_aload_n hx hb dX7_step_132 rfl (lv_at hl 0 rfl) ?_
        refine va_get (D := D) (ci := 6) (v := .int r_8) (C := RX7) (T := TX7) (N := 5) hx hb hts in_X7 hown hK hP 0 rfl rfl 4 (by decide) kf_25 (fun _ h9 => h9) rfl dX7_step_133 ?_
        refine lv_aload_n hx hb dX7_step_136 rfl (lv_at hl 0 rfl) ?_
        refine va_get (D := D) (ci := 6) (v := .int r_1) (C := RX7) (T := TX7) (N := 5) hx hb hts in_X7 hown hK hP 0 rfl rfl 3 (by decide) kf_22 (fun _ h9 => h9) rfl dX7_step_137 ?_
        refine lv_isub hx hb dX7_step_140 ?_
        refine lv_iconst (v := 2) hx hb dX7_step_141 (by decide) ?_
        refine lv_icmp_gt (tgt := 149) hx hb dX7_step_142 (by decide) (fun c_9 => ?_) (fun c_9 => ?_)
        · have hf := it_t c_9 hf
          refine lv_iconst (v := 4) hx hb dX7_step_149 (by decide) ?_
          refine va_put (D := D) (ci := 6) (v := .int 4) (ty := .int) (C := RX7) (T := TX7) (N := 5) hx hb hts in_X7 tyX7 tyX7_ok nmX7 hown hK hP hD hS 0 rfl rfl 2 (by decide) kf_19 (fun _ h9 => h9) rfl (by decide +kernel) rfl rfl (Nat.le_of_ble_eq_true rfl) dX7_step_150 (fun H locs hP hD hS => ?_)
          have hP : va_P D vwCl [(q_a0, .inr (6, [.ref q_a0_bytes, .int a0_size, .int 4, .int r_1, .int r_8])), (q_a0_bytes, .inl (cI, 150, .inl a0_bytes))] H := hP
          have hD : va_D A [(q_a0, .inr (6, [.ref q_a0_bytes, .int a0_size, .int 4, .int r_1, .int r_8])), (q_a0_bytes, .inl (cI, 150, .inl a0_bytes))] := hD
          refine lv_goto (tgt := 179) hx hb dX7_step_153 (by decide) ?_
          subst hQQ
          have hP9 := hP.sub (ws' := [(q_a0, .inr (6, [.ref q_a0_bytes, .int a0_size, .int 4, .int r_1, .int r_8])), (q_a0_bytes, .inl (cI, 150, .inl a0_bytes))]) [0, 1] rfl
          have hD9 := hD.sub (ws' := [(q_a0, .inr (6, [.ref q_a0_bytes, .int a0_size, .int 4, .int r_1, .int r_8])), (q_a0_bytes, .inl (cI, 150, .inl a0_bytes))]) [0, 1] (by decide) rfl
          exact W.vret hx hb hr (fun t ht hW => ⟨⟨(4, r_1, r_8), rfl, hf, by rw [ht]; exact hP9, hD9⟩, hS.F ht⟩) hS.2.2 dX7_step_179
        · have hf := it_f c_9 hf
          refine lv_iconst (v := 2) hx hb dX7_step_145 (by decide) ?_
          refine lv_goto (tgt := 150) hx hb dX7_step_146 (by decide) ?_
          refine va_put (D := D) (ci := 6) (v := .int 2) (ty := .int) (C := RX7) (T := TX7) (N := 5) hx hb hts in_X7 tyX7 tyX7_ok nmX7 hown hK hP hD hS 0 rfl rfl 2 (by decide) kf_19 (fun _ h9 => h9) rfl (by decide +kernel) rfl rfl (Nat.le_of_ble_eq_true rfl) dX7_step_150 (fun H locs hP hD hS => ?_)
          have hP : va_P D vwCl [(q_a0, .inr (6, [.ref q_a0_bytes, .int a0_size, .int 2, .int r_1, .int r_8])), (q_a0_bytes, .inl (cI, 150, .inl a0_bytes))] H := hP
          have hD : va_D A [(q_a0, .inr (6, [.ref q_a0_bytes, .int a0_size, .int 2, .int r_1, .int r_8])), (q_a0_bytes, .inl (cI, 150, .inl a0_bytes))] := hD
          refine lv_goto (tgt := 179) hx hb dX7_step_153 (by decide) ?_
          subst hQQ
          have hP9 := hP.sub (ws' := [(q_a0, .inr (6, [.ref q_a0_bytes, .int a0_size, .int 2, .int r_1, .int r_8])), (q_a0_bytes, .inl (cI, 150, .inl a0_bytes))]) [0, 1] rfl
          have hD9 := hD.sub (ws' := [(q_a0, .inr (6, [.ref q_a0_bytes, .int a0_size, .int 2, .int r_1, .int r_8])), (q_a0_bytes, .inl (cI, 150, .inl a0_bytes))]) [0, 1] (by decide) rfl
          exact W.vret hx hb hr (fun t ht hW => ⟨⟨(2, r_1, r_8), rfl, hf, by rw [ht]; exact hP9, hD9⟩, hS.F ht⟩) hS.2.2 dX7_step_179
    · have hf := it_f c_4 hf
      refine lv_aload_n hx hb dX7_step_72 rfl (lv_at hl 0 rfl) ?_
      refine lv_iconst (v := 1) hx hb dX7_step_73 (by decide) ?_
      refine va_put (D := D) (ci := 6) (v := .int 1) (ty := .int) (C := RX7) (T := TX7) (N := 5) hx hb hts in_X7 tyX7 tyX7_ok nmX7 hown hK hP hD hS 0 rfl rfl 2 (by decide) kf_19 (fun _ h9 => h9) rfl (by decide +kernel) rfl rfl (Nat.le_of_ble_eq_true rfl) dX7_step_74 (fun H locs hP hD hS => ?_)
      have hP : va_P D vwCl [(q_a0, .inr (6, [.ref q_a0_bytes, .int a0_size, .int 1, .int r_1, .int (r_1 + 1)])), (q_a0_bytes, .inl (cI, 150, .inl a0_bytes))] H := hP
      have hD : va_D A [(q_a0, .inr (6, [.ref q_a0_bytes, .int a0_size, .int 1, .int r_1, .int (r_1 + 1)])), (q_a0_bytes, .inl (cI, 150, .inl a0_bytes))] := hD
      refine lv_aload_n hx hb dX7_step_77 rfl (lv_at hl 0 rfl) ?_
      refine lv_aload_n hx hb dX7_step_78 rfl (lv_at hl 0 rfl) ?_
      refine lv_aload_n hx hb dX7_step_79 rfl (lv_at hl 0 rfl) ?_
      refine va_get (D := D) (ci := 6) (v := .int r_1) (C := RX7) (T := TX7) (N := 5) hx hb hts in_X7 hown hK hP 0 rfl rfl 3 (by decide) kf_22 (fun _ h9 => h9) rfl dX7_step_80 ?_
      refine lv_bipush (v := 97) hx hb dX7_step_83 (by decide) ?_
      refine lv_bipush (v := 122) hx hb dX7_step_85 (by decide) ?_
      refine ya_csi (va_runV (As := [.int r_1, .int 97, .int 122]) (rest := [.ref q_a0]) ⟨hx, hb, hml, hown, hts⟩ (c_X7_runEnd l D cI cZ cO q_a0 q_a0_bytes a0_size 1 r_1 (r_1 + 1) a0_bytes r_1 97 122 _ hf) (cwV 3 hts gX7_step_X7_runEnd rfl rfl rfl (by decide +kernel) ⟨Nat.le_of_ble_eq_true rfl, Nat.le_of_ble_eq_true rfl⟩) (pv_ro (ci := 6) (q0 := 0) (hP.sub [0, 1] rfl) hX rfl rfl) rfl rfl hl.1 rfl (lv_room (Nat.le_of_ble_eq_true rfl)) dX7_step_87 ⟨Nat.zero_le _, Nat.zero_le _⟩) (fun r_10 hf => ?_)
      refine va_put (D := D) (ci := 6) (v := .int r_10) (ty := .int) (C := RX7) (T := TX7) (N := 5) hx hb hts in_X7 tyX7 tyX7_ok nmX7 hown hK hP hD hS 0 rfl rfl 4 (by decide) kf_25 (fun _ h9 => h9) rfl (by decide +kernel) rfl rfl (Nat.le_of_ble_eq_true rfl) dX7_step_90 (fun H locs hP hD hS => ?_)
      have hP : va_P D vwCl [(q_a0, .inr (6, [.ref q_a0_bytes, .int a0_size, .int 1, .int r_1, .int r_10])), (q_a0_bytes, .inl (cI, 150, .inl a0_bytes))] H := hP
      have hD : va_D A [(q_a0, .inr (6, [.ref q_a0_bytes, .int a0_size, .int 1, .int r_1, .int r_10])), (q_a0_bytes, .inl (cI, 150, .inl a0_bytes))] := hD
      refine lv_goto (tgt := 179) hx hb dX7_step_93 (by decide) ?_
      subst hQQ
      have hP9 := hP.sub (ws' := [(q_a0, .inr (6, [.ref q_a0_bytes, .int a0_size, .int 1, .int r_1, .int r_10])), (q_a0_bytes, .inl (cI, 150, .inl a0_bytes))]) [0, 1] rfl
      have hD9 := hD.sub (ws' := [(q_a0, .inr (6, [.ref q_a0_bytes, .int a0_size, .int 1, .int r_1, .int r_10])), (q_a0_bytes, .inl (cI, 150, .inl a0_bytes))]) [0, 1] (by decide) rfl
      exact W.vret hx hb hr (fun t ht hW => ⟨⟨(1, r_1, r_10), rfl, hf, by rw [ht]; exact hP9, hD9⟩, hS.F ht⟩) hS.2.2 dX7_step_179
  · have hf := it_f c_2 hf
    refine lv_aload_n hx hb dX7_step_37 rfl (lv_at hl 0 rfl) ?_
    refine lv_iconst (v := 0) hx hb dX7_step_38 (by decide) ?_
    refine va_put (D := D) (ci := 6) (v := .int 0) (ty := .int) (C := RX7) (T := TX7) (N := 5) hx hb hts in_X7 tyX7 tyX7_ok nmX7 hown hK hP hD hS 0 rfl rfl 2 (by decide) kf_19 (fun _ h9 => h9) rfl (by decide +kernel) rfl rfl (Nat.le_of_ble_eq_true rfl) dX7_step_39 (fun H locs hP hD hS => ?_)
    have hP : va_P D vwCl [(q_a0, .inr (6, [.ref q_a0_bytes, .int a0_size, .int 0, .int r_1, .int (r_1 + 1)])), (q_a0_bytes, .inl (cI, 150, .inl a0_bytes))] H := hP
    have hD : va_D A [(q_a0, .inr (6, [.ref q_a0_bytes, .int a0_size, .int 0, .int r_1, .int (r_1 + 1)])), (q_a0_bytes, .inl (cI, 150, .inl a0_bytes))] := hD
    refine lv_aload_n hx hb dX7_step_42 rfl (lv_at hl 0 rfl) ?_
    refine lv_aload_n hx hb dX7_step_43 rfl (lv_at hl 0 rfl) ?_
    refine va_get (D := D) (ci := 6) (v := .int r_1) (C := RX7) (T := TX7) (N := 5) hx hb hts in_X7 hown hK hP 0 rfl rfl 3 (by decide) kf_22 (fun _ h9 => h9) rfl dX7_step_44 ?_
    refine va_put (D := D) (ci := 6) (v := .int r_1) (ty := .int) (C := RX7) (T := TX7) (N := 5) hx hb hts in_X7 tyX7 tyX7_ok nmX7 hown hK hP hD hS 0 rfl rfl 4 (by decide) kf_25 (fun _ h9 => h9) rfl (by decide +kernel) rfl rfl (Nat.le_of_ble_eq_true rfl) dX7_step_47 (fun H locs hP hD hS => ?_)
    have hP : va_P D vwCl [(q_a0, .inr (6, [.ref q_a0_bytes, .int a0_size, .int 0, .int r_1, .int r_1])), (q_a0_bytes, .inl (cI, 150, .inl a0_bytes))] H := hP
    have hD : va_D A [(q_a0, .inr (6, [.ref q_a0_bytes, .int a0_size, .int 0, .int r_1, .int r_1])), (q_a0_bytes, .inl (cI, 150, .inl a0_bytes))] := hD
    refine lv_goto (tgt := 179) hx hb dX7_step_50 (by decide) ?_
    subst hQQ
    have hP9 := hP.sub (ws' := [(q_a0, .inr (6, [.ref q_a0_bytes, .int a0_size, .int 0, .int r_1, .int r_1])), (q_a0_bytes, .inl (cI, 150, .inl a0_bytes))]) [0, 1] rfl
    have hD9 := hD.sub (ws' := [(q_a0, .inr (6, [.ref q_a0_bytes, .int a0_size, .int 0, .int r_1, .int r_1])), (q_a0_bytes, .inl (cI, 150, .inl a0_bytes))]) [0, 1] (by decide) rfl
    exact W.vret hx hb hr (fun t ht hW => ⟨⟨(0, r_1, r_1), rfl, hf, by rw [ht]; exact hP9, hD9⟩, hS.F ht⟩) hS.2.2 dX7_step_179
def jX7_number_49 (a0_bytes : Nat → Int32) (a0_size : Int32) (a0_sort : Int32) (a0_start : Int32) (a0_behind : Int32) (x1 : Int32) (x2 : Int32) (Q : Int32 → Int32 → Int32 → Int32 → Prop) (v_1 : Int32) : Prop :=
  p_X8_within v_1 x1 x2 (fun r_2 => if r_2 = 0 then (Q (-1) a0_sort a0_start a0_behind) else (p_X7_step a0_bytes a0_size a0_sort a0_start a0_behind (fun u_4 u_5 u_6 => Q v_1 u_4 u_5 u_6)))
def bX7_number_18 (a0_bytes : Nat → Int32) (a0_size : Int32) (a0_sort : Int32) (a0_start : Int32) (a0_behind : Int32) (x1 : Int32) (x2 : Int32) (Q : Int32 → Int32 → Int32 → Int32 → Prop) (k_10 : Int32 → Int32 → Prop) (v_8 : Int32) (v_9 : Int32) : Prop :=
  if a0_behind ≤ v_9 then (jX7_number_49 a0_bytes a0_size a0_sort a0_start a0_behind x1 x2 Q v_8) else (vp_in v_9 150 ∧ (k_10 (((10 * v_8) + (a0_bytes v_9.toNatClampNeg)) - 48) (v_9 + 1)))
def p_X7_number (a0_bytes : Nat → Int32) (a0_size : Int32) (a0_sort : Int32) (a0_start : Int32) (a0_behind : Int32) (x1 : Int32) (x2 : Int32) (Q : Int32 → Int32 → Int32 → Int32 → Prop) : Prop :=
  if a0_sort = 2 then (lq2 (bX7_number_18 a0_bytes a0_size a0_sort a0_start a0_behind x1 x2 Q) 1000 0 a0_start) else (Q (-1) a0_sort a0_start a0_behind)
def rmX7_number : Room := { frames := 2, cells := 0, slots := 0, locals := 44 }
set_option maxHeartbeats 4000000 in
set_option maxRecDepth 100000 in
theorem c_X7_number (l : Launch) (D : va_G) (cI cZ cO : ClassId) (q_a0 q_a0_bytes : Nat) (a0_size : Int32) (a0_sort : Int32) (a0_start : Int32) (a0_behind : Int32) (a0_bytes : Nat → Int32) (sz : Nat) (x1 : Int32) (x2 : Int32) (Q : Int32 → Int32 → Int32 → Int32 → Prop) (hf : p_X7_number a0_bytes a0_size a0_sort a0_start a0_behind x1 x2 Q) : Met l yX7_number wsX7_number rmX7_number (va_Pc [.ref q_a0, .int x1, .int x2] (fun U => U.heap.size = sz ∧ va_P D vwCl [(q_a0, .inr (6, [.ref q_a0_bytes, .int a0_size, .int a0_sort, .int a0_start, .int a0_behind])), (q_a0_bytes, .inl (cI, 150, .inl a0_bytes))] U.heap ∧ XK D cI cZ cO U ∧ va_D (fun _ => True) [(q_a0, .inr (6, [.ref q_a0_bytes, .int a0_size, .int a0_sort, .int a0_start, .int a0_behind])), (q_a0_bytes, .inl (cI, 150, .inl a0_bytes))])) (va_Qi (fun r (u : Int32 × Int32 × Int32) => Q r u.1 u.2.1 u.2.2) (fun (u : Int32 × Int32 × Int32) t => va_P D vwCl [(q_a0, .inr (6, [.ref q_a0_bytes, .int a0_size, .int u.1, .int u.2.1, .int u.2.2])), (q_a0_bytes, .inl (cI, 150, .inl a0_bytes))] t.heap ∧ va_D (va_A [(q_a0, .inr (6, [.ref q_a0_bytes, .int a0_size, .int a0_sort, .int a0_start, .int a0_behind])), (q_a0_bytes, .inl (cI, 150, .inl a0_bytes))] sz) [(q_a0, .inr (6, [.ref q_a0_bytes, .int a0_size, .int u.1, .int u.2.1, .int u.2.2])), (q_a0_bytes, .inl (cI, 150, .inl a0_bytes))]) (va_A [(q_a0, .inr (6, [.ref q_a0_bytes, .int a0_size, .int a0_sort, .int a0_start, .int a0_behind])), (q_a0_bytes, .inl (cI, 150, .inl a0_bytes))] sz)) 0 0 (va_A [(q_a0, .inr (6, [.ref q_a0_bytes, .int a0_size, .int a0_sort, .int a0_start, .int a0_behind])), (q_a0_bytes, .inl (cI, 150, .inl a0_bytes))] sz) := by
  refine Met.ofW (cc := cX7_number) (maxL := 5) (ret := (some .int)) (by decide) rfl ?_
  intro p e s m args below meth c s₁ B hml hv
  obtain ⟨rfl, hsz, hP, hX, hD0⟩ := hv
  have hK := hX.1
  have hx := B.exec
  have hb := B.bytes
  have hr := B.returns
  have hts := atoms_spec (ws := wsX7_number) B.pre
  have hown : s.vm.findClass RX7 = some m.cls := findClass_of_methodNamed B.named
  have hlocks := B.notSynchronized
  have in_X7 : ∀ w ∈ wsX70, w ∈ wsX7_number := fun _ h => List.mem_cons_of_mem _ (List.mem_append_right _ h)
  have ki_X8 := hts (.initialized RX8) (by decide +kernel)
  have ks_X8_within := hts (.static yX8_within) (by decide +kernel)
  have kf_19 := hts (.fieldLink RX7 19 "LeftCrest$Text" "sort" "I") (by decide +kernel)
  have kf_22 := hts (.fieldLink RX7 22 "LeftCrest$Text" "start" "I") (by decide +kernel)
  have kf_25 := hts (.fieldLink RX7 25 "LeftCrest$Text" "behind" "I") (by decide +kernel)
  have kf_9 := hts (.fieldLink RX7 9 "LeftCrest$Text" "bytes" "[I") (by decide +kernel)
  subst hsz
  have hD := hD0.self (sz := s.heap.size)
  generalize hAe : va_A [(q_a0, .inr (6, [.ref q_a0_bytes, .int a0_size, .int a0_sort, .int a0_start, .int a0_behind])), (q_a0_bytes, .inl (cI, 150, .inl a0_bytes))] s.heap.size = A at hD ⊢
  have hA : ∀ q : Nat, s.heap.size ≤ q → A q := fun q h => by rw [← hAe]; exact Or.inr h
  have hS : va_S A s.heap s.heap [] := va_S.rf
  have hP : va_P D vwCl [(q_a0, .inr (6, [.ref q_a0_bytes, .int a0_size, .int a0_sort, .int a0_start, .int a0_behind])), (q_a0_bytes, .inl (cI, 150, .inl a0_bytes))] s.heap := hP
  generalize hQQ : MQ below _ _ s _ _ _ = QQ
  have hl := lv_entry ([.ref q_a0, .int x1, .int x2]) (n := 5) (Nat.le_of_ble_eq_true rfl)
  rw [lg_entry_eq]
  generalize (lg_sl ([.ref q_a0, .int x1, .int x2]) ++ List.replicate (5 - (lg_sl ([.ref q_a0, .int x1, .int x2])).length) Slot.unset).toArray = ls at hl ⊢
  have hl : lv_has ls 5 [(0, .ref q_a0), (1, .int x1), (2, .int x2)] := hl
  have hj_49 : ∀ (v_1 : Int32) (H : Heap) (locs : List Loc), jX7_number_49 a0_bytes a0_size a0_sort a0_start a0_behind x1 x2 Q v_1 → va_P D vwCl [(q_a0, .inr (6, [.ref q_a0_bytes, .int a0_size, .int a0_sort, .int a0_start, .int a0_behind])), (q_a0_bytes, .inl (cI, 150, .inl a0_bytes))] H → va_D A [(q_a0, .inr (6, [.ref q_a0_bytes, .int a0_size, .int a0_sort, .int a0_start, .int a0_behind])), (q_a0_bytes, .inl (cI, 150, .inl a0_bytes))] → va_S A s.heap H locs → ∀ ls : Array Slot, lv_has ls 5 [(0, .ref q_a0), (1, .int x1), (2, .int x2), (3, .int v_1)] → W p l e (headSpec wsX7_number rmX7_number).room s m ([.ref q_a0, .int x1, .int x2] : List Value).toArray below meth c H locs 0 0 QQ (F0 m 49 ls []) := by
    intro v_1 H locs hf hP hD hS ls hl
    unfold jX7_number_49 at hf
    refine lv_iload_n hx hb dX7_number_49 rfl (lv_at hl 3 rfl) ?_
    refine lv_iload_n hx hb dX7_number_50 rfl (lv_at hl 1 rfl) ?_
    refine lv_iload_n hx hb dX7_number_51 rfl (lv_at hl 2 rfl) ?_
    refine ya_csi (va_runSN (As := [.int v_1, .int x1, .int x2]) (rest := []) ⟨hx, hb, hml, hown, hts⟩ (c_X8_within l D cI cZ cO  v_1 x1 x2 _ hf) (⟨va_cnB 3 hts gX7_number_X8_within_n104 rfl rfl rfl hX.n_X7_104 ki_X8 (by decide +kernel) ⟨Nat.le_of_ble_eq_true rfl, Nat.le_of_ble_eq_true rfl⟩, ks_X8_within, trivial⟩) (ps_ro va_P0 hX) rfl rfl hl.1 rfl (lv_room (Nat.le_of_ble_eq_true rfl)) dX7_number_52 ⟨Nat.zero_le _, Nat.zero_le _⟩) (fun r_2 hf => ?_)
    refine lv_if_ne (tgt := 60) hx hb dX7_number_55 (by decide) (fun c_3 => ?_) (fun c_3 => ?_)
    · have hf := it_f c_3 hf
      refine lv_aload_n hx hb dX7_number_60 rfl (lv_at hl 0 rfl) ?_
      have hPc := hP.sub (ws' := [(q_a0, .inr (6, [.ref q_a0_bytes, .int a0_size, .int a0_sort, .int a0_start, .int a0_behind])), (q_a0_bytes, .inl (cI, 150, .inl a0_bytes))]) [0, 1] rfl
      have hDc := hD.sub (ws' := [(q_a0, .inr (6, [.ref q_a0_bytes, .int a0_size, .int a0_sort, .int a0_start, .int a0_behind])), (q_a0_bytes, .inl (cI, 150, .inl a0_bytes))]) [0, 1] (by decide) rfl
      have hFc := va_free (wc := [(q_a0, .inr (6, [.ref q_a0_bytes, .int a0_size, .int a0_sort, .int a0_start, .int a0_behind])), (q_a0_bytes, .inl (cI, 150, .inl a0_bytes))]) hD hS hA [0, 1] rfl
      refine va_callv (va_runV (As := []) (rest := []) ⟨hx, hb, hml, hown, hts⟩ (c_X7_step l D cI cZ cO q_a0 q_a0_bytes a0_size a0_sort a0_start a0_behind a0_bytes H.size  _ hf) (cwV 0 hts gX7_number_X7_step rfl rfl rfl (by decide +kernel) ⟨Nat.le_of_ble_eq_true rfl, Nat.le_of_ble_eq_true rfl⟩) (pv_rw (ci := 6) (q0 := 0) hPc hDc hX rfl rfl) rfl rfl hl.1 rfl (lv_room (Nat.le_of_ble_eq_true rfl)) dX7_number_61 ⟨Nat.zero_le _, Nat.zero_le _⟩) hS (fun q _ h => hFc q h) hFc (fun u t H1 locs ht hvm hf hB hz1 hk1 hS => ?_)
      obtain ⟨u_4, u_5, u_6⟩ := u
      obtain ⟨hP1, hD1⟩ := hB
      rw [ht] at hP1
      clear hvm
      obtain ⟨hP, hD⟩ := va_join (wr := []) (w1 := [(q_a0, .inr (6, [.ref q_a0_bytes, .int a0_size, .int u_4, .int u_5, .int u_6])), (q_a0_bytes, .inl (cI, 150, .inl a0_bytes))]) hP hD [0, 1] [] rfl rfl (by decide) (by decide) hk1 hFc hP1 hD1
      clear hz1 hk1 hPc hDc hFc hP1 hD1
      generalize H1 = H at hP hS ⊢
      have hP : va_P D vwCl [(q_a0, .inr (6, [.ref q_a0_bytes, .int a0_size, .int u_4, .int u_5, .int u_6])), (q_a0_bytes, .inl (cI, 150, .inl a0_bytes))] H := hP
      have hD : va_D A [(q_a0, .inr (6, [.ref q_a0_bytes, .int a0_size, .int u_4, .int u_5, .int u_6])), (q_a0_bytes, .inl (cI, 150, .inl a0_bytes))] := hD
      refine lv_iload_n hx hb dX7_number_64 rfl (lv_at hl 3 rfl) ?_
      subst hQQ
      have hP9 := hP.sub (ws' := [(q_a0, .inr (6, [.ref q_a0_bytes, .int a0_size, .int u_4, .int u_5, .int u_6])), (q_a0_bytes, .inl (cI, 150, .inl a0_bytes))]) [0, 1] rfl
      have hD9 := hD.sub (ws' := [(q_a0, .inr (6, [.ref q_a0_bytes, .int a0_size, .int u_4, .int u_5, .int u_6])), (q_a0_bytes, .inl (cI, 150, .inl a0_bytes))]) [0, 1] (by decide) rfl
      exact W.iret hx hb hr (fun t ht hW => ⟨⟨v_1, (u_4, u_5, u_6), rfl, hf, by rw [ht]; exact hP9, hD9⟩, hS.F ht⟩) hS.2.2 dX7_number_65
    · have hf := it_t c_3 hf
      refine lv_iconst (v := (-1)) hx hb dX7_number_58 (by decide) ?_
      subst hQQ
      have hP9 := hP.sub (ws' := [(q_a0, .inr (6, [.ref q_a0_bytes, .int a0_size, .int a0_sort, .int a0_start, .int a0_behind])), (q_a0_bytes, .inl (cI, 150, .inl a0_bytes))]) [0, 1] rfl
      have hD9 := hD.sub (ws' := [(q_a0, .inr (6, [.ref q_a0_bytes, .int a0_size, .int a0_sort, .int a0_start, .int a0_behind])), (q_a0_bytes, .inl (cI, 150, .inl a0_bytes))]) [0, 1] (by decide) rfl
      exact W.iret hx hb hr (fun t ht hW => ⟨⟨(-1), (a0_sort, a0_start, a0_behind), rfl, hf, by rw [ht]; exact hP9, hD9⟩, hS.F ht⟩) hS.2.2 dX7_number_59
  unfold p_X7_number at hf
  refine lv_aload_n hx hb dX7_number_0 rfl (lv_at hl 0 rfl) ?_
  refine va_get (D := D) (ci := 6) (v := .int a0_sort) (C := RX7) (T := TX7) (N := 5) hx hb hts in_X7 hown hK hP 0 rfl rfl 2 (by decide) kf_19 (fun _ h9 => h9) rfl dX7_number_1 ?_
  refine lv_iconst (v := 2) hx hb dX7_number_4 (by decide) ?_
  refine lv_icmp_eq (tgt := 10) hx hb dX7_number_5 (by decide) (fun c_7 => ?_) (fun c_7 => ?_)
  · have hf := it_t c_7 hf
    refine lv_iconst (v := 0) hx hb dX7_number_10 (by decide) ?_
    refine lv_istore_n (lv' := [(3, .int 0), (0, .ref q_a0), (1, .int x1), (2, .int x2)]) hx hb dX7_number_11 rfl hl (by decide) rfl (fun ls hl => ?_)
    refine lv_aload_n hx hb dX7_number_12 rfl (lv_at hl 1 rfl) ?_
    refine va_get (D := D) (ci := 6) (v := .int a0_start) (C := RX7) (T := TX7) (N := 5) hx hb hts in_X7 hown hK hP 0 rfl rfl 3 (by decide) kf_22 (fun _ h9 => h9) rfl dX7_number_13 ?_
    refine lv_istore (lv' := [(4, .int a0_start), (3, .int 0), (0, .ref q_a0), (1, .int x1), (2, .int x2)]) hx hb dX7_number_16 hl (by decide) rfl (fun ls hl => ?_)
    have hlp_18 : ∀ (n_18 : Nat) (v_8 : Int32) (v_9 : Int32) (H : Heap) (locs : List Loc) (ls : Array Slot), lq2 (bX7_number_18 a0_bytes a0_size a0_sort a0_start a0_behind x1 x2 Q) n_18 v_8 v_9 → va_P D vwCl [(q_a0, .inr (6, [.ref q_a0_bytes, .int a0_size, .int a0_sort, .int a0_start, .int a0_behind])), (q_a0_bytes, .inl (cI, 150, .inl a0_bytes))] H → va_D A [(q_a0, .inr (6, [.ref q_a0_bytes, .int a0_size, .int a0_sort, .int a0_start, .int a0_behind])), (q_a0_bytes, .inl (cI, 150, .inl a0_bytes))] → va_S A s.heap H locs → lv_has ls 5 [(0, .ref q_a0), (1, .int x1), (2, .int x2), (3, .int v_8), (4, .int v_9)] → W p l e (headSpec wsX7_number rmX7_number).room s m ([.ref q_a0, .int x1, .int x2] : List Value).toArray below meth c H locs 0 0 QQ (F0 m 18 ls []) := by
      intro n_18
      induction n_18 with
      | zero => intro v_8 v_9 H locs ls hf; exact (lq2_0 hf).elim
      | succ n_18 ih =>
        have ih_18 := ih
        intro v_8 v_9 H locs ls hf hP hD hS hl
        have hf := lq2_s hf
        unfold bX7_number_18 at hf
        refine lv_iload hx hb dX7_number_18 (lv_at hl 4 rfl) ?_
        refine lv_aload_n hx hb dX7_number_20 rfl (lv_at hl 0 rfl) ?_
        refine va_get (D := D) (ci := 6) (v := .int a0_behind) (C := RX7) (T := TX7) (N := 5) hx hb hts in_X7 hown hK hP 0 rfl rfl 4 (by decide) kf_25 (fun _ h9 => h9) rfl dX7_number_21 ?_
        refine lv_icmp_ge (tgt := 49) hx hb dX7_number_24 (by decide) (fun c_11 => ?_) (fun c_11 => ?_)
        · have hf := it_t c_11 hf
          exact hj_49 v_8 _ _ hf (hP.sub [0, 1] rfl) (hD.sub [0, 1] (by decide) rfl) hS ls (lv_sub hl [0, 1, 2, 3] rfl)
        · have hf := it_f c_11 hf
          refine lv_bipush (v := 10) hx hb dX7_number_27 (by decide) ?_
          refine lv_iload_n hx hb dX7_number_29 rfl (lv_at hl 3 rfl) ?_
          refine lv_imul hx hb dX7_number_30 ?_
          refine lv_aload_n hx hb dX7_number_31 rfl (lv_at hl 0 rfl) ?_
          refine va_get (D := D) (ci := 6) (v := .ref q_a0_bytes) (C := RX7) (T := TX7) (N := 5) hx hb hts in_X7 hown hK hP 0 rfl rfl 0 (by decide) kf_9 (fun _ h9 => h9) rfl dX7_number_32 ?_
          refine lv_iload hx hb dX7_number_35 (lv_at hl 4 rfl) ?_
          refine va_iald hx hb hK hP 1 0 rfl rfl hf.1 dX7_number_37 ?_
          have hf := hf.2
          refine lv_iadd hx hb dX7_number_38 ?_
          refine lv_bipush (v := 48) hx hb dX7_number_39 (by decide) ?_
          refine lv_isub hx hb dX7_number_41 ?_
          refine lv_istore_n (lv' := [(3, .int (((10 * v_8) + (a0_bytes v_9.toNatClampNeg)) - 48)), (0, .ref q_a0), (1, .int x1), (2, .int x2), (4, .int v_9)]) hx hb dX7_number_42 rfl hl (by decide) rfl (fun ls hl => ?_)
          refine lv_iinc (v := v_9 + 1) (lv' := [(4, .int (v_9 + 1)), (3, .int (((10 * v_8) + (a0_bytes v_9.toNatClampNeg)) - 48)), (0, .ref q_a0), (1, .int x1), (2, .int x2)]) hx hb dX7_number_43 hl (k := 4) rfl rfl (by decide) rfl (fun ls hl => ?_)
          refine lv_goto (tgt := 18) hx hb dX7_number_46 (by decide) ?_
          exact ih (((10 * v_8) + (a0_bytes v_9.toNatClampNeg)) - 48) (v_9 + 1) _ _ ls hf (hP.sub [0, 1] rfl) (hD.sub [0, 1] (by decide) rfl) hS (lv_sub hl [2, 3, 4, 1, 0] rfl)
    exact hlp_18 1000 0 a0_start _ _ ls hf (hP.sub [0, 1] rfl) (hD.sub [0, 1] (by decide) rfl) hS (lv_sub hl [2, 3, 4, 1, 0] rfl)
  · have hf := it_f c_7 hf
    refine lv_iconst (v := (-1)) hx hb dX7_number_8 (by decide) ?_
    subst hQQ
    have hP9 := hP.sub (ws' := [(q_a0, .inr (6, [.ref q_a0_bytes, .int a0_size, .int a0_sort, .int a0_start, .int a0_behind])), (q_a0_bytes, .inl (cI, 150, .inl a0_bytes))]) [0, 1] rfl
    have hD9 := hD.sub (ws' := [(q_a0, .inr (6, [.ref q_a0_bytes, .int a0_size, .int a0_sort, .int a0_start, .int a0_behind])), (q_a0_bytes, .inl (cI, 150, .inl a0_bytes))]) [0, 1] (by decide) rfl
    exact W.iret hx hb hr (fun t ht hW => ⟨⟨(-1), (a0_sort, a0_start, a0_behind), rfl, hf, by rw [ht]; exact hP9, hD9⟩, hS.F ht⟩) hS.2.2 dX7_number_9
def p_X7_itemEnded (a0_bytes : Nat → Int32) (a0_size : Int32) (a0_sort : Int32) (a0_start : Int32) (a0_behind : Int32) (Q : Int32 → Int32 → Int32 → Int32 → Prop) : Prop :=
  if a0_sort = 3 then (p_X7_step a0_bytes a0_size a0_sort a0_start a0_behind (fun u_2 u_3 u_4 => Q 1 u_2 u_3 u_4)) else (Q 0 a0_sort a0_start a0_behind)
def rmX7_itemEnded : Room := { frames := 2, cells := 0, slots := 0, locals := 44 }
set_option maxHeartbeats 4000000 in
set_option maxRecDepth 100000 in
theorem c_X7_itemEnded (l : Launch) (D : va_G) (cI cZ cO : ClassId) (q_a0 q_a0_bytes : Nat) (a0_size : Int32) (a0_sort : Int32) (a0_start : Int32) (a0_behind : Int32) (a0_bytes : Nat → Int32) (sz : Nat) (Q : Int32 → Int32 → Int32 → Int32 → Prop) (hf : p_X7_itemEnded a0_bytes a0_size a0_sort a0_start a0_behind Q) : Met l yX7_itemEnded wsX7_itemEnded rmX7_itemEnded (va_Pc [.ref q_a0] (fun U => U.heap.size = sz ∧ va_P D vwCl [(q_a0, .inr (6, [.ref q_a0_bytes, .int a0_size, .int a0_sort, .int a0_start, .int a0_behind])), (q_a0_bytes, .inl (cI, 150, .inl a0_bytes))] U.heap ∧ XK D cI cZ cO U ∧ va_D (fun _ => True) [(q_a0, .inr (6, [.ref q_a0_bytes, .int a0_size, .int a0_sort, .int a0_start, .int a0_behind])), (q_a0_bytes, .inl (cI, 150, .inl a0_bytes))])) (va_Qi (fun r (u : Int32 × Int32 × Int32) => Q r u.1 u.2.1 u.2.2) (fun (u : Int32 × Int32 × Int32) t => va_P D vwCl [(q_a0, .inr (6, [.ref q_a0_bytes, .int a0_size, .int u.1, .int u.2.1, .int u.2.2])), (q_a0_bytes, .inl (cI, 150, .inl a0_bytes))] t.heap ∧ va_D (va_A [(q_a0, .inr (6, [.ref q_a0_bytes, .int a0_size, .int a0_sort, .int a0_start, .int a0_behind])), (q_a0_bytes, .inl (cI, 150, .inl a0_bytes))] sz) [(q_a0, .inr (6, [.ref q_a0_bytes, .int a0_size, .int u.1, .int u.2.1, .int u.2.2])), (q_a0_bytes, .inl (cI, 150, .inl a0_bytes))]) (va_A [(q_a0, .inr (6, [.ref q_a0_bytes, .int a0_size, .int a0_sort, .int a0_start, .int a0_behind])), (q_a0_bytes, .inl (cI, 150, .inl a0_bytes))] sz)) 0 0 (va_A [(q_a0, .inr (6, [.ref q_a0_bytes, .int a0_size, .int a0_sort, .int a0_start, .int a0_behind])), (q_a0_bytes, .inl (cI, 150, .inl a0_bytes))] sz) := by
  refine Met.ofW (cc := cX7_itemEnded) (maxL := 1) (ret := (some .boolean)) (by decide) rfl ?_
  intro p e s m args below meth c s₁ B hml hv
  obtain ⟨rfl, hsz, hP, hX, hD0⟩ := hv
  have hK := hX.1
  have hx := B.exec
  have hb := B.bytes
  have hr := B.returns
  have hts := atoms_spec (ws := wsX7_itemEnded) B.pre
  have hown : s.vm.findClass RX7 = some m.cls := findClass_of_methodNamed B.named
  have hlocks := B.notSynchronized
  have in_X7 : ∀ w ∈ wsX70, w ∈ wsX7_itemEnded := fun _ h => List.mem_cons_of_mem _ (List.mem_append_right _ h)
  have kf_19 := hts (.fieldLink RX7 19 "LeftCrest$Text" "sort" "I") (by decide +kernel)
  subst hsz
  have hD := hD0.self (sz := s.heap.size)
  generalize hAe : va_A [(q_a0, .inr (6, [.ref q_a0_bytes, .int a0_size, .int a0_sort, .int a0_start, .int a0_behind])), (q_a0_bytes, .inl (cI, 150, .inl a0_bytes))] s.heap.size = A at hD ⊢
  have hA : ∀ q : Nat, s.heap.size ≤ q → A q := fun q h => by rw [← hAe]; exact Or.inr h
  have hS : va_S A s.heap s.heap [] := va_S.rf
  have hP : va_P D vwCl [(q_a0, .inr (6, [.ref q_a0_bytes, .int a0_size, .int a0_sort, .int a0_start, .int a0_behind])), (q_a0_bytes, .inl (cI, 150, .inl a0_bytes))] s.heap := hP
  generalize hQQ : MQ below _ _ s _ _ _ = QQ
  have hl := lv_entry ([.ref q_a0]) (n := 1) (Nat.le_of_ble_eq_true rfl)
  rw [lg_entry_eq]
  generalize (lg_sl ([.ref q_a0]) ++ List.replicate (1 - (lg_sl ([.ref q_a0])).length) Slot.unset).toArray = ls at hl ⊢
  have hl : lv_has ls 1 [(0, .ref q_a0)] := hl
  unfold p_X7_itemEnded at hf
  refine lv_aload_n hx hb dX7_itemEnded_0 rfl (lv_at hl 0 rfl) ?_
  refine va_get (D := D) (ci := 6) (v := .int a0_sort) (C := RX7) (T := TX7) (N := 5) hx hb hts in_X7 hown hK hP 0 rfl rfl 2 (by decide) kf_19 (fun _ h9 => h9) rfl dX7_itemEnded_1 ?_
  refine lv_iconst (v := 3) hx hb dX7_itemEnded_4 (by decide) ?_
  refine lv_icmp_eq (tgt := 10) hx hb dX7_itemEnded_5 (by decide) (fun c_1 => ?_) (fun c_1 => ?_)
  · have hf := it_t c_1 hf
    refine lv_aload_n hx hb dX7_itemEnded_10 rfl (lv_at hl 0 rfl) ?_
    have hPc := hP.sub (ws' := [(q_a0, .inr (6, [.ref q_a0_bytes, .int a0_size, .int a0_sort, .int a0_start, .int a0_behind])), (q_a0_bytes, .inl (cI, 150, .inl a0_bytes))]) [0, 1] rfl
    have hDc := hD.sub (ws' := [(q_a0, .inr (6, [.ref q_a0_bytes, .int a0_size, .int a0_sort, .int a0_start, .int a0_behind])), (q_a0_bytes, .inl (cI, 150, .inl a0_bytes))]) [0, 1] (by decide) rfl
    have hFc := va_free (wc := [(q_a0, .inr (6, [.ref q_a0_bytes, .int a0_size, .int a0_sort, .int a0_start, .int a0_behind])), (q_a0_bytes, .inl (cI, 150, .inl a0_bytes))]) hD hS hA [0, 1] rfl
    refine va_callv (va_runV (As := []) (rest := []) ⟨hx, hb, hml, hown, hts⟩ (c_X7_step l D cI cZ cO q_a0 q_a0_bytes a0_size a0_sort a0_start a0_behind a0_bytes s.heap.size  _ hf) (cwV 0 hts gX7_itemEnded_X7_step rfl rfl rfl (by decide +kernel) ⟨Nat.le_of_ble_eq_true rfl, Nat.le_of_ble_eq_true rfl⟩) (pv_rw (ci := 6) (q0 := 0) hPc hDc hX rfl rfl) rfl rfl hl.1 rfl (lv_room (Nat.le_of_ble_eq_true rfl)) dX7_itemEnded_11 ⟨Nat.zero_le _, Nat.zero_le _⟩) hS (fun q _ h => hFc q h) hFc (fun u t H1 locs ht hvm hf hB hz1 hk1 hS => ?_)
    obtain ⟨u_2, u_3, u_4⟩ := u
    obtain ⟨hP1, hD1⟩ := hB
    rw [ht] at hP1
    clear hvm
    obtain ⟨hP, hD⟩ := va_join (wr := []) (w1 := [(q_a0, .inr (6, [.ref q_a0_bytes, .int a0_size, .int u_2, .int u_3, .int u_4])), (q_a0_bytes, .inl (cI, 150, .inl a0_bytes))]) hP hD [0, 1] [] rfl rfl (by decide) (by decide) hk1 hFc hP1 hD1
    clear hz1 hk1 hPc hDc hFc hP1 hD1
    generalize H1 = H at hP hS ⊢
    have hP : va_P D vwCl [(q_a0, .inr (6, [.ref q_a0_bytes, .int a0_size, .int u_2, .int u_3, .int u_4])), (q_a0_bytes, .inl (cI, 150, .inl a0_bytes))] H := hP
    have hD : va_D A [(q_a0, .inr (6, [.ref q_a0_bytes, .int a0_size, .int u_2, .int u_3, .int u_4])), (q_a0_bytes, .inl (cI, 150, .inl a0_bytes))] := hD
    refine lv_iconst (v := 1) hx hb dX7_itemEnded_14 (by decide) ?_
    subst hQQ
    have hP9 := hP.sub (ws' := [(q_a0, .inr (6, [.ref q_a0_bytes, .int a0_size, .int u_2, .int u_3, .int u_4])), (q_a0_bytes, .inl (cI, 150, .inl a0_bytes))]) [0, 1] rfl
    have hD9 := hD.sub (ws' := [(q_a0, .inr (6, [.ref q_a0_bytes, .int a0_size, .int u_2, .int u_3, .int u_4])), (q_a0_bytes, .inl (cI, 150, .inl a0_bytes))]) [0, 1] (by decide) rfl
    exact W.zret hx hb hr rfl (fun t ht hW => ⟨⟨1, (u_2, u_3, u_4), rfl, hf, by rw [ht]; exact hP9, hD9⟩, hS.F ht⟩) hS.2.2 dX7_itemEnded_15
  · have hf := it_f c_1 hf
    refine lv_iconst (v := 0) hx hb dX7_itemEnded_8 (by decide) ?_
    subst hQQ
    have hP9 := hP.sub (ws' := [(q_a0, .inr (6, [.ref q_a0_bytes, .int a0_size, .int a0_sort, .int a0_start, .int a0_behind])), (q_a0_bytes, .inl (cI, 150, .inl a0_bytes))]) [0, 1] rfl
    have hD9 := hD.sub (ws' := [(q_a0, .inr (6, [.ref q_a0_bytes, .int a0_size, .int a0_sort, .int a0_start, .int a0_behind])), (q_a0_bytes, .inl (cI, 150, .inl a0_bytes))]) [0, 1] (by decide) rfl
    exact W.zret hx hb hr rfl (fun t ht hW => ⟨⟨0, (a0_sort, a0_start, a0_behind), rfl, hf, by rw [ht]; exact hP9, hD9⟩, hS.F ht⟩) hS.2.2 dX7_itemEnded_9
def p_X7_bendTold (a0_bytes : Nat → Int32) (a0_size : Int32) (a0_sort : Int32) (a0_start : Int32) (a0_behind : Int32) (a1_bends_yards : Nat → Int32) (a1_bends_truth : Nat → Int32) (a1_bends_notes : Nat → Int32) (a1_bends_words : Nat → Int32) (a1_bends_mud : Nat → Int32) (a1_bends_size : Int32) (Q : Int32 → Int32 → Int32 → Int32 → (Nat → Int32) → (Nat → Int32) → (Nat → Int32) → (Nat → Int32) → (Nat → Int32) → Int32 → Prop) : Prop :=
  p_X0_isFull a1_bends_size (fun r_1 => if r_1 = 0 then (p_X7_step a0_bytes a0_size a0_sort a0_start a0_behind (fun u_3 u_4 u_5 => p_X7_number a0_bytes a0_size u_3 u_4 u_5 1 9 (fun r_6 u_7 u_8 u_9 => if r_6 = (-1) then (Q 0 u_7 u_8 u_9 a1_bends_yards a1_bends_truth a1_bends_notes a1_bends_words a1_bends_mud a1_bends_size) else (p_X7_number a0_bytes a0_size u_7 u_8 u_9 1 6 (fun r_11 u_12 u_13 u_14 => if r_11 = (-1) then (Q 0 u_12 u_13 u_14 a1_bends_yards a1_bends_truth a1_bends_notes a1_bends_words a1_bends_mud a1_bends_size) else (p_X7_number a0_bytes a0_size u_12 u_13 u_14 0 6 (fun r_16 u_17 u_18 u_19 => if r_16 = (-1) then (Q 0 u_17 u_18 u_19 a1_bends_yards a1_bends_truth a1_bends_notes a1_bends_words a1_bends_mud a1_bends_size) else (p_X7_number a0_bytes a0_size u_17 u_18 u_19 1 9 (fun r_21 u_22 u_23 u_24 => if r_21 = (-1) then (Q 0 u_22 u_23 u_24 a1_bends_yards a1_bends_truth a1_bends_notes a1_bends_words a1_bends_mud a1_bends_size) else (p_X0_add a1_bends_yards a1_bends_truth a1_bends_notes a1_bends_words a1_bends_mud a1_bends_size r_6 r_11 r_16 r_21 (fun r_26 u_27 u_28 u_29 u_30 u_31 u_32 => p_X7_itemEnded a0_bytes a0_size u_22 u_23 u_24 (fun r_33 u_34 u_35 u_36 => zb r_33 ∧ Q r_33 u_34 u_35 u_36 u_27 u_28 u_29 u_30 u_31 u_32)))))))))))) else (Q 0 a0_sort a0_start a0_behind a1_bends_yards a1_bends_truth a1_bends_notes a1_bends_words a1_bends_mud a1_bends_size))
def rmX7_bendTold : Room := { frames := 3, cells := 0, slots := 0, locals := 68 }
set_option maxHeartbeats 4000000 in
set_option maxRecDepth 100000 in
theorem c_X7_bendTold (l : Launch) (D : va_G) (cI cZ cO : ClassId) (q_a0 q_a0_bytes q_a1 q_a1_bends q_a1_felt q_a1_paces q_a1_past q_a1_bends_yards q_a1_bends_truth q_a1_bends_notes q_a1_bends_words q_a1_bends_mud : Nat) (a0_size : Int32) (a0_sort : Int32) (a0_start : Int32) (a0_behind : Int32) (a0_bytes : Nat → Int32) (a1_kind : Int32) (a1_fog : Int32) (a1_here : Int32) (a1_seconds : Int32) (a1_crashes : Int32) (a1_bends_size : Int32) (a1_bends_yards : Nat → Int32) (a1_bends_truth : Nat → Int32) (a1_bends_notes : Nat → Int32) (a1_bends_words : Nat → Int32) (a1_bends_mud : Nat → Int32) (sz : Nat) (Q : Int32 → Int32 → Int32 → Int32 → (Nat → Int32) → (Nat → Int32) → (Nat → Int32) → (Nat → Int32) → (Nat → Int32) → Int32 → Prop) (hf : p_X7_bendTold a0_bytes a0_size a0_sort a0_start a0_behind a1_bends_yards a1_bends_truth a1_bends_notes a1_bends_words a1_bends_mud a1_bends_size Q) : Met l yX7_bendTold wsX7_bendTold rmX7_bendTold (va_Pc [.ref q_a0, .ref q_a1] (fun U => U.heap.size = sz ∧ va_P D vwCl [(q_a0, .inr (6, [.ref q_a0_bytes, .int a0_size, .int a0_sort, .int a0_start, .int a0_behind])), (q_a0_bytes, .inl (cI, 150, .inl a0_bytes)), (q_a1, .inr (5, [.ref q_a1_bends, .ref q_a1_felt, .ref q_a1_paces, .ref q_a1_past, .int a1_kind, .int a1_fog, .int a1_here, .int a1_seconds, .int a1_crashes])), (q_a1_bends, .inr (0, [.ref q_a1_bends_yards, .ref q_a1_bends_truth, .ref q_a1_bends_notes, .ref q_a1_bends_words, .ref q_a1_bends_mud, .int a1_bends_size])), (q_a1_bends_yards, .inl (cI, 8, .inl a1_bends_yards)), (q_a1_bends_truth, .inl (cI, 8, .inl a1_bends_truth)), (q_a1_bends_notes, .inl (cI, 8, .inl a1_bends_notes)), (q_a1_bends_words, .inl (cI, 8, .inl a1_bends_words)), (q_a1_bends_mud, .inl (cI, 8, .inl a1_bends_mud))] U.heap ∧ XK D cI cZ cO U ∧ va_D (fun _ => True) [(q_a0, .inr (6, [.ref q_a0_bytes, .int a0_size, .int a0_sort, .int a0_start, .int a0_behind])), (q_a0_bytes, .inl (cI, 150, .inl a0_bytes)), (q_a1, .inr (5, [.ref q_a1_bends, .ref q_a1_felt, .ref q_a1_paces, .ref q_a1_past, .int a1_kind, .int a1_fog, .int a1_here, .int a1_seconds, .int a1_crashes])), (q_a1_bends, .inr (0, [.ref q_a1_bends_yards, .ref q_a1_bends_truth, .ref q_a1_bends_notes, .ref q_a1_bends_words, .ref q_a1_bends_mud, .int a1_bends_size])), (q_a1_bends_yards, .inl (cI, 8, .inl a1_bends_yards)), (q_a1_bends_truth, .inl (cI, 8, .inl a1_bends_truth)), (q_a1_bends_notes, .inl (cI, 8, .inl a1_bends_notes)), (q_a1_bends_words, .inl (cI, 8, .inl a1_bends_words)), (q_a1_bends_mud, .inl (cI, 8, .inl a1_bends_mud))])) (va_Qi (fun r (u : Int32 × Int32 × Int32 × (Nat → Int32) × (Nat → Int32) × (Nat → Int32) × (Nat → Int32) × (Nat → Int32) × Int32) => Q r u.1 u.2.1 u.2.2.1 u.2.2.2.1 u.2.2.2.2.1 u.2.2.2.2.2.1 u.2.2.2.2.2.2.1 u.2.2.2.2.2.2.2.1 u.2.2.2.2.2.2.2.2) (fun (u : Int32 × Int32 × Int32 × (Nat → Int32) × (Nat → Int32) × (Nat → Int32) × (Nat → Int32) × (Nat → Int32) × Int32) t => va_P D vwCl [(q_a0, .inr (6, [.ref q_a0_bytes, .int a0_size, .int u.1, .int u.2.1, .int u.2.2.1])), (q_a0_bytes, .inl (cI, 150, .inl a0_bytes)), (q_a1, .inr (5, [.ref q_a1_bends, .ref q_a1_felt, .ref q_a1_paces, .ref q_a1_past, .int a1_kind, .int a1_fog, .int a1_here, .int a1_seconds, .int a1_crashes])), (q_a1_bends, .inr (0, [.ref q_a1_bends_yards, .ref q_a1_bends_truth, .ref q_a1_bends_notes, .ref q_a1_bends_words, .ref q_a1_bends_mud, .int u.2.2.2.2.2.2.2.2])), (q_a1_bends_yards, .inl (cI, 8, .inl u.2.2.2.1)), (q_a1_bends_truth, .inl (cI, 8, .inl u.2.2.2.2.1)), (q_a1_bends_notes, .inl (cI, 8, .inl u.2.2.2.2.2.1)), (q_a1_bends_words, .inl (cI, 8, .inl u.2.2.2.2.2.2.1)), (q_a1_bends_mud, .inl (cI, 8, .inl u.2.2.2.2.2.2.2.1))] t.heap ∧ va_D (va_A [(q_a0, .inr (6, [.ref q_a0_bytes, .int a0_size, .int a0_sort, .int a0_start, .int a0_behind])), (q_a0_bytes, .inl (cI, 150, .inl a0_bytes)), (q_a1, .inr (5, [.ref q_a1_bends, .ref q_a1_felt, .ref q_a1_paces, .ref q_a1_past, .int a1_kind, .int a1_fog, .int a1_here, .int a1_seconds, .int a1_crashes])), (q_a1_bends, .inr (0, [.ref q_a1_bends_yards, .ref q_a1_bends_truth, .ref q_a1_bends_notes, .ref q_a1_bends_words, .ref q_a1_bends_mud, .int a1_bends_size])), (q_a1_bends_yards, .inl (cI, 8, .inl a1_bends_yards)), (q_a1_bends_truth, .inl (cI, 8, .inl a1_bends_truth)), (q_a1_bends_notes, .inl (cI, 8, .inl a1_bends_notes)), (q_a1_bends_words, .inl (cI, 8, .inl a1_bends_words)), (q_a1_bends_mud, .inl (cI, 8, .inl a1_bends_mud))] sz) [(q_a0, .inr (6, [.ref q_a0_bytes, .int a0_size, .int u.1, .int u.2.1, .int u.2.2.1])), (q_a0_bytes, .inl (cI, 150, .inl a0_bytes)), (q_a1, .inr (5, [.ref q_a1_bends, .ref q_a1_felt, .ref q_a1_paces, .ref q_a1_past, .int a1_kind, .int a1_fog, .int a1_here, .int a1_seconds, .int a1_crashes])), (q_a1_bends, .inr (0, [.ref q_a1_bends_yards, .ref q_a1_bends_truth, .ref q_a1_bends_notes, .ref q_a1_bends_words, .ref q_a1_bends_mud, .int u.2.2.2.2.2.2.2.2])), (q_a1_bends_yards, .inl (cI, 8, .inl u.2.2.2.1)), (q_a1_bends_truth, .inl (cI, 8, .inl u.2.2.2.2.1)), (q_a1_bends_notes, .inl (cI, 8, .inl u.2.2.2.2.2.1)), (q_a1_bends_words, .inl (cI, 8, .inl u.2.2.2.2.2.2.1)), (q_a1_bends_mud, .inl (cI, 8, .inl u.2.2.2.2.2.2.2.1))]) (va_A [(q_a0, .inr (6, [.ref q_a0_bytes, .int a0_size, .int a0_sort, .int a0_start, .int a0_behind])), (q_a0_bytes, .inl (cI, 150, .inl a0_bytes)), (q_a1, .inr (5, [.ref q_a1_bends, .ref q_a1_felt, .ref q_a1_paces, .ref q_a1_past, .int a1_kind, .int a1_fog, .int a1_here, .int a1_seconds, .int a1_crashes])), (q_a1_bends, .inr (0, [.ref q_a1_bends_yards, .ref q_a1_bends_truth, .ref q_a1_bends_notes, .ref q_a1_bends_words, .ref q_a1_bends_mud, .int a1_bends_size])), (q_a1_bends_yards, .inl (cI, 8, .inl a1_bends_yards)), (q_a1_bends_truth, .inl (cI, 8, .inl a1_bends_truth)), (q_a1_bends_notes, .inl (cI, 8, .inl a1_bends_notes)), (q_a1_bends_words, .inl (cI, 8, .inl a1_bends_words)), (q_a1_bends_mud, .inl (cI, 8, .inl a1_bends_mud))] sz)) 0 0 (va_A [(q_a0, .inr (6, [.ref q_a0_bytes, .int a0_size, .int a0_sort, .int a0_start, .int a0_behind])), (q_a0_bytes, .inl (cI, 150, .inl a0_bytes)), (q_a1, .inr (5, [.ref q_a1_bends, .ref q_a1_felt, .ref q_a1_paces, .ref q_a1_past, .int a1_kind, .int a1_fog, .int a1_here, .int a1_seconds, .int a1_crashes])), (q_a1_bends, .inr (0, [.ref q_a1_bends_yards, .ref q_a1_bends_truth, .ref q_a1_bends_notes, .ref q_a1_bends_words, .ref q_a1_bends_mud, .int a1_bends_size])), (q_a1_bends_yards, .inl (cI, 8, .inl a1_bends_yards)), (q_a1_bends_truth, .inl (cI, 8, .inl a1_bends_truth)), (q_a1_bends_notes, .inl (cI, 8, .inl a1_bends_notes)), (q_a1_bends_words, .inl (cI, 8, .inl a1_bends_words)), (q_a1_bends_mud, .inl (cI, 8, .inl a1_bends_mud))] sz) := by
  refine Met.ofW (cc := cX7_bendTold) (maxL := 6) (ret := (some .boolean)) (by decide) rfl ?_
  intro p e s m args below meth c s₁ B hml hv
  obtain ⟨rfl, hsz, hP, hX, hD0⟩ := hv
  have hK := hX.1
  have hx := B.exec
  have hb := B.bytes
  have hr := B.returns
  have hts := atoms_spec (ws := wsX7_bendTold) B.pre
  have hown : s.vm.findClass RX7 = some m.cls := findClass_of_methodNamed B.named
  have hlocks := B.notSynchronized
  have in_X6 : ∀ w ∈ wsX60, w ∈ wsX7_bendTold := fun _ h => List.mem_cons_of_mem _ (List.mem_append_left _ (List.mem_append_left _ (List.mem_append_right _ h)))
  have kf_78 := hts (.fieldLink RX7 78 "LeftCrest$Stage" "bends" "LLeftCrest$Bends;") (by decide +kernel)
  subst hsz
  have hD := hD0.self (sz := s.heap.size)
  generalize hAe : va_A [(q_a0, .inr (6, [.ref q_a0_bytes, .int a0_size, .int a0_sort, .int a0_start, .int a0_behind])), (q_a0_bytes, .inl (cI, 150, .inl a0_bytes)), (q_a1, .inr (5, [.ref q_a1_bends, .ref q_a1_felt, .ref q_a1_paces, .ref q_a1_past, .int a1_kind, .int a1_fog, .int a1_here, .int a1_seconds, .int a1_crashes])), (q_a1_bends, .inr (0, [.ref q_a1_bends_yards, .ref q_a1_bends_truth, .ref q_a1_bends_notes, .ref q_a1_bends_words, .ref q_a1_bends_mud, .int a1_bends_size])), (q_a1_bends_yards, .inl (cI, 8, .inl a1_bends_yards)), (q_a1_bends_truth, .inl (cI, 8, .inl a1_bends_truth)), (q_a1_bends_notes, .inl (cI, 8, .inl a1_bends_notes)), (q_a1_bends_words, .inl (cI, 8, .inl a1_bends_words)), (q_a1_bends_mud, .inl (cI, 8, .inl a1_bends_mud))] s.heap.size = A at hD ⊢
  have hA : ∀ q : Nat, s.heap.size ≤ q → A q := fun q h => by rw [← hAe]; exact Or.inr h
  have hS : va_S A s.heap s.heap [] := va_S.rf
  have hP : va_P D vwCl [(q_a0, .inr (6, [.ref q_a0_bytes, .int a0_size, .int a0_sort, .int a0_start, .int a0_behind])), (q_a0_bytes, .inl (cI, 150, .inl a0_bytes)), (q_a1, .inr (5, [.ref q_a1_bends, .ref q_a1_felt, .ref q_a1_paces, .ref q_a1_past, .int a1_kind, .int a1_fog, .int a1_here, .int a1_seconds, .int a1_crashes])), (q_a1_bends, .inr (0, [.ref q_a1_bends_yards, .ref q_a1_bends_truth, .ref q_a1_bends_notes, .ref q_a1_bends_words, .ref q_a1_bends_mud, .int a1_bends_size])), (q_a1_bends_yards, .inl (cI, 8, .inl a1_bends_yards)), (q_a1_bends_truth, .inl (cI, 8, .inl a1_bends_truth)), (q_a1_bends_notes, .inl (cI, 8, .inl a1_bends_notes)), (q_a1_bends_words, .inl (cI, 8, .inl a1_bends_words)), (q_a1_bends_mud, .inl (cI, 8, .inl a1_bends_mud))] s.heap := hP
  generalize hQQ : MQ below _ _ s _ _ _ = QQ
  have hl := lv_entry ([.ref q_a0, .ref q_a1]) (n := 6) (Nat.le_of_ble_eq_true rfl)
  rw [lg_entry_eq]
  generalize (lg_sl ([.ref q_a0, .ref q_a1]) ++ List.replicate (6 - (lg_sl ([.ref q_a0, .ref q_a1])).length) Slot.unset).toArray = ls at hl ⊢
  have hl : lv_has ls 6 [(0, .ref q_a0), (1, .ref q_a1)] := hl
  unfold p_X7_bendTold at hf
  refine lv_aload_n hx hb dX7_bendTold_0 rfl (lv_at hl 1 rfl) ?_
  refine va_get (D := D) (ci := 5) (v := .ref q_a1_bends) (C := RX6) (T := TX6) (N := 9) hx hb hts in_X6 hown hK hP 2 rfl rfl 0 (by decide) kf_78 (fun _ h9 => h9) rfl dX7_bendTold_1 ?_
  refine ya_csi (va_runV (As := []) (rest := []) ⟨hx, hb, hml, hown, hts⟩ (c_X0_isFull l D cI cZ cO q_a1_bends q_a1_bends_yards q_a1_bends_truth q_a1_bends_notes q_a1_bends_words q_a1_bends_mud a1_bends_size  _ hf) (cwV 0 hts gX7_bendTold_X0_isFull rfl rfl rfl (by decide +kernel) ⟨Nat.le_of_ble_eq_true rfl, Nat.le_of_ble_eq_true rfl⟩) (pv_ro (ci := 0) (q0 := 0) (hP.sub [3] rfl) hX rfl rfl) rfl rfl hl.1 rfl (lv_room (Nat.le_of_ble_eq_true rfl)) dX7_bendTold_4 ⟨Nat.zero_le _, Nat.zero_le _⟩) (fun r_1 hf => ?_)
  refine lv_if_eq (tgt := 12) hx hb dX7_bendTold_7 (by decide) (fun c_2 => ?_) (fun c_2 => ?_)
  · have hf := it_t c_2 hf
    refine lv_aload_n hx hb dX7_bendTold_12 rfl (lv_at hl 0 rfl) ?_
    have hPc := hP.sub (ws' := [(q_a0, .inr (6, [.ref q_a0_bytes, .int a0_size, .int a0_sort, .int a0_start, .int a0_behind])), (q_a0_bytes, .inl (cI, 150, .inl a0_bytes))]) [0, 1] rfl
    have hDc := hD.sub (ws' := [(q_a0, .inr (6, [.ref q_a0_bytes, .int a0_size, .int a0_sort, .int a0_start, .int a0_behind])), (q_a0_bytes, .inl (cI, 150, .inl a0_bytes))]) [0, 1] (by decide) rfl
    have hFc := va_free (wc := [(q_a0, .inr (6, [.ref q_a0_bytes, .int a0_size, .int a0_sort, .int a0_start, .int a0_behind])), (q_a0_bytes, .inl (cI, 150, .inl a0_bytes))]) hD hS hA [0, 1] rfl
    refine va_callv (va_runV (As := []) (rest := []) ⟨hx, hb, hml, hown, hts⟩ (c_X7_step l D cI cZ cO q_a0 q_a0_bytes a0_size a0_sort a0_start a0_behind a0_bytes s.heap.size  _ hf) (cwV 0 hts gX7_bendTold_X7_step rfl rfl rfl (by decide +kernel) ⟨Nat.le_of_ble_eq_true rfl, Nat.le_of_ble_eq_true rfl⟩) (pv_rw (ci := 6) (q0 := 0) hPc hDc hX rfl rfl) rfl rfl hl.1 rfl (lv_room (Nat.le_of_ble_eq_true rfl)) dX7_bendTold_13 ⟨Nat.zero_le _, Nat.zero_le _⟩) hS (fun q _ h => hFc q h) hFc (fun u t H1 locs ht hvm hf hB hz1 hk1 hS => ?_)
    obtain ⟨u_3, u_4, u_5⟩ := u
    obtain ⟨hP1, hD1⟩ := hB
    rw [ht] at hP1
    clear hvm
    obtain ⟨hP, hD⟩ := va_join (wr := [(q_a1, .inr (5, [.ref q_a1_bends, .ref q_a1_felt, .ref q_a1_paces, .ref q_a1_past, .int a1_kind, .int a1_fog, .int a1_here, .int a1_seconds, .int a1_crashes])), (q_a1_bends, .inr (0, [.ref q_a1_bends_yards, .ref q_a1_bends_truth, .ref q_a1_bends_notes, .ref q_a1_bends_words, .ref q_a1_bends_mud, .int a1_bends_size])), (q_a1_bends_yards, .inl (cI, 8, .inl a1_bends_yards)), (q_a1_bends_truth, .inl (cI, 8, .inl a1_bends_truth)), (q_a1_bends_notes, .inl (cI, 8, .inl a1_bends_notes)), (q_a1_bends_words, .inl (cI, 8, .inl a1_bends_words)), (q_a1_bends_mud, .inl (cI, 8, .inl a1_bends_mud))]) (w1 := [(q_a0, .inr (6, [.ref q_a0_bytes, .int a0_size, .int u_3, .int u_4, .int u_5])), (q_a0_bytes, .inl (cI, 150, .inl a0_bytes))]) hP hD [0, 1] [2, 3, 4, 5, 6, 7, 8] rfl rfl (by decide) (by decide) hk1 hFc hP1 hD1
    clear hz1 hk1 hPc hDc hFc hP1 hD1
    generalize H1 = H at hP hS ⊢
    have hP : va_P D vwCl [(q_a1, .inr (5, [.ref q_a1_bends, .ref q_a1_felt, .ref q_a1_paces, .ref q_a1_past, .int a1_kind, .int a1_fog, .int a1_here, .int a1_seconds, .int a1_crashes])), (q_a1_bends, .inr (0, [.ref q_a1_bends_yards, .ref q_a1_bends_truth, .ref q_a1_bends_notes, .ref q_a1_bends_words, .ref q_a1_bends_mud, .int a1_bends_size])), (q_a1_bends_yards, .inl (cI, 8, .inl a1_bends_yards)), (q_a1_bends_truth, .inl (cI, 8, .inl a1_bends_truth)), (q_a1_bends_notes, .inl (cI, 8, .inl a1_bends_notes)), (q_a1_bends_words, .inl (cI, 8, .inl a1_bends_words)), (q_a1_bends_mud, .inl (cI, 8, .inl a1_bends_mud)), (q_a0, .inr (6, [.ref q_a0_bytes, .int a0_size, .int u_3, .int u_4, .int u_5])), (q_a0_bytes, .inl (cI, 150, .inl a0_bytes))] H := hP
    have hD : va_D A [(q_a1, .inr (5, [.ref q_a1_bends, .ref q_a1_felt, .ref q_a1_paces, .ref q_a1_past, .int a1_kind, .int a1_fog, .int a1_here, .int a1_seconds, .int a1_crashes])), (q_a1_bends, .inr (0, [.ref q_a1_bends_yards, .ref q_a1_bends_truth, .ref q_a1_bends_notes, .ref q_a1_bends_words, .ref q_a1_bends_mud, .int a1_bends_size])), (q_a1_bends_yards, .inl (cI, 8, .inl a1_bends_yards)), (q_a1_bends_truth, .inl (cI, 8, .inl a1_bends_truth)), (q_a1_bends_notes, .inl (cI, 8, .inl a1_bends_notes)), (q_a1_bends_words, .inl (cI, 8, .inl a1_bends_words)), (q_a1_bends_mud, .inl (cI, 8, .inl a1_bends_mud)), (q_a0, .inr (6, [.ref q_a0_bytes, .int a0_size, .int u_3, .int u_4, .int u_5])), (q_a0_bytes, .inl (cI, 150, .inl a0_bytes))] := hD
    refine lv_aload_n hx hb dX7_bendTold_16 rfl (lv_at hl 0 rfl) ?_
    refine lv_iconst (v := 1) hx hb dX7_bendTold_17 (by decide) ?_
    refine lv_bipush (v := 9) hx hb dX7_bendTold_18 (by decide) ?_
    have hPc := hP.sub (ws' := [(q_a0, .inr (6, [.ref q_a0_bytes, .int a0_size, .int u_3, .int u_4, .int u_5])), (q_a0_bytes, .inl (cI, 150, .inl a0_bytes))]) [7, 8] rfl
    have hDc := hD.sub (ws' := [(q_a0, .inr (6, [.ref q_a0_bytes, .int a0_size, .int u_3, .int u_4, .int u_5])), (q_a0_bytes, .inl (cI, 150, .inl a0_bytes))]) [7, 8] (by decide) rfl
    have hFc := va_free (wc := [(q_a0, .inr (6, [.ref q_a0_bytes, .int a0_size, .int u_3, .int u_4, .int u_5])), (q_a0_bytes, .inl (cI, 150, .inl a0_bytes))]) hD hS hA [7, 8] rfl
    refine va_calli (va_runV (As := [.int 1, .int 9]) (rest := []) ⟨hx, hb, hml, hown, hts⟩ (c_X7_number l D cI cZ cO q_a0 q_a0_bytes a0_size u_3 u_4 u_5 a0_bytes H.size 1 9 _ hf) (cwV 2 hts gX7_bendTold_X7_number rfl rfl rfl (by decide +kernel) ⟨Nat.le_of_ble_eq_true rfl, Nat.le_of_ble_eq_true rfl⟩) (pv_rw (ci := 6) (q0 := 0) hPc hDc hX rfl rfl) rfl rfl hl.1 rfl (lv_room (Nat.le_of_ble_eq_true rfl)) dX7_bendTold_20 ⟨Nat.zero_le _, Nat.zero_le _⟩) hS (fun q _ h => hFc q h) hFc (fun r_6 u t H1 locs ht hvm hf hB hz1 hk1 hS => ?_)
    obtain ⟨u_7, u_8, u_9⟩ := u
    obtain ⟨hP1, hD1⟩ := hB
    rw [ht] at hP1
    clear hvm
    obtain ⟨hP, hD⟩ := va_join (wr := [(q_a1, .inr (5, [.ref q_a1_bends, .ref q_a1_felt, .ref q_a1_paces, .ref q_a1_past, .int a1_kind, .int a1_fog, .int a1_here, .int a1_seconds, .int a1_crashes])), (q_a1_bends, .inr (0, [.ref q_a1_bends_yards, .ref q_a1_bends_truth, .ref q_a1_bends_notes, .ref q_a1_bends_words, .ref q_a1_bends_mud, .int a1_bends_size])), (q_a1_bends_yards, .inl (cI, 8, .inl a1_bends_yards)), (q_a1_bends_truth, .inl (cI, 8, .inl a1_bends_truth)), (q_a1_bends_notes, .inl (cI, 8, .inl a1_bends_notes)), (q_a1_bends_words, .inl (cI, 8, .inl a1_bends_words)), (q_a1_bends_mud, .inl (cI, 8, .inl a1_bends_mud))]) (w1 := [(q_a0, .inr (6, [.ref q_a0_bytes, .int a0_size, .int u_7, .int u_8, .int u_9])), (q_a0_bytes, .inl (cI, 150, .inl a0_bytes))]) hP hD [7, 8] [0, 1, 2, 3, 4, 5, 6] rfl rfl (by decide) (by decide) hk1 hFc hP1 hD1
    clear hz1 hk1 hPc hDc hFc hP1 hD1
    generalize H1 = H at hP hS ⊢
    have hP : va_P D vwCl [(q_a1, .inr (5, [.ref q_a1_bends, .ref q_a1_felt, .ref q_a1_paces, .ref q_a1_past, .int a1_kind, .int a1_fog, .int a1_here, .int a1_seconds, .int a1_crashes])), (q_a1_bends, .inr (0, [.ref q_a1_bends_yards, .ref q_a1_bends_truth, .ref q_a1_bends_notes, .ref q_a1_bends_words, .ref q_a1_bends_mud, .int a1_bends_size])), (q_a1_bends_yards, .inl (cI, 8, .inl a1_bends_yards)), (q_a1_bends_truth, .inl (cI, 8, .inl a1_bends_truth)), (q_a1_bends_notes, .inl (cI, 8, .inl a1_bends_notes)), (q_a1_bends_words, .inl (cI, 8, .inl a1_bends_words)), (q_a1_bends_mud, .inl (cI, 8, .inl a1_bends_mud)), (q_a0, .inr (6, [.ref q_a0_bytes, .int a0_size, .int u_7, .int u_8, .int u_9])), (q_a0_bytes, .inl (cI, 150, .inl a0_bytes))] H := hP
    have hD : va_D A [(q_a1, .inr (5, [.ref q_a1_bends, .ref q_a1_felt, .ref q_a1_paces, .ref q_a1_past, .int a1_kind, .int a1_fog, .int a1_here, .int a1_seconds, .int a1_crashes])), (q_a1_bends, .inr (0, [.ref q_a1_bends_yards, .ref q_a1_bends_truth, .ref q_a1_bends_notes, .ref q_a1_bends_words, .ref q_a1_bends_mud, .int a1_bends_size])), (q_a1_bends_yards, .inl (cI, 8, .inl a1_bends_yards)), (q_a1_bends_truth, .inl (cI, 8, .inl a1_bends_truth)), (q_a1_bends_notes, .inl (cI, 8, .inl a1_bends_notes)), (q_a1_bends_words, .inl (cI, 8, .inl a1_bends_words)), (q_a1_bends_mud, .inl (cI, 8, .inl a1_bends_mud)), (q_a0, .inr (6, [.ref q_a0_bytes, .int a0_size, .int u_7, .int u_8, .int u_9])), (q_a0_bytes, .inl (cI, 150, .inl a0_bytes))] := hD
    refine lv_istore_n (lv' := [(2, .int r_6), (0, .ref q_a0), (1, .ref q_a1)]) hx hb dX7_bendTold_23 rfl hl (by decide) rfl (fun ls hl => ?_)
    refine lv_iload_n hx hb dX7_bendTold_24 rfl (lv_at hl 0 rfl) ?_
    refine lv_iconst (v := (-1)) hx hb dX7_bendTold_25 (by decide) ?_
    refine lv_icmp_ne (tgt := 31) hx hb dX7_bendTold_26 (by decide) (fun c_10 => ?_) (fun c_10 => ?_)
    · have hf := it_f c_10 hf
      refine lv_aload_n hx hb dX7_bendTold_31 rfl (lv_at hl 1 rfl) ?_
      refine lv_iconst (v := 1) hx hb dX7_bendTold_32 (by decide) ?_
      refine lv_bipush (v := 6) hx hb dX7_bendTold_33 (by decide) ?_
      have hPc := hP.sub (ws' := [(q_a0, .inr (6, [.ref q_a0_bytes, .int a0_size, .int u_7, .int u_8, .int u_9])), (q_a0_bytes, .inl (cI, 150, .inl a0_bytes))]) [7, 8] rfl
      have hDc := hD.sub (ws' := [(q_a0, .inr (6, [.ref q_a0_bytes, .int a0_size, .int u_7, .int u_8, .int u_9])), (q_a0_bytes, .inl (cI, 150, .inl a0_bytes))]) [7, 8] (by decide) rfl
      have hFc := va_free (wc := [(q_a0, .inr (6, [.ref q_a0_bytes, .int a0_size, .int u_7, .int u_8, .int u_9])), (q_a0_bytes, .inl (cI, 150, .inl a0_bytes))]) hD hS hA [7, 8] rfl
      refine va_calli (va_runV (As := [.int 1, .int 6]) (rest := []) ⟨hx, hb, hml, hown, hts⟩ (c_X7_number l D cI cZ cO q_a0 q_a0_bytes a0_size u_7 u_8 u_9 a0_bytes H.size 1 6 _ hf) (cwV 2 hts gX7_bendTold_X7_number rfl rfl rfl (by decide +kernel) ⟨Nat.le_of_ble_eq_true rfl, Nat.le_of_ble_eq_true rfl⟩) (pv_rw (ci := 6) (q0 := 0) hPc hDc hX rfl rfl) rfl rfl hl.1 rfl (lv_room (Nat.le_of_ble_eq_true rfl)) dX7_bendTold_35 ⟨Nat.zero_le _, Nat.zero_le _⟩) hS (fun q _ h => hFc q h) hFc (fun r_11 u t H1 locs ht hvm hf hB hz1 hk1 hS => ?_)
      obtain ⟨u_12, u_13, u_14⟩ := u
      obtain ⟨hP1, hD1⟩ := hB
      rw [ht] at hP1
      clear hvm
      obtain ⟨hP, hD⟩ := va_join (wr := [(q_a1, .inr (5, [.ref q_a1_bends, .ref q_a1_felt, .ref q_a1_paces, .ref q_a1_past, .int a1_kind, .int a1_fog, .int a1_here, .int a1_seconds, .int a1_crashes])), (q_a1_bends, .inr (0, [.ref q_a1_bends_yards, .ref q_a1_bends_truth, .ref q_a1_bends_notes, .ref q_a1_bends_words, .ref q_a1_bends_mud, .int a1_bends_size])), (q_a1_bends_yards, .inl (cI, 8, .inl a1_bends_yards)), (q_a1_bends_truth, .inl (cI, 8, .inl a1_bends_truth)), (q_a1_bends_notes, .inl (cI, 8, .inl a1_bends_notes)), (q_a1_bends_words, .inl (cI, 8, .inl a1_bends_words)), (q_a1_bends_mud, .inl (cI, 8, .inl a1_bends_mud))]) (w1 := [(q_a0, .inr (6, [.ref q_a0_bytes, .int a0_size, .int u_12, .int u_13, .int u_14])), (q_a0_bytes, .inl (cI, 150, .inl a0_bytes))]) hP hD [7, 8] [0, 1, 2, 3, 4, 5, 6] rfl rfl (by decide) (by decide) hk1 hFc hP1 hD1
      clear hz1 hk1 hPc hDc hFc hP1 hD1
      generalize H1 = H at hP hS ⊢
      have hP : va_P D vwCl [(q_a1, .inr (5, [.ref q_a1_bends, .ref q_a1_felt, .ref q_a1_paces, .ref q_a1_past, .int a1_kind, .int a1_fog, .int a1_here, .int a1_seconds, .int a1_crashes])), (q_a1_bends, .inr (0, [.ref q_a1_bends_yards, .ref q_a1_bends_truth, .ref q_a1_bends_notes, .ref q_a1_bends_words, .ref q_a1_bends_mud, .int a1_bends_size])), (q_a1_bends_yards, .inl (cI, 8, .inl a1_bends_yards)), (q_a1_bends_truth, .inl (cI, 8, .inl a1_bends_truth)), (q_a1_bends_notes, .inl (cI, 8, .inl a1_bends_notes)), (q_a1_bends_words, .inl (cI, 8, .inl a1_bends_words)), (q_a1_bends_mud, .inl (cI, 8, .inl a1_bends_mud)), (q_a0, .inr (6, [.ref q_a0_bytes, .int a0_size, .int u_12, .int u_13, .int u_14])), (q_a0_bytes, .inl (cI, 150, .inl a0_bytes))] H := hP
      have hD : va_D A [(q_a1, .inr (5, [.ref q_a1_bends, .ref q_a1_felt, .ref q_a1_paces, .ref q_a1_past, .int a1_kind, .int a1_fog, .int a1_here, .int a1_seconds, .int a1_crashes])), (q_a1_bends, .inr (0, [.ref q_a1_bends_yards, .ref q_a1_bends_truth, .ref q_a1_bends_notes, .ref q_a1_bends_words, .ref q_a1_bends_mud, .int a1_bends_size])), (q_a1_bends_yards, .inl (cI, 8, .inl a1_bends_yards)), (q_a1_bends_truth, .inl (cI, 8, .inl a1_bends_truth)), (q_a1_bends_notes, .inl (cI, 8, .inl a1_bends_notes)), (q_a1_bends_words, .inl (cI, 8, .inl a1_bends_words)), (q_a1_bends_mud, .inl (cI, 8, .inl a1_bends_mud)), (q_a0, .inr (6, [.ref q_a0_bytes, .int a0_size, .int u_12, .int u_13, .int u_14])), (q_a0_bytes, .inl (cI, 150, .inl a0_bytes))] := hD
      refine lv_istore_n (lv' := [(3, .int r_11), (2, .int r_6), (0, .ref q_a0), (1, .ref q_a1)]) hx hb dX7_bendTold_38 rfl hl (by decide) rfl (fun ls hl => ?_)
      refine lv_iload_n hx hb dX7_bendTold_39 rfl (lv_at hl 0 rfl) ?_
      refine lv_iconst (v := (-1)) hx hb dX7_bendTold_40 (by decide) ?_
      refine lv_icmp_ne (tgt := 46) hx hb dX7_bendTold_41 (by decide) (fun c_15 => ?_) (fun c_15 => ?_)
      · have hf := it_f c_15 hf
        refine lv_aload_n hx hb dX7_bendTold_46 rfl (lv_at hl 2 rfl) ?_
        refine lv_iconst (v := 0) hx hb dX7_bendTold_47 (by decide) ?_
        refine lv_bipush (v := 6) hx hb dX7_bendTold_48 (by decide) ?_
        have hPc := hP.sub (ws' := [(q_a0, .inr (6, [.ref q_a0_bytes, .int a0_size, .int u_12, .int u_13, .int u_14])), (q_a0_bytes, .inl (cI, 150, .inl a0_bytes))]) [7, 8] rfl
        have hDc := hD.sub (ws' := [(q_a0, .inr (6, [.ref q_a0_bytes, .int a0_size, .int u_12, .int u_13, .int u_14])), (q_a0_bytes, .inl (cI, 150, .inl a0_bytes))]) [7, 8] (by decide) rfl
        have hFc := va_free (wc := [(q_a0, .inr (6, [.ref q_a0_bytes, .int a0_size, .int u_12, .int u_13, .int u_14])), (q_a0_bytes, .inl (cI, 150, .inl a0_bytes))]) hD hS hA [7, 8] rfl
        refine va_calli (va_runV (As := [.int 0, .int 6]) (rest := []) ⟨hx, hb, hml, hown, hts⟩ (c_X7_number l D cI cZ cO q_a0 q_a0_bytes a0_size u_12 u_13 u_14 a0_bytes H.size 0 6 _ hf) (cwV 2 hts gX7_bendTold_X7_number rfl rfl rfl (by decide +kernel) ⟨Nat.le_of_ble_eq_true rfl, Nat.le_of_ble_eq_true rfl⟩) (pv_rw (ci := 6) (q0 := 0) hPc hDc hX rfl rfl) rfl rfl hl.1 rfl (lv_room (Nat.le_of_ble_eq_true rfl)) dX7_bendTold_50 ⟨Nat.zero_le _, Nat.zero_le _⟩) hS (fun q _ h => hFc q h) hFc (fun r_16 u t H1 locs ht hvm hf hB hz1 hk1 hS => ?_)
        obtain ⟨u_17, u_18, u_19⟩ := u
        obtain ⟨hP1, hD1⟩ := hB
        rw [ht] at hP1
        clear hvm
        obtain ⟨hP, hD⟩ := va_join (wr := [(q_a1, .inr (5, [.ref q_a1_bends, .ref q_a1_felt, .ref q_a1_paces, .ref q_a1_past, .int a1_kind, .int a1_fog, .int a1_here, .int a1_seconds, .int a1_crashes])), (q_a1_bends, .inr (0, [.ref q_a1_bends_yards, .ref q_a1_bends_truth, .ref q_a1_bends_notes, .ref q_a1_bends_words, .ref q_a1_bends_mud, .int a1_bends_size])), (q_a1_bends_yards, .inl (cI, 8, .inl a1_bends_yards)), (q_a1_bends_truth, .inl (cI, 8, .inl a1_bends_truth)), (q_a1_bends_notes, .inl (cI, 8, .inl a1_bends_notes)), (q_a1_bends_words, .inl (cI, 8, .inl a1_bends_words)), (q_a1_bends_mud, .inl (cI, 8, .inl a1_bends_mud))]) (w1 := [(q_a0, .inr (6, [.ref q_a0_bytes, .int a0_size, .int u_17, .int u_18, .int u_19])), (q_a0_bytes, .inl (cI, 150, .inl a0_bytes))]) hP hD [7, 8] [0, 1, 2, 3, 4, 5, 6] rfl rfl (by decide) (by decide) hk1 hFc hP1 hD1
        clear hz1 hk1 hPc hDc hFc hP1 hD1
        generalize H1 = H at hP hS ⊢
        have hP : va_P D vwCl [(q_a1, .inr (5, [.ref q_a1_bends, .ref q_a1_felt, .ref q_a1_paces, .ref q_a1_past, .int a1_kind, .int a1_fog, .int a1_here, .int a1_seconds, .int a1_crashes])), (q_a1_bends, .inr (0, [.ref q_a1_bends_yards, .ref q_a1_bends_truth, .ref q_a1_bends_notes, .ref q_a1_bends_words, .ref q_a1_bends_mud, .int a1_bends_size])), (q_a1_bends_yards, .inl (cI, 8, .inl a1_bends_yards)), (q_a1_bends_truth, .inl (cI, 8, .inl a1_bends_truth)), (q_a1_bends_notes, .inl (cI, 8, .inl a1_bends_notes)), (q_a1_bends_words, .inl (cI, 8, .inl a1_bends_words)), (q_a1_bends_mud, .inl (cI, 8, .inl a1_bends_mud)), (q_a0, .inr (6, [.ref q_a0_bytes, .int a0_size, .int u_17, .int u_18, .int u_19])), (q_a0_bytes, .inl (cI, 150, .inl a0_bytes))] H := hP
        have hD : va_D A [(q_a1, .inr (5, [.ref q_a1_bends, .ref q_a1_felt, .ref q_a1_paces, .ref q_a1_past, .int a1_kind, .int a1_fog, .int a1_here, .int a1_seconds, .int a1_crashes])), (q_a1_bends, .inr (0, [.ref q_a1_bends_yards, .ref q_a1_bends_truth, .ref q_a1_bends_notes, .ref q_a1_bends_words, .ref q_a1_bends_mud, .int a1_bends_size])), (q_a1_bends_yards, .inl (cI, 8, .inl a1_bends_yards)), (q_a1_bends_truth, .inl (cI, 8, .inl a1_bends_truth)), (q_a1_bends_notes, .inl (cI, 8, .inl a1_bends_notes)), (q_a1_bends_words, .inl (cI, 8, .inl a1_bends_words)), (q_a1_bends_mud, .inl (cI, 8, .inl a1_bends_mud)), (q_a0, .inr (6, [.ref q_a0_bytes, .int a0_size, .int u_17, .int u_18, .int u_19])), (q_a0_bytes, .inl (cI, 150, .inl a0_bytes))] := hD
        refine lv_istore (lv' := [(4, .int r_16), (3, .int r_11), (2, .int r_6), (0, .ref q_a0), (1, .ref q_a1)]) hx hb dX7_bendTold_53 hl (by decide) rfl (fun ls hl => ?_)
        refine lv_iload hx hb dX7_bendTold_55 (lv_at hl 0 rfl) ?_
        refine lv_iconst (v := (-1)) hx hb dX7_bendTold_57 (by decide) ?_
        refine lv_icmp_ne (tgt := 63) hx hb dX7_bendTold_58 (by decide) (fun c_20 => ?_) (fun c_20 => ?_)
        · have hf := it_f c_20 hf
          refine lv_aload_n hx hb dX7_bendTold_63 rfl (lv_at hl 3 rfl) ?_
          refine lv_iconst (v := 1) hx hb dX7_bendTold_64 (by decide) ?_
          refine lv_bipush (v := 9) hx hb dX7_bendTold_65 (by decide) ?_
          have hPc := hP.sub (ws' := [(q_a0, .inr (6, [.ref q_a0_bytes, .int a0_size, .int u_17, .int u_18, .int u_19])), (q_a0_bytes, .inl (cI, 150, .inl a0_bytes))]) [7, 8] rfl
          have hDc := hD.sub (ws' := [(q_a0, .inr (6, [.ref q_a0_bytes, .int a0_size, .int u_17, .int u_18, .int u_19])), (q_a0_bytes, .inl (cI, 150, .inl a0_bytes))]) [7, 8] (by decide) rfl
          have hFc := va_free (wc := [(q_a0, .inr (6, [.ref q_a0_bytes, .int a0_size, .int u_17, .int u_18, .int u_19])), (q_a0_bytes, .inl (cI, 150, .inl a0_bytes))]) hD hS hA [7, 8] rfl
          refine va_calli (va_runV (As := [.int 1, .int 9]) (rest := []) ⟨hx, hb, hml, hown, hts⟩ (c_X7_number l D cI cZ cO q_a0 q_a0_bytes a0_size u_17 u_18 u_19 a0_bytes H.size 1 9 _ hf) (cwV 2 hts gX7_bendTold_X7_number rfl rfl rfl (by decide +kernel) ⟨Nat.le_of_ble_eq_true rfl, Nat.le_of_ble_eq_true rfl⟩) (pv_rw (ci := 6) (q0 := 0) hPc hDc hX rfl rfl) rfl rfl hl.1 rfl (lv_room (Nat.le_of_ble_eq_true rfl)) dX7_bendTold_67 ⟨Nat.zero_le _, Nat.zero_le _⟩) hS (fun q _ h => hFc q h) hFc (fun r_21 u t H1 locs ht hvm hf hB hz1 hk1 hS => ?_)
          obtain ⟨u_22, u_23, u_24⟩ := u
          obtain ⟨hP1, hD1⟩ := hB
          rw [ht] at hP1
          clear hvm
          obtain ⟨hP, hD⟩ := va_join (wr := [(q_a1, .inr (5, [.ref q_a1_bends, .ref q_a1_felt, .ref q_a1_paces, .ref q_a1_past, .int a1_kind, .int a1_fog, .int a1_here, .int a1_seconds, .int a1_crashes])), (q_a1_bends, .inr (0, [.ref q_a1_bends_yards, .ref q_a1_bends_truth, .ref q_a1_bends_notes, .ref q_a1_bends_words, .ref q_a1_bends_mud, .int a1_bends_size])), (q_a1_bends_yards, .inl (cI, 8, .inl a1_bends_yards)), (q_a1_bends_truth, .inl (cI, 8, .inl a1_bends_truth)), (q_a1_bends_notes, .inl (cI, 8, .inl a1_bends_notes)), (q_a1_bends_words, .inl (cI, 8, .inl a1_bends_words)), (q_a1_bends_mud, .inl (cI, 8, .inl a1_bends_mud))]) (w1 := [(q_a0, .inr (6, [.ref q_a0_bytes, .int a0_size, .int u_22, .int u_23, .int u_24])), (q_a0_bytes, .inl (cI, 150, .inl a0_bytes))]) hP hD [7, 8] [0, 1, 2, 3, 4, 5, 6] rfl rfl (by decide) (by decide) hk1 hFc hP1 hD1
          clear hz1 hk1 hPc hDc hFc hP1 hD1
          generalize H1 = H at hP hS ⊢
          have hP : va_P D vwCl [(q_a1, .inr (5, [.ref q_a1_bends, .ref q_a1_felt, .ref q_a1_paces, .ref q_a1_past, .int a1_kind, .int a1_fog, .int a1_here, .int a1_seconds, .int a1_crashes])), (q_a1_bends, .inr (0, [.ref q_a1_bends_yards, .ref q_a1_bends_truth, .ref q_a1_bends_notes, .ref q_a1_bends_words, .ref q_a1_bends_mud, .int a1_bends_size])), (q_a1_bends_yards, .inl (cI, 8, .inl a1_bends_yards)), (q_a1_bends_truth, .inl (cI, 8, .inl a1_bends_truth)), (q_a1_bends_notes, .inl (cI, 8, .inl a1_bends_notes)), (q_a1_bends_words, .inl (cI, 8, .inl a1_bends_words)), (q_a1_bends_mud, .inl (cI, 8, .inl a1_bends_mud)), (q_a0, .inr (6, [.ref q_a0_bytes, .int a0_size, .int u_22, .int u_23, .int u_24])), (q_a0_bytes, .inl (cI, 150, .inl a0_bytes))] H := hP
          have hD : va_D A [(q_a1, .inr (5, [.ref q_a1_bends, .ref q_a1_felt, .ref q_a1_paces, .ref q_a1_past, .int a1_kind, .int a1_fog, .int a1_here, .int a1_seconds, .int a1_crashes])), (q_a1_bends, .inr (0, [.ref q_a1_bends_yards, .ref q_a1_bends_truth, .ref q_a1_bends_notes, .ref q_a1_bends_words, .ref q_a1_bends_mud, .int a1_bends_size])), (q_a1_bends_yards, .inl (cI, 8, .inl a1_bends_yards)), (q_a1_bends_truth, .inl (cI, 8, .inl a1_bends_truth)), (q_a1_bends_notes, .inl (cI, 8, .inl a1_bends_notes)), (q_a1_bends_words, .inl (cI, 8, .inl a1_bends_words)), (q_a1_bends_mud, .inl (cI, 8, .inl a1_bends_mud)), (q_a0, .inr (6, [.ref q_a0_bytes, .int a0_size, .int u_22, .int u_23, .int u_24])), (q_a0_bytes, .inl (cI, 150, .inl a0_bytes))] := hD
          refine lv_istore (lv' := [(5, .int r_21), (4, .int r_16), (3, .int r_11), (2, .int r_6), (0, .ref q_a0), (1, .ref q_a1)]) hx hb dX7_bendTold_70 hl (by decide) rfl (fun ls hl => ?_)
          refine lv_iload hx hb dX7_bendTold_72 (lv_at hl 0 rfl) ?_
          refine lv_iconst (v := (-1)) hx hb dX7_bendTold_74 (by decide) ?_
          refine lv_icmp_ne (tgt := 80) hx hb dX7_bendTold_75 (by decide) (fun c_25 => ?_) (fun c_25 => ?_)
          · have hf := it_f c_25 hf
            refine lv_aload_n hx hb dX7_bendTold_80 rfl (lv_at hl 5 rfl) ?_
            refine va_get (D := D) (ci := 5) (v := .ref q_a1_bends) (C := RX6) (T := TX6) (N := 9) hx hb hts in_X6 hown hK hP 0 rfl rfl 0 (by decide) kf_78 (fun _ h9 => h9) rfl dX7_bendTold_81 ?_
            refine lv_iload_n hx hb dX7_bendTold_84 rfl (lv_at hl 3 rfl) ?_
            refine lv_iload_n hx hb dX7_bendTold_85 rfl (lv_at hl 2 rfl) ?_
            refine lv_iload hx hb dX7_bendTold_86 (lv_at hl 1 rfl) ?_
            refine lv_iload hx hb dX7_bendTold_88 (lv_at hl 0 rfl) ?_
            have hPc := hP.sub (ws' := [(q_a1_bends, .inr (0, [.ref q_a1_bends_yards, .ref q_a1_bends_truth, .ref q_a1_bends_notes, .ref q_a1_bends_words, .ref q_a1_bends_mud, .int a1_bends_size])), (q_a1_bends_yards, .inl (cI, 8, .inl a1_bends_yards)), (q_a1_bends_truth, .inl (cI, 8, .inl a1_bends_truth)), (q_a1_bends_notes, .inl (cI, 8, .inl a1_bends_notes)), (q_a1_bends_words, .inl (cI, 8, .inl a1_bends_words)), (q_a1_bends_mud, .inl (cI, 8, .inl a1_bends_mud))]) [1, 2, 3, 4, 5, 6] rfl
            have hDc := hD.sub (ws' := [(q_a1_bends, .inr (0, [.ref q_a1_bends_yards, .ref q_a1_bends_truth, .ref q_a1_bends_notes, .ref q_a1_bends_words, .ref q_a1_bends_mud, .int a1_bends_size])), (q_a1_bends_yards, .inl (cI, 8, .inl a1_bends_yards)), (q_a1_bends_truth, .inl (cI, 8, .inl a1_bends_truth)), (q_a1_bends_notes, .inl (cI, 8, .inl a1_bends_notes)), (q_a1_bends_words, .inl (cI, 8, .inl a1_bends_words)), (q_a1_bends_mud, .inl (cI, 8, .inl a1_bends_mud))]) [1, 2, 3, 4, 5, 6] (by decide) rfl
            have hFc := va_free (wc := [(q_a1_bends, .inr (0, [.ref q_a1_bends_yards, .ref q_a1_bends_truth, .ref q_a1_bends_notes, .ref q_a1_bends_words, .ref q_a1_bends_mud, .int a1_bends_size])), (q_a1_bends_yards, .inl (cI, 8, .inl a1_bends_yards)), (q_a1_bends_truth, .inl (cI, 8, .inl a1_bends_truth)), (q_a1_bends_notes, .inl (cI, 8, .inl a1_bends_notes)), (q_a1_bends_words, .inl (cI, 8, .inl a1_bends_words)), (q_a1_bends_mud, .inl (cI, 8, .inl a1_bends_mud))]) hD hS hA [1, 2, 3, 4, 5, 6] rfl
            refine va_calli (va_runV (As := [.int r_6, .int r_11, .int r_16, .int r_21]) (rest := []) ⟨hx, hb, hml, hown, hts⟩ (c_X0_add l D cI cZ cO q_a1_bends q_a1_bends_yards q_a1_bends_truth q_a1_bends_notes q_a1_bends_words q_a1_bends_mud a1_bends_size a1_bends_yards a1_bends_truth a1_bends_notes a1_bends_words a1_bends_mud H.size r_6 r_11 r_16 r_21 _ hf) (cwV 4 hts gX7_bendTold_X0_add rfl rfl rfl (by decide +kernel) ⟨Nat.le_of_ble_eq_true rfl, Nat.le_of_ble_eq_true rfl⟩) (pv_rw (ci := 0) (q0 := 0) hPc hDc hX rfl rfl) rfl rfl hl.1 rfl (lv_room (Nat.le_of_ble_eq_true rfl)) dX7_bendTold_90 ⟨Nat.zero_le _, Nat.zero_le _⟩) hS (fun q _ h => hFc q h) hFc (fun r_26 u t H1 locs ht hvm hf hB hz1 hk1 hS => ?_)
            obtain ⟨u_27, u_28, u_29, u_30, u_31, u_32⟩ := u
            obtain ⟨hP1, hD1⟩ := hB
            rw [ht] at hP1
            clear hvm
            obtain ⟨hP, hD⟩ := va_join (wr := [(q_a1, .inr (5, [.ref q_a1_bends, .ref q_a1_felt, .ref q_a1_paces, .ref q_a1_past, .int a1_kind, .int a1_fog, .int a1_here, .int a1_seconds, .int a1_crashes])), (q_a0, .inr (6, [.ref q_a0_bytes, .int a0_size, .int u_22, .int u_23, .int u_24])), (q_a0_bytes, .inl (cI, 150, .inl a0_bytes))]) (w1 := [(q_a1_bends, .inr (0, [.ref q_a1_bends_yards, .ref q_a1_bends_truth, .ref q_a1_bends_notes, .ref q_a1_bends_words, .ref q_a1_bends_mud, .int u_32])), (q_a1_bends_yards, .inl (cI, 8, .inl u_27)), (q_a1_bends_truth, .inl (cI, 8, .inl u_28)), (q_a1_bends_notes, .inl (cI, 8, .inl u_29)), (q_a1_bends_words, .inl (cI, 8, .inl u_30)), (q_a1_bends_mud, .inl (cI, 8, .inl u_31))]) hP hD [1, 2, 3, 4, 5, 6] [0, 7, 8] rfl rfl (by decide) (by decide) hk1 hFc hP1 hD1
            clear hz1 hk1 hPc hDc hFc hP1 hD1
            generalize H1 = H at hP hS ⊢
            have hP : va_P D vwCl [(q_a1, .inr (5, [.ref q_a1_bends, .ref q_a1_felt, .ref q_a1_paces, .ref q_a1_past, .int a1_kind, .int a1_fog, .int a1_here, .int a1_seconds, .int a1_crashes])), (q_a0, .inr (6, [.ref q_a0_bytes, .int a0_size, .int u_22, .int u_23, .int u_24])), (q_a0_bytes, .inl (cI, 150, .inl a0_bytes)), (q_a1_bends, .inr (0, [.ref q_a1_bends_yards, .ref q_a1_bends_truth, .ref q_a1_bends_notes, .ref q_a1_bends_words, .ref q_a1_bends_mud, .int u_32])), (q_a1_bends_yards, .inl (cI, 8, .inl u_27)), (q_a1_bends_truth, .inl (cI, 8, .inl u_28)), (q_a1_bends_notes, .inl (cI, 8, .inl u_29)), (q_a1_bends_words, .inl (cI, 8, .inl u_30)), (q_a1_bends_mud, .inl (cI, 8, .inl u_31))] H := hP
            have hD : va_D A [(q_a1, .inr (5, [.ref q_a1_bends, .ref q_a1_felt, .ref q_a1_paces, .ref q_a1_past, .int a1_kind, .int a1_fog, .int a1_here, .int a1_seconds, .int a1_crashes])), (q_a0, .inr (6, [.ref q_a0_bytes, .int a0_size, .int u_22, .int u_23, .int u_24])), (q_a0_bytes, .inl (cI, 150, .inl a0_bytes)), (q_a1_bends, .inr (0, [.ref q_a1_bends_yards, .ref q_a1_bends_truth, .ref q_a1_bends_notes, .ref q_a1_bends_words, .ref q_a1_bends_mud, .int u_32])), (q_a1_bends_yards, .inl (cI, 8, .inl u_27)), (q_a1_bends_truth, .inl (cI, 8, .inl u_28)), (q_a1_bends_notes, .inl (cI, 8, .inl u_29)), (q_a1_bends_words, .inl (cI, 8, .inl u_30)), (q_a1_bends_mud, .inl (cI, 8, .inl u_31))] := hD
            refine lv_pop hx hb dX7_bendTold_93 rfl ?_
            refine lv_aload_n hx hb dX7_bendTold_94 rfl (lv_at hl 4 rfl) ?_
            have hPc := hP.sub (ws' := [(q_a0, .inr (6, [.ref q_a0_bytes, .int a0_size, .int u_22, .int u_23, .int u_24])), (q_a0_bytes, .inl (cI, 150, .inl a0_bytes))]) [1, 2] rfl
            have hDc := hD.sub (ws' := [(q_a0, .inr (6, [.ref q_a0_bytes, .int a0_size, .int u_22, .int u_23, .int u_24])), (q_a0_bytes, .inl (cI, 150, .inl a0_bytes))]) [1, 2] (by decide) rfl
            have hFc := va_free (wc := [(q_a0, .inr (6, [.ref q_a0_bytes, .int a0_size, .int u_22, .int u_23, .int u_24])), (q_a0_bytes, .inl (cI, 150, .inl a0_bytes))]) hD hS hA [1, 2] rfl
            refine va_calli (va_runV (As := []) (rest := []) ⟨hx, hb, hml, hown, hts⟩ (c_X7_itemEnded l D cI cZ cO q_a0 q_a0_bytes a0_size u_22 u_23 u_24 a0_bytes H.size  _ hf) (cwV 0 hts gX7_bendTold_X7_itemEnded rfl rfl rfl (by decide +kernel) ⟨Nat.le_of_ble_eq_true rfl, Nat.le_of_ble_eq_true rfl⟩) (pv_rw (ci := 6) (q0 := 0) hPc hDc hX rfl rfl) rfl rfl hl.1 rfl (lv_room (Nat.le_of_ble_eq_true rfl)) dX7_bendTold_95 ⟨Nat.zero_le _, Nat.zero_le _⟩) hS (fun q _ h => hFc q h) hFc (fun r_33 u t H1 locs ht hvm hf hB hz1 hk1 hS => ?_)
            obtain ⟨u_34, u_35, u_36⟩ := u
            obtain ⟨hP1, hD1⟩ := hB
            rw [ht] at hP1
            clear hvm
            obtain ⟨hP, hD⟩ := va_join (wr := [(q_a1, .inr (5, [.ref q_a1_bends, .ref q_a1_felt, .ref q_a1_paces, .ref q_a1_past, .int a1_kind, .int a1_fog, .int a1_here, .int a1_seconds, .int a1_crashes])), (q_a1_bends, .inr (0, [.ref q_a1_bends_yards, .ref q_a1_bends_truth, .ref q_a1_bends_notes, .ref q_a1_bends_words, .ref q_a1_bends_mud, .int u_32])), (q_a1_bends_yards, .inl (cI, 8, .inl u_27)), (q_a1_bends_truth, .inl (cI, 8, .inl u_28)), (q_a1_bends_notes, .inl (cI, 8, .inl u_29)), (q_a1_bends_words, .inl (cI, 8, .inl u_30)), (q_a1_bends_mud, .inl (cI, 8, .inl u_31))]) (w1 := [(q_a0, .inr (6, [.ref q_a0_bytes, .int a0_size, .int u_34, .int u_35, .int u_36])), (q_a0_bytes, .inl (cI, 150, .inl a0_bytes))]) hP hD [1, 2] [0, 3, 4, 5, 6, 7, 8] rfl rfl (by decide) (by decide) hk1 hFc hP1 hD1
            clear hz1 hk1 hPc hDc hFc hP1 hD1
            generalize H1 = H at hP hS ⊢
            have hP : va_P D vwCl [(q_a1, .inr (5, [.ref q_a1_bends, .ref q_a1_felt, .ref q_a1_paces, .ref q_a1_past, .int a1_kind, .int a1_fog, .int a1_here, .int a1_seconds, .int a1_crashes])), (q_a1_bends, .inr (0, [.ref q_a1_bends_yards, .ref q_a1_bends_truth, .ref q_a1_bends_notes, .ref q_a1_bends_words, .ref q_a1_bends_mud, .int u_32])), (q_a1_bends_yards, .inl (cI, 8, .inl u_27)), (q_a1_bends_truth, .inl (cI, 8, .inl u_28)), (q_a1_bends_notes, .inl (cI, 8, .inl u_29)), (q_a1_bends_words, .inl (cI, 8, .inl u_30)), (q_a1_bends_mud, .inl (cI, 8, .inl u_31)), (q_a0, .inr (6, [.ref q_a0_bytes, .int a0_size, .int u_34, .int u_35, .int u_36])), (q_a0_bytes, .inl (cI, 150, .inl a0_bytes))] H := hP
            have hD : va_D A [(q_a1, .inr (5, [.ref q_a1_bends, .ref q_a1_felt, .ref q_a1_paces, .ref q_a1_past, .int a1_kind, .int a1_fog, .int a1_here, .int a1_seconds, .int a1_crashes])), (q_a1_bends, .inr (0, [.ref q_a1_bends_yards, .ref q_a1_bends_truth, .ref q_a1_bends_notes, .ref q_a1_bends_words, .ref q_a1_bends_mud, .int u_32])), (q_a1_bends_yards, .inl (cI, 8, .inl u_27)), (q_a1_bends_truth, .inl (cI, 8, .inl u_28)), (q_a1_bends_notes, .inl (cI, 8, .inl u_29)), (q_a1_bends_words, .inl (cI, 8, .inl u_30)), (q_a1_bends_mud, .inl (cI, 8, .inl u_31)), (q_a0, .inr (6, [.ref q_a0_bytes, .int a0_size, .int u_34, .int u_35, .int u_36])), (q_a0_bytes, .inl (cI, 150, .inl a0_bytes))] := hD
            subst hQQ
            have hz := hf.1
            have hf := hf.2
            have hP9 := hP.sub (ws' := [(q_a0, .inr (6, [.ref q_a0_bytes, .int a0_size, .int u_34, .int u_35, .int u_36])), (q_a0_bytes, .inl (cI, 150, .inl a0_bytes)), (q_a1, .inr (5, [.ref q_a1_bends, .ref q_a1_felt, .ref q_a1_paces, .ref q_a1_past, .int a1_kind, .int a1_fog, .int a1_here, .int a1_seconds, .int a1_crashes])), (q_a1_bends, .inr (0, [.ref q_a1_bends_yards, .ref q_a1_bends_truth, .ref q_a1_bends_notes, .ref q_a1_bends_words, .ref q_a1_bends_mud, .int u_32])), (q_a1_bends_yards, .inl (cI, 8, .inl u_27)), (q_a1_bends_truth, .inl (cI, 8, .inl u_28)), (q_a1_bends_notes, .inl (cI, 8, .inl u_29)), (q_a1_bends_words, .inl (cI, 8, .inl u_30)), (q_a1_bends_mud, .inl (cI, 8, .inl u_31))]) [7, 8, 0, 1, 2, 3, 4, 5, 6] rfl
            have hD9 := hD.sub (ws' := [(q_a0, .inr (6, [.ref q_a0_bytes, .int a0_size, .int u_34, .int u_35, .int u_36])), (q_a0_bytes, .inl (cI, 150, .inl a0_bytes)), (q_a1, .inr (5, [.ref q_a1_bends, .ref q_a1_felt, .ref q_a1_paces, .ref q_a1_past, .int a1_kind, .int a1_fog, .int a1_here, .int a1_seconds, .int a1_crashes])), (q_a1_bends, .inr (0, [.ref q_a1_bends_yards, .ref q_a1_bends_truth, .ref q_a1_bends_notes, .ref q_a1_bends_words, .ref q_a1_bends_mud, .int u_32])), (q_a1_bends_yards, .inl (cI, 8, .inl u_27)), (q_a1_bends_truth, .inl (cI, 8, .inl u_28)), (q_a1_bends_notes, .inl (cI, 8, .inl u_29)), (q_a1_bends_words, .inl (cI, 8, .inl u_30)), (q_a1_bends_mud, .inl (cI, 8, .inl u_31))]) [7, 8, 0, 1, 2, 3, 4, 5, 6] (by decide) rfl
            exact W.zret hx hb hr hz (fun t ht hW => ⟨⟨r_33, (u_34, u_35, u_36, u_27, u_28, u_29, u_30, u_31, u_32), rfl, hf, by rw [ht]; exact hP9, hD9⟩, hS.F ht⟩) hS.2.2 dX7_bendTold_98
          · have hf := it_t c_25 hf
            refine lv_iconst (v := 0) hx hb dX7_bendTold_78 (by decide) ?_
            subst hQQ
            have hP9 := hP.sub (ws' := [(q_a0, .inr (6, [.ref q_a0_bytes, .int a0_size, .int u_22, .int u_23, .int u_24])), (q_a0_bytes, .inl (cI, 150, .inl a0_bytes)), (q_a1, .inr (5, [.ref q_a1_bends, .ref q_a1_felt, .ref q_a1_paces, .ref q_a1_past, .int a1_kind, .int a1_fog, .int a1_here, .int a1_seconds, .int a1_crashes])), (q_a1_bends, .inr (0, [.ref q_a1_bends_yards, .ref q_a1_bends_truth, .ref q_a1_bends_notes, .ref q_a1_bends_words, .ref q_a1_bends_mud, .int a1_bends_size])), (q_a1_bends_yards, .inl (cI, 8, .inl a1_bends_yards)), (q_a1_bends_truth, .inl (cI, 8, .inl a1_bends_truth)), (q_a1_bends_notes, .inl (cI, 8, .inl a1_bends_notes)), (q_a1_bends_words, .inl (cI, 8, .inl a1_bends_words)), (q_a1_bends_mud, .inl (cI, 8, .inl a1_bends_mud))]) [7, 8, 0, 1, 2, 3, 4, 5, 6] rfl
            have hD9 := hD.sub (ws' := [(q_a0, .inr (6, [.ref q_a0_bytes, .int a0_size, .int u_22, .int u_23, .int u_24])), (q_a0_bytes, .inl (cI, 150, .inl a0_bytes)), (q_a1, .inr (5, [.ref q_a1_bends, .ref q_a1_felt, .ref q_a1_paces, .ref q_a1_past, .int a1_kind, .int a1_fog, .int a1_here, .int a1_seconds, .int a1_crashes])), (q_a1_bends, .inr (0, [.ref q_a1_bends_yards, .ref q_a1_bends_truth, .ref q_a1_bends_notes, .ref q_a1_bends_words, .ref q_a1_bends_mud, .int a1_bends_size])), (q_a1_bends_yards, .inl (cI, 8, .inl a1_bends_yards)), (q_a1_bends_truth, .inl (cI, 8, .inl a1_bends_truth)), (q_a1_bends_notes, .inl (cI, 8, .inl a1_bends_notes)), (q_a1_bends_words, .inl (cI, 8, .inl a1_bends_words)), (q_a1_bends_mud, .inl (cI, 8, .inl a1_bends_mud))]) [7, 8, 0, 1, 2, 3, 4, 5, 6] (by decide) rfl
            exact W.zret hx hb hr rfl (fun t ht hW => ⟨⟨0, (u_22, u_23, u_24, a1_bends_yards, a1_bends_truth, a1_bends_notes, a1_bends_words, a1_bends_mud, a1_bends_size), rfl, hf, by rw [ht]; exact hP9, hD9⟩, hS.F ht⟩) hS.2.2 dX7_bendTold_79
        · have hf := it_t c_20 hf
          refine lv_iconst (v := 0) hx hb dX7_bendTold_61 (by decide) ?_
          subst hQQ
          have hP9 := hP.sub (ws' := [(q_a0, .inr (6, [.ref q_a0_bytes, .int a0_size, .int u_17, .int u_18, .int u_19])), (q_a0_bytes, .inl (cI, 150, .inl a0_bytes)), (q_a1, .inr (5, [.ref q_a1_bends, .ref q_a1_felt, .ref q_a1_paces, .ref q_a1_past, .int a1_kind, .int a1_fog, .int a1_here, .int a1_seconds, .int a1_crashes])), (q_a1_bends, .inr (0, [.ref q_a1_bends_yards, .ref q_a1_bends_truth, .ref q_a1_bends_notes, .ref q_a1_bends_words, .ref q_a1_bends_mud, .int a1_bends_size])), (q_a1_bends_yards, .inl (cI, 8, .inl a1_bends_yards)), (q_a1_bends_truth, .inl (cI, 8, .inl a1_bends_truth)), (q_a1_bends_notes, .inl (cI, 8, .inl a1_bends_notes)), (q_a1_bends_words, .inl (cI, 8, .inl a1_bends_words)), (q_a1_bends_mud, .inl (cI, 8, .inl a1_bends_mud))]) [7, 8, 0, 1, 2, 3, 4, 5, 6] rfl
          have hD9 := hD.sub (ws' := [(q_a0, .inr (6, [.ref q_a0_bytes, .int a0_size, .int u_17, .int u_18, .int u_19])), (q_a0_bytes, .inl (cI, 150, .inl a0_bytes)), (q_a1, .inr (5, [.ref q_a1_bends, .ref q_a1_felt, .ref q_a1_paces, .ref q_a1_past, .int a1_kind, .int a1_fog, .int a1_here, .int a1_seconds, .int a1_crashes])), (q_a1_bends, .inr (0, [.ref q_a1_bends_yards, .ref q_a1_bends_truth, .ref q_a1_bends_notes, .ref q_a1_bends_words, .ref q_a1_bends_mud, .int a1_bends_size])), (q_a1_bends_yards, .inl (cI, 8, .inl a1_bends_yards)), (q_a1_bends_truth, .inl (cI, 8, .inl a1_bends_truth)), (q_a1_bends_notes, .inl (cI, 8, .inl a1_bends_notes)), (q_a1_bends_words, .inl (cI, 8, .inl a1_bends_words)), (q_a1_bends_mud, .inl (cI, 8, .inl a1_bends_mud))]) [7, 8, 0, 1, 2, 3, 4, 5, 6] (by decide) rfl
          exact W.zret hx hb hr rfl (fun t ht hW => ⟨⟨0, (u_17, u_18, u_19, a1_bends_yards, a1_bends_truth, a1_bends_notes, a1_bends_words, a1_bends_mud, a1_bends_size), rfl, hf, by rw [ht]; exact hP9, hD9⟩, hS.F ht⟩) hS.2.2 dX7_bendTold_62
      · have hf := it_t c_15 hf
        refine lv_iconst (v := 0) hx hb dX7_bendTold_44 (by decide) ?_
        subst hQQ
        have hP9 := hP.sub (ws' := [(q_a0, .inr (6, [.ref q_a0_bytes, .int a0_size, .int u_12, .int u_13, .int u_14])), (q_a0_bytes, .inl (cI, 150, .inl a0_bytes)), (q_a1, .inr (5, [.ref q_a1_bends, .ref q_a1_felt, .ref q_a1_paces, .ref q_a1_past, .int a1_kind, .int a1_fog, .int a1_here, .int a1_seconds, .int a1_crashes])), (q_a1_bends, .inr (0, [.ref q_a1_bends_yards, .ref q_a1_bends_truth, .ref q_a1_bends_notes, .ref q_a1_bends_words, .ref q_a1_bends_mud, .int a1_bends_size])), (q_a1_bends_yards, .inl (cI, 8, .inl a1_bends_yards)), (q_a1_bends_truth, .inl (cI, 8, .inl a1_bends_truth)), (q_a1_bends_notes, .inl (cI, 8, .inl a1_bends_notes)), (q_a1_bends_words, .inl (cI, 8, .inl a1_bends_words)), (q_a1_bends_mud, .inl (cI, 8, .inl a1_bends_mud))]) [7, 8, 0, 1, 2, 3, 4, 5, 6] rfl
        have hD9 := hD.sub (ws' := [(q_a0, .inr (6, [.ref q_a0_bytes, .int a0_size, .int u_12, .int u_13, .int u_14])), (q_a0_bytes, .inl (cI, 150, .inl a0_bytes)), (q_a1, .inr (5, [.ref q_a1_bends, .ref q_a1_felt, .ref q_a1_paces, .ref q_a1_past, .int a1_kind, .int a1_fog, .int a1_here, .int a1_seconds, .int a1_crashes])), (q_a1_bends, .inr (0, [.ref q_a1_bends_yards, .ref q_a1_bends_truth, .ref q_a1_bends_notes, .ref q_a1_bends_words, .ref q_a1_bends_mud, .int a1_bends_size])), (q_a1_bends_yards, .inl (cI, 8, .inl a1_bends_yards)), (q_a1_bends_truth, .inl (cI, 8, .inl a1_bends_truth)), (q_a1_bends_notes, .inl (cI, 8, .inl a1_bends_notes)), (q_a1_bends_words, .inl (cI, 8, .inl a1_bends_words)), (q_a1_bends_mud, .inl (cI, 8, .inl a1_bends_mud))]) [7, 8, 0, 1, 2, 3, 4, 5, 6] (by decide) rfl
        exact W.zret hx hb hr rfl (fun t ht hW => ⟨⟨0, (u_12, u_13, u_14, a1_bends_yards, a1_bends_truth, a1_bends_notes, a1_bends_words, a1_bends_mud, a1_bends_size), rfl, hf, by rw [ht]; exact hP9, hD9⟩, hS.F ht⟩) hS.2.2 dX7_bendTold_45
    · have hf := it_t c_10 hf
      refine lv_iconst (v := 0) hx hb dX7_bendTold_29 (by decide) ?_
      subst hQQ
      have hP9 := hP.sub (ws' := [(q_a0, .inr (6, [.ref q_a0_bytes, .int a0_size, .int u_7, .int u_8, .int u_9])), (q_a0_bytes, .inl (cI, 150, .inl a0_bytes)), (q_a1, .inr (5, [.ref q_a1_bends, .ref q_a1_felt, .ref q_a1_paces, .ref q_a1_past, .int a1_kind, .int a1_fog, .int a1_here, .int a1_seconds, .int a1_crashes])), (q_a1_bends, .inr (0, [.ref q_a1_bends_yards, .ref q_a1_bends_truth, .ref q_a1_bends_notes, .ref q_a1_bends_words, .ref q_a1_bends_mud, .int a1_bends_size])), (q_a1_bends_yards, .inl (cI, 8, .inl a1_bends_yards)), (q_a1_bends_truth, .inl (cI, 8, .inl a1_bends_truth)), (q_a1_bends_notes, .inl (cI, 8, .inl a1_bends_notes)), (q_a1_bends_words, .inl (cI, 8, .inl a1_bends_words)), (q_a1_bends_mud, .inl (cI, 8, .inl a1_bends_mud))]) [7, 8, 0, 1, 2, 3, 4, 5, 6] rfl
      have hD9 := hD.sub (ws' := [(q_a0, .inr (6, [.ref q_a0_bytes, .int a0_size, .int u_7, .int u_8, .int u_9])), (q_a0_bytes, .inl (cI, 150, .inl a0_bytes)), (q_a1, .inr (5, [.ref q_a1_bends, .ref q_a1_felt, .ref q_a1_paces, .ref q_a1_past, .int a1_kind, .int a1_fog, .int a1_here, .int a1_seconds, .int a1_crashes])), (q_a1_bends, .inr (0, [.ref q_a1_bends_yards, .ref q_a1_bends_truth, .ref q_a1_bends_notes, .ref q_a1_bends_words, .ref q_a1_bends_mud, .int a1_bends_size])), (q_a1_bends_yards, .inl (cI, 8, .inl a1_bends_yards)), (q_a1_bends_truth, .inl (cI, 8, .inl a1_bends_truth)), (q_a1_bends_notes, .inl (cI, 8, .inl a1_bends_notes)), (q_a1_bends_words, .inl (cI, 8, .inl a1_bends_words)), (q_a1_bends_mud, .inl (cI, 8, .inl a1_bends_mud))]) [7, 8, 0, 1, 2, 3, 4, 5, 6] (by decide) rfl
      exact W.zret hx hb hr rfl (fun t ht hW => ⟨⟨0, (u_7, u_8, u_9, a1_bends_yards, a1_bends_truth, a1_bends_notes, a1_bends_words, a1_bends_mud, a1_bends_size), rfl, hf, by rw [ht]; exact hP9, hD9⟩, hS.F ht⟩) hS.2.2 dX7_bendTold_30
  · have hf := it_f c_2 hf
    refine lv_iconst (v := 0) hx hb dX7_bendTold_10 (by decide) ?_
    subst hQQ
    have hP9 := hP.sub (ws' := [(q_a0, .inr (6, [.ref q_a0_bytes, .int a0_size, .int a0_sort, .int a0_start, .int a0_behind])), (q_a0_bytes, .inl (cI, 150, .inl a0_bytes)), (q_a1, .inr (5, [.ref q_a1_bends, .ref q_a1_felt, .ref q_a1_paces, .ref q_a1_past, .int a1_kind, .int a1_fog, .int a1_here, .int a1_seconds, .int a1_crashes])), (q_a1_bends, .inr (0, [.ref q_a1_bends_yards, .ref q_a1_bends_truth, .ref q_a1_bends_notes, .ref q_a1_bends_words, .ref q_a1_bends_mud, .int a1_bends_size])), (q_a1_bends_yards, .inl (cI, 8, .inl a1_bends_yards)), (q_a1_bends_truth, .inl (cI, 8, .inl a1_bends_truth)), (q_a1_bends_notes, .inl (cI, 8, .inl a1_bends_notes)), (q_a1_bends_words, .inl (cI, 8, .inl a1_bends_words)), (q_a1_bends_mud, .inl (cI, 8, .inl a1_bends_mud))]) [0, 1, 2, 3, 4, 5, 6, 7, 8] rfl
    have hD9 := hD.sub (ws' := [(q_a0, .inr (6, [.ref q_a0_bytes, .int a0_size, .int a0_sort, .int a0_start, .int a0_behind])), (q_a0_bytes, .inl (cI, 150, .inl a0_bytes)), (q_a1, .inr (5, [.ref q_a1_bends, .ref q_a1_felt, .ref q_a1_paces, .ref q_a1_past, .int a1_kind, .int a1_fog, .int a1_here, .int a1_seconds, .int a1_crashes])), (q_a1_bends, .inr (0, [.ref q_a1_bends_yards, .ref q_a1_bends_truth, .ref q_a1_bends_notes, .ref q_a1_bends_words, .ref q_a1_bends_mud, .int a1_bends_size])), (q_a1_bends_yards, .inl (cI, 8, .inl a1_bends_yards)), (q_a1_bends_truth, .inl (cI, 8, .inl a1_bends_truth)), (q_a1_bends_notes, .inl (cI, 8, .inl a1_bends_notes)), (q_a1_bends_words, .inl (cI, 8, .inl a1_bends_words)), (q_a1_bends_mud, .inl (cI, 8, .inl a1_bends_mud))]) [0, 1, 2, 3, 4, 5, 6, 7, 8] (by decide) rfl
    exact W.zret hx hb hr rfl (fun t ht hW => ⟨⟨0, (a0_sort, a0_start, a0_behind, a1_bends_yards, a1_bends_truth, a1_bends_notes, a1_bends_words, a1_bends_mud, a1_bends_size), rfl, hf, by rw [ht]; exact hP9, hD9⟩, hS.F ht⟩) hS.2.2 dX7_bendTold_11
def p_X7_mudTold (a0_bytes : Nat → Int32) (a0_size : Int32) (a0_sort : Int32) (a0_start : Int32) (a0_behind : Int32) (a1_bends_mud : Nat → Int32) (a1_bends_size : Int32) (Q : Int32 → Int32 → Int32 → Int32 → (Nat → Int32) → Prop) : Prop :=
  p_X7_step a0_bytes a0_size a0_sort a0_start a0_behind (fun u_1 u_2 u_3 => p_X7_number a0_bytes a0_size u_1 u_2 u_3 0 (a1_bends_size - 1) (fun r_4 u_5 u_6 u_7 => p_X0_has a1_bends_size r_4 (fun r_8 => if r_8 = 0 then (Q 0 u_5 u_6 u_7 a1_bends_mud) else (vp_in r_4 8 ∧ (p_X7_itemEnded a0_bytes a0_size u_5 u_6 u_7 (fun r_10 u_11 u_12 u_13 => zb r_10 ∧ Q r_10 u_11 u_12 u_13 (upd a1_bends_mud (r_4.toNatClampNeg) 1)))))))
def rmX7_mudTold : Room := { frames := 3, cells := 0, slots := 0, locals := 68 }
set_option maxHeartbeats 4000000 in
set_option maxRecDepth 100000 in
theorem c_X7_mudTold (l : Launch) (D : va_G) (cI cZ cO : ClassId) (q_a0 q_a0_bytes q_a1 q_a1_bends q_a1_felt q_a1_paces q_a1_past q_a1_bends_yards q_a1_bends_truth q_a1_bends_notes q_a1_bends_words q_a1_bends_mud : Nat) (a0_size : Int32) (a0_sort : Int32) (a0_start : Int32) (a0_behind : Int32) (a0_bytes : Nat → Int32) (a1_kind : Int32) (a1_fog : Int32) (a1_here : Int32) (a1_seconds : Int32) (a1_crashes : Int32) (a1_bends_size : Int32) (a1_bends_mud : Nat → Int32) (sz : Nat) (Q : Int32 → Int32 → Int32 → Int32 → (Nat → Int32) → Prop) (hf : p_X7_mudTold a0_bytes a0_size a0_sort a0_start a0_behind a1_bends_mud a1_bends_size Q) : Met l yX7_mudTold wsX7_mudTold rmX7_mudTold (va_Pc [.ref q_a0, .ref q_a1] (fun U => U.heap.size = sz ∧ va_P D vwCl [(q_a0, .inr (6, [.ref q_a0_bytes, .int a0_size, .int a0_sort, .int a0_start, .int a0_behind])), (q_a0_bytes, .inl (cI, 150, .inl a0_bytes)), (q_a1, .inr (5, [.ref q_a1_bends, .ref q_a1_felt, .ref q_a1_paces, .ref q_a1_past, .int a1_kind, .int a1_fog, .int a1_here, .int a1_seconds, .int a1_crashes])), (q_a1_bends, .inr (0, [.ref q_a1_bends_yards, .ref q_a1_bends_truth, .ref q_a1_bends_notes, .ref q_a1_bends_words, .ref q_a1_bends_mud, .int a1_bends_size])), (q_a1_bends_mud, .inl (cI, 8, .inl a1_bends_mud))] U.heap ∧ XK D cI cZ cO U ∧ va_D (fun _ => True) [(q_a0, .inr (6, [.ref q_a0_bytes, .int a0_size, .int a0_sort, .int a0_start, .int a0_behind])), (q_a0_bytes, .inl (cI, 150, .inl a0_bytes)), (q_a1, .inr (5, [.ref q_a1_bends, .ref q_a1_felt, .ref q_a1_paces, .ref q_a1_past, .int a1_kind, .int a1_fog, .int a1_here, .int a1_seconds, .int a1_crashes])), (q_a1_bends, .inr (0, [.ref q_a1_bends_yards, .ref q_a1_bends_truth, .ref q_a1_bends_notes, .ref q_a1_bends_words, .ref q_a1_bends_mud, .int a1_bends_size])), (q_a1_bends_mud, .inl (cI, 8, .inl a1_bends_mud))])) (va_Qi (fun r (u : Int32 × Int32 × Int32 × (Nat → Int32)) => Q r u.1 u.2.1 u.2.2.1 u.2.2.2) (fun (u : Int32 × Int32 × Int32 × (Nat → Int32)) t => va_P D vwCl [(q_a0, .inr (6, [.ref q_a0_bytes, .int a0_size, .int u.1, .int u.2.1, .int u.2.2.1])), (q_a0_bytes, .inl (cI, 150, .inl a0_bytes)), (q_a1, .inr (5, [.ref q_a1_bends, .ref q_a1_felt, .ref q_a1_paces, .ref q_a1_past, .int a1_kind, .int a1_fog, .int a1_here, .int a1_seconds, .int a1_crashes])), (q_a1_bends, .inr (0, [.ref q_a1_bends_yards, .ref q_a1_bends_truth, .ref q_a1_bends_notes, .ref q_a1_bends_words, .ref q_a1_bends_mud, .int a1_bends_size])), (q_a1_bends_mud, .inl (cI, 8, .inl u.2.2.2))] t.heap ∧ va_D (va_A [(q_a0, .inr (6, [.ref q_a0_bytes, .int a0_size, .int a0_sort, .int a0_start, .int a0_behind])), (q_a0_bytes, .inl (cI, 150, .inl a0_bytes)), (q_a1, .inr (5, [.ref q_a1_bends, .ref q_a1_felt, .ref q_a1_paces, .ref q_a1_past, .int a1_kind, .int a1_fog, .int a1_here, .int a1_seconds, .int a1_crashes])), (q_a1_bends, .inr (0, [.ref q_a1_bends_yards, .ref q_a1_bends_truth, .ref q_a1_bends_notes, .ref q_a1_bends_words, .ref q_a1_bends_mud, .int a1_bends_size])), (q_a1_bends_mud, .inl (cI, 8, .inl a1_bends_mud))] sz) [(q_a0, .inr (6, [.ref q_a0_bytes, .int a0_size, .int u.1, .int u.2.1, .int u.2.2.1])), (q_a0_bytes, .inl (cI, 150, .inl a0_bytes)), (q_a1, .inr (5, [.ref q_a1_bends, .ref q_a1_felt, .ref q_a1_paces, .ref q_a1_past, .int a1_kind, .int a1_fog, .int a1_here, .int a1_seconds, .int a1_crashes])), (q_a1_bends, .inr (0, [.ref q_a1_bends_yards, .ref q_a1_bends_truth, .ref q_a1_bends_notes, .ref q_a1_bends_words, .ref q_a1_bends_mud, .int a1_bends_size])), (q_a1_bends_mud, .inl (cI, 8, .inl u.2.2.2))]) (va_A [(q_a0, .inr (6, [.ref q_a0_bytes, .int a0_size, .int a0_sort, .int a0_start, .int a0_behind])), (q_a0_bytes, .inl (cI, 150, .inl a0_bytes)), (q_a1, .inr (5, [.ref q_a1_bends, .ref q_a1_felt, .ref q_a1_paces, .ref q_a1_past, .int a1_kind, .int a1_fog, .int a1_here, .int a1_seconds, .int a1_crashes])), (q_a1_bends, .inr (0, [.ref q_a1_bends_yards, .ref q_a1_bends_truth, .ref q_a1_bends_notes, .ref q_a1_bends_words, .ref q_a1_bends_mud, .int a1_bends_size])), (q_a1_bends_mud, .inl (cI, 8, .inl a1_bends_mud))] sz)) 0 0 (va_A [(q_a0, .inr (6, [.ref q_a0_bytes, .int a0_size, .int a0_sort, .int a0_start, .int a0_behind])), (q_a0_bytes, .inl (cI, 150, .inl a0_bytes)), (q_a1, .inr (5, [.ref q_a1_bends, .ref q_a1_felt, .ref q_a1_paces, .ref q_a1_past, .int a1_kind, .int a1_fog, .int a1_here, .int a1_seconds, .int a1_crashes])), (q_a1_bends, .inr (0, [.ref q_a1_bends_yards, .ref q_a1_bends_truth, .ref q_a1_bends_notes, .ref q_a1_bends_words, .ref q_a1_bends_mud, .int a1_bends_size])), (q_a1_bends_mud, .inl (cI, 8, .inl a1_bends_mud))] sz) := by
  refine Met.ofW (cc := cX7_mudTold) (maxL := 3) (ret := (some .boolean)) (by decide) rfl ?_
  intro p e s m args below meth c s₁ B hml hv
  obtain ⟨rfl, hsz, hP, hX, hD0⟩ := hv
  have hK := hX.1
  have hx := B.exec
  have hb := B.bytes
  have hr := B.returns
  have hts := atoms_spec (ws := wsX7_mudTold) B.pre
  have hown : s.vm.findClass RX7 = some m.cls := findClass_of_methodNamed B.named
  have hlocks := B.notSynchronized
  have in_X6 : ∀ w ∈ wsX60, w ∈ wsX7_mudTold := fun _ h => List.mem_cons_of_mem _ (List.mem_append_left _ (List.mem_append_left _ (List.mem_append_right _ h)))
  have in_X0 : ∀ w ∈ wsX00, w ∈ wsX7_mudTold := fun _ h => List.mem_cons_of_mem _ (List.mem_append_left _ (List.mem_append_right _ h))
  have kf_78 := hts (.fieldLink RX7 78 "LeftCrest$Stage" "bends" "LLeftCrest$Bends;") (by decide +kernel)
  have kf_89 := hts (.fieldLink RX7 89 "LeftCrest$Bends" "size" "I") (by decide +kernel)
  have kf_94 := hts (.fieldLink RX7 94 "LeftCrest$Bends" "mud" "[I") (by decide +kernel)
  subst hsz
  have hD := hD0.self (sz := s.heap.size)
  generalize hAe : va_A [(q_a0, .inr (6, [.ref q_a0_bytes, .int a0_size, .int a0_sort, .int a0_start, .int a0_behind])), (q_a0_bytes, .inl (cI, 150, .inl a0_bytes)), (q_a1, .inr (5, [.ref q_a1_bends, .ref q_a1_felt, .ref q_a1_paces, .ref q_a1_past, .int a1_kind, .int a1_fog, .int a1_here, .int a1_seconds, .int a1_crashes])), (q_a1_bends, .inr (0, [.ref q_a1_bends_yards, .ref q_a1_bends_truth, .ref q_a1_bends_notes, .ref q_a1_bends_words, .ref q_a1_bends_mud, .int a1_bends_size])), (q_a1_bends_mud, .inl (cI, 8, .inl a1_bends_mud))] s.heap.size = A at hD ⊢
  have hA : ∀ q : Nat, s.heap.size ≤ q → A q := fun q h => by rw [← hAe]; exact Or.inr h
  have hS : va_S A s.heap s.heap [] := va_S.rf
  have hP : va_P D vwCl [(q_a0, .inr (6, [.ref q_a0_bytes, .int a0_size, .int a0_sort, .int a0_start, .int a0_behind])), (q_a0_bytes, .inl (cI, 150, .inl a0_bytes)), (q_a1, .inr (5, [.ref q_a1_bends, .ref q_a1_felt, .ref q_a1_paces, .ref q_a1_past, .int a1_kind, .int a1_fog, .int a1_here, .int a1_seconds, .int a1_crashes])), (q_a1_bends, .inr (0, [.ref q_a1_bends_yards, .ref q_a1_bends_truth, .ref q_a1_bends_notes, .ref q_a1_bends_words, .ref q_a1_bends_mud, .int a1_bends_size])), (q_a1_bends_mud, .inl (cI, 8, .inl a1_bends_mud))] s.heap := hP
  generalize hQQ : MQ below _ _ s _ _ _ = QQ
  have hl := lv_entry ([.ref q_a0, .ref q_a1]) (n := 3) (Nat.le_of_ble_eq_true rfl)
  rw [lg_entry_eq]
  generalize (lg_sl ([.ref q_a0, .ref q_a1]) ++ List.replicate (3 - (lg_sl ([.ref q_a0, .ref q_a1])).length) Slot.unset).toArray = ls at hl ⊢
  have hl : lv_has ls 3 [(0, .ref q_a0), (1, .ref q_a1)] := hl
  unfold p_X7_mudTold at hf
  refine lv_aload_n hx hb dX7_mudTold_0 rfl (lv_at hl 0 rfl) ?_
  have hPc := hP.sub (ws' := [(q_a0, .inr (6, [.ref q_a0_bytes, .int a0_size, .int a0_sort, .int a0_start, .int a0_behind])), (q_a0_bytes, .inl (cI, 150, .inl a0_bytes))]) [0, 1] rfl
  have hDc := hD.sub (ws' := [(q_a0, .inr (6, [.ref q_a0_bytes, .int a0_size, .int a0_sort, .int a0_start, .int a0_behind])), (q_a0_bytes, .inl (cI, 150, .inl a0_bytes))]) [0, 1] (by decide) rfl
  have hFc := va_free (wc := [(q_a0, .inr (6, [.ref q_a0_bytes, .int a0_size, .int a0_sort, .int a0_start, .int a0_behind])), (q_a0_bytes, .inl (cI, 150, .inl a0_bytes))]) hD hS hA [0, 1] rfl
  refine va_callv (va_runV (As := []) (rest := []) ⟨hx, hb, hml, hown, hts⟩ (c_X7_step l D cI cZ cO q_a0 q_a0_bytes a0_size a0_sort a0_start a0_behind a0_bytes s.heap.size  _ hf) (cwV 0 hts gX7_mudTold_X7_step rfl rfl rfl (by decide +kernel) ⟨Nat.le_of_ble_eq_true rfl, Nat.le_of_ble_eq_true rfl⟩) (pv_rw (ci := 6) (q0 := 0) hPc hDc hX rfl rfl) rfl rfl hl.1 rfl (lv_room (Nat.le_of_ble_eq_true rfl)) dX7_mudTold_1 ⟨Nat.zero_le _, Nat.zero_le _⟩) hS (fun q _ h => hFc q h) hFc (fun u t H1 locs ht hvm hf hB hz1 hk1 hS => ?_)
  obtain ⟨u_1, u_2, u_3⟩ := u
  obtain ⟨hP1, hD1⟩ := hB
  rw [ht] at hP1
  clear hvm
  obtain ⟨hP, hD⟩ := va_join (wr := [(q_a1, .inr (5, [.ref q_a1_bends, .ref q_a1_felt, .ref q_a1_paces, .ref q_a1_past, .int a1_kind, .int a1_fog, .int a1_here, .int a1_seconds, .int a1_crashes])), (q_a1_bends, .inr (0, [.ref q_a1_bends_yards, .ref q_a1_bends_truth, .ref q_a1_bends_notes, .ref q_a1_bends_words, .ref q_a1_bends_mud, .int a1_bends_size])), (q_a1_bends_mud, .inl (cI, 8, .inl a1_bends_mud))]) (w1 := [(q_a0, .inr (6, [.ref q_a0_bytes, .int a0_size, .int u_1, .int u_2, .int u_3])), (q_a0_bytes, .inl (cI, 150, .inl a0_bytes))]) hP hD [0, 1] [2, 3, 4] rfl rfl (by decide) (by decide) hk1 hFc hP1 hD1
  clear hz1 hk1 hPc hDc hFc hP1 hD1
  generalize H1 = H at hP hS ⊢
  have hP : va_P D vwCl [(q_a1, .inr (5, [.ref q_a1_bends, .ref q_a1_felt, .ref q_a1_paces, .ref q_a1_past, .int a1_kind, .int a1_fog, .int a1_here, .int a1_seconds, .int a1_crashes])), (q_a1_bends, .inr (0, [.ref q_a1_bends_yards, .ref q_a1_bends_truth, .ref q_a1_bends_notes, .ref q_a1_bends_words, .ref q_a1_bends_mud, .int a1_bends_size])), (q_a1_bends_mud, .inl (cI, 8, .inl a1_bends_mud)), (q_a0, .inr (6, [.ref q_a0_bytes, .int a0_size, .int u_1, .int u_2, .int u_3])), (q_a0_bytes, .inl (cI, 150, .inl a0_bytes))] H := hP
  have hD : va_D A [(q_a1, .inr (5, [.ref q_a1_bends, .ref q_a1_felt, .ref q_a1_paces, .ref q_a1_past, .int a1_kind, .int a1_fog, .int a1_here, .int a1_seconds, .int a1_crashes])), (q_a1_bends, .inr (0, [.ref q_a1_bends_yards, .ref q_a1_bends_truth, .ref q_a1_bends_notes, .ref q_a1_bends_words, .ref q_a1_bends_mud, .int a1_bends_size])), (q_a1_bends_mud, .inl (cI, 8, .inl a1_bends_mud)), (q_a0, .inr (6, [.ref q_a0_bytes, .int a0_size, .int u_1, .int u_2, .int u_3])), (q_a0_bytes, .inl (cI, 150, .inl a0_bytes))] := hD
  refine lv_aload_n hx hb dX7_mudTold_4 rfl (lv_at hl 0 rfl) ?_
  refine lv_iconst (v := 0) hx hb dX7_mudTold_5 (by decide) ?_
  refine lv_aload_n hx hb dX7_mudTold_6 rfl (lv_at hl 1 rfl) ?_
  refine va_get (D := D) (ci := 5) (v := .ref q_a1_bends) (C := RX6) (T := TX6) (N := 9) hx hb hts in_X6 hown hK hP 0 rfl rfl 0 (by decide) kf_78 (fun _ h9 => h9) rfl dX7_mudTold_7 ?_
  refine va_get (D := D) (ci := 0) (v := .int a1_bends_size) (C := RX0) (T := TX0) (N := 6) hx hb hts in_X0 hown hK hP 1 rfl rfl 5 (by decide) kf_89 (fun _ h9 => h9) rfl dX7_mudTold_10 ?_
  refine lv_iconst (v := 1) hx hb dX7_mudTold_13 (by decide) ?_
  refine lv_isub hx hb dX7_mudTold_14 ?_
  have hPc := hP.sub (ws' := [(q_a0, .inr (6, [.ref q_a0_bytes, .int a0_size, .int u_1, .int u_2, .int u_3])), (q_a0_bytes, .inl (cI, 150, .inl a0_bytes))]) [3, 4] rfl
  have hDc := hD.sub (ws' := [(q_a0, .inr (6, [.ref q_a0_bytes, .int a0_size, .int u_1, .int u_2, .int u_3])), (q_a0_bytes, .inl (cI, 150, .inl a0_bytes))]) [3, 4] (by decide) rfl
  have hFc := va_free (wc := [(q_a0, .inr (6, [.ref q_a0_bytes, .int a0_size, .int u_1, .int u_2, .int u_3])), (q_a0_bytes, .inl (cI, 150, .inl a0_bytes))]) hD hS hA [3, 4] rfl
  refine va_calli (va_runV (As := [.int 0, .int (a1_bends_size - 1)]) (rest := []) ⟨hx, hb, hml, hown, hts⟩ (c_X7_number l D cI cZ cO q_a0 q_a0_bytes a0_size u_1 u_2 u_3 a0_bytes H.size 0 (a1_bends_size - 1) _ hf) (cwV 2 hts gX7_mudTold_X7_number rfl rfl rfl (by decide +kernel) ⟨Nat.le_of_ble_eq_true rfl, Nat.le_of_ble_eq_true rfl⟩) (pv_rw (ci := 6) (q0 := 0) hPc hDc hX rfl rfl) rfl rfl hl.1 rfl (lv_room (Nat.le_of_ble_eq_true rfl)) dX7_mudTold_15 ⟨Nat.zero_le _, Nat.zero_le _⟩) hS (fun q _ h => hFc q h) hFc (fun r_4 u t H1 locs ht hvm hf hB hz1 hk1 hS => ?_)
  obtain ⟨u_5, u_6, u_7⟩ := u
  obtain ⟨hP1, hD1⟩ := hB
  rw [ht] at hP1
  clear hvm
  obtain ⟨hP, hD⟩ := va_join (wr := [(q_a1, .inr (5, [.ref q_a1_bends, .ref q_a1_felt, .ref q_a1_paces, .ref q_a1_past, .int a1_kind, .int a1_fog, .int a1_here, .int a1_seconds, .int a1_crashes])), (q_a1_bends, .inr (0, [.ref q_a1_bends_yards, .ref q_a1_bends_truth, .ref q_a1_bends_notes, .ref q_a1_bends_words, .ref q_a1_bends_mud, .int a1_bends_size])), (q_a1_bends_mud, .inl (cI, 8, .inl a1_bends_mud))]) (w1 := [(q_a0, .inr (6, [.ref q_a0_bytes, .int a0_size, .int u_5, .int u_6, .int u_7])), (q_a0_bytes, .inl (cI, 150, .inl a0_bytes))]) hP hD [3, 4] [0, 1, 2] rfl rfl (by decide) (by decide) hk1 hFc hP1 hD1
  clear hz1 hk1 hPc hDc hFc hP1 hD1
  generalize H1 = H at hP hS ⊢
  have hP : va_P D vwCl [(q_a1, .inr (5, [.ref q_a1_bends, .ref q_a1_felt, .ref q_a1_paces, .ref q_a1_past, .int a1_kind, .int a1_fog, .int a1_here, .int a1_seconds, .int a1_crashes])), (q_a1_bends, .inr (0, [.ref q_a1_bends_yards, .ref q_a1_bends_truth, .ref q_a1_bends_notes, .ref q_a1_bends_words, .ref q_a1_bends_mud, .int a1_bends_size])), (q_a1_bends_mud, .inl (cI, 8, .inl a1_bends_mud)), (q_a0, .inr (6, [.ref q_a0_bytes, .int a0_size, .int u_5, .int u_6, .int u_7])), (q_a0_bytes, .inl (cI, 150, .inl a0_bytes))] H := hP
  have hD : va_D A [(q_a1, .inr (5, [.ref q_a1_bends, .ref q_a1_felt, .ref q_a1_paces, .ref q_a1_past, .int a1_kind, .int a1_fog, .int a1_here, .int a1_seconds, .int a1_crashes])), (q_a1_bends, .inr (0, [.ref q_a1_bends_yards, .ref q_a1_bends_truth, .ref q_a1_bends_notes, .ref q_a1_bends_words, .ref q_a1_bends_mud, .int a1_bends_size])), (q_a1_bends_mud, .inl (cI, 8, .inl a1_bends_mud)), (q_a0, .inr (6, [.ref q_a0_bytes, .int a0_size, .int u_5, .int u_6, .int u_7])), (q_a0_bytes, .inl (cI, 150, .inl a0_bytes))] := hD
  refine lv_istore_n (lv' := [(2, .int r_4), (0, .ref q_a0), (1, .ref q_a1)]) hx hb dX7_mudTold_18 rfl hl (by decide) rfl (fun ls hl => ?_)
  refine lv_aload_n hx hb dX7_mudTold_19 rfl (lv_at hl 2 rfl) ?_
  refine va_get (D := D) (ci := 5) (v := .ref q_a1_bends) (C := RX6) (T := TX6) (N := 9) hx hb hts in_X6 hown hK hP 0 rfl rfl 0 (by decide) kf_78 (fun _ h9 => h9) rfl dX7_mudTold_20 ?_
  refine lv_iload_n hx hb dX7_mudTold_23 rfl (lv_at hl 0 rfl) ?_
  refine ya_csi (va_runV (As := [.int r_4]) (rest := []) ⟨hx, hb, hml, hown, hts⟩ (c_X0_has l D cI cZ cO q_a1_bends q_a1_bends_yards q_a1_bends_truth q_a1_bends_notes q_a1_bends_words q_a1_bends_mud a1_bends_size r_4 _ hf) (cwV 1 hts gX7_mudTold_X0_has rfl rfl rfl (by decide +kernel) ⟨Nat.le_of_ble_eq_true rfl, Nat.le_of_ble_eq_true rfl⟩) (pv_ro (ci := 0) (q0 := 0) (hP.sub [1] rfl) hX rfl rfl) rfl rfl hl.1 rfl (lv_room (Nat.le_of_ble_eq_true rfl)) dX7_mudTold_24 ⟨Nat.zero_le _, Nat.zero_le _⟩) (fun r_8 hf => ?_)
  refine lv_if_ne (tgt := 32) hx hb dX7_mudTold_27 (by decide) (fun c_9 => ?_) (fun c_9 => ?_)
  · have hf := it_f c_9 hf
    refine lv_aload_n hx hb dX7_mudTold_32 rfl (lv_at hl 2 rfl) ?_
    refine va_get (D := D) (ci := 5) (v := .ref q_a1_bends) (C := RX6) (T := TX6) (N := 9) hx hb hts in_X6 hown hK hP 0 rfl rfl 0 (by decide) kf_78 (fun _ h9 => h9) rfl dX7_mudTold_33 ?_
    refine va_get (D := D) (ci := 0) (v := .ref q_a1_bends_mud) (C := RX0) (T := TX0) (N := 6) hx hb hts in_X0 hown hK hP 1 rfl rfl 4 (by decide) kf_94 (fun _ h9 => h9) rfl dX7_mudTold_36 ?_
    refine lv_iload_n hx hb dX7_mudTold_39 rfl (lv_at hl 0 rfl) ?_
    refine lv_iconst (v := 1) hx hb dX7_mudTold_40 (by decide) ?_
    refine va_iast hx hb hK hP hD hS 2 0 rfl rfl hf.1 dX7_mudTold_41 (fun H locs hP hD hS => ?_)
    have hP : va_P D vwCl [(q_a1, .inr (5, [.ref q_a1_bends, .ref q_a1_felt, .ref q_a1_paces, .ref q_a1_past, .int a1_kind, .int a1_fog, .int a1_here, .int a1_seconds, .int a1_crashes])), (q_a1_bends, .inr (0, [.ref q_a1_bends_yards, .ref q_a1_bends_truth, .ref q_a1_bends_notes, .ref q_a1_bends_words, .ref q_a1_bends_mud, .int a1_bends_size])), (q_a1_bends_mud, .inl (cI, 8, .inl (upd a1_bends_mud (r_4.toNatClampNeg) 1))), (q_a0, .inr (6, [.ref q_a0_bytes, .int a0_size, .int u_5, .int u_6, .int u_7])), (q_a0_bytes, .inl (cI, 150, .inl a0_bytes))] H := hP
    have hD : va_D A [(q_a1, .inr (5, [.ref q_a1_bends, .ref q_a1_felt, .ref q_a1_paces, .ref q_a1_past, .int a1_kind, .int a1_fog, .int a1_here, .int a1_seconds, .int a1_crashes])), (q_a1_bends, .inr (0, [.ref q_a1_bends_yards, .ref q_a1_bends_truth, .ref q_a1_bends_notes, .ref q_a1_bends_words, .ref q_a1_bends_mud, .int a1_bends_size])), (q_a1_bends_mud, .inl (cI, 8, .inl (upd a1_bends_mud (r_4.toNatClampNeg) 1))), (q_a0, .inr (6, [.ref q_a0_bytes, .int a0_size, .int u_5, .int u_6, .int u_7])), (q_a0_bytes, .inl (cI, 150, .inl a0_bytes))] := hD
    have hf := hf.2
    refine lv_aload_n hx hb dX7_mudTold_42 rfl (lv_at hl 1 rfl) ?_
    have hPc := hP.sub (ws' := [(q_a0, .inr (6, [.ref q_a0_bytes, .int a0_size, .int u_5, .int u_6, .int u_7])), (q_a0_bytes, .inl (cI, 150, .inl a0_bytes))]) [3, 4] rfl
    have hDc := hD.sub (ws' := [(q_a0, .inr (6, [.ref q_a0_bytes, .int a0_size, .int u_5, .int u_6, .int u_7])), (q_a0_bytes, .inl (cI, 150, .inl a0_bytes))]) [3, 4] (by decide) rfl
    have hFc := va_free (wc := [(q_a0, .inr (6, [.ref q_a0_bytes, .int a0_size, .int u_5, .int u_6, .int u_7])), (q_a0_bytes, .inl (cI, 150, .inl a0_bytes))]) hD hS hA [3, 4] rfl
    refine va_calli (va_runV (As := []) (rest := []) ⟨hx, hb, hml, hown, hts⟩ (c_X7_itemEnded l D cI cZ cO q_a0 q_a0_bytes a0_size u_5 u_6 u_7 a0_bytes H.size  _ hf) (cwV 0 hts gX7_mudTold_X7_itemEnded rfl rfl rfl (by decide +kernel) ⟨Nat.le_of_ble_eq_true rfl, Nat.le_of_ble_eq_true rfl⟩) (pv_rw (ci := 6) (q0 := 0) hPc hDc hX rfl rfl) rfl rfl hl.1 rfl (lv_room (Nat.le_of_ble_eq_true rfl)) dX7_mudTold_43 ⟨Nat.zero_le _, Nat.zero_le _⟩) hS (fun q _ h => hFc q h) hFc (fun r_10 u t H1 locs ht hvm hf hB hz1 hk1 hS => ?_)
    obtain ⟨u_11, u_12, u_13⟩ := u
    obtain ⟨hP1, hD1⟩ := hB
    rw [ht] at hP1
    clear hvm
    obtain ⟨hP, hD⟩ := va_join (wr := [(q_a1, .inr (5, [.ref q_a1_bends, .ref q_a1_felt, .ref q_a1_paces, .ref q_a1_past, .int a1_kind, .int a1_fog, .int a1_here, .int a1_seconds, .int a1_crashes])), (q_a1_bends, .inr (0, [.ref q_a1_bends_yards, .ref q_a1_bends_truth, .ref q_a1_bends_notes, .ref q_a1_bends_words, .ref q_a1_bends_mud, .int a1_bends_size])), (q_a1_bends_mud, .inl (cI, 8, .inl (upd a1_bends_mud (r_4.toNatClampNeg) 1)))]) (w1 := [(q_a0, .inr (6, [.ref q_a0_bytes, .int a0_size, .int u_11, .int u_12, .int u_13])), (q_a0_bytes, .inl (cI, 150, .inl a0_bytes))]) hP hD [3, 4] [0, 1, 2] rfl rfl (by decide) (by decide) hk1 hFc hP1 hD1
    clear hz1 hk1 hPc hDc hFc hP1 hD1
    generalize H1 = H at hP hS ⊢
    have hP : va_P D vwCl [(q_a1, .inr (5, [.ref q_a1_bends, .ref q_a1_felt, .ref q_a1_paces, .ref q_a1_past, .int a1_kind, .int a1_fog, .int a1_here, .int a1_seconds, .int a1_crashes])), (q_a1_bends, .inr (0, [.ref q_a1_bends_yards, .ref q_a1_bends_truth, .ref q_a1_bends_notes, .ref q_a1_bends_words, .ref q_a1_bends_mud, .int a1_bends_size])), (q_a1_bends_mud, .inl (cI, 8, .inl (upd a1_bends_mud (r_4.toNatClampNeg) 1))), (q_a0, .inr (6, [.ref q_a0_bytes, .int a0_size, .int u_11, .int u_12, .int u_13])), (q_a0_bytes, .inl (cI, 150, .inl a0_bytes))] H := hP
    have hD : va_D A [(q_a1, .inr (5, [.ref q_a1_bends, .ref q_a1_felt, .ref q_a1_paces, .ref q_a1_past, .int a1_kind, .int a1_fog, .int a1_here, .int a1_seconds, .int a1_crashes])), (q_a1_bends, .inr (0, [.ref q_a1_bends_yards, .ref q_a1_bends_truth, .ref q_a1_bends_notes, .ref q_a1_bends_words, .ref q_a1_bends_mud, .int a1_bends_size])), (q_a1_bends_mud, .inl (cI, 8, .inl (upd a1_bends_mud (r_4.toNatClampNeg) 1))), (q_a0, .inr (6, [.ref q_a0_bytes, .int a0_size, .int u_11, .int u_12, .int u_13])), (q_a0_bytes, .inl (cI, 150, .inl a0_bytes))] := hD
    subst hQQ
    have hz := hf.1
    have hf := hf.2
    have hP9 := hP.sub (ws' := [(q_a0, .inr (6, [.ref q_a0_bytes, .int a0_size, .int u_11, .int u_12, .int u_13])), (q_a0_bytes, .inl (cI, 150, .inl a0_bytes)), (q_a1, .inr (5, [.ref q_a1_bends, .ref q_a1_felt, .ref q_a1_paces, .ref q_a1_past, .int a1_kind, .int a1_fog, .int a1_here, .int a1_seconds, .int a1_crashes])), (q_a1_bends, .inr (0, [.ref q_a1_bends_yards, .ref q_a1_bends_truth, .ref q_a1_bends_notes, .ref q_a1_bends_words, .ref q_a1_bends_mud, .int a1_bends_size])), (q_a1_bends_mud, .inl (cI, 8, .inl (upd a1_bends_mud (r_4.toNatClampNeg) 1)))]) [3, 4, 0, 1, 2] rfl
    have hD9 := hD.sub (ws' := [(q_a0, .inr (6, [.ref q_a0_bytes, .int a0_size, .int u_11, .int u_12, .int u_13])), (q_a0_bytes, .inl (cI, 150, .inl a0_bytes)), (q_a1, .inr (5, [.ref q_a1_bends, .ref q_a1_felt, .ref q_a1_paces, .ref q_a1_past, .int a1_kind, .int a1_fog, .int a1_here, .int a1_seconds, .int a1_crashes])), (q_a1_bends, .inr (0, [.ref q_a1_bends_yards, .ref q_a1_bends_truth, .ref q_a1_bends_notes, .ref q_a1_bends_words, .ref q_a1_bends_mud, .int a1_bends_size])), (q_a1_bends_mud, .inl (cI, 8, .inl (upd a1_bends_mud (r_4.toNatClampNeg) 1)))]) [3, 4, 0, 1, 2] (by decide) rfl
    exact W.zret hx hb hr hz (fun t ht hW => ⟨⟨r_10, (u_11, u_12, u_13, upd a1_bends_mud (r_4.toNatClampNeg) 1), rfl, hf, by rw [ht]; exact hP9, hD9⟩, hS.F ht⟩) hS.2.2 dX7_mudTold_46
  · have hf := it_t c_9 hf
    refine lv_iconst (v := 0) hx hb dX7_mudTold_30 (by decide) ?_
    subst hQQ
    have hP9 := hP.sub (ws' := [(q_a0, .inr (6, [.ref q_a0_bytes, .int a0_size, .int u_5, .int u_6, .int u_7])), (q_a0_bytes, .inl (cI, 150, .inl a0_bytes)), (q_a1, .inr (5, [.ref q_a1_bends, .ref q_a1_felt, .ref q_a1_paces, .ref q_a1_past, .int a1_kind, .int a1_fog, .int a1_here, .int a1_seconds, .int a1_crashes])), (q_a1_bends, .inr (0, [.ref q_a1_bends_yards, .ref q_a1_bends_truth, .ref q_a1_bends_notes, .ref q_a1_bends_words, .ref q_a1_bends_mud, .int a1_bends_size])), (q_a1_bends_mud, .inl (cI, 8, .inl a1_bends_mud))]) [3, 4, 0, 1, 2] rfl
    have hD9 := hD.sub (ws' := [(q_a0, .inr (6, [.ref q_a0_bytes, .int a0_size, .int u_5, .int u_6, .int u_7])), (q_a0_bytes, .inl (cI, 150, .inl a0_bytes)), (q_a1, .inr (5, [.ref q_a1_bends, .ref q_a1_felt, .ref q_a1_paces, .ref q_a1_past, .int a1_kind, .int a1_fog, .int a1_here, .int a1_seconds, .int a1_crashes])), (q_a1_bends, .inr (0, [.ref q_a1_bends_yards, .ref q_a1_bends_truth, .ref q_a1_bends_notes, .ref q_a1_bends_words, .ref q_a1_bends_mud, .int a1_bends_size])), (q_a1_bends_mud, .inl (cI, 8, .inl a1_bends_mud))]) [3, 4, 0, 1, 2] (by decide) rfl
    exact W.zret hx hb hr rfl (fun t ht hW => ⟨⟨0, (u_5, u_6, u_7, a1_bends_mud), rfl, hf, by rw [ht]; exact hP9, hD9⟩, hS.F ht⟩) hS.2.2 dX7_mudTold_31
def p_X7_driveTold (a0_bytes : Nat → Int32) (a0_size : Int32) (a0_sort : Int32) (a0_start : Int32) (a0_behind : Int32) (a1_bends_yards : Nat → Int32) (a1_bends_truth : Nat → Int32) (a1_bends_notes : Nat → Int32) (a1_bends_mud : Nat → Int32) (a1_bends_size : Int32) (a1_kind : Int32) (a1_fog : Int32) (a1_here : Int32) (a1_seconds : Int32) (a1_crashes : Int32) (Q : Int32 → Int32 → Int32 → Int32 → Int32 → Int32 → Int32 → Prop) : Prop :=
  p_X7_step a0_bytes a0_size a0_sort a0_start a0_behind (fun u_1 u_2 u_3 => p_X6_bendsLeft a1_bends_size a1_here (fun r_4 => p_X7_number a0_bytes a0_size u_1 u_2 u_3 1 r_4 (fun r_5 u_6 u_7 u_8 => if r_5 = (-1) then (Q 0 u_6 u_7 u_8 a1_here a1_seconds a1_crashes) else (p_X6_goOn a1_bends_yards a1_bends_truth a1_bends_notes a1_bends_mud a1_bends_size a1_kind a1_fog a1_here a1_seconds a1_crashes r_5 (fun r_10 u_11 u_12 u_13 => p_X7_itemEnded a0_bytes a0_size u_6 u_7 u_8 (fun r_14 u_15 u_16 u_17 => zb r_14 ∧ Q r_14 u_15 u_16 u_17 u_11 u_12 u_13))))))
def rmX7_driveTold : Room := { frames := 3, cells := 0, slots := 0, locals := 75 }
set_option maxHeartbeats 4000000 in
set_option maxRecDepth 100000 in
theorem c_X7_driveTold (l : Launch) (D : va_G) (cI cZ cO : ClassId) (q_a0 q_a0_bytes q_a1 q_a1_bends q_a1_felt q_a1_paces q_a1_past q_a1_bends_yards q_a1_bends_truth q_a1_bends_notes q_a1_bends_words q_a1_bends_mud : Nat) (a0_size : Int32) (a0_sort : Int32) (a0_start : Int32) (a0_behind : Int32) (a0_bytes : Nat → Int32) (a1_kind : Int32) (a1_fog : Int32) (a1_here : Int32) (a1_seconds : Int32) (a1_crashes : Int32) (a1_bends_size : Int32) (a1_bends_yards : Nat → Int32) (a1_bends_truth : Nat → Int32) (a1_bends_notes : Nat → Int32) (a1_bends_mud : Nat → Int32) (sz : Nat) (Q : Int32 → Int32 → Int32 → Int32 → Int32 → Int32 → Int32 → Prop) (hf : p_X7_driveTold a0_bytes a0_size a0_sort a0_start a0_behind a1_bends_yards a1_bends_truth a1_bends_notes a1_bends_mud a1_bends_size a1_kind a1_fog a1_here a1_seconds a1_crashes Q) : Met l yX7_driveTold wsX7_driveTold rmX7_driveTold (va_Pc [.ref q_a0, .ref q_a1] (fun U => U.heap.size = sz ∧ va_P D vwCl [(q_a0, .inr (6, [.ref q_a0_bytes, .int a0_size, .int a0_sort, .int a0_start, .int a0_behind])), (q_a0_bytes, .inl (cI, 150, .inl a0_bytes)), (q_a1, .inr (5, [.ref q_a1_bends, .ref q_a1_felt, .ref q_a1_paces, .ref q_a1_past, .int a1_kind, .int a1_fog, .int a1_here, .int a1_seconds, .int a1_crashes])), (q_a1_bends, .inr (0, [.ref q_a1_bends_yards, .ref q_a1_bends_truth, .ref q_a1_bends_notes, .ref q_a1_bends_words, .ref q_a1_bends_mud, .int a1_bends_size])), (q_a1_bends_yards, .inl (cI, 8, .inl a1_bends_yards)), (q_a1_bends_truth, .inl (cI, 8, .inl a1_bends_truth)), (q_a1_bends_notes, .inl (cI, 8, .inl a1_bends_notes)), (q_a1_bends_mud, .inl (cI, 8, .inl a1_bends_mud))] U.heap ∧ XK D cI cZ cO U ∧ va_D (fun _ => True) [(q_a0, .inr (6, [.ref q_a0_bytes, .int a0_size, .int a0_sort, .int a0_start, .int a0_behind])), (q_a0_bytes, .inl (cI, 150, .inl a0_bytes)), (q_a1, .inr (5, [.ref q_a1_bends, .ref q_a1_felt, .ref q_a1_paces, .ref q_a1_past, .int a1_kind, .int a1_fog, .int a1_here, .int a1_seconds, .int a1_crashes])), (q_a1_bends, .inr (0, [.ref q_a1_bends_yards, .ref q_a1_bends_truth, .ref q_a1_bends_notes, .ref q_a1_bends_words, .ref q_a1_bends_mud, .int a1_bends_size])), (q_a1_bends_yards, .inl (cI, 8, .inl a1_bends_yards)), (q_a1_bends_truth, .inl (cI, 8, .inl a1_bends_truth)), (q_a1_bends_notes, .inl (cI, 8, .inl a1_bends_notes)), (q_a1_bends_mud, .inl (cI, 8, .inl a1_bends_mud))])) (va_Qi (fun r (u : Int32 × Int32 × Int32 × Int32 × Int32 × Int32) => Q r u.1 u.2.1 u.2.2.1 u.2.2.2.1 u.2.2.2.2.1 u.2.2.2.2.2) (fun (u : Int32 × Int32 × Int32 × Int32 × Int32 × Int32) t => va_P D vwCl [(q_a0, .inr (6, [.ref q_a0_bytes, .int a0_size, .int u.1, .int u.2.1, .int u.2.2.1])), (q_a0_bytes, .inl (cI, 150, .inl a0_bytes)), (q_a1, .inr (5, [.ref q_a1_bends, .ref q_a1_felt, .ref q_a1_paces, .ref q_a1_past, .int a1_kind, .int a1_fog, .int u.2.2.2.1, .int u.2.2.2.2.1, .int u.2.2.2.2.2])), (q_a1_bends, .inr (0, [.ref q_a1_bends_yards, .ref q_a1_bends_truth, .ref q_a1_bends_notes, .ref q_a1_bends_words, .ref q_a1_bends_mud, .int a1_bends_size])), (q_a1_bends_yards, .inl (cI, 8, .inl a1_bends_yards)), (q_a1_bends_truth, .inl (cI, 8, .inl a1_bends_truth)), (q_a1_bends_notes, .inl (cI, 8, .inl a1_bends_notes)), (q_a1_bends_mud, .inl (cI, 8, .inl a1_bends_mud))] t.heap ∧ va_D (va_A [(q_a0, .inr (6, [.ref q_a0_bytes, .int a0_size, .int a0_sort, .int a0_start, .int a0_behind])), (q_a0_bytes, .inl (cI, 150, .inl a0_bytes)), (q_a1, .inr (5, [.ref q_a1_bends, .ref q_a1_felt, .ref q_a1_paces, .ref q_a1_past, .int a1_kind, .int a1_fog, .int a1_here, .int a1_seconds, .int a1_crashes])), (q_a1_bends, .inr (0, [.ref q_a1_bends_yards, .ref q_a1_bends_truth, .ref q_a1_bends_notes, .ref q_a1_bends_words, .ref q_a1_bends_mud, .int a1_bends_size])), (q_a1_bends_yards, .inl (cI, 8, .inl a1_bends_yards)), (q_a1_bends_truth, .inl (cI, 8, .inl a1_bends_truth)), (q_a1_bends_notes, .inl (cI, 8, .inl a1_bends_notes)), (q_a1_bends_mud, .inl (cI, 8, .inl a1_bends_mud))] sz) [(q_a0, .inr (6, [.ref q_a0_bytes, .int a0_size, .int u.1, .int u.2.1, .int u.2.2.1])), (q_a0_bytes, .inl (cI, 150, .inl a0_bytes)), (q_a1, .inr (5, [.ref q_a1_bends, .ref q_a1_felt, .ref q_a1_paces, .ref q_a1_past, .int a1_kind, .int a1_fog, .int u.2.2.2.1, .int u.2.2.2.2.1, .int u.2.2.2.2.2])), (q_a1_bends, .inr (0, [.ref q_a1_bends_yards, .ref q_a1_bends_truth, .ref q_a1_bends_notes, .ref q_a1_bends_words, .ref q_a1_bends_mud, .int a1_bends_size])), (q_a1_bends_yards, .inl (cI, 8, .inl a1_bends_yards)), (q_a1_bends_truth, .inl (cI, 8, .inl a1_bends_truth)), (q_a1_bends_notes, .inl (cI, 8, .inl a1_bends_notes)), (q_a1_bends_mud, .inl (cI, 8, .inl a1_bends_mud))]) (va_A [(q_a0, .inr (6, [.ref q_a0_bytes, .int a0_size, .int a0_sort, .int a0_start, .int a0_behind])), (q_a0_bytes, .inl (cI, 150, .inl a0_bytes)), (q_a1, .inr (5, [.ref q_a1_bends, .ref q_a1_felt, .ref q_a1_paces, .ref q_a1_past, .int a1_kind, .int a1_fog, .int a1_here, .int a1_seconds, .int a1_crashes])), (q_a1_bends, .inr (0, [.ref q_a1_bends_yards, .ref q_a1_bends_truth, .ref q_a1_bends_notes, .ref q_a1_bends_words, .ref q_a1_bends_mud, .int a1_bends_size])), (q_a1_bends_yards, .inl (cI, 8, .inl a1_bends_yards)), (q_a1_bends_truth, .inl (cI, 8, .inl a1_bends_truth)), (q_a1_bends_notes, .inl (cI, 8, .inl a1_bends_notes)), (q_a1_bends_mud, .inl (cI, 8, .inl a1_bends_mud))] sz)) 0 0 (va_A [(q_a0, .inr (6, [.ref q_a0_bytes, .int a0_size, .int a0_sort, .int a0_start, .int a0_behind])), (q_a0_bytes, .inl (cI, 150, .inl a0_bytes)), (q_a1, .inr (5, [.ref q_a1_bends, .ref q_a1_felt, .ref q_a1_paces, .ref q_a1_past, .int a1_kind, .int a1_fog, .int a1_here, .int a1_seconds, .int a1_crashes])), (q_a1_bends, .inr (0, [.ref q_a1_bends_yards, .ref q_a1_bends_truth, .ref q_a1_bends_notes, .ref q_a1_bends_words, .ref q_a1_bends_mud, .int a1_bends_size])), (q_a1_bends_yards, .inl (cI, 8, .inl a1_bends_yards)), (q_a1_bends_truth, .inl (cI, 8, .inl a1_bends_truth)), (q_a1_bends_notes, .inl (cI, 8, .inl a1_bends_notes)), (q_a1_bends_mud, .inl (cI, 8, .inl a1_bends_mud))] sz) := by
  refine Met.ofW (cc := cX7_driveTold) (maxL := 3) (ret := (some .boolean)) (by decide) rfl ?_
  intro p e s m args below meth c s₁ B hml hv
  obtain ⟨rfl, hsz, hP, hX, hD0⟩ := hv
  have hK := hX.1
  have hx := B.exec
  have hb := B.bytes
  have hr := B.returns
  have hts := atoms_spec (ws := wsX7_driveTold) B.pre
  have hown : s.vm.findClass RX7 = some m.cls := findClass_of_methodNamed B.named
  have hlocks := B.notSynchronized
  subst hsz
  have hD := hD0.self (sz := s.heap.size)
  generalize hAe : va_A [(q_a0, .inr (6, [.ref q_a0_bytes, .int a0_size, .int a0_sort, .int a0_start, .int a0_behind])), (q_a0_bytes, .inl (cI, 150, .inl a0_bytes)), (q_a1, .inr (5, [.ref q_a1_bends, .ref q_a1_felt, .ref q_a1_paces, .ref q_a1_past, .int a1_kind, .int a1_fog, .int a1_here, .int a1_seconds, .int a1_crashes])), (q_a1_bends, .inr (0, [.ref q_a1_bends_yards, .ref q_a1_bends_truth, .ref q_a1_bends_notes, .ref q_a1_bends_words, .ref q_a1_bends_mud, .int a1_bends_size])), (q_a1_bends_yards, .inl (cI, 8, .inl a1_bends_yards)), (q_a1_bends_truth, .inl (cI, 8, .inl a1_bends_truth)), (q_a1_bends_notes, .inl (cI, 8, .inl a1_bends_notes)), (q_a1_bends_mud, .inl (cI, 8, .inl a1_bends_mud))] s.heap.size = A at hD ⊢
  have hA : ∀ q : Nat, s.heap.size ≤ q → A q := fun q h => by rw [← hAe]; exact Or.inr h
  have hS : va_S A s.heap s.heap [] := va_S.rf
  have hP : va_P D vwCl [(q_a0, .inr (6, [.ref q_a0_bytes, .int a0_size, .int a0_sort, .int a0_start, .int a0_behind])), (q_a0_bytes, .inl (cI, 150, .inl a0_bytes)), (q_a1, .inr (5, [.ref q_a1_bends, .ref q_a1_felt, .ref q_a1_paces, .ref q_a1_past, .int a1_kind, .int a1_fog, .int a1_here, .int a1_seconds, .int a1_crashes])), (q_a1_bends, .inr (0, [.ref q_a1_bends_yards, .ref q_a1_bends_truth, .ref q_a1_bends_notes, .ref q_a1_bends_words, .ref q_a1_bends_mud, .int a1_bends_size])), (q_a1_bends_yards, .inl (cI, 8, .inl a1_bends_yards)), (q_a1_bends_truth, .inl (cI, 8, .inl a1_bends_truth)), (q_a1_bends_notes, .inl (cI, 8, .inl a1_bends_notes)), (q_a1_bends_mud, .inl (cI, 8, .inl a1_bends_mud))] s.heap := hP
  generalize hQQ : MQ below _ _ s _ _ _ = QQ
  have hl := lv_entry ([.ref q_a0, .ref q_a1]) (n := 3) (Nat.le_of_ble_eq_true rfl)
  rw [lg_entry_eq]
  generalize (lg_sl ([.ref q_a0, .ref q_a1]) ++ List.replicate (3 - (lg_sl ([.ref q_a0, .ref q_a1])).length) Slot.unset).toArray = ls at hl ⊢
  have hl : lv_has ls 3 [(0, .ref q_a0), (1, .ref q_a1)] := hl
  unfold p_X7_driveTold at hf
  refine lv_aload_n hx hb dX7_driveTold_0 rfl (lv_at hl 0 rfl) ?_
  have hPc := hP.sub (ws' := [(q_a0, .inr (6, [.ref q_a0_bytes, .int a0_size, .int a0_sort, .int a0_start, .int a0_behind])), (q_a0_bytes, .inl (cI, 150, .inl a0_bytes))]) [0, 1] rfl
  have hDc := hD.sub (ws' := [(q_a0, .inr (6, [.ref q_a0_bytes, .int a0_size, .int a0_sort, .int a0_start, .int a0_behind])), (q_a0_bytes, .inl (cI, 150, .inl a0_bytes))]) [0, 1] (by decide) rfl
  have hFc := va_free (wc := [(q_a0, .inr (6, [.ref q_a0_bytes, .int a0_size, .int a0_sort, .int a0_start, .int a0_behind])), (q_a0_bytes, .inl (cI, 150, .inl a0_bytes))]) hD hS hA [0, 1] rfl
  refine va_callv (va_runV (As := []) (rest := []) ⟨hx, hb, hml, hown, hts⟩ (c_X7_step l D cI cZ cO q_a0 q_a0_bytes a0_size a0_sort a0_start a0_behind a0_bytes s.heap.size  _ hf) (cwV 0 hts gX7_driveTold_X7_step rfl rfl rfl (by decide +kernel) ⟨Nat.le_of_ble_eq_true rfl, Nat.le_of_ble_eq_true rfl⟩) (pv_rw (ci := 6) (q0 := 0) hPc hDc hX rfl rfl) rfl rfl hl.1 rfl (lv_room (Nat.le_of_ble_eq_true rfl)) dX7_driveTold_1 ⟨Nat.zero_le _, Nat.zero_le _⟩) hS (fun q _ h => hFc q h) hFc (fun u t H1 locs ht hvm hf hB hz1 hk1 hS => ?_)
  obtain ⟨u_1, u_2, u_3⟩ := u
  obtain ⟨hP1, hD1⟩ := hB
  rw [ht] at hP1
  clear hvm
  obtain ⟨hP, hD⟩ := va_join (wr := [(q_a1, .inr (5, [.ref q_a1_bends, .ref q_a1_felt, .ref q_a1_paces, .ref q_a1_past, .int a1_kind, .int a1_fog, .int a1_here, .int a1_seconds, .int a1_crashes])), (q_a1_bends, .inr (0, [.ref q_a1_bends_yards, .ref q_a1_bends_truth, .ref q_a1_bends_notes, .ref q_a1_bends_words, .ref q_a1_bends_mud, .int a1_bends_size])), (q_a1_bends_yards, .inl (cI, 8, .inl a1_bends_yards)), (q_a1_bends_truth, .inl (cI, 8, .inl a1_bends_truth)), (q_a1_bends_notes, .inl (cI, 8, .inl a1_bends_notes)), (q_a1_bends_mud, .inl (cI, 8, .inl a1_bends_mud))]) (w1 := [(q_a0, .inr (6, [.ref q_a0_bytes, .int a0_size, .int u_1, .int u_2, .int u_3])), (q_a0_bytes, .inl (cI, 150, .inl a0_bytes))]) hP hD [0, 1] [2, 3, 4, 5, 6, 7] rfl rfl (by decide) (by decide) hk1 hFc hP1 hD1
  clear hz1 hk1 hPc hDc hFc hP1 hD1
  generalize H1 = H at hP hS ⊢
  have hP : va_P D vwCl [(q_a1, .inr (5, [.ref q_a1_bends, .ref q_a1_felt, .ref q_a1_paces, .ref q_a1_past, .int a1_kind, .int a1_fog, .int a1_here, .int a1_seconds, .int a1_crashes])), (q_a1_bends, .inr (0, [.ref q_a1_bends_yards, .ref q_a1_bends_truth, .ref q_a1_bends_notes, .ref q_a1_bends_words, .ref q_a1_bends_mud, .int a1_bends_size])), (q_a1_bends_yards, .inl (cI, 8, .inl a1_bends_yards)), (q_a1_bends_truth, .inl (cI, 8, .inl a1_bends_truth)), (q_a1_bends_notes, .inl (cI, 8, .inl a1_bends_notes)), (q_a1_bends_mud, .inl (cI, 8, .inl a1_bends_mud)), (q_a0, .inr (6, [.ref q_a0_bytes, .int a0_size, .int u_1, .int u_2, .int u_3])), (q_a0_bytes, .inl (cI, 150, .inl a0_bytes))] H := hP
  have hD : va_D A [(q_a1, .inr (5, [.ref q_a1_bends, .ref q_a1_felt, .ref q_a1_paces, .ref q_a1_past, .int a1_kind, .int a1_fog, .int a1_here, .int a1_seconds, .int a1_crashes])), (q_a1_bends, .inr (0, [.ref q_a1_bends_yards, .ref q_a1_bends_truth, .ref q_a1_bends_notes, .ref q_a1_bends_words, .ref q_a1_bends_mud, .int a1_bends_size])), (q_a1_bends_yards, .inl (cI, 8, .inl a1_bends_yards)), (q_a1_bends_truth, .inl (cI, 8, .inl a1_bends_truth)), (q_a1_bends_notes, .inl (cI, 8, .inl a1_bends_notes)), (q_a1_bends_mud, .inl (cI, 8, .inl a1_bends_mud)), (q_a0, .inr (6, [.ref q_a0_bytes, .int a0_size, .int u_1, .int u_2, .int u_3])), (q_a0_bytes, .inl (cI, 150, .inl a0_bytes))] := hD
  refine lv_aload_n hx hb dX7_driveTold_4 rfl (lv_at hl 0 rfl) ?_
  refine lv_iconst (v := 1) hx hb dX7_driveTold_5 (by decide) ?_
  refine lv_aload_n hx hb dX7_driveTold_6 rfl (lv_at hl 1 rfl) ?_
  refine ya_csi (va_runV (As := []) (rest := [.int 1, .ref q_a0]) ⟨hx, hb, hml, hown, hts⟩ (c_X6_bendsLeft l D cI cZ cO q_a1 q_a1_bends q_a1_felt q_a1_paces q_a1_past q_a1_bends_yards q_a1_bends_truth q_a1_bends_notes q_a1_bends_words q_a1_bends_mud a1_kind a1_fog a1_here a1_seconds a1_crashes a1_bends_size  _ hf) (cwV 0 hts gX7_driveTold_X6_bendsLeft rfl rfl rfl (by decide +kernel) ⟨Nat.le_of_ble_eq_true rfl, Nat.le_of_ble_eq_true rfl⟩) (pv_ro (ci := 5) (q0 := 0) (hP.sub [0, 1] rfl) hX rfl rfl) rfl rfl hl.1 rfl (lv_room (Nat.le_of_ble_eq_true rfl)) dX7_driveTold_7 ⟨Nat.zero_le _, Nat.zero_le _⟩) (fun r_4 hf => ?_)
  have hPc := hP.sub (ws' := [(q_a0, .inr (6, [.ref q_a0_bytes, .int a0_size, .int u_1, .int u_2, .int u_3])), (q_a0_bytes, .inl (cI, 150, .inl a0_bytes))]) [6, 7] rfl
  have hDc := hD.sub (ws' := [(q_a0, .inr (6, [.ref q_a0_bytes, .int a0_size, .int u_1, .int u_2, .int u_3])), (q_a0_bytes, .inl (cI, 150, .inl a0_bytes))]) [6, 7] (by decide) rfl
  have hFc := va_free (wc := [(q_a0, .inr (6, [.ref q_a0_bytes, .int a0_size, .int u_1, .int u_2, .int u_3])), (q_a0_bytes, .inl (cI, 150, .inl a0_bytes))]) hD hS hA [6, 7] rfl
  refine va_calli (va_runV (As := [.int 1, .int r_4]) (rest := []) ⟨hx, hb, hml, hown, hts⟩ (c_X7_number l D cI cZ cO q_a0 q_a0_bytes a0_size u_1 u_2 u_3 a0_bytes H.size 1 r_4 _ hf) (cwV 2 hts gX7_driveTold_X7_number rfl rfl rfl (by decide +kernel) ⟨Nat.le_of_ble_eq_true rfl, Nat.le_of_ble_eq_true rfl⟩) (pv_rw (ci := 6) (q0 := 0) hPc hDc hX rfl rfl) rfl rfl hl.1 rfl (lv_room (Nat.le_of_ble_eq_true rfl)) dX7_driveTold_10 ⟨Nat.zero_le _, Nat.zero_le _⟩) hS (fun q _ h => hFc q h) hFc (fun r_5 u t H1 locs ht hvm hf hB hz1 hk1 hS => ?_)
  obtain ⟨u_6, u_7, u_8⟩ := u
  obtain ⟨hP1, hD1⟩ := hB
  rw [ht] at hP1
  clear hvm
  obtain ⟨hP, hD⟩ := va_join (wr := [(q_a1, .inr (5, [.ref q_a1_bends, .ref q_a1_felt, .ref q_a1_paces, .ref q_a1_past, .int a1_kind, .int a1_fog, .int a1_here, .int a1_seconds, .int a1_crashes])), (q_a1_bends, .inr (0, [.ref q_a1_bends_yards, .ref q_a1_bends_truth, .ref q_a1_bends_notes, .ref q_a1_bends_words, .ref q_a1_bends_mud, .int a1_bends_size])), (q_a1_bends_yards, .inl (cI, 8, .inl a1_bends_yards)), (q_a1_bends_truth, .inl (cI, 8, .inl a1_bends_truth)), (q_a1_bends_notes, .inl (cI, 8, .inl a1_bends_notes)), (q_a1_bends_mud, .inl (cI, 8, .inl a1_bends_mud))]) (w1 := [(q_a0, .inr (6, [.ref q_a0_bytes, .int a0_size, .int u_6, .int u_7, .int u_8])), (q_a0_bytes, .inl (cI, 150, .inl a0_bytes))]) hP hD [6, 7] [0, 1, 2, 3, 4, 5] rfl rfl (by decide) (by decide) hk1 hFc hP1 hD1
  clear hz1 hk1 hPc hDc hFc hP1 hD1
  generalize H1 = H at hP hS ⊢
  have hP : va_P D vwCl [(q_a1, .inr (5, [.ref q_a1_bends, .ref q_a1_felt, .ref q_a1_paces, .ref q_a1_past, .int a1_kind, .int a1_fog, .int a1_here, .int a1_seconds, .int a1_crashes])), (q_a1_bends, .inr (0, [.ref q_a1_bends_yards, .ref q_a1_bends_truth, .ref q_a1_bends_notes, .ref q_a1_bends_words, .ref q_a1_bends_mud, .int a1_bends_size])), (q_a1_bends_yards, .inl (cI, 8, .inl a1_bends_yards)), (q_a1_bends_truth, .inl (cI, 8, .inl a1_bends_truth)), (q_a1_bends_notes, .inl (cI, 8, .inl a1_bends_notes)), (q_a1_bends_mud, .inl (cI, 8, .inl a1_bends_mud)), (q_a0, .inr (6, [.ref q_a0_bytes, .int a0_size, .int u_6, .int u_7, .int u_8])), (q_a0_bytes, .inl (cI, 150, .inl a0_bytes))] H := hP
  have hD : va_D A [(q_a1, .inr (5, [.ref q_a1_bends, .ref q_a1_felt, .ref q_a1_paces, .ref q_a1_past, .int a1_kind, .int a1_fog, .int a1_here, .int a1_seconds, .int a1_crashes])), (q_a1_bends, .inr (0, [.ref q_a1_bends_yards, .ref q_a1_bends_truth, .ref q_a1_bends_notes, .ref q_a1_bends_words, .ref q_a1_bends_mud, .int a1_bends_size])), (q_a1_bends_yards, .inl (cI, 8, .inl a1_bends_yards)), (q_a1_bends_truth, .inl (cI, 8, .inl a1_bends_truth)), (q_a1_bends_notes, .inl (cI, 8, .inl a1_bends_notes)), (q_a1_bends_mud, .inl (cI, 8, .inl a1_bends_mud)), (q_a0, .inr (6, [.ref q_a0_bytes, .int a0_size, .int u_6, .int u_7, .int u_8])), (q_a0_bytes, .inl (cI, 150, .inl a0_bytes))] := hD
  refine lv_istore_n (lv' := [(2, .int r_5), (0, .ref q_a0), (1, .ref q_a1)]) hx hb dX7_driveTold_13 rfl hl (by decide) rfl (fun ls hl => ?_)
  refine lv_iload_n hx hb dX7_driveTold_14 rfl (lv_at hl 0 rfl) ?_
  refine lv_iconst (v := (-1)) hx hb dX7_driveTold_15 (by decide) ?_
  refine lv_icmp_ne (tgt := 21) hx hb dX7_driveTold_16 (by decide) (fun c_9 => ?_) (fun c_9 => ?_)
  · have hf := it_f c_9 hf
    refine lv_aload_n hx hb dX7_driveTold_21 rfl (lv_at hl 2 rfl) ?_
    refine lv_iload_n hx hb dX7_driveTold_22 rfl (lv_at hl 0 rfl) ?_
    have hPc := hP.sub (ws' := [(q_a1, .inr (5, [.ref q_a1_bends, .ref q_a1_felt, .ref q_a1_paces, .ref q_a1_past, .int a1_kind, .int a1_fog, .int a1_here, .int a1_seconds, .int a1_crashes])), (q_a1_bends, .inr (0, [.ref q_a1_bends_yards, .ref q_a1_bends_truth, .ref q_a1_bends_notes, .ref q_a1_bends_words, .ref q_a1_bends_mud, .int a1_bends_size])), (q_a1_bends_yards, .inl (cI, 8, .inl a1_bends_yards)), (q_a1_bends_truth, .inl (cI, 8, .inl a1_bends_truth)), (q_a1_bends_notes, .inl (cI, 8, .inl a1_bends_notes)), (q_a1_bends_mud, .inl (cI, 8, .inl a1_bends_mud))]) [0, 1, 2, 3, 4, 5] rfl
    have hDc := hD.sub (ws' := [(q_a1, .inr (5, [.ref q_a1_bends, .ref q_a1_felt, .ref q_a1_paces, .ref q_a1_past, .int a1_kind, .int a1_fog, .int a1_here, .int a1_seconds, .int a1_crashes])), (q_a1_bends, .inr (0, [.ref q_a1_bends_yards, .ref q_a1_bends_truth, .ref q_a1_bends_notes, .ref q_a1_bends_words, .ref q_a1_bends_mud, .int a1_bends_size])), (q_a1_bends_yards, .inl (cI, 8, .inl a1_bends_yards)), (q_a1_bends_truth, .inl (cI, 8, .inl a1_bends_truth)), (q_a1_bends_notes, .inl (cI, 8, .inl a1_bends_notes)), (q_a1_bends_mud, .inl (cI, 8, .inl a1_bends_mud))]) [0, 1, 2, 3, 4, 5] (by decide) rfl
    have hFc := va_free (wc := [(q_a1, .inr (5, [.ref q_a1_bends, .ref q_a1_felt, .ref q_a1_paces, .ref q_a1_past, .int a1_kind, .int a1_fog, .int a1_here, .int a1_seconds, .int a1_crashes])), (q_a1_bends, .inr (0, [.ref q_a1_bends_yards, .ref q_a1_bends_truth, .ref q_a1_bends_notes, .ref q_a1_bends_words, .ref q_a1_bends_mud, .int a1_bends_size])), (q_a1_bends_yards, .inl (cI, 8, .inl a1_bends_yards)), (q_a1_bends_truth, .inl (cI, 8, .inl a1_bends_truth)), (q_a1_bends_notes, .inl (cI, 8, .inl a1_bends_notes)), (q_a1_bends_mud, .inl (cI, 8, .inl a1_bends_mud))]) hD hS hA [0, 1, 2, 3, 4, 5] rfl
    refine va_calli (va_runV (As := [.int r_5]) (rest := []) ⟨hx, hb, hml, hown, hts⟩ (c_X6_goOn l D cI cZ cO q_a1 q_a1_bends q_a1_felt q_a1_paces q_a1_past q_a1_bends_yards q_a1_bends_truth q_a1_bends_notes q_a1_bends_words q_a1_bends_mud a1_kind a1_fog a1_here a1_seconds a1_crashes a1_bends_size a1_bends_yards a1_bends_truth a1_bends_notes a1_bends_mud H.size r_5 _ hf) (cwV 1 hts gX7_driveTold_X6_goOn rfl rfl rfl (by decide +kernel) ⟨Nat.le_of_ble_eq_true rfl, Nat.le_of_ble_eq_true rfl⟩) (pv_rw (ci := 5) (q0 := 0) hPc hDc hX rfl rfl) rfl rfl hl.1 rfl (lv_room (Nat.le_of_ble_eq_true rfl)) dX7_driveTold_23 ⟨Nat.zero_le _, Nat.zero_le _⟩) hS (fun q _ h => hFc q h) hFc (fun r_10 u t H1 locs ht hvm hf hB hz1 hk1 hS => ?_)
    obtain ⟨u_11, u_12, u_13⟩ := u
    obtain ⟨hP1, hD1⟩ := hB
    rw [ht] at hP1
    clear hvm
    obtain ⟨hP, hD⟩ := va_join (wr := [(q_a0, .inr (6, [.ref q_a0_bytes, .int a0_size, .int u_6, .int u_7, .int u_8])), (q_a0_bytes, .inl (cI, 150, .inl a0_bytes))]) (w1 := [(q_a1, .inr (5, [.ref q_a1_bends, .ref q_a1_felt, .ref q_a1_paces, .ref q_a1_past, .int a1_kind, .int a1_fog, .int u_11, .int u_12, .int u_13])), (q_a1_bends, .inr (0, [.ref q_a1_bends_yards, .ref q_a1_bends_truth, .ref q_a1_bends_notes, .ref q_a1_bends_words, .ref q_a1_bends_mud, .int a1_bends_size])), (q_a1_bends_yards, .inl (cI, 8, .inl a1_bends_yards)), (q_a1_bends_truth, .inl (cI, 8, .inl a1_bends_truth)), (q_a1_bends_notes, .inl (cI, 8, .inl a1_bends_notes)), (q_a1_bends_mud, .inl (cI, 8, .inl a1_bends_mud))]) hP hD [0, 1, 2, 3, 4, 5] [6, 7] rfl rfl (by decide) (by decide) hk1 hFc hP1 hD1
    clear hz1 hk1 hPc hDc hFc hP1 hD1
    generalize H1 = H at hP hS ⊢
    have hP : va_P D vwCl [(q_a0, .inr (6, [.ref q_a0_bytes, .int a0_size, .int u_6, .int u_7, .int u_8])), (q_a0_bytes, .inl (cI, 150, .inl a0_bytes)), (q_a1, .inr (5, [.ref q_a1_bends, .ref q_a1_felt, .ref q_a1_paces, .ref q_a1_past, .int a1_kind, .int a1_fog, .int u_11, .int u_12, .int u_13])), (q_a1_bends, .inr (0, [.ref q_a1_bends_yards, .ref q_a1_bends_truth, .ref q_a1_bends_notes, .ref q_a1_bends_words, .ref q_a1_bends_mud, .int a1_bends_size])), (q_a1_bends_yards, .inl (cI, 8, .inl a1_bends_yards)), (q_a1_bends_truth, .inl (cI, 8, .inl a1_bends_truth)), (q_a1_bends_notes, .inl (cI, 8, .inl a1_bends_notes)), (q_a1_bends_mud, .inl (cI, 8, .inl a1_bends_mud))] H := hP
    have hD : va_D A [(q_a0, .inr (6, [.ref q_a0_bytes, .int a0_size, .int u_6, .int u_7, .int u_8])), (q_a0_bytes, .inl (cI, 150, .inl a0_bytes)), (q_a1, .inr (5, [.ref q_a1_bends, .ref q_a1_felt, .ref q_a1_paces, .ref q_a1_past, .int a1_kind, .int a1_fog, .int u_11, .int u_12, .int u_13])), (q_a1_bends, .inr (0, [.ref q_a1_bends_yards, .ref q_a1_bends_truth, .ref q_a1_bends_notes, .ref q_a1_bends_words, .ref q_a1_bends_mud, .int a1_bends_size])), (q_a1_bends_yards, .inl (cI, 8, .inl a1_bends_yards)), (q_a1_bends_truth, .inl (cI, 8, .inl a1_bends_truth)), (q_a1_bends_notes, .inl (cI, 8, .inl a1_bends_notes)), (q_a1_bends_mud, .inl (cI, 8, .inl a1_bends_mud))] := hD
    refine lv_pop hx hb dX7_driveTold_26 rfl ?_
    refine lv_aload_n hx hb dX7_driveTold_27 rfl (lv_at hl 1 rfl) ?_
    have hPc := hP.sub (ws' := [(q_a0, .inr (6, [.ref q_a0_bytes, .int a0_size, .int u_6, .int u_7, .int u_8])), (q_a0_bytes, .inl (cI, 150, .inl a0_bytes))]) [0, 1] rfl
    have hDc := hD.sub (ws' := [(q_a0, .inr (6, [.ref q_a0_bytes, .int a0_size, .int u_6, .int u_7, .int u_8])), (q_a0_bytes, .inl (cI, 150, .inl a0_bytes))]) [0, 1] (by decide) rfl
    have hFc := va_free (wc := [(q_a0, .inr (6, [.ref q_a0_bytes, .int a0_size, .int u_6, .int u_7, .int u_8])), (q_a0_bytes, .inl (cI, 150, .inl a0_bytes))]) hD hS hA [0, 1] rfl
    refine va_calli (va_runV (As := []) (rest := []) ⟨hx, hb, hml, hown, hts⟩ (c_X7_itemEnded l D cI cZ cO q_a0 q_a0_bytes a0_size u_6 u_7 u_8 a0_bytes H.size  _ hf) (cwV 0 hts gX7_driveTold_X7_itemEnded rfl rfl rfl (by decide +kernel) ⟨Nat.le_of_ble_eq_true rfl, Nat.le_of_ble_eq_true rfl⟩) (pv_rw (ci := 6) (q0 := 0) hPc hDc hX rfl rfl) rfl rfl hl.1 rfl (lv_room (Nat.le_of_ble_eq_true rfl)) dX7_driveTold_28 ⟨Nat.zero_le _, Nat.zero_le _⟩) hS (fun q _ h => hFc q h) hFc (fun r_14 u t H1 locs ht hvm hf hB hz1 hk1 hS => ?_)
    obtain ⟨u_15, u_16, u_17⟩ := u
    obtain ⟨hP1, hD1⟩ := hB
    rw [ht] at hP1
    clear hvm
    obtain ⟨hP, hD⟩ := va_join (wr := [(q_a1, .inr (5, [.ref q_a1_bends, .ref q_a1_felt, .ref q_a1_paces, .ref q_a1_past, .int a1_kind, .int a1_fog, .int u_11, .int u_12, .int u_13])), (q_a1_bends, .inr (0, [.ref q_a1_bends_yards, .ref q_a1_bends_truth, .ref q_a1_bends_notes, .ref q_a1_bends_words, .ref q_a1_bends_mud, .int a1_bends_size])), (q_a1_bends_yards, .inl (cI, 8, .inl a1_bends_yards)), (q_a1_bends_truth, .inl (cI, 8, .inl a1_bends_truth)), (q_a1_bends_notes, .inl (cI, 8, .inl a1_bends_notes)), (q_a1_bends_mud, .inl (cI, 8, .inl a1_bends_mud))]) (w1 := [(q_a0, .inr (6, [.ref q_a0_bytes, .int a0_size, .int u_15, .int u_16, .int u_17])), (q_a0_bytes, .inl (cI, 150, .inl a0_bytes))]) hP hD [0, 1] [2, 3, 4, 5, 6, 7] rfl rfl (by decide) (by decide) hk1 hFc hP1 hD1
    clear hz1 hk1 hPc hDc hFc hP1 hD1
    generalize H1 = H at hP hS ⊢
    have hP : va_P D vwCl [(q_a1, .inr (5, [.ref q_a1_bends, .ref q_a1_felt, .ref q_a1_paces, .ref q_a1_past, .int a1_kind, .int a1_fog, .int u_11, .int u_12, .int u_13])), (q_a1_bends, .inr (0, [.ref q_a1_bends_yards, .ref q_a1_bends_truth, .ref q_a1_bends_notes, .ref q_a1_bends_words, .ref q_a1_bends_mud, .int a1_bends_size])), (q_a1_bends_yards, .inl (cI, 8, .inl a1_bends_yards)), (q_a1_bends_truth, .inl (cI, 8, .inl a1_bends_truth)), (q_a1_bends_notes, .inl (cI, 8, .inl a1_bends_notes)), (q_a1_bends_mud, .inl (cI, 8, .inl a1_bends_mud)), (q_a0, .inr (6, [.ref q_a0_bytes, .int a0_size, .int u_15, .int u_16, .int u_17])), (q_a0_bytes, .inl (cI, 150, .inl a0_bytes))] H := hP
    have hD : va_D A [(q_a1, .inr (5, [.ref q_a1_bends, .ref q_a1_felt, .ref q_a1_paces, .ref q_a1_past, .int a1_kind, .int a1_fog, .int u_11, .int u_12, .int u_13])), (q_a1_bends, .inr (0, [.ref q_a1_bends_yards, .ref q_a1_bends_truth, .ref q_a1_bends_notes, .ref q_a1_bends_words, .ref q_a1_bends_mud, .int a1_bends_size])), (q_a1_bends_yards, .inl (cI, 8, .inl a1_bends_yards)), (q_a1_bends_truth, .inl (cI, 8, .inl a1_bends_truth)), (q_a1_bends_notes, .inl (cI, 8, .inl a1_bends_notes)), (q_a1_bends_mud, .inl (cI, 8, .inl a1_bends_mud)), (q_a0, .inr (6, [.ref q_a0_bytes, .int a0_size, .int u_15, .int u_16, .int u_17])), (q_a0_bytes, .inl (cI, 150, .inl a0_bytes))] := hD
    subst hQQ
    have hz := hf.1
    have hf := hf.2
    have hP9 := hP.sub (ws' := [(q_a0, .inr (6, [.ref q_a0_bytes, .int a0_size, .int u_15, .int u_16, .int u_17])), (q_a0_bytes, .inl (cI, 150, .inl a0_bytes)), (q_a1, .inr (5, [.ref q_a1_bends, .ref q_a1_felt, .ref q_a1_paces, .ref q_a1_past, .int a1_kind, .int a1_fog, .int u_11, .int u_12, .int u_13])), (q_a1_bends, .inr (0, [.ref q_a1_bends_yards, .ref q_a1_bends_truth, .ref q_a1_bends_notes, .ref q_a1_bends_words, .ref q_a1_bends_mud, .int a1_bends_size])), (q_a1_bends_yards, .inl (cI, 8, .inl a1_bends_yards)), (q_a1_bends_truth, .inl (cI, 8, .inl a1_bends_truth)), (q_a1_bends_notes, .inl (cI, 8, .inl a1_bends_notes)), (q_a1_bends_mud, .inl (cI, 8, .inl a1_bends_mud))]) [6, 7, 0, 1, 2, 3, 4, 5] rfl
    have hD9 := hD.sub (ws' := [(q_a0, .inr (6, [.ref q_a0_bytes, .int a0_size, .int u_15, .int u_16, .int u_17])), (q_a0_bytes, .inl (cI, 150, .inl a0_bytes)), (q_a1, .inr (5, [.ref q_a1_bends, .ref q_a1_felt, .ref q_a1_paces, .ref q_a1_past, .int a1_kind, .int a1_fog, .int u_11, .int u_12, .int u_13])), (q_a1_bends, .inr (0, [.ref q_a1_bends_yards, .ref q_a1_bends_truth, .ref q_a1_bends_notes, .ref q_a1_bends_words, .ref q_a1_bends_mud, .int a1_bends_size])), (q_a1_bends_yards, .inl (cI, 8, .inl a1_bends_yards)), (q_a1_bends_truth, .inl (cI, 8, .inl a1_bends_truth)), (q_a1_bends_notes, .inl (cI, 8, .inl a1_bends_notes)), (q_a1_bends_mud, .inl (cI, 8, .inl a1_bends_mud))]) [6, 7, 0, 1, 2, 3, 4, 5] (by decide) rfl
    exact W.zret hx hb hr hz (fun t ht hW => ⟨⟨r_14, (u_15, u_16, u_17, u_11, u_12, u_13), rfl, hf, by rw [ht]; exact hP9, hD9⟩, hS.F ht⟩) hS.2.2 dX7_driveTold_31
  · have hf := it_t c_9 hf
    refine lv_iconst (v := 0) hx hb dX7_driveTold_19 (by decide) ?_
    subst hQQ
    have hP9 := hP.sub (ws' := [(q_a0, .inr (6, [.ref q_a0_bytes, .int a0_size, .int u_6, .int u_7, .int u_8])), (q_a0_bytes, .inl (cI, 150, .inl a0_bytes)), (q_a1, .inr (5, [.ref q_a1_bends, .ref q_a1_felt, .ref q_a1_paces, .ref q_a1_past, .int a1_kind, .int a1_fog, .int a1_here, .int a1_seconds, .int a1_crashes])), (q_a1_bends, .inr (0, [.ref q_a1_bends_yards, .ref q_a1_bends_truth, .ref q_a1_bends_notes, .ref q_a1_bends_words, .ref q_a1_bends_mud, .int a1_bends_size])), (q_a1_bends_yards, .inl (cI, 8, .inl a1_bends_yards)), (q_a1_bends_truth, .inl (cI, 8, .inl a1_bends_truth)), (q_a1_bends_notes, .inl (cI, 8, .inl a1_bends_notes)), (q_a1_bends_mud, .inl (cI, 8, .inl a1_bends_mud))]) [6, 7, 0, 1, 2, 3, 4, 5] rfl
    have hD9 := hD.sub (ws' := [(q_a0, .inr (6, [.ref q_a0_bytes, .int a0_size, .int u_6, .int u_7, .int u_8])), (q_a0_bytes, .inl (cI, 150, .inl a0_bytes)), (q_a1, .inr (5, [.ref q_a1_bends, .ref q_a1_felt, .ref q_a1_paces, .ref q_a1_past, .int a1_kind, .int a1_fog, .int a1_here, .int a1_seconds, .int a1_crashes])), (q_a1_bends, .inr (0, [.ref q_a1_bends_yards, .ref q_a1_bends_truth, .ref q_a1_bends_notes, .ref q_a1_bends_words, .ref q_a1_bends_mud, .int a1_bends_size])), (q_a1_bends_yards, .inl (cI, 8, .inl a1_bends_yards)), (q_a1_bends_truth, .inl (cI, 8, .inl a1_bends_truth)), (q_a1_bends_notes, .inl (cI, 8, .inl a1_bends_notes)), (q_a1_bends_mud, .inl (cI, 8, .inl a1_bends_mud))]) [6, 7, 0, 1, 2, 3, 4, 5] (by decide) rfl
    exact W.zret hx hb hr rfl (fun t ht hW => ⟨⟨0, (u_6, u_7, u_8, a1_here, a1_seconds, a1_crashes), rfl, hf, by rw [ht]; exact hP9, hD9⟩, hS.F ht⟩) hS.2.2 dX7_driveTold_20
def p_X8_isDriver (x0 : Int32) (x1 : Int32) (Q : Int32 → Prop) : Prop :=
  p_X8_within x0 0 5 (fun r_1 => if r_1 = 0 then (Q 0) else (p_X8_within x1 0 9 (fun r_3 => if r_3 = 0 then (Q 0) else (Q 1))))
def rmX8_isDriver : Room := { frames := 1, cells := 0, slots := 0, locals := 22 }
set_option maxHeartbeats 4000000 in
set_option maxRecDepth 100000 in
theorem c_X8_isDriver (l : Launch) (D : va_G) (cI cZ cO : ClassId) (x0 : Int32) (x1 : Int32) (Q : Int32 → Prop) (hf : p_X8_isDriver x0 x1 Q) : Met l yX8_isDriver wsX8_isDriver rmX8_isDriver (va_Pc [.int x0, .int x1] (fun U => va_P D vwCl [] U.heap ∧ XK D cI cZ cO U)) (vp_Si Q) 0 0 (fun _ => False) := by
  refine Met.ofW (cc := cX8_isDriver) (maxL := 2) (ret := (some .boolean)) (by decide) rfl ?_
  intro p e s m args below meth c s₁ B hml hv
  obtain ⟨rfl, hP, hX⟩ := hv
  have hK := hX.1
  have hx := B.exec
  have hb := B.bytes
  have hr := B.returns
  have hts := atoms_spec (ws := wsX8_isDriver) B.pre
  have hown : s.vm.findClass RX8 = some m.cls := findClass_of_methodNamed B.named
  have hlocks := B.notSynchronized
  generalize hQQ : MQ below _ _ s _ _ _ = QQ
  have hl := lv_entry ([.int x0, .int x1]) (n := 2) (Nat.le_of_ble_eq_true rfl)
  rw [lg_entry_eq]
  generalize (lg_sl ([.int x0, .int x1]) ++ List.replicate (2 - (lg_sl ([.int x0, .int x1])).length) Slot.unset).toArray = ls at hl ⊢
  have hl : lv_has ls 2 [(0, .int x0), (1, .int x1)] := hl
  unfold p_X8_isDriver at hf
  refine lv_iload_n hx hb dX8_isDriver_0 rfl (lv_at hl 0 rfl) ?_
  refine lv_iconst (v := 0) hx hb dX8_isDriver_1 (by decide) ?_
  refine lv_iconst (v := 5) hx hb dX8_isDriver_2 (by decide) ?_
  refine ya_csi (va_runS (As := [.int x0, .int 0, .int 5]) (rest := []) ⟨hx, hb, hml, hown, hts⟩ (c_X8_within l D cI cZ cO  x0 0 5 _ hf) (va_cwS 3 hts gX8_isDriver_X8_within rfl rfl rfl (by decide +kernel) ⟨Nat.le_of_ble_eq_true rfl, Nat.le_of_ble_eq_true rfl⟩) (ps_ro va_P0 hX) rfl rfl hl.1 rfl (lv_room (Nat.le_of_ble_eq_true rfl)) dX8_isDriver_3 ⟨Nat.zero_le _, Nat.zero_le _⟩) (fun r_1 hf => ?_)
  refine lv_if_eq (tgt := 23) hx hb dX8_isDriver_6 (by decide) (fun c_2 => ?_) (fun c_2 => ?_)
  · have hf := it_t c_2 hf
    refine lv_iconst (v := 0) hx hb dX8_isDriver_23 (by decide) ?_
    subst hQQ
    exact W.zret hx hb hr rfl (fun t ht hW => ⟨_, rfl, hf, ht⟩) (fun _ h => absurd h List.not_mem_nil) dX8_isDriver_24
  · have hf := it_f c_2 hf
    refine lv_iload_n hx hb dX8_isDriver_9 rfl (lv_at hl 1 rfl) ?_
    refine lv_iconst (v := 0) hx hb dX8_isDriver_10 (by decide) ?_
    refine lv_bipush (v := 9) hx hb dX8_isDriver_11 (by decide) ?_
    refine ya_csi (va_runS (As := [.int x1, .int 0, .int 9]) (rest := []) ⟨hx, hb, hml, hown, hts⟩ (c_X8_within l D cI cZ cO  x1 0 9 _ hf) (va_cwS 3 hts gX8_isDriver_X8_within rfl rfl rfl (by decide +kernel) ⟨Nat.le_of_ble_eq_true rfl, Nat.le_of_ble_eq_true rfl⟩) (ps_ro va_P0 hX) rfl rfl hl.1 rfl (lv_room (Nat.le_of_ble_eq_true rfl)) dX8_isDriver_13 ⟨Nat.zero_le _, Nat.zero_le _⟩) (fun r_3 hf => ?_)
    refine lv_if_eq (tgt := 23) hx hb dX8_isDriver_16 (by decide) (fun c_4 => ?_) (fun c_4 => ?_)
    · have hf := it_t c_4 hf
      refine lv_iconst (v := 0) hx hb dX8_isDriver_23 (by decide) ?_
      subst hQQ
      exact W.zret hx hb hr rfl (fun t ht hW => ⟨_, rfl, hf, ht⟩) (fun _ h => absurd h List.not_mem_nil) dX8_isDriver_24
    · have hf := it_f c_4 hf
      refine lv_iconst (v := 1) hx hb dX8_isDriver_19 (by decide) ?_
      refine lv_goto (tgt := 24) hx hb dX8_isDriver_20 (by decide) ?_
      subst hQQ
      exact W.zret hx hb hr rfl (fun t ht hW => ⟨_, rfl, hf, ht⟩) (fun _ h => absurd h List.not_mem_nil) dX8_isDriver_24
def p_X8_refuse (a0_refused : Nat → Int32) (x1 : Int32) (Q : Int32 → (Nat → Int32) → Prop) : Prop :=
  if x1 = (-2) then (Q x1 (upd a0_refused ((0 : Int32).toNatClampNeg) ((a0_refused (0 : Int32).toNatClampNeg) + 1))) else (if x1 = (-3) then (Q x1 (upd a0_refused ((1 : Int32).toNatClampNeg) ((a0_refused (1 : Int32).toNatClampNeg) + 1))) else (Q x1 (upd a0_refused ((2 : Int32).toNatClampNeg) ((a0_refused (2 : Int32).toNatClampNeg) + 1))))
def rmX8_refuse : Room := { frames := 0, cells := 0, slots := 0, locals := 0 }
set_option maxHeartbeats 4000000 in
set_option maxRecDepth 100000 in
theorem c_X8_refuse (l : Launch) (D : va_G) (cI cZ cO : ClassId) (q_a0 q_a0_stage q_a0_draft q_a0_images q_a0_kept q_a0_plans q_a0_text q_a0_refused : Nat) (a0_above : Int64) (a0_below : Int64) (a0_refused : Nat → Int32) (sz : Nat) (x1 : Int32) (Q : Int32 → (Nat → Int32) → Prop) (hf : p_X8_refuse a0_refused x1 Q) : Met l yX8_refuse wsX8_refuse rmX8_refuse (va_Pc [.ref q_a0, .int x1] (fun U => U.heap.size = sz ∧ va_P D vwCl [(q_a0, .inr (7, [.ref q_a0_stage, .ref q_a0_draft, .ref q_a0_images, .ref q_a0_kept, .ref q_a0_plans, .ref q_a0_text, .ref q_a0_refused, .long a0_above, .long a0_below])), (q_a0_refused, .inl (cI, 3, .inl a0_refused))] U.heap ∧ XK D cI cZ cO U ∧ va_D (fun _ => True) [(q_a0, .inr (7, [.ref q_a0_stage, .ref q_a0_draft, .ref q_a0_images, .ref q_a0_kept, .ref q_a0_plans, .ref q_a0_text, .ref q_a0_refused, .long a0_above, .long a0_below])), (q_a0_refused, .inl (cI, 3, .inl a0_refused))])) (va_Qi (fun r (u : (Nat → Int32)) => Q r u) (fun (u : (Nat → Int32)) t => va_P D vwCl [(q_a0, .inr (7, [.ref q_a0_stage, .ref q_a0_draft, .ref q_a0_images, .ref q_a0_kept, .ref q_a0_plans, .ref q_a0_text, .ref q_a0_refused, .long a0_above, .long a0_below])), (q_a0_refused, .inl (cI, 3, .inl u))] t.heap ∧ va_D (va_A [(q_a0, .inr (7, [.ref q_a0_stage, .ref q_a0_draft, .ref q_a0_images, .ref q_a0_kept, .ref q_a0_plans, .ref q_a0_text, .ref q_a0_refused, .long a0_above, .long a0_below])), (q_a0_refused, .inl (cI, 3, .inl a0_refused))] sz) [(q_a0, .inr (7, [.ref q_a0_stage, .ref q_a0_draft, .ref q_a0_images, .ref q_a0_kept, .ref q_a0_plans, .ref q_a0_text, .ref q_a0_refused, .long a0_above, .long a0_below])), (q_a0_refused, .inl (cI, 3, .inl u))]) (va_A [(q_a0, .inr (7, [.ref q_a0_stage, .ref q_a0_draft, .ref q_a0_images, .ref q_a0_kept, .ref q_a0_plans, .ref q_a0_text, .ref q_a0_refused, .long a0_above, .long a0_below])), (q_a0_refused, .inl (cI, 3, .inl a0_refused))] sz)) 0 0 (va_A [(q_a0, .inr (7, [.ref q_a0_stage, .ref q_a0_draft, .ref q_a0_images, .ref q_a0_kept, .ref q_a0_plans, .ref q_a0_text, .ref q_a0_refused, .long a0_above, .long a0_below])), (q_a0_refused, .inl (cI, 3, .inl a0_refused))] sz) := by
  refine Met.ofW (cc := cX8_refuse) (maxL := 2) (ret := (some .int)) (by decide) rfl ?_
  intro p e s m args below meth c s₁ B hml hv
  obtain ⟨rfl, hsz, hP, hX, hD0⟩ := hv
  have hK := hX.1
  have hx := B.exec
  have hb := B.bytes
  have hr := B.returns
  have hts := atoms_spec (ws := wsX8_refuse) B.pre
  have hown : s.vm.findClass RX8 = some m.cls := findClass_of_methodNamed B.named
  have hlocks := B.notSynchronized
  have in_X8 : ∀ w ∈ wsX80, w ∈ wsX8_refuse := fun _ h => List.mem_cons_of_mem _ (List.mem_append_right _ h)
  have kf_41 := hts (.fieldLink RX8 41 "LeftCrest" "refused" "[I") (by decide +kernel)
  subst hsz
  have hD := hD0.self (sz := s.heap.size)
  generalize hAe : va_A [(q_a0, .inr (7, [.ref q_a0_stage, .ref q_a0_draft, .ref q_a0_images, .ref q_a0_kept, .ref q_a0_plans, .ref q_a0_text, .ref q_a0_refused, .long a0_above, .long a0_below])), (q_a0_refused, .inl (cI, 3, .inl a0_refused))] s.heap.size = A at hD ⊢
  have hA : ∀ q : Nat, s.heap.size ≤ q → A q := fun q h => by rw [← hAe]; exact Or.inr h
  have hS : va_S A s.heap s.heap [] := va_S.rf
  have hP : va_P D vwCl [(q_a0, .inr (7, [.ref q_a0_stage, .ref q_a0_draft, .ref q_a0_images, .ref q_a0_kept, .ref q_a0_plans, .ref q_a0_text, .ref q_a0_refused, .long a0_above, .long a0_below])), (q_a0_refused, .inl (cI, 3, .inl a0_refused))] s.heap := hP
  generalize hQQ : MQ below _ _ s _ _ _ = QQ
  have hl := lv_entry ([.ref q_a0, .int x1]) (n := 2) (Nat.le_of_ble_eq_true rfl)
  rw [lg_entry_eq]
  generalize (lg_sl ([.ref q_a0, .int x1]) ++ List.replicate (2 - (lg_sl ([.ref q_a0, .int x1])).length) Slot.unset).toArray = ls at hl ⊢
  have hl : lv_has ls 2 [(0, .ref q_a0), (1, .int x1)] := hl
  unfold p_X8_refuse at hf
  refine lv_iload_n hx hb dX8_refuse_0 rfl (lv_at hl 1 rfl) ?_
  refine lv_bipush (v := (-2)) hx hb dX8_refuse_1 (by decide) ?_
  refine lv_icmp_ne (tgt := 19) hx hb dX8_refuse_3 (by decide) (fun c_1 => ?_) (fun c_1 => ?_)
  · have hf := it_f c_1 hf
    refine lv_iload_n hx hb dX8_refuse_19 rfl (lv_at hl 1 rfl) ?_
    refine lv_bipush (v := (-3)) hx hb dX8_refuse_20 (by decide) ?_
    refine lv_icmp_ne (tgt := 38) hx hb dX8_refuse_22 (by decide) (fun c_2 => ?_) (fun c_2 => ?_)
    · have hf := it_f c_2 hf
      refine lv_aload_n hx hb dX8_refuse_38 rfl (lv_at hl 0 rfl) ?_
      refine va_get (D := D) (ci := 7) (v := .ref q_a0_refused) (C := RX8) (T := TX8) (N := 9) hx hb hts in_X8 hown hK hP 0 rfl rfl 6 (by decide) kf_41 (fun _ h9 => h9) rfl dX8_refuse_39 ?_
      refine lv_iconst (v := 2) hx hb dX8_refuse_42 (by decide) ?_
      refine lv_dup2_11 hx hb dX8_refuse_43 rfl rfl ?_
      refine va_iald hx hb hK hP 1 0 rfl rfl (by unfold vp_in; decide) dX8_refuse_44 ?_
      refine lv_iconst (v := 1) hx hb dX8_refuse_45 (by decide) ?_
      refine lv_iadd hx hb dX8_refuse_46 ?_
      refine va_iast hx hb hK hP hD hS 1 0 rfl rfl (by unfold vp_in; decide) dX8_refuse_47 (fun H locs hP hD hS => ?_)
      have hP : va_P D vwCl [(q_a0, .inr (7, [.ref q_a0_stage, .ref q_a0_draft, .ref q_a0_images, .ref q_a0_kept, .ref q_a0_plans, .ref q_a0_text, .ref q_a0_refused, .long a0_above, .long a0_below])), (q_a0_refused, .inl (cI, 3, .inl (upd a0_refused ((2 : Int32).toNatClampNeg) ((a0_refused (2 : Int32).toNatClampNeg) + 1))))] H := hP
      have hD : va_D A [(q_a0, .inr (7, [.ref q_a0_stage, .ref q_a0_draft, .ref q_a0_images, .ref q_a0_kept, .ref q_a0_plans, .ref q_a0_text, .ref q_a0_refused, .long a0_above, .long a0_below])), (q_a0_refused, .inl (cI, 3, .inl (upd a0_refused ((2 : Int32).toNatClampNeg) ((a0_refused (2 : Int32).toNatClampNeg) + 1))))] := hD
      refine lv_iload_n hx hb dX8_refuse_48 rfl (lv_at hl 1 rfl) ?_
      subst hQQ
      have hP9 := hP.sub (ws' := [(q_a0, .inr (7, [.ref q_a0_stage, .ref q_a0_draft, .ref q_a0_images, .ref q_a0_kept, .ref q_a0_plans, .ref q_a0_text, .ref q_a0_refused, .long a0_above, .long a0_below])), (q_a0_refused, .inl (cI, 3, .inl (upd a0_refused ((2 : Int32).toNatClampNeg) ((a0_refused (2 : Int32).toNatClampNeg) + 1))))]) [0, 1] rfl
      have hD9 := hD.sub (ws' := [(q_a0, .inr (7, [.ref q_a0_stage, .ref q_a0_draft, .ref q_a0_images, .ref q_a0_kept, .ref q_a0_plans, .ref q_a0_text, .ref q_a0_refused, .long a0_above, .long a0_below])), (q_a0_refused, .inl (cI, 3, .inl (upd a0_refused ((2 : Int32).toNatClampNeg) ((a0_refused (2 : Int32).toNatClampNeg) + 1))))]) [0, 1] (by decide) rfl
      exact W.iret hx hb hr (fun t ht hW => ⟨⟨x1, (upd a0_refused ((2 : Int32).toNatClampNeg) ((a0_refused (2 : Int32).toNatClampNeg) + 1)), rfl, hf, by rw [ht]; exact hP9, hD9⟩, hS.F ht⟩) hS.2.2 dX8_refuse_49
    · have hf := it_t c_2 hf
      refine lv_aload_n hx hb dX8_refuse_25 rfl (lv_at hl 0 rfl) ?_
      refine va_get (D := D) (ci := 7) (v := .ref q_a0_refused) (C := RX8) (T := TX8) (N := 9) hx hb hts in_X8 hown hK hP 0 rfl rfl 6 (by decide) kf_41 (fun _ h9 => h9) rfl dX8_refuse_26 ?_
      refine lv_iconst (v := 1) hx hb dX8_refuse_29 (by decide) ?_
      refine lv_dup2_11 hx hb dX8_refuse_30 rfl rfl ?_
      refine va_iald hx hb hK hP 1 0 rfl rfl (by unfold vp_in; decide) dX8_refuse_31 ?_
      refine lv_iconst (v := 1) hx hb dX8_refuse_32 (by decide) ?_
      refine lv_iadd hx hb dX8_refuse_33 ?_
      refine va_iast hx hb hK hP hD hS 1 0 rfl rfl (by unfold vp_in; decide) dX8_refuse_34 (fun H locs hP hD hS => ?_)
      have hP : va_P D vwCl [(q_a0, .inr (7, [.ref q_a0_stage, .ref q_a0_draft, .ref q_a0_images, .ref q_a0_kept, .ref q_a0_plans, .ref q_a0_text, .ref q_a0_refused, .long a0_above, .long a0_below])), (q_a0_refused, .inl (cI, 3, .inl (upd a0_refused ((1 : Int32).toNatClampNeg) ((a0_refused (1 : Int32).toNatClampNeg) + 1))))] H := hP
      have hD : va_D A [(q_a0, .inr (7, [.ref q_a0_stage, .ref q_a0_draft, .ref q_a0_images, .ref q_a0_kept, .ref q_a0_plans, .ref q_a0_text, .ref q_a0_refused, .long a0_above, .long a0_below])), (q_a0_refused, .inl (cI, 3, .inl (upd a0_refused ((1 : Int32).toNatClampNeg) ((a0_refused (1 : Int32).toNatClampNeg) + 1))))] := hD
      refine lv_goto (tgt := 48) hx hb dX8_refuse_35 (by decide) ?_
      refine lv_iload_n hx hb dX8_refuse_48 rfl (lv_at hl 1 rfl) ?_
      subst hQQ
      have hP9 := hP.sub (ws' := [(q_a0, .inr (7, [.ref q_a0_stage, .ref q_a0_draft, .ref q_a0_images, .ref q_a0_kept, .ref q_a0_plans, .ref q_a0_text, .ref q_a0_refused, .long a0_above, .long a0_below])), (q_a0_refused, .inl (cI, 3, .inl (upd a0_refused ((1 : Int32).toNatClampNeg) ((a0_refused (1 : Int32).toNatClampNeg) + 1))))]) [0, 1] rfl
      have hD9 := hD.sub (ws' := [(q_a0, .inr (7, [.ref q_a0_stage, .ref q_a0_draft, .ref q_a0_images, .ref q_a0_kept, .ref q_a0_plans, .ref q_a0_text, .ref q_a0_refused, .long a0_above, .long a0_below])), (q_a0_refused, .inl (cI, 3, .inl (upd a0_refused ((1 : Int32).toNatClampNeg) ((a0_refused (1 : Int32).toNatClampNeg) + 1))))]) [0, 1] (by decide) rfl
      exact W.iret hx hb hr (fun t ht hW => ⟨⟨x1, (upd a0_refused ((1 : Int32).toNatClampNeg) ((a0_refused (1 : Int32).toNatClampNeg) + 1)), rfl, hf, by rw [ht]; exact hP9, hD9⟩, hS.F ht⟩) hS.2.2 dX8_refuse_49
  · have hf := it_t c_1 hf
    refine lv_aload_n hx hb dX8_refuse_6 rfl (lv_at hl 0 rfl) ?_
    refine va_get (D := D) (ci := 7) (v := .ref q_a0_refused) (C := RX8) (T := TX8) (N := 9) hx hb hts in_X8 hown hK hP 0 rfl rfl 6 (by decide) kf_41 (fun _ h9 => h9) rfl dX8_refuse_7 ?_
    refine lv_iconst (v := 0) hx hb dX8_refuse_10 (by decide) ?_
    refine lv_dup2_11 hx hb dX8_refuse_11 rfl rfl ?_
    refine va_iald hx hb hK hP 1 0 rfl rfl (by unfold vp_in; decide) dX8_refuse_12 ?_
    refine lv_iconst (v := 1) hx hb dX8_refuse_13 (by decide) ?_
    refine lv_iadd hx hb dX8_refuse_14 ?_
    refine va_iast hx hb hK hP hD hS 1 0 rfl rfl (by unfold vp_in; decide) dX8_refuse_15 (fun H locs hP hD hS => ?_)
    have hP : va_P D vwCl [(q_a0, .inr (7, [.ref q_a0_stage, .ref q_a0_draft, .ref q_a0_images, .ref q_a0_kept, .ref q_a0_plans, .ref q_a0_text, .ref q_a0_refused, .long a0_above, .long a0_below])), (q_a0_refused, .inl (cI, 3, .inl (upd a0_refused ((0 : Int32).toNatClampNeg) ((a0_refused (0 : Int32).toNatClampNeg) + 1))))] H := hP
    have hD : va_D A [(q_a0, .inr (7, [.ref q_a0_stage, .ref q_a0_draft, .ref q_a0_images, .ref q_a0_kept, .ref q_a0_plans, .ref q_a0_text, .ref q_a0_refused, .long a0_above, .long a0_below])), (q_a0_refused, .inl (cI, 3, .inl (upd a0_refused ((0 : Int32).toNatClampNeg) ((a0_refused (0 : Int32).toNatClampNeg) + 1))))] := hD
    refine lv_goto (tgt := 48) hx hb dX8_refuse_16 (by decide) ?_
    refine lv_iload_n hx hb dX8_refuse_48 rfl (lv_at hl 1 rfl) ?_
    subst hQQ
    have hP9 := hP.sub (ws' := [(q_a0, .inr (7, [.ref q_a0_stage, .ref q_a0_draft, .ref q_a0_images, .ref q_a0_kept, .ref q_a0_plans, .ref q_a0_text, .ref q_a0_refused, .long a0_above, .long a0_below])), (q_a0_refused, .inl (cI, 3, .inl (upd a0_refused ((0 : Int32).toNatClampNeg) ((a0_refused (0 : Int32).toNatClampNeg) + 1))))]) [0, 1] rfl
    have hD9 := hD.sub (ws' := [(q_a0, .inr (7, [.ref q_a0_stage, .ref q_a0_draft, .ref q_a0_images, .ref q_a0_kept, .ref q_a0_plans, .ref q_a0_text, .ref q_a0_refused, .long a0_above, .long a0_below])), (q_a0_refused, .inl (cI, 3, .inl (upd a0_refused ((0 : Int32).toNatClampNeg) ((a0_refused (0 : Int32).toNatClampNeg) + 1))))]) [0, 1] (by decide) rfl
    exact W.iret hx hb hr (fun t ht hW => ⟨⟨x1, (upd a0_refused ((0 : Int32).toNatClampNeg) ((a0_refused (0 : Int32).toNatClampNeg) + 1)), rfl, hf, by rw [ht]; exact hP9, hD9⟩, hS.F ht⟩) hS.2.2 dX8_refuse_49
def p_X8_road (a0_stage_bends_size : Int32) (a0_stage_felt_size : Int32) (a0_stage_paces_size : Int32) (a0_stage_past_size : Int32) (a0_stage_kind : Int32) (a0_stage_fog : Int32) (a0_stage_here : Int32) (a0_stage_seconds : Int32) (a0_stage_crashes : Int32) (a0_refused : Nat → Int32) (x1 : Int32) (x2 : Int32) (Q : Int32 → Int32 → Int32 → Int32 → Int32 → Int32 → Int32 → Int32 → Int32 → Int32 → (Nat → Int32) → Prop) : Prop :=
  p_X8_isDriver x1 x2 (fun r_1 => if r_1 = 0 then (p_X8_refuse a0_refused (-2) (fun r_12 u_13 => Q r_12 a0_stage_bends_size a0_stage_felt_size a0_stage_paces_size a0_stage_past_size a0_stage_kind a0_stage_fog a0_stage_here a0_stage_seconds a0_stage_crashes u_13)) else (p_X6_reset a0_stage_bends_size a0_stage_felt_size a0_stage_paces_size a0_stage_past_size a0_stage_kind a0_stage_fog a0_stage_here a0_stage_seconds a0_stage_crashes x1 x2 (fun u_3 u_4 u_5 u_6 u_7 u_8 u_9 u_10 u_11 => Q a0_stage_bends_size u_3 u_4 u_5 u_6 u_7 u_8 u_9 u_10 u_11 a0_refused)))
def rmX8_road : Room := { frames := 2, cells := 0, slots := 0, locals := 43 }
set_option maxHeartbeats 4000000 in
set_option maxRecDepth 100000 in
theorem c_X8_road (l : Launch) (D : va_G) (cI cZ cO : ClassId) (q_a0 q_a0_stage q_a0_draft q_a0_images q_a0_kept q_a0_plans q_a0_text q_a0_refused q_a0_stage_bends q_a0_stage_felt q_a0_stage_paces q_a0_stage_past q_a0_stage_bends_yards q_a0_stage_bends_truth q_a0_stage_bends_notes q_a0_stage_bends_words q_a0_stage_bends_mud q_a0_stage_felt_holds q_a0_stage_paces_rows q_a0_stage_past_rows : Nat) (a0_above : Int64) (a0_below : Int64) (a0_stage_kind : Int32) (a0_stage_fog : Int32) (a0_stage_here : Int32) (a0_stage_seconds : Int32) (a0_stage_crashes : Int32) (a0_stage_bends_size : Int32) (a0_stage_felt_size : Int32) (a0_stage_paces_size : Int32) (a0_stage_past_size : Int32) (a0_refused : Nat → Int32) (sz : Nat) (x1 : Int32) (x2 : Int32) (Q : Int32 → Int32 → Int32 → Int32 → Int32 → Int32 → Int32 → Int32 → Int32 → Int32 → (Nat → Int32) → Prop) (hf : p_X8_road a0_stage_bends_size a0_stage_felt_size a0_stage_paces_size a0_stage_past_size a0_stage_kind a0_stage_fog a0_stage_here a0_stage_seconds a0_stage_crashes a0_refused x1 x2 Q) : Met l yX8_road wsX8_road rmX8_road (va_Pc [.ref q_a0, .int x1, .int x2] (fun U => U.heap.size = sz ∧ va_P D vwCl [(q_a0, .inr (7, [.ref q_a0_stage, .ref q_a0_draft, .ref q_a0_images, .ref q_a0_kept, .ref q_a0_plans, .ref q_a0_text, .ref q_a0_refused, .long a0_above, .long a0_below])), (q_a0_stage, .inr (5, [.ref q_a0_stage_bends, .ref q_a0_stage_felt, .ref q_a0_stage_paces, .ref q_a0_stage_past, .int a0_stage_kind, .int a0_stage_fog, .int a0_stage_here, .int a0_stage_seconds, .int a0_stage_crashes])), (q_a0_stage_bends, .inr (0, [.ref q_a0_stage_bends_yards, .ref q_a0_stage_bends_truth, .ref q_a0_stage_bends_notes, .ref q_a0_stage_bends_words, .ref q_a0_stage_bends_mud, .int a0_stage_bends_size])), (q_a0_stage_felt, .inr (1, [.ref q_a0_stage_felt_holds, .int a0_stage_felt_size])), (q_a0_stage_paces, .inr (2, [.ref q_a0_stage_paces_rows, .int a0_stage_paces_size])), (q_a0_stage_past, .inr (3, [.ref q_a0_stage_past_rows, .int a0_stage_past_size])), (q_a0_refused, .inl (cI, 3, .inl a0_refused))] U.heap ∧ XK D cI cZ cO U ∧ va_D (fun _ => True) [(q_a0, .inr (7, [.ref q_a0_stage, .ref q_a0_draft, .ref q_a0_images, .ref q_a0_kept, .ref q_a0_plans, .ref q_a0_text, .ref q_a0_refused, .long a0_above, .long a0_below])), (q_a0_stage, .inr (5, [.ref q_a0_stage_bends, .ref q_a0_stage_felt, .ref q_a0_stage_paces, .ref q_a0_stage_past, .int a0_stage_kind, .int a0_stage_fog, .int a0_stage_here, .int a0_stage_seconds, .int a0_stage_crashes])), (q_a0_stage_bends, .inr (0, [.ref q_a0_stage_bends_yards, .ref q_a0_stage_bends_truth, .ref q_a0_stage_bends_notes, .ref q_a0_stage_bends_words, .ref q_a0_stage_bends_mud, .int a0_stage_bends_size])), (q_a0_stage_felt, .inr (1, [.ref q_a0_stage_felt_holds, .int a0_stage_felt_size])), (q_a0_stage_paces, .inr (2, [.ref q_a0_stage_paces_rows, .int a0_stage_paces_size])), (q_a0_stage_past, .inr (3, [.ref q_a0_stage_past_rows, .int a0_stage_past_size])), (q_a0_refused, .inl (cI, 3, .inl a0_refused))])) (va_Qi (fun r (u : Int32 × Int32 × Int32 × Int32 × Int32 × Int32 × Int32 × Int32 × Int32 × (Nat → Int32)) => Q r u.1 u.2.1 u.2.2.1 u.2.2.2.1 u.2.2.2.2.1 u.2.2.2.2.2.1 u.2.2.2.2.2.2.1 u.2.2.2.2.2.2.2.1 u.2.2.2.2.2.2.2.2.1 u.2.2.2.2.2.2.2.2.2) (fun (u : Int32 × Int32 × Int32 × Int32 × Int32 × Int32 × Int32 × Int32 × Int32 × (Nat → Int32)) t => va_P D vwCl [(q_a0, .inr (7, [.ref q_a0_stage, .ref q_a0_draft, .ref q_a0_images, .ref q_a0_kept, .ref q_a0_plans, .ref q_a0_text, .ref q_a0_refused, .long a0_above, .long a0_below])), (q_a0_stage, .inr (5, [.ref q_a0_stage_bends, .ref q_a0_stage_felt, .ref q_a0_stage_paces, .ref q_a0_stage_past, .int u.2.2.2.2.1, .int u.2.2.2.2.2.1, .int u.2.2.2.2.2.2.1, .int u.2.2.2.2.2.2.2.1, .int u.2.2.2.2.2.2.2.2.1])), (q_a0_stage_bends, .inr (0, [.ref q_a0_stage_bends_yards, .ref q_a0_stage_bends_truth, .ref q_a0_stage_bends_notes, .ref q_a0_stage_bends_words, .ref q_a0_stage_bends_mud, .int u.1])), (q_a0_stage_felt, .inr (1, [.ref q_a0_stage_felt_holds, .int u.2.1])), (q_a0_stage_paces, .inr (2, [.ref q_a0_stage_paces_rows, .int u.2.2.1])), (q_a0_stage_past, .inr (3, [.ref q_a0_stage_past_rows, .int u.2.2.2.1])), (q_a0_refused, .inl (cI, 3, .inl u.2.2.2.2.2.2.2.2.2))] t.heap ∧ va_D (va_A [(q_a0, .inr (7, [.ref q_a0_stage, .ref q_a0_draft, .ref q_a0_images, .ref q_a0_kept, .ref q_a0_plans, .ref q_a0_text, .ref q_a0_refused, .long a0_above, .long a0_below])), (q_a0_stage, .inr (5, [.ref q_a0_stage_bends, .ref q_a0_stage_felt, .ref q_a0_stage_paces, .ref q_a0_stage_past, .int a0_stage_kind, .int a0_stage_fog, .int a0_stage_here, .int a0_stage_seconds, .int a0_stage_crashes])), (q_a0_stage_bends, .inr (0, [.ref q_a0_stage_bends_yards, .ref q_a0_stage_bends_truth, .ref q_a0_stage_bends_notes, .ref q_a0_stage_bends_words, .ref q_a0_stage_bends_mud, .int a0_stage_bends_size])), (q_a0_stage_felt, .inr (1, [.ref q_a0_stage_felt_holds, .int a0_stage_felt_size])), (q_a0_stage_paces, .inr (2, [.ref q_a0_stage_paces_rows, .int a0_stage_paces_size])), (q_a0_stage_past, .inr (3, [.ref q_a0_stage_past_rows, .int a0_stage_past_size])), (q_a0_refused, .inl (cI, 3, .inl a0_refused))] sz) [(q_a0, .inr (7, [.ref q_a0_stage, .ref q_a0_draft, .ref q_a0_images, .ref q_a0_kept, .ref q_a0_plans, .ref q_a0_text, .ref q_a0_refused, .long a0_above, .long a0_below])), (q_a0_stage, .inr (5, [.ref q_a0_stage_bends, .ref q_a0_stage_felt, .ref q_a0_stage_paces, .ref q_a0_stage_past, .int u.2.2.2.2.1, .int u.2.2.2.2.2.1, .int u.2.2.2.2.2.2.1, .int u.2.2.2.2.2.2.2.1, .int u.2.2.2.2.2.2.2.2.1])), (q_a0_stage_bends, .inr (0, [.ref q_a0_stage_bends_yards, .ref q_a0_stage_bends_truth, .ref q_a0_stage_bends_notes, .ref q_a0_stage_bends_words, .ref q_a0_stage_bends_mud, .int u.1])), (q_a0_stage_felt, .inr (1, [.ref q_a0_stage_felt_holds, .int u.2.1])), (q_a0_stage_paces, .inr (2, [.ref q_a0_stage_paces_rows, .int u.2.2.1])), (q_a0_stage_past, .inr (3, [.ref q_a0_stage_past_rows, .int u.2.2.2.1])), (q_a0_refused, .inl (cI, 3, .inl u.2.2.2.2.2.2.2.2.2))]) (va_A [(q_a0, .inr (7, [.ref q_a0_stage, .ref q_a0_draft, .ref q_a0_images, .ref q_a0_kept, .ref q_a0_plans, .ref q_a0_text, .ref q_a0_refused, .long a0_above, .long a0_below])), (q_a0_stage, .inr (5, [.ref q_a0_stage_bends, .ref q_a0_stage_felt, .ref q_a0_stage_paces, .ref q_a0_stage_past, .int a0_stage_kind, .int a0_stage_fog, .int a0_stage_here, .int a0_stage_seconds, .int a0_stage_crashes])), (q_a0_stage_bends, .inr (0, [.ref q_a0_stage_bends_yards, .ref q_a0_stage_bends_truth, .ref q_a0_stage_bends_notes, .ref q_a0_stage_bends_words, .ref q_a0_stage_bends_mud, .int a0_stage_bends_size])), (q_a0_stage_felt, .inr (1, [.ref q_a0_stage_felt_holds, .int a0_stage_felt_size])), (q_a0_stage_paces, .inr (2, [.ref q_a0_stage_paces_rows, .int a0_stage_paces_size])), (q_a0_stage_past, .inr (3, [.ref q_a0_stage_past_rows, .int a0_stage_past_size])), (q_a0_refused, .inl (cI, 3, .inl a0_refused))] sz)) 0 0 (va_A [(q_a0, .inr (7, [.ref q_a0_stage, .ref q_a0_draft, .ref q_a0_images, .ref q_a0_kept, .ref q_a0_plans, .ref q_a0_text, .ref q_a0_refused, .long a0_above, .long a0_below])), (q_a0_stage, .inr (5, [.ref q_a0_stage_bends, .ref q_a0_stage_felt, .ref q_a0_stage_paces, .ref q_a0_stage_past, .int a0_stage_kind, .int a0_stage_fog, .int a0_stage_here, .int a0_stage_seconds, .int a0_stage_crashes])), (q_a0_stage_bends, .inr (0, [.ref q_a0_stage_bends_yards, .ref q_a0_stage_bends_truth, .ref q_a0_stage_bends_notes, .ref q_a0_stage_bends_words, .ref q_a0_stage_bends_mud, .int a0_stage_bends_size])), (q_a0_stage_felt, .inr (1, [.ref q_a0_stage_felt_holds, .int a0_stage_felt_size])), (q_a0_stage_paces, .inr (2, [.ref q_a0_stage_paces_rows, .int a0_stage_paces_size])), (q_a0_stage_past, .inr (3, [.ref q_a0_stage_past_rows, .int a0_stage_past_size])), (q_a0_refused, .inl (cI, 3, .inl a0_refused))] sz) := by
  refine Met.ofW (cc := cX8_road) (maxL := 4) (ret := (some .int)) (by decide) rfl ?_
  intro p e s m args below meth c s₁ B hml hv
  obtain ⟨rfl, hsz, hP, hX, hD0⟩ := hv
  have hK := hX.1
  have hx := B.exec
  have hb := B.bytes
  have hr := B.returns
  have hts := atoms_spec (ws := wsX8_road) B.pre
  have hown : s.vm.findClass RX8 = some m.cls := findClass_of_methodNamed B.named
  have hlocks := B.notSynchronized
  have in_X8 : ∀ w ∈ wsX80, w ∈ wsX8_road := fun _ h => List.mem_cons_of_mem _ (List.mem_append_left _ (List.mem_append_left _ (List.mem_append_left _ (List.mem_append_left _ (List.mem_append_left _ (List.mem_append_right _ h))))))
  have in_X6 : ∀ w ∈ wsX60, w ∈ wsX8_road := fun _ h => List.mem_cons_of_mem _ (List.mem_append_left _ (List.mem_append_left _ (List.mem_append_left _ (List.mem_append_left _ (List.mem_append_right _ h)))))
  have in_X0 : ∀ w ∈ wsX00, w ∈ wsX8_road := fun _ h => List.mem_cons_of_mem _ (List.mem_append_left _ (List.mem_append_left _ (List.mem_append_left _ (List.mem_append_right _ h))))
  have kf_10 := hts (.fieldLink RX8 10 "LeftCrest" "stage" "LLeftCrest$Stage;") (by decide +kernel)
  have kf_60 := hts (.fieldLink RX8 60 "LeftCrest$Stage" "bends" "LLeftCrest$Bends;") (by decide +kernel)
  have kf_64 := hts (.fieldLink RX8 64 "LeftCrest$Bends" "size" "I") (by decide +kernel)
  subst hsz
  have hD := hD0.self (sz := s.heap.size)
  generalize hAe : va_A [(q_a0, .inr (7, [.ref q_a0_stage, .ref q_a0_draft, .ref q_a0_images, .ref q_a0_kept, .ref q_a0_plans, .ref q_a0_text, .ref q_a0_refused, .long a0_above, .long a0_below])), (q_a0_stage, .inr (5, [.ref q_a0_stage_bends, .ref q_a0_stage_felt, .ref q_a0_stage_paces, .ref q_a0_stage_past, .int a0_stage_kind, .int a0_stage_fog, .int a0_stage_here, .int a0_stage_seconds, .int a0_stage_crashes])), (q_a0_stage_bends, .inr (0, [.ref q_a0_stage_bends_yards, .ref q_a0_stage_bends_truth, .ref q_a0_stage_bends_notes, .ref q_a0_stage_bends_words, .ref q_a0_stage_bends_mud, .int a0_stage_bends_size])), (q_a0_stage_felt, .inr (1, [.ref q_a0_stage_felt_holds, .int a0_stage_felt_size])), (q_a0_stage_paces, .inr (2, [.ref q_a0_stage_paces_rows, .int a0_stage_paces_size])), (q_a0_stage_past, .inr (3, [.ref q_a0_stage_past_rows, .int a0_stage_past_size])), (q_a0_refused, .inl (cI, 3, .inl a0_refused))] s.heap.size = A at hD ⊢
  have hA : ∀ q : Nat, s.heap.size ≤ q → A q := fun q h => by rw [← hAe]; exact Or.inr h
  have hS : va_S A s.heap s.heap [] := va_S.rf
  have hP : va_P D vwCl [(q_a0, .inr (7, [.ref q_a0_stage, .ref q_a0_draft, .ref q_a0_images, .ref q_a0_kept, .ref q_a0_plans, .ref q_a0_text, .ref q_a0_refused, .long a0_above, .long a0_below])), (q_a0_stage, .inr (5, [.ref q_a0_stage_bends, .ref q_a0_stage_felt, .ref q_a0_stage_paces, .ref q_a0_stage_past, .int a0_stage_kind, .int a0_stage_fog, .int a0_stage_here, .int a0_stage_seconds, .int a0_stage_crashes])), (q_a0_stage_bends, .inr (0, [.ref q_a0_stage_bends_yards, .ref q_a0_stage_bends_truth, .ref q_a0_stage_bends_notes, .ref q_a0_stage_bends_words, .ref q_a0_stage_bends_mud, .int a0_stage_bends_size])), (q_a0_stage_felt, .inr (1, [.ref q_a0_stage_felt_holds, .int a0_stage_felt_size])), (q_a0_stage_paces, .inr (2, [.ref q_a0_stage_paces_rows, .int a0_stage_paces_size])), (q_a0_stage_past, .inr (3, [.ref q_a0_stage_past_rows, .int a0_stage_past_size])), (q_a0_refused, .inl (cI, 3, .inl a0_refused))] s.heap := hP
  generalize hQQ : MQ below _ _ s _ _ _ = QQ
  have hl := lv_entry ([.ref q_a0, .int x1, .int x2]) (n := 4) (Nat.le_of_ble_eq_true rfl)
  rw [lg_entry_eq]
  generalize (lg_sl ([.ref q_a0, .int x1, .int x2]) ++ List.replicate (4 - (lg_sl ([.ref q_a0, .int x1, .int x2])).length) Slot.unset).toArray = ls at hl ⊢
  have hl : lv_has ls 4 [(0, .ref q_a0), (1, .int x1), (2, .int x2)] := hl
  unfold p_X8_road at hf
  refine lv_iload_n hx hb dX8_road_0 rfl (lv_at hl 1 rfl) ?_
  refine lv_iload_n hx hb dX8_road_1 rfl (lv_at hl 2 rfl) ?_
  refine ya_csi (va_runS (As := [.int x1, .int x2]) (rest := []) ⟨hx, hb, hml, hown, hts⟩ (c_X8_isDriver l D cI cZ cO  x1 x2 _ hf) (va_cwS 2 hts gX8_road_X8_isDriver rfl rfl rfl (by decide +kernel) ⟨Nat.le_of_ble_eq_true rfl, Nat.le_of_ble_eq_true rfl⟩) (ps_ro va_P0 hX) rfl rfl hl.1 rfl (lv_room (Nat.le_of_ble_eq_true rfl)) dX8_road_2 ⟨Nat.zero_le _, Nat.zero_le _⟩) (fun r_1 hf => ?_)
  refine lv_if_ne (tgt := 15) hx hb dX8_road_5 (by decide) (fun c_2 => ?_) (fun c_2 => ?_)
  · have hf := it_f c_2 hf
    refine lv_aload_n hx hb dX8_road_15 rfl (lv_at hl 0 rfl) ?_
    refine va_get (D := D) (ci := 7) (v := .ref q_a0_stage) (C := RX8) (T := TX8) (N := 9) hx hb hts in_X8 hown hK hP 0 rfl rfl 0 (by decide) kf_10 (fun _ h9 => h9) rfl dX8_road_16 ?_
    refine va_get (D := D) (ci := 5) (v := .ref q_a0_stage_bends) (C := RX6) (T := TX6) (N := 9) hx hb hts in_X6 hown hK hP 1 rfl rfl 0 (by decide) kf_60 (fun _ h9 => h9) rfl dX8_road_19 ?_
    refine va_get (D := D) (ci := 0) (v := .int a0_stage_bends_size) (C := RX0) (T := TX0) (N := 6) hx hb hts in_X0 hown hK hP 2 rfl rfl 5 (by decide) kf_64 (fun _ h9 => h9) rfl dX8_road_22 ?_
    refine lv_istore_n (lv' := [(3, .int a0_stage_bends_size), (0, .ref q_a0), (1, .int x1), (2, .int x2)]) hx hb dX8_road_25 rfl hl (by decide) rfl (fun ls hl => ?_)
    refine lv_aload_n hx hb dX8_road_26 rfl (lv_at hl 1 rfl) ?_
    refine va_get (D := D) (ci := 7) (v := .ref q_a0_stage) (C := RX8) (T := TX8) (N := 9) hx hb hts in_X8 hown hK hP 0 rfl rfl 0 (by decide) kf_10 (fun _ h9 => h9) rfl dX8_road_27 ?_
    refine lv_iload_n hx hb dX8_road_30 rfl (lv_at hl 2 rfl) ?_
    refine lv_iload_n hx hb dX8_road_31 rfl (lv_at hl 3 rfl) ?_
    have hPc := hP.sub (ws' := [(q_a0_stage, .inr (5, [.ref q_a0_stage_bends, .ref q_a0_stage_felt, .ref q_a0_stage_paces, .ref q_a0_stage_past, .int a0_stage_kind, .int a0_stage_fog, .int a0_stage_here, .int a0_stage_seconds, .int a0_stage_crashes])), (q_a0_stage_bends, .inr (0, [.ref q_a0_stage_bends_yards, .ref q_a0_stage_bends_truth, .ref q_a0_stage_bends_notes, .ref q_a0_stage_bends_words, .ref q_a0_stage_bends_mud, .int a0_stage_bends_size])), (q_a0_stage_felt, .inr (1, [.ref q_a0_stage_felt_holds, .int a0_stage_felt_size])), (q_a0_stage_paces, .inr (2, [.ref q_a0_stage_paces_rows, .int a0_stage_paces_size])), (q_a0_stage_past, .inr (3, [.ref q_a0_stage_past_rows, .int a0_stage_past_size]))]) [1, 2, 3, 4, 5] rfl
    have hDc := hD.sub (ws' := [(q_a0_stage, .inr (5, [.ref q_a0_stage_bends, .ref q_a0_stage_felt, .ref q_a0_stage_paces, .ref q_a0_stage_past, .int a0_stage_kind, .int a0_stage_fog, .int a0_stage_here, .int a0_stage_seconds, .int a0_stage_crashes])), (q_a0_stage_bends, .inr (0, [.ref q_a0_stage_bends_yards, .ref q_a0_stage_bends_truth, .ref q_a0_stage_bends_notes, .ref q_a0_stage_bends_words, .ref q_a0_stage_bends_mud, .int a0_stage_bends_size])), (q_a0_stage_felt, .inr (1, [.ref q_a0_stage_felt_holds, .int a0_stage_felt_size])), (q_a0_stage_paces, .inr (2, [.ref q_a0_stage_paces_rows, .int a0_stage_paces_size])), (q_a0_stage_past, .inr (3, [.ref q_a0_stage_past_rows, .int a0_stage_past_size]))]) [1, 2, 3, 4, 5] (by decide) rfl
    have hFc := va_free (wc := [(q_a0_stage, .inr (5, [.ref q_a0_stage_bends, .ref q_a0_stage_felt, .ref q_a0_stage_paces, .ref q_a0_stage_past, .int a0_stage_kind, .int a0_stage_fog, .int a0_stage_here, .int a0_stage_seconds, .int a0_stage_crashes])), (q_a0_stage_bends, .inr (0, [.ref q_a0_stage_bends_yards, .ref q_a0_stage_bends_truth, .ref q_a0_stage_bends_notes, .ref q_a0_stage_bends_words, .ref q_a0_stage_bends_mud, .int a0_stage_bends_size])), (q_a0_stage_felt, .inr (1, [.ref q_a0_stage_felt_holds, .int a0_stage_felt_size])), (q_a0_stage_paces, .inr (2, [.ref q_a0_stage_paces_rows, .int a0_stage_paces_size])), (q_a0_stage_past, .inr (3, [.ref q_a0_stage_past_rows, .int a0_stage_past_size]))]) hD hS hA [1, 2, 3, 4, 5] rfl
    refine va_callv (va_runV (As := [.int x1, .int x2]) (rest := []) ⟨hx, hb, hml, hown, hts⟩ (c_X6_reset l D cI cZ cO q_a0_stage q_a0_stage_bends q_a0_stage_felt q_a0_stage_paces q_a0_stage_past q_a0_stage_bends_yards q_a0_stage_bends_truth q_a0_stage_bends_notes q_a0_stage_bends_words q_a0_stage_bends_mud q_a0_stage_felt_holds q_a0_stage_paces_rows q_a0_stage_past_rows a0_stage_kind a0_stage_fog a0_stage_here a0_stage_seconds a0_stage_crashes a0_stage_bends_size a0_stage_felt_size a0_stage_paces_size a0_stage_past_size s.heap.size x1 x2 _ hf) (cwV 2 hts gX8_road_X6_reset rfl rfl rfl (by decide +kernel) ⟨Nat.le_of_ble_eq_true rfl, Nat.le_of_ble_eq_true rfl⟩) (pv_rw (ci := 5) (q0 := 0) hPc hDc hX rfl rfl) rfl rfl hl.1 rfl (lv_room (Nat.le_of_ble_eq_true rfl)) dX8_road_32 ⟨Nat.zero_le _, Nat.zero_le _⟩) hS (fun q _ h => hFc q h) hFc (fun u t H1 locs ht hvm hf hB hz1 hk1 hS => ?_)
    obtain ⟨u_3, u_4, u_5, u_6, u_7, u_8, u_9, u_10, u_11⟩ := u
    obtain ⟨hP1, hD1⟩ := hB
    rw [ht] at hP1
    clear hvm
    obtain ⟨hP, hD⟩ := va_join (wr := [(q_a0, .inr (7, [.ref q_a0_stage, .ref q_a0_draft, .ref q_a0_images, .ref q_a0_kept, .ref q_a0_plans, .ref q_a0_text, .ref q_a0_refused, .long a0_above, .long a0_below])), (q_a0_refused, .inl (cI, 3, .inl a0_refused))]) (w1 := [(q_a0_stage, .inr (5, [.ref q_a0_stage_bends, .ref q_a0_stage_felt, .ref q_a0_stage_paces, .ref q_a0_stage_past, .int u_7, .int u_8, .int u_9, .int u_10, .int u_11])), (q_a0_stage_bends, .inr (0, [.ref q_a0_stage_bends_yards, .ref q_a0_stage_bends_truth, .ref q_a0_stage_bends_notes, .ref q_a0_stage_bends_words, .ref q_a0_stage_bends_mud, .int u_3])), (q_a0_stage_felt, .inr (1, [.ref q_a0_stage_felt_holds, .int u_4])), (q_a0_stage_paces, .inr (2, [.ref q_a0_stage_paces_rows, .int u_5])), (q_a0_stage_past, .inr (3, [.ref q_a0_stage_past_rows, .int u_6]))]) hP hD [1, 2, 3, 4, 5] [0, 6] rfl rfl (by decide) (by decide) hk1 hFc hP1 hD1
    clear hz1 hk1 hPc hDc hFc hP1 hD1
    generalize H1 = H at hP hS ⊢
    have hP : va_P D vwCl [(q_a0, .inr (7, [.ref q_a0_stage, .ref q_a0_draft, .ref q_a0_images, .ref q_a0_kept, .ref q_a0_plans, .ref q_a0_text, .ref q_a0_refused, .long a0_above, .long a0_below])), (q_a0_refused, .inl (cI, 3, .inl a0_refused)), (q_a0_stage, .inr (5, [.ref q_a0_stage_bends, .ref q_a0_stage_felt, .ref q_a0_stage_paces, .ref q_a0_stage_past, .int u_7, .int u_8, .int u_9, .int u_10, .int u_11])), (q_a0_stage_bends, .inr (0, [.ref q_a0_stage_bends_yards, .ref q_a0_stage_bends_truth, .ref q_a0_stage_bends_notes, .ref q_a0_stage_bends_words, .ref q_a0_stage_bends_mud, .int u_3])), (q_a0_stage_felt, .inr (1, [.ref q_a0_stage_felt_holds, .int u_4])), (q_a0_stage_paces, .inr (2, [.ref q_a0_stage_paces_rows, .int u_5])), (q_a0_stage_past, .inr (3, [.ref q_a0_stage_past_rows, .int u_6]))] H := hP
    have hD : va_D A [(q_a0, .inr (7, [.ref q_a0_stage, .ref q_a0_draft, .ref q_a0_images, .ref q_a0_kept, .ref q_a0_plans, .ref q_a0_text, .ref q_a0_refused, .long a0_above, .long a0_below])), (q_a0_refused, .inl (cI, 3, .inl a0_refused)), (q_a0_stage, .inr (5, [.ref q_a0_stage_bends, .ref q_a0_stage_felt, .ref q_a0_stage_paces, .ref q_a0_stage_past, .int u_7, .int u_8, .int u_9, .int u_10, .int u_11])), (q_a0_stage_bends, .inr (0, [.ref q_a0_stage_bends_yards, .ref q_a0_stage_bends_truth, .ref q_a0_stage_bends_notes, .ref q_a0_stage_bends_words, .ref q_a0_stage_bends_mud, .int u_3])), (q_a0_stage_felt, .inr (1, [.ref q_a0_stage_felt_holds, .int u_4])), (q_a0_stage_paces, .inr (2, [.ref q_a0_stage_paces_rows, .int u_5])), (q_a0_stage_past, .inr (3, [.ref q_a0_stage_past_rows, .int u_6]))] := hD
    refine lv_iload_n hx hb dX8_road_35 rfl (lv_at hl 0 rfl) ?_
    subst hQQ
    have hP9 := hP.sub (ws' := [(q_a0, .inr (7, [.ref q_a0_stage, .ref q_a0_draft, .ref q_a0_images, .ref q_a0_kept, .ref q_a0_plans, .ref q_a0_text, .ref q_a0_refused, .long a0_above, .long a0_below])), (q_a0_stage, .inr (5, [.ref q_a0_stage_bends, .ref q_a0_stage_felt, .ref q_a0_stage_paces, .ref q_a0_stage_past, .int u_7, .int u_8, .int u_9, .int u_10, .int u_11])), (q_a0_stage_bends, .inr (0, [.ref q_a0_stage_bends_yards, .ref q_a0_stage_bends_truth, .ref q_a0_stage_bends_notes, .ref q_a0_stage_bends_words, .ref q_a0_stage_bends_mud, .int u_3])), (q_a0_stage_felt, .inr (1, [.ref q_a0_stage_felt_holds, .int u_4])), (q_a0_stage_paces, .inr (2, [.ref q_a0_stage_paces_rows, .int u_5])), (q_a0_stage_past, .inr (3, [.ref q_a0_stage_past_rows, .int u_6])), (q_a0_refused, .inl (cI, 3, .inl a0_refused))]) [0, 2, 3, 4, 5, 6, 1] rfl
    have hD9 := hD.sub (ws' := [(q_a0, .inr (7, [.ref q_a0_stage, .ref q_a0_draft, .ref q_a0_images, .ref q_a0_kept, .ref q_a0_plans, .ref q_a0_text, .ref q_a0_refused, .long a0_above, .long a0_below])), (q_a0_stage, .inr (5, [.ref q_a0_stage_bends, .ref q_a0_stage_felt, .ref q_a0_stage_paces, .ref q_a0_stage_past, .int u_7, .int u_8, .int u_9, .int u_10, .int u_11])), (q_a0_stage_bends, .inr (0, [.ref q_a0_stage_bends_yards, .ref q_a0_stage_bends_truth, .ref q_a0_stage_bends_notes, .ref q_a0_stage_bends_words, .ref q_a0_stage_bends_mud, .int u_3])), (q_a0_stage_felt, .inr (1, [.ref q_a0_stage_felt_holds, .int u_4])), (q_a0_stage_paces, .inr (2, [.ref q_a0_stage_paces_rows, .int u_5])), (q_a0_stage_past, .inr (3, [.ref q_a0_stage_past_rows, .int u_6])), (q_a0_refused, .inl (cI, 3, .inl a0_refused))]) [0, 2, 3, 4, 5, 6, 1] (by decide) rfl
    exact W.iret hx hb hr (fun t ht hW => ⟨⟨a0_stage_bends_size, (u_3, u_4, u_5, u_6, u_7, u_8, u_9, u_10, u_11, a0_refused), rfl, hf, by rw [ht]; exact hP9, hD9⟩, hS.F ht⟩) hS.2.2 dX8_road_36
  · have hf := it_t c_2 hf
    refine lv_aload_n hx hb dX8_road_8 rfl (lv_at hl 0 rfl) ?_
    refine lv_bipush (v := (-2)) hx hb dX8_road_9 (by decide) ?_
    have hPc := hP.sub (ws' := [(q_a0, .inr (7, [.ref q_a0_stage, .ref q_a0_draft, .ref q_a0_images, .ref q_a0_kept, .ref q_a0_plans, .ref q_a0_text, .ref q_a0_refused, .long a0_above, .long a0_below])), (q_a0_refused, .inl (cI, 3, .inl a0_refused))]) [0, 6] rfl
    have hDc := hD.sub (ws' := [(q_a0, .inr (7, [.ref q_a0_stage, .ref q_a0_draft, .ref q_a0_images, .ref q_a0_kept, .ref q_a0_plans, .ref q_a0_text, .ref q_a0_refused, .long a0_above, .long a0_below])), (q_a0_refused, .inl (cI, 3, .inl a0_refused))]) [0, 6] (by decide) rfl
    have hFc := va_free (wc := [(q_a0, .inr (7, [.ref q_a0_stage, .ref q_a0_draft, .ref q_a0_images, .ref q_a0_kept, .ref q_a0_plans, .ref q_a0_text, .ref q_a0_refused, .long a0_above, .long a0_below])), (q_a0_refused, .inl (cI, 3, .inl a0_refused))]) hD hS hA [0, 6] rfl
    refine va_calli (va_runV (As := [.int (-2)]) (rest := []) ⟨hx, hb, hml, hown, hts⟩ (c_X8_refuse l D cI cZ cO q_a0 q_a0_stage q_a0_draft q_a0_images q_a0_kept q_a0_plans q_a0_text q_a0_refused a0_above a0_below a0_refused s.heap.size (-2) _ hf) (cwV 1 hts gX8_road_X8_refuse rfl rfl rfl (by decide +kernel) ⟨Nat.le_of_ble_eq_true rfl, Nat.le_of_ble_eq_true rfl⟩) (pv_rw (ci := 7) (q0 := 0) hPc hDc hX rfl rfl) rfl rfl hl.1 rfl (lv_room (Nat.le_of_ble_eq_true rfl)) dX8_road_11 ⟨Nat.zero_le _, Nat.zero_le _⟩) hS (fun q _ h => hFc q h) hFc (fun r_12 u t H1 locs ht hvm hf hB hz1 hk1 hS => ?_)
    obtain ⟨u_13, rfl⟩ : ∃ z, z = u := ⟨_, rfl⟩
    obtain ⟨hP1, hD1⟩ := hB
    rw [ht] at hP1
    clear hvm
    obtain ⟨hP, hD⟩ := va_join (wr := [(q_a0_stage, .inr (5, [.ref q_a0_stage_bends, .ref q_a0_stage_felt, .ref q_a0_stage_paces, .ref q_a0_stage_past, .int a0_stage_kind, .int a0_stage_fog, .int a0_stage_here, .int a0_stage_seconds, .int a0_stage_crashes])), (q_a0_stage_bends, .inr (0, [.ref q_a0_stage_bends_yards, .ref q_a0_stage_bends_truth, .ref q_a0_stage_bends_notes, .ref q_a0_stage_bends_words, .ref q_a0_stage_bends_mud, .int a0_stage_bends_size])), (q_a0_stage_felt, .inr (1, [.ref q_a0_stage_felt_holds, .int a0_stage_felt_size])), (q_a0_stage_paces, .inr (2, [.ref q_a0_stage_paces_rows, .int a0_stage_paces_size])), (q_a0_stage_past, .inr (3, [.ref q_a0_stage_past_rows, .int a0_stage_past_size]))]) (w1 := [(q_a0, .inr (7, [.ref q_a0_stage, .ref q_a0_draft, .ref q_a0_images, .ref q_a0_kept, .ref q_a0_plans, .ref q_a0_text, .ref q_a0_refused, .long a0_above, .long a0_below])), (q_a0_refused, .inl (cI, 3, .inl u_13))]) hP hD [0, 6] [1, 2, 3, 4, 5] rfl rfl (by decide) (by decide) hk1 hFc hP1 hD1
    clear hz1 hk1 hPc hDc hFc hP1 hD1
    generalize H1 = H at hP hS ⊢
    have hP : va_P D vwCl [(q_a0_stage, .inr (5, [.ref q_a0_stage_bends, .ref q_a0_stage_felt, .ref q_a0_stage_paces, .ref q_a0_stage_past, .int a0_stage_kind, .int a0_stage_fog, .int a0_stage_here, .int a0_stage_seconds, .int a0_stage_crashes])), (q_a0_stage_bends, .inr (0, [.ref q_a0_stage_bends_yards, .ref q_a0_stage_bends_truth, .ref q_a0_stage_bends_notes, .ref q_a0_stage_bends_words, .ref q_a0_stage_bends_mud, .int a0_stage_bends_size])), (q_a0_stage_felt, .inr (1, [.ref q_a0_stage_felt_holds, .int a0_stage_felt_size])), (q_a0_stage_paces, .inr (2, [.ref q_a0_stage_paces_rows, .int a0_stage_paces_size])), (q_a0_stage_past, .inr (3, [.ref q_a0_stage_past_rows, .int a0_stage_past_size])), (q_a0, .inr (7, [.ref q_a0_stage, .ref q_a0_draft, .ref q_a0_images, .ref q_a0_kept, .ref q_a0_plans, .ref q_a0_text, .ref q_a0_refused, .long a0_above, .long a0_below])), (q_a0_refused, .inl (cI, 3, .inl u_13))] H := hP
    have hD : va_D A [(q_a0_stage, .inr (5, [.ref q_a0_stage_bends, .ref q_a0_stage_felt, .ref q_a0_stage_paces, .ref q_a0_stage_past, .int a0_stage_kind, .int a0_stage_fog, .int a0_stage_here, .int a0_stage_seconds, .int a0_stage_crashes])), (q_a0_stage_bends, .inr (0, [.ref q_a0_stage_bends_yards, .ref q_a0_stage_bends_truth, .ref q_a0_stage_bends_notes, .ref q_a0_stage_bends_words, .ref q_a0_stage_bends_mud, .int a0_stage_bends_size])), (q_a0_stage_felt, .inr (1, [.ref q_a0_stage_felt_holds, .int a0_stage_felt_size])), (q_a0_stage_paces, .inr (2, [.ref q_a0_stage_paces_rows, .int a0_stage_paces_size])), (q_a0_stage_past, .inr (3, [.ref q_a0_stage_past_rows, .int a0_stage_past_size])), (q_a0, .inr (7, [.ref q_a0_stage, .ref q_a0_draft, .ref q_a0_images, .ref q_a0_kept, .ref q_a0_plans, .ref q_a0_text, .ref q_a0_refused, .long a0_above, .long a0_below])), (q_a0_refused, .inl (cI, 3, .inl u_13))] := hD
    subst hQQ
    have hP9 := hP.sub (ws' := [(q_a0, .inr (7, [.ref q_a0_stage, .ref q_a0_draft, .ref q_a0_images, .ref q_a0_kept, .ref q_a0_plans, .ref q_a0_text, .ref q_a0_refused, .long a0_above, .long a0_below])), (q_a0_stage, .inr (5, [.ref q_a0_stage_bends, .ref q_a0_stage_felt, .ref q_a0_stage_paces, .ref q_a0_stage_past, .int a0_stage_kind, .int a0_stage_fog, .int a0_stage_here, .int a0_stage_seconds, .int a0_stage_crashes])), (q_a0_stage_bends, .inr (0, [.ref q_a0_stage_bends_yards, .ref q_a0_stage_bends_truth, .ref q_a0_stage_bends_notes, .ref q_a0_stage_bends_words, .ref q_a0_stage_bends_mud, .int a0_stage_bends_size])), (q_a0_stage_felt, .inr (1, [.ref q_a0_stage_felt_holds, .int a0_stage_felt_size])), (q_a0_stage_paces, .inr (2, [.ref q_a0_stage_paces_rows, .int a0_stage_paces_size])), (q_a0_stage_past, .inr (3, [.ref q_a0_stage_past_rows, .int a0_stage_past_size])), (q_a0_refused, .inl (cI, 3, .inl u_13))]) [5, 0, 1, 2, 3, 4, 6] rfl
    have hD9 := hD.sub (ws' := [(q_a0, .inr (7, [.ref q_a0_stage, .ref q_a0_draft, .ref q_a0_images, .ref q_a0_kept, .ref q_a0_plans, .ref q_a0_text, .ref q_a0_refused, .long a0_above, .long a0_below])), (q_a0_stage, .inr (5, [.ref q_a0_stage_bends, .ref q_a0_stage_felt, .ref q_a0_stage_paces, .ref q_a0_stage_past, .int a0_stage_kind, .int a0_stage_fog, .int a0_stage_here, .int a0_stage_seconds, .int a0_stage_crashes])), (q_a0_stage_bends, .inr (0, [.ref q_a0_stage_bends_yards, .ref q_a0_stage_bends_truth, .ref q_a0_stage_bends_notes, .ref q_a0_stage_bends_words, .ref q_a0_stage_bends_mud, .int a0_stage_bends_size])), (q_a0_stage_felt, .inr (1, [.ref q_a0_stage_felt_holds, .int a0_stage_felt_size])), (q_a0_stage_paces, .inr (2, [.ref q_a0_stage_paces_rows, .int a0_stage_paces_size])), (q_a0_stage_past, .inr (3, [.ref q_a0_stage_past_rows, .int a0_stage_past_size])), (q_a0_refused, .inl (cI, 3, .inl u_13))]) [5, 0, 1, 2, 3, 4, 6] (by decide) rfl
    exact W.iret hx hb hr (fun t ht hW => ⟨⟨r_12, (a0_stage_bends_size, a0_stage_felt_size, a0_stage_paces_size, a0_stage_past_size, a0_stage_kind, a0_stage_fog, a0_stage_here, a0_stage_seconds, a0_stage_crashes, u_13), rfl, hf, by rw [ht]; exact hP9, hD9⟩, hS.F ht⟩) hS.2.2 dX8_road_14
