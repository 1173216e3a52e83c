def p_X4_giveBack (a1_bends_notes : Nat → Int32) (a1_past_rows : Nat → Int32) (a1_past_size : Int32) (a1_here : Int32) (a1_seconds : Int32) (a1_crashes : Int32) (Q : (Nat → Int32) → Int32 → Int32 → Int32 → Int32 → Prop) : Prop :=
  if 1 ≤ a1_past_size then (vp_in ((a1_past_size - 1) * 11) 88 ∧ (vp_in (((a1_past_size - 1) * 11) + 1) 88 ∧ (vp_in (((a1_past_size - 1) * 11) + 2) 88 ∧ (cpok (((a1_past_size - 1) * 11) + 3) (0 : Int32) (8 : Int32) 88 8 ∧ (Q (va_cpy a1_past_rows a1_bends_notes (((a1_past_size - 1) * 11) + 3).toNatClampNeg (0 : Int32).toNatClampNeg (8 : Int32).toNatClampNeg) (a1_past_size - 1) (a1_past_rows ((a1_past_size - 1) * 11).toNatClampNeg) (a1_past_rows (((a1_past_size - 1) * 11) + 1).toNatClampNeg) (a1_past_rows (((a1_past_size - 1) * 11) + 2).toNatClampNeg)))))) else (Q a1_bends_notes a1_past_size a1_here a1_seconds a1_crashes)
def rmX4_giveBack : Room := { frames := 1, cells := 0, slots := 0, locals := 40 }
set_option maxHeartbeats 4000000 in
set_option maxRecDepth 100000 in
theorem c_X4_giveBack (l : Launch) (D : va_G) (cI cZ cO : ClassId) (q_a1 q_a1_bends q_a1_felt q_a1_paces q_a1_past q_a1_bends_yards q_a1_bends_truth q_a1_bends_notes q_a1_bends_words q_a1_bends_mud q_a1_past_rows : Nat) (a1_kind : Int32) (a1_fog : Int32) (a1_here : Int32) (a1_seconds : Int32) (a1_crashes : Int32) (a1_bends_size : Int32) (a1_bends_notes : Nat → Int32) (a1_past_size : Int32) (a1_past_rows : Nat → Int32) (sz : Nat) (Q : (Nat → Int32) → Int32 → Int32 → Int32 → Int32 → Prop) (hf : p_X4_giveBack a1_bends_notes a1_past_rows a1_past_size a1_here a1_seconds a1_crashes Q) : Met l yX4_giveBack wsX4_giveBack rmX4_giveBack (va_Pc [.ref q_a1_past, .ref q_a1] (fun U => U.heap.size = sz ∧ va_P D vwCl [(q_a1, .inr (5, [.ref q_a1_bends, .ref q_a1_felt, .ref q_a1_paces, .ref q_a1_past, .int a1_kind, .int a1_fog, .int a1_here, .int a1_seconds, .int a1_crashes])), (q_a1_bends, .inr (0, [.ref q_a1_bends_yards, .ref q_a1_bends_truth, .ref q_a1_bends_notes, .ref q_a1_bends_words, .ref q_a1_bends_mud, .int a1_bends_size])), (q_a1_bends_notes, .inl (cI, 8, .inl a1_bends_notes)), (q_a1_past, .inr (3, [.ref q_a1_past_rows, .int a1_past_size])), (q_a1_past_rows, .inl (cI, 88, .inl a1_past_rows))] U.heap ∧ XK D cI cZ cO U ∧ va_D (fun _ => True) [(q_a1, .inr (5, [.ref q_a1_bends, .ref q_a1_felt, .ref q_a1_paces, .ref q_a1_past, .int a1_kind, .int a1_fog, .int a1_here, .int a1_seconds, .int a1_crashes])), (q_a1_bends, .inr (0, [.ref q_a1_bends_yards, .ref q_a1_bends_truth, .ref q_a1_bends_notes, .ref q_a1_bends_words, .ref q_a1_bends_mud, .int a1_bends_size])), (q_a1_bends_notes, .inl (cI, 8, .inl a1_bends_notes)), (q_a1_past, .inr (3, [.ref q_a1_past_rows, .int a1_past_size])), (q_a1_past_rows, .inl (cI, 88, .inl a1_past_rows))])) (va_Qv (fun (u : (Nat → Int32) × Int32 × Int32 × Int32 × Int32) => Q u.1 u.2.1 u.2.2.1 u.2.2.2.1 u.2.2.2.2) (fun (u : (Nat → Int32) × Int32 × Int32 × Int32 × Int32) t => va_P D vwCl [(q_a1, .inr (5, [.ref q_a1_bends, .ref q_a1_felt, .ref q_a1_paces, .ref q_a1_past, .int a1_kind, .int a1_fog, .int u.2.2.1, .int u.2.2.2.1, .int u.2.2.2.2])), (q_a1_bends, .inr (0, [.ref q_a1_bends_yards, .ref q_a1_bends_truth, .ref q_a1_bends_notes, .ref q_a1_bends_words, .ref q_a1_bends_mud, .int a1_bends_size])), (q_a1_bends_notes, .inl (cI, 8, .inl u.1)), (q_a1_past, .inr (3, [.ref q_a1_past_rows, .int u.2.1])), (q_a1_past_rows, .inl (cI, 88, .inl a1_past_rows))] t.heap ∧ va_D (va_A [(q_a1, .inr (5, [.ref q_a1_bends, .ref q_a1_felt, .ref q_a1_paces, .ref q_a1_past, .int a1_kind, .int a1_fog, .int a1_here, .int a1_seconds, .int a1_crashes])), (q_a1_bends, .inr (0, [.ref q_a1_bends_yards, .ref q_a1_bends_truth, .ref q_a1_bends_notes, .ref q_a1_bends_words, .ref q_a1_bends_mud, .int a1_bends_size])), (q_a1_bends_notes, .inl (cI, 8, .inl a1_bends_notes)), (q_a1_past, .inr (3, [.ref q_a1_past_rows, .int a1_past_size])), (q_a1_past_rows, .inl (cI, 88, .inl a1_past_rows))] sz) [(q_a1, .inr (5, [.ref q_a1_bends, .ref q_a1_felt, .ref q_a1_paces, .ref q_a1_past, .int a1_kind, .int a1_fog, .int u.2.2.1, .int u.2.2.2.1, .int u.2.2.2.2])), (q_a1_bends, .inr (0, [.ref q_a1_bends_yards, .ref q_a1_bends_truth, .ref q_a1_bends_notes, .ref q_a1_bends_words, .ref q_a1_bends_mud, .int a1_bends_size])), (q_a1_bends_notes, .inl (cI, 8, .inl u.1)), (q_a1_past, .inr (3, [.ref q_a1_past_rows, .int u.2.1])), (q_a1_past_rows, .inl (cI, 88, .inl a1_past_rows))]) (va_A [(q_a1, .inr (5, [.ref q_a1_bends, .ref q_a1_felt, .ref q_a1_paces, .ref q_a1_past, .int a1_kind, .int a1_fog, .int a1_here, .int a1_seconds, .int a1_crashes])), (q_a1_bends, .inr (0, [.ref q_a1_bends_yards, .ref q_a1_bends_truth, .ref q_a1_bends_notes, .ref q_a1_bends_words, .ref q_a1_bends_mud, .int a1_bends_size])), (q_a1_bends_notes, .inl (cI, 8, .inl a1_bends_notes)), (q_a1_past, .inr (3, [.ref q_a1_past_rows, .int a1_past_size])), (q_a1_past_rows, .inl (cI, 88, .inl a1_past_rows))] sz)) 0 0 (va_A [(q_a1, .inr (5, [.ref q_a1_bends, .ref q_a1_felt, .ref q_a1_paces, .ref q_a1_past, .int a1_kind, .int a1_fog, .int a1_here, .int a1_seconds, .int a1_crashes])), (q_a1_bends, .inr (0, [.ref q_a1_bends_yards, .ref q_a1_bends_truth, .ref q_a1_bends_notes, .ref q_a1_bends_words, .ref q_a1_bends_mud, .int a1_bends_size])), (q_a1_bends_notes, .inl (cI, 8, .inl a1_bends_notes)), (q_a1_past, .inr (3, [.ref q_a1_past_rows, .int a1_past_size])), (q_a1_past_rows, .inl (cI, 88, .inl a1_past_rows))] sz) := by
  refine Met.ofW (cc := cX4_giveBack) (maxL := 3) (ret := none) (by decide) rfl ?_
  intro p e s m args below meth c s₁ B hml hv
  obtain ⟨rfl, hsz, hP, hX, hD0⟩ := hv
  have hK := hX.1
  have hx := B.exec
  have hb := B.bytes
  have hr := B.returns
  have hts := atoms_spec (ws := wsX4_giveBack) B.pre
  have hown : s.vm.findClass RX4 = some m.cls := findClass_of_methodNamed B.named
  have hlocks := B.notSynchronized
  have in_X4 : ∀ w ∈ wsX40, w ∈ wsX4_giveBack := fun _ h => List.mem_cons_of_mem _ (List.mem_append_left _ (List.mem_append_left _ (List.mem_append_right _ h)))
  have in_X6 : ∀ w ∈ wsX60, w ∈ wsX4_giveBack := fun _ h => List.mem_cons_of_mem _ (List.mem_append_left _ (List.mem_append_right _ h))
  have in_X0 : ∀ w ∈ wsX00, w ∈ wsX4_giveBack := fun _ h => List.mem_cons_of_mem _ (List.mem_append_right _ h)
  have kf_15 := hts (.fieldLink RX4 15 "LeftCrest$Past" "size" "I") (by decide +kernel)
  have kf_11 := hts (.fieldLink RX4 11 "LeftCrest$Past" "rows" "[I") (by decide +kernel)
  have kf_25 := hts (.fieldLink RX4 25 "LeftCrest$Stage" "here" "I") (by decide +kernel)
  have kf_30 := hts (.fieldLink RX4 30 "LeftCrest$Stage" "seconds" "I") (by decide +kernel)
  have kf_33 := hts (.fieldLink RX4 33 "LeftCrest$Stage" "crashes" "I") (by decide +kernel)
  have kf_36 := hts (.fieldLink RX4 36 "LeftCrest$Stage" "bends" "LLeftCrest$Bends;") (by decide +kernel)
  have kf_40 := hts (.fieldLink RX4 40 "LeftCrest$Bends" "notes" "[I") (by decide +kernel)
  have kl_19 := hts (.methodLink RX4 19 arraycopyName) (by decide +kernel)
  have kl_nat := hts (.native arraycopyName) (by decide +kernel)
  have kl_sta := hts (.static arraycopyName) (by decide +kernel)
  have kl_ini := hts (.initialized "java/lang/System") (by decide +kernel)
  subst hsz
  have hD := hD0.self (sz := s.heap.size)
  generalize hAe : va_A [(q_a1, .inr (5, [.ref q_a1_bends, .ref q_a1_felt, .ref q_a1_paces, .ref q_a1_past, .int a1_kind, .int a1_fog, .int a1_here, .int a1_seconds, .int a1_crashes])), (q_a1_bends, .inr (0, [.ref q_a1_bends_yards, .ref q_a1_bends_truth, .ref q_a1_bends_notes, .ref q_a1_bends_words, .ref q_a1_bends_mud, .int a1_bends_size])), (q_a1_bends_notes, .inl (cI, 8, .inl a1_bends_notes)), (q_a1_past, .inr (3, [.ref q_a1_past_rows, .int a1_past_size])), (q_a1_past_rows, .inl (cI, 88, .inl a1_past_rows))] s.heap.size = A at hD ⊢
  have hA : ∀ q : Nat, s.heap.size ≤ q → A q := fun q h => by rw [← hAe]; exact Or.inr h
  have hS : va_S A s.heap s.heap [] := va_S.rf
  have hP : va_P D vwCl [(q_a1, .inr (5, [.ref q_a1_bends, .ref q_a1_felt, .ref q_a1_paces, .ref q_a1_past, .int a1_kind, .int a1_fog, .int a1_here, .int a1_seconds, .int a1_crashes])), (q_a1_bends, .inr (0, [.ref q_a1_bends_yards, .ref q_a1_bends_truth, .ref q_a1_bends_notes, .ref q_a1_bends_words, .ref q_a1_bends_mud, .int a1_bends_size])), (q_a1_bends_notes, .inl (cI, 8, .inl a1_bends_notes)), (q_a1_past, .inr (3, [.ref q_a1_past_rows, .int a1_past_size])), (q_a1_past_rows, .inl (cI, 88, .inl a1_past_rows))] s.heap := hP
  generalize hQQ : MQ below _ _ s _ _ _ = QQ
  have hl := lv_entry ([.ref q_a1_past, .ref q_a1]) (n := 3) (Nat.le_of_ble_eq_true rfl)
  rw [lg_entry_eq]
  generalize (lg_sl ([.ref q_a1_past, .ref q_a1]) ++ List.replicate (3 - (lg_sl ([.ref q_a1_past, .ref q_a1])).length) Slot.unset).toArray = ls at hl ⊢
  have hl : lv_has ls 3 [(0, .ref q_a1_past), (1, .ref q_a1)] := hl
  unfold p_X4_giveBack at hf
  refine lv_aload_n hx hb dX4_giveBack_0 rfl (lv_at hl 0 rfl) ?_
  refine va_get (D := D) (ci := 3) (v := .int a1_past_size) (C := RX4) (T := TX4) (N := 2) hx hb hts in_X4 hown hK hP 3 rfl rfl 1 (by decide) kf_15 (fun _ h9 => h9) rfl dX4_giveBack_1 ?_
  refine lv_iconst (v := 1) hx hb dX4_giveBack_4 (by decide) ?_
  refine lv_icmp_ge (tgt := 9) hx hb dX4_giveBack_5 (by decide) (fun c_1 => ?_) (fun c_1 => ?_)
  · have hf := it_t c_1 hf
    refine lv_aload_n hx hb dX4_giveBack_9 rfl (lv_at hl 0 rfl) ?_
    refine lv_dup hx hb dX4_giveBack_10 rfl ?_
    refine va_get (D := D) (ci := 3) (v := .int a1_past_size) (C := RX4) (T := TX4) (N := 2) hx hb hts in_X4 hown hK hP 3 rfl rfl 1 (by decide) kf_15 (fun _ h9 => h9) rfl dX4_giveBack_11 ?_
    refine lv_iconst (v := 1) hx hb dX4_giveBack_14 (by decide) ?_
    refine lv_isub hx hb dX4_giveBack_15 ?_
    refine va_put (D := D) (ci := 3) (v := .int (a1_past_size - 1)) (ty := .int) (C := RX4) (T := TX4) (N := 2) hx hb hts in_X4 tyX4 tyX4_ok nmX4 hown hK hP hD hS 3 rfl rfl 1 (by decide) kf_15 (fun _ h9 => h9) rfl (by decide +kernel) rfl rfl (Nat.le_of_ble_eq_true rfl) dX4_giveBack_16 (fun H locs hP hD hS => ?_)
    have hP : va_P D vwCl [(q_a1, .inr (5, [.ref q_a1_bends, .ref q_a1_felt, .ref q_a1_paces, .ref q_a1_past, .int a1_kind, .int a1_fog, .int a1_here, .int a1_seconds, .int a1_crashes])), (q_a1_bends, .inr (0, [.ref q_a1_bends_yards, .ref q_a1_bends_truth, .ref q_a1_bends_notes, .ref q_a1_bends_words, .ref q_a1_bends_mud, .int a1_bends_size])), (q_a1_bends_notes, .inl (cI, 8, .inl a1_bends_notes)), (q_a1_past, .inr (3, [.ref q_a1_past_rows, .int (a1_past_size - 1)])), (q_a1_past_rows, .inl (cI, 88, .inl a1_past_rows))] H := hP
    have hD : va_D A [(q_a1, .inr (5, [.ref q_a1_bends, .ref q_a1_felt, .ref q_a1_paces, .ref q_a1_past, .int a1_kind, .int a1_fog, .int a1_here, .int a1_seconds, .int a1_crashes])), (q_a1_bends, .inr (0, [.ref q_a1_bends_yards, .ref q_a1_bends_truth, .ref q_a1_bends_notes, .ref q_a1_bends_words, .ref q_a1_bends_mud, .int a1_bends_size])), (q_a1_bends_notes, .inl (cI, 8, .inl a1_bends_notes)), (q_a1_past, .inr (3, [.ref q_a1_past_rows, .int (a1_past_size - 1)])), (q_a1_past_rows, .inl (cI, 88, .inl a1_past_rows))] := hD
    refine lv_aload_n hx hb dX4_giveBack_19 rfl (lv_at hl 0 rfl) ?_
    refine va_get (D := D) (ci := 3) (v := .int (a1_past_size - 1)) (C := RX4) (T := TX4) (N := 2) hx hb hts in_X4 hown hK hP 3 rfl rfl 1 (by decide) kf_15 (fun _ h9 => h9) rfl dX4_giveBack_20 ?_
    refine lv_bipush (v := 11) hx hb dX4_giveBack_23 (by decide) ?_
    refine lv_imul hx hb dX4_giveBack_25 ?_
    refine lv_istore_n (lv' := [(2, .int ((a1_past_size - 1) * 11)), (0, .ref q_a1_past), (1, .ref q_a1)]) hx hb dX4_giveBack_26 rfl hl (by decide) rfl (fun ls hl => ?_)
    refine lv_aload_n hx hb dX4_giveBack_27 rfl (lv_at hl 2 rfl) ?_
    refine lv_aload_n hx hb dX4_giveBack_28 rfl (lv_at hl 1 rfl) ?_
    refine va_get (D := D) (ci := 3) (v := .ref q_a1_past_rows) (C := RX4) (T := TX4) (N := 2) hx hb hts in_X4 hown hK hP 3 rfl rfl 0 (by decide) kf_11 (fun _ h9 => h9) rfl dX4_giveBack_29 ?_
    refine lv_iload_n hx hb dX4_giveBack_32 rfl (lv_at hl 0 rfl) ?_
    refine va_iald hx hb hK hP 4 0 rfl rfl hf.1 dX4_giveBack_33 ?_
    have hf := hf.2
    refine va_put (D := D) (ci := 5) (v := .int (a1_past_rows ((a1_past_size - 1) * 11).toNatClampNeg)) (ty := .int) (C := RX6) (T := TX6) (N := 9) hx hb hts in_X6 tyX6 tyX6_ok nmX6 hown hK hP hD hS 0 rfl rfl 6 (by decide) kf_25 (fun _ h9 => h9) rfl (by decide +kernel) rfl rfl (Nat.le_of_ble_eq_true rfl) dX4_giveBack_34 (fun H locs hP hD hS => ?_)
    have hP : va_P D vwCl [(q_a1, .inr (5, [.ref q_a1_bends, .ref q_a1_felt, .ref q_a1_paces, .ref q_a1_past, .int a1_kind, .int a1_fog, .int (a1_past_rows ((a1_past_size - 1) * 11).toNatClampNeg), .int a1_seconds, .int a1_crashes])), (q_a1_bends, .inr (0, [.ref q_a1_bends_yards, .ref q_a1_bends_truth, .ref q_a1_bends_notes, .ref q_a1_bends_words, .ref q_a1_bends_mud, .int a1_bends_size])), (q_a1_bends_notes, .inl (cI, 8, .inl a1_bends_notes)), (q_a1_past, .inr (3, [.ref q_a1_past_rows, .int (a1_past_size - 1)])), (q_a1_past_rows, .inl (cI, 88, .inl a1_past_rows))] H := hP
    have hD : va_D A [(q_a1, .inr (5, [.ref q_a1_bends, .ref q_a1_felt, .ref q_a1_paces, .ref q_a1_past, .int a1_kind, .int a1_fog, .int (a1_past_rows ((a1_past_size - 1) * 11).toNatClampNeg), .int a1_seconds, .int a1_crashes])), (q_a1_bends, .inr (0, [.ref q_a1_bends_yards, .ref q_a1_bends_truth, .ref q_a1_bends_notes, .ref q_a1_bends_words, .ref q_a1_bends_mud, .int a1_bends_size])), (q_a1_bends_notes, .inl (cI, 8, .inl a1_bends_notes)), (q_a1_past, .inr (3, [.ref q_a1_past_rows, .int (a1_past_size - 1)])), (q_a1_past_rows, .inl (cI, 88, .inl a1_past_rows))] := hD
    refine lv_aload_n hx hb dX4_giveBack_37 rfl (lv_at hl 2 rfl) ?_
    refine lv_aload_n hx hb dX4_giveBack_38 rfl (lv_at hl 1 rfl) ?_
    refine va_get (D := D) (ci := 3) (v := .ref q_a1_past_rows) (C := RX4) (T := TX4) (N := 2) hx hb hts in_X4 hown hK hP 3 rfl rfl 0 (by decide) kf_11 (fun _ h9 => h9) rfl dX4_giveBack_39 ?_
    refine lv_iload_n hx hb dX4_giveBack_42 rfl (lv_at hl 0 rfl) ?_
    refine lv_iconst (v := 1) hx hb dX4_giveBack_43 (by decide) ?_
    refine lv_iadd hx hb dX4_giveBack_44 ?_
    refine va_iald hx hb hK hP 4 0 rfl rfl hf.1 dX4_giveBack_45 ?_
    have hf := hf.2
    refine va_put (D := D) (ci := 5) (v := .int (a1_past_rows (((a1_past_size - 1) * 11) + 1).toNatClampNeg)) (ty := .int) (C := RX6) (T := TX6) (N := 9) hx hb hts in_X6 tyX6 tyX6_ok nmX6 hown hK hP hD hS 0 rfl rfl 7 (by decide) kf_30 (fun _ h9 => h9) rfl (by decide +kernel) rfl rfl (Nat.le_of_ble_eq_true rfl) dX4_giveBack_46 (fun H locs hP hD hS => ?_)
    have hP : va_P D vwCl [(q_a1, .inr (5, [.ref q_a1_bends, .ref q_a1_felt, .ref q_a1_paces, .ref q_a1_past, .int a1_kind, .int a1_fog, .int (a1_past_rows ((a1_past_size - 1) * 11).toNatClampNeg), .int (a1_past_rows (((a1_past_size - 1) * 11) + 1).toNatClampNeg), .int a1_crashes])), (q_a1_bends, .inr (0, [.ref q_a1_bends_yards, .ref q_a1_bends_truth, .ref q_a1_bends_notes, .ref q_a1_bends_words, .ref q_a1_bends_mud, .int a1_bends_size])), (q_a1_bends_notes, .inl (cI, 8, .inl a1_bends_notes)), (q_a1_past, .inr (3, [.ref q_a1_past_rows, .int (a1_past_size - 1)])), (q_a1_past_rows, .inl (cI, 88, .inl a1_past_rows))] H := hP
    have hD : va_D A [(q_a1, .inr (5, [.ref q_a1_bends, .ref q_a1_felt, .ref q_a1_paces, .ref q_a1_past, .int a1_kind, .int a1_fog, .int (a1_past_rows ((a1_past_size - 1) * 11).toNatClampNeg), .int (a1_past_rows (((a1_past_size - 1) * 11) + 1).toNatClampNeg), .int a1_crashes])), (q_a1_bends, .inr (0, [.ref q_a1_bends_yards, .ref q_a1_bends_truth, .ref q_a1_bends_notes, .ref q_a1_bends_words, .ref q_a1_bends_mud, .int a1_bends_size])), (q_a1_bends_notes, .inl (cI, 8, .inl a1_bends_notes)), (q_a1_past, .inr (3, [.ref q_a1_past_rows, .int (a1_past_size - 1)])), (q_a1_past_rows, .inl (cI, 88, .inl a1_past_rows))] := hD
    refine lv_aload_n hx hb dX4_giveBack_49 rfl (lv_at hl 2 rfl) ?_
    refine lv_aload_n hx hb dX4_giveBack_50 rfl (lv_at hl 1 rfl) ?_
    refine va_get (D := D) (ci := 3) (v := .ref q_a1_past_rows) (C := RX4) (T := TX4) (N := 2) hx hb hts in_X4 hown hK hP 3 rfl rfl 0 (by decide) kf_11 (fun _ h9 => h9) rfl dX4_giveBack_51 ?_
    refine lv_iload_n hx hb dX4_giveBack_54 rfl (lv_at hl 0 rfl) ?_
    refine lv_iconst (v := 2) hx hb dX4_giveBack_55 (by decide) ?_
    refine lv_iadd hx hb dX4_giveBack_56 ?_
    refine va_iald hx hb hK hP 4 0 rfl rfl hf.1 dX4_giveBack_57 ?_
    have hf := hf.2
    refine va_put (D := D) (ci := 5) (v := .int (a1_past_rows (((a1_past_size - 1) * 11) + 2).toNatClampNeg)) (ty := .int) (C := RX6) (T := TX6) (N := 9) hx hb hts in_X6 tyX6 tyX6_ok nmX6 hown hK hP hD hS 0 rfl rfl 8 (by decide) kf_33 (fun _ h9 => h9) rfl (by decide +kernel) rfl rfl (Nat.le_of_ble_eq_true rfl) dX4_giveBack_58 (fun H locs hP hD hS => ?_)
    have hP : va_P D vwCl [(q_a1, .inr (5, [.ref q_a1_bends, .ref q_a1_felt, .ref q_a1_paces, .ref q_a1_past, .int a1_kind, .int a1_fog, .int (a1_past_rows ((a1_past_size - 1) * 11).toNatClampNeg), .int (a1_past_rows (((a1_past_size - 1) * 11) + 1).toNatClampNeg), .int (a1_past_rows (((a1_past_size - 1) * 11) + 2).toNatClampNeg)])), (q_a1_bends, .inr (0, [.ref q_a1_bends_yards, .ref q_a1_bends_truth, .ref q_a1_bends_notes, .ref q_a1_bends_words, .ref q_a1_bends_mud, .int a1_bends_size])), (q_a1_bends_notes, .inl (cI, 8, .inl a1_bends_notes)), (q_a1_past, .inr (3, [.ref q_a1_past_rows, .int (a1_past_size - 1)])), (q_a1_past_rows, .inl (cI, 88, .inl a1_past_rows))] H := hP
    have hD : va_D A [(q_a1, .inr (5, [.ref q_a1_bends, .ref q_a1_felt, .ref q_a1_paces, .ref q_a1_past, .int a1_kind, .int a1_fog, .int (a1_past_rows ((a1_past_size - 1) * 11).toNatClampNeg), .int (a1_past_rows (((a1_past_size - 1) * 11) + 1).toNatClampNeg), .int (a1_past_rows (((a1_past_size - 1) * 11) + 2).toNatClampNeg)])), (q_a1_bends, .inr (0, [.ref q_a1_bends_yards, .ref q_a1_bends_truth, .ref q_a1_bends_notes, .ref q_a1_bends_words, .ref q_a1_bends_mud, .int a1_bends_size])), (q_a1_bends_notes, .inl (cI, 8, .inl a1_bends_notes)), (q_a1_past, .inr (3, [.ref q_a1_past_rows, .int (a1_past_size - 1)])), (q_a1_past_rows, .inl (cI, 88, .inl a1_past_rows))] := hD
    refine lv_aload_n hx hb dX4_giveBack_61 rfl (lv_at hl 1 rfl) ?_
    refine va_get (D := D) (ci := 3) (v := .ref q_a1_past_rows) (C := RX4) (T := TX4) (N := 2) hx hb hts in_X4 hown hK hP 3 rfl rfl 0 (by decide) kf_11 (fun _ h9 => h9) rfl dX4_giveBack_62 ?_
    refine lv_iload_n hx hb dX4_giveBack_65 rfl (lv_at hl 0 rfl) ?_
    refine lv_iconst (v := 3) hx hb dX4_giveBack_66 (by decide) ?_
    refine lv_iadd hx hb dX4_giveBack_67 ?_
    refine lv_aload_n hx hb dX4_giveBack_68 rfl (lv_at hl 2 rfl) ?_
    refine va_get (D := D) (ci := 5) (v := .ref q_a1_bends) (C := RX6) (T := TX6) (N := 9) hx hb hts in_X6 hown hK hP 0 rfl rfl 0 (by decide) kf_36 (fun _ h9 => h9) rfl dX4_giveBack_69 ?_
    refine va_get (D := D) (ci := 0) (v := .ref q_a1_bends_notes) (C := RX0) (T := TX0) (N := 6) hx hb hts in_X0 hown hK hP 1 rfl rfl 2 (by decide) kf_40 (fun _ h9 => h9) rfl dX4_giveBack_72 ?_
    refine lv_iconst (v := 0) hx hb dX4_giveBack_75 (by decide) ?_
    refine lv_bipush (v := 8) hx hb dX4_giveBack_76 (by decide) ?_
    refine va_copyi hx hb (by rw [hml]; exact hl.1.symm) hown kl_19 kl_nat kl_sta kl_ini hK hP hD hS 4 2 0 0 rfl rfl rfl rfl rfl hf.1.1 hf.1.2.1 hf.1.2.2.1 hf.1.2.2.2.1 hf.1.2.2.2.2 (fun _ _ => rfl) (Nat.le_of_ble_eq_true rfl) (Nat.le_of_ble_eq_true rfl) dX4_giveBack_78 (fun H locs hP hD hS => ?_)
    have hP : va_P D vwCl [(q_a1, .inr (5, [.ref q_a1_bends, .ref q_a1_felt, .ref q_a1_paces, .ref q_a1_past, .int a1_kind, .int a1_fog, .int (a1_past_rows ((a1_past_size - 1) * 11).toNatClampNeg), .int (a1_past_rows (((a1_past_size - 1) * 11) + 1).toNatClampNeg), .int (a1_past_rows (((a1_past_size - 1) * 11) + 2).toNatClampNeg)])), (q_a1_bends, .inr (0, [.ref q_a1_bends_yards, .ref q_a1_bends_truth, .ref q_a1_bends_notes, .ref q_a1_bends_words, .ref q_a1_bends_mud, .int a1_bends_size])), (q_a1_bends_notes, .inl (cI, 8, .inl (va_cpy a1_past_rows a1_bends_notes (((a1_past_size - 1) * 11) + 3).toNatClampNeg (0 : Int32).toNatClampNeg (8 : Int32).toNatClampNeg))), (q_a1_past, .inr (3, [.ref q_a1_past_rows, .int (a1_past_size - 1)])), (q_a1_past_rows, .inl (cI, 88, .inl a1_past_rows))] H := hP
    have hD : va_D A [(q_a1, .inr (5, [.ref q_a1_bends, .ref q_a1_felt, .ref q_a1_paces, .ref q_a1_past, .int a1_kind, .int a1_fog, .int (a1_past_rows ((a1_past_size - 1) * 11).toNatClampNeg), .int (a1_past_rows (((a1_past_size - 1) * 11) + 1).toNatClampNeg), .int (a1_past_rows (((a1_past_size - 1) * 11) + 2).toNatClampNeg)])), (q_a1_bends, .inr (0, [.ref q_a1_bends_yards, .ref q_a1_bends_truth, .ref q_a1_bends_notes, .ref q_a1_bends_words, .ref q_a1_bends_mud, .int a1_bends_size])), (q_a1_bends_notes, .inl (cI, 8, .inl (va_cpy a1_past_rows a1_bends_notes (((a1_past_size - 1) * 11) + 3).toNatClampNeg (0 : Int32).toNatClampNeg (8 : Int32).toNatClampNeg))), (q_a1_past, .inr (3, [.ref q_a1_past_rows, .int (a1_past_size - 1)])), (q_a1_past_rows, .inl (cI, 88, .inl a1_past_rows))] := hD
    have hf := hf.2
    subst hQQ
    have hP9 := hP.sub (ws' := [(q_a1, .inr (5, [.ref q_a1_bends, .ref q_a1_felt, .ref q_a1_paces, .ref q_a1_past, .int a1_kind, .int a1_fog, .int (a1_past_rows ((a1_past_size - 1) * 11).toNatClampNeg), .int (a1_past_rows (((a1_past_size - 1) * 11) + 1).toNatClampNeg), .int (a1_past_rows (((a1_past_size - 1) * 11) + 2).toNatClampNeg)])), (q_a1_bends, .inr (0, [.ref q_a1_bends_yards, .ref q_a1_bends_truth, .ref q_a1_bends_notes, .ref q_a1_bends_words, .ref q_a1_bends_mud, .int a1_bends_size])), (q_a1_bends_notes, .inl (cI, 8, .inl (va_cpy a1_past_rows a1_bends_notes (((a1_past_size - 1) * 11) + 3).toNatClampNeg (0 : Int32).toNatClampNeg (8 : Int32).toNatClampNeg))), (q_a1_past, .inr (3, [.ref q_a1_past_rows, .int (a1_past_size - 1)])), (q_a1_past_rows, .inl (cI, 88, .inl a1_past_rows))]) [0, 1, 2, 3, 4] rfl
    have hD9 := hD.sub (ws' := [(q_a1, .inr (5, [.ref q_a1_bends, .ref q_a1_felt, .ref q_a1_paces, .ref q_a1_past, .int a1_kind, .int a1_fog, .int (a1_past_rows ((a1_past_size - 1) * 11).toNatClampNeg), .int (a1_past_rows (((a1_past_size - 1) * 11) + 1).toNatClampNeg), .int (a1_past_rows (((a1_past_size - 1) * 11) + 2).toNatClampNeg)])), (q_a1_bends, .inr (0, [.ref q_a1_bends_yards, .ref q_a1_bends_truth, .ref q_a1_bends_notes, .ref q_a1_bends_words, .ref q_a1_bends_mud, .int a1_bends_size])), (q_a1_bends_notes, .inl (cI, 8, .inl (va_cpy a1_past_rows a1_bends_notes (((a1_past_size - 1) * 11) + 3).toNatClampNeg (0 : Int32).toNatClampNeg (8 : Int32).toNatClampNeg))), (q_a1_past, .inr (3, [.ref q_a1_past_rows, .int (a1_past_size - 1)])), (q_a1_past_rows, .inl (cI, 88, .inl a1_past_rows))]) [0, 1, 2, 3, 4] (by decide) rfl
    exact W.vret hx hb hr (fun t ht hW => ⟨⟨(va_cpy a1_past_rows a1_bends_notes (((a1_past_size - 1) * 11) + 3).toNatClampNeg (0 : Int32).toNatClampNeg (8 : Int32).toNatClampNeg, a1_past_size - 1, a1_past_rows ((a1_past_size - 1) * 11).toNatClampNeg, a1_past_rows (((a1_past_size - 1) * 11) + 1).toNatClampNeg, a1_past_rows (((a1_past_size - 1) * 11) + 2).toNatClampNeg), rfl, hf, by rw [ht]; exact hP9, hD9⟩, hS.F ht⟩) hS.2.2 dX4_giveBack_81
  · have hf := it_f c_1 hf
    subst hQQ
    have hP9 := hP.sub (ws' := [(q_a1, .inr (5, [.ref q_a1_bends, .ref q_a1_felt, .ref q_a1_paces, .ref q_a1_past, .int a1_kind, .int a1_fog, .int a1_here, .int a1_seconds, .int a1_crashes])), (q_a1_bends, .inr (0, [.ref q_a1_bends_yards, .ref q_a1_bends_truth, .ref q_a1_bends_notes, .ref q_a1_bends_words, .ref q_a1_bends_mud, .int a1_bends_size])), (q_a1_bends_notes, .inl (cI, 8, .inl a1_bends_notes)), (q_a1_past, .inr (3, [.ref q_a1_past_rows, .int a1_past_size])), (q_a1_past_rows, .inl (cI, 88, .inl a1_past_rows))]) [0, 1, 2, 3, 4] rfl
    have hD9 := hD.sub (ws' := [(q_a1, .inr (5, [.ref q_a1_bends, .ref q_a1_felt, .ref q_a1_paces, .ref q_a1_past, .int a1_kind, .int a1_fog, .int a1_here, .int a1_seconds, .int a1_crashes])), (q_a1_bends, .inr (0, [.ref q_a1_bends_yards, .ref q_a1_bends_truth, .ref q_a1_bends_notes, .ref q_a1_bends_words, .ref q_a1_bends_mud, .int a1_bends_size])), (q_a1_bends_notes, .inl (cI, 8, .inl a1_bends_notes)), (q_a1_past, .inr (3, [.ref q_a1_past_rows, .int a1_past_size])), (q_a1_past_rows, .inl (cI, 88, .inl a1_past_rows))]) [0, 1, 2, 3, 4] (by decide) rfl
    exact W.vret hx hb hr (fun t ht hW => ⟨⟨(a1_bends_notes, a1_past_size, a1_here, a1_seconds, a1_crashes), rfl, hf, by rw [ht]; exact hP9, hD9⟩, hS.F ht⟩) hS.2.2 dX4_giveBack_8
def p_X4_take (a0_rows : Nat → Int32) (a0_size : Int32) (a1_rows : Nat → Int32) (a1_size : Int32) (Q : (Nat → Int32) → Int32 → Prop) : Prop :=
  Q (va_cpy a1_rows a0_rows (0 : Int32).toNatClampNeg (0 : Int32).toNatClampNeg (88 : Int32).toNatClampNeg) a1_size
def rmX4_take : Room := { frames := 1, cells := 0, slots := 0, locals := 40 }
set_option maxHeartbeats 4000000 in
set_option maxRecDepth 100000 in
theorem c_X4_take (l : Launch) (D : va_G) (cI cZ cO : ClassId) (q_a0 q_a0_rows q_a1 q_a1_rows : Nat) (a0_size : Int32) (a0_rows : Nat → Int32) (a1_size : Int32) (a1_rows : Nat → Int32) (sz : Nat) (Q : (Nat → Int32) → Int32 → Prop) (hf : p_X4_take a0_rows a0_size a1_rows a1_size Q) : Met l yX4_take wsX4_take rmX4_take (va_Pc [.ref q_a0, .ref q_a1] (fun U => U.heap.size = sz ∧ va_P D vwCl [(q_a0, .inr (3, [.ref q_a0_rows, .int a0_size])), (q_a0_rows, .inl (cI, 88, .inl a0_rows)), (q_a1, .inr (3, [.ref q_a1_rows, .int a1_size])), (q_a1_rows, .inl (cI, 88, .inl a1_rows))] U.heap ∧ XK D cI cZ cO U ∧ va_D (fun _ => True) [(q_a0, .inr (3, [.ref q_a0_rows, .int a0_size])), (q_a0_rows, .inl (cI, 88, .inl a0_rows)), (q_a1, .inr (3, [.ref q_a1_rows, .int a1_size])), (q_a1_rows, .inl (cI, 88, .inl a1_rows))])) (va_Qv (fun (u : (Nat → Int32) × Int32) => Q u.1 u.2) (fun (u : (Nat → Int32) × Int32) t => va_P D vwCl [(q_a0, .inr (3, [.ref q_a0_rows, .int u.2])), (q_a0_rows, .inl (cI, 88, .inl u.1)), (q_a1, .inr (3, [.ref q_a1_rows, .int a1_size])), (q_a1_rows, .inl (cI, 88, .inl a1_rows))] t.heap ∧ va_D (va_A [(q_a0, .inr (3, [.ref q_a0_rows, .int a0_size])), (q_a0_rows, .inl (cI, 88, .inl a0_rows)), (q_a1, .inr (3, [.ref q_a1_rows, .int a1_size])), (q_a1_rows, .inl (cI, 88, .inl a1_rows))] sz) [(q_a0, .inr (3, [.ref q_a0_rows, .int u.2])), (q_a0_rows, .inl (cI, 88, .inl u.1)), (q_a1, .inr (3, [.ref q_a1_rows, .int a1_size])), (q_a1_rows, .inl (cI, 88, .inl a1_rows))]) (va_A [(q_a0, .inr (3, [.ref q_a0_rows, .int a0_size])), (q_a0_rows, .inl (cI, 88, .inl a0_rows)), (q_a1, .inr (3, [.ref q_a1_rows, .int a1_size])), (q_a1_rows, .inl (cI, 88, .inl a1_rows))] sz)) 0 0 (va_A [(q_a0, .inr (3, [.ref q_a0_rows, .int a0_size])), (q_a0_rows, .inl (cI, 88, .inl a0_rows)), (q_a1, .inr (3, [.ref q_a1_rows, .int a1_size])), (q_a1_rows, .inl (cI, 88, .inl a1_rows))] sz) := by
  refine Met.ofW (cc := cX4_take) (maxL := 2) (ret := none) (by decide) rfl ?_
  intro p e s m args below meth c s₁ B hml hv
  obtain ⟨rfl, hsz, hP, hX, hD0⟩ := hv
  have hK := hX.1
  have hx := B.exec
  have hb := B.bytes
  have hr := B.returns
  have hts := atoms_spec (ws := wsX4_take) B.pre
  have hown : s.vm.findClass RX4 = some m.cls := findClass_of_methodNamed B.named
  have hlocks := B.notSynchronized
  have in_X4 : ∀ w ∈ wsX40, w ∈ wsX4_take := fun _ h => List.mem_cons_of_mem _ (List.mem_append_right _ h)
  have kf_11 := hts (.fieldLink RX4 11 "LeftCrest$Past" "rows" "[I") (by decide +kernel)
  have kl_19 := hts (.methodLink RX4 19 arraycopyName) (by decide +kernel)
  have kl_nat := hts (.native arraycopyName) (by decide +kernel)
  have kl_sta := hts (.static arraycopyName) (by decide +kernel)
  have kl_ini := hts (.initialized "java/lang/System") (by decide +kernel)
  have kf_15 := hts (.fieldLink RX4 15 "LeftCrest$Past" "size" "I") (by decide +kernel)
  subst hsz
  have hD := hD0.self (sz := s.heap.size)
  generalize hAe : va_A [(q_a0, .inr (3, [.ref q_a0_rows, .int a0_size])), (q_a0_rows, .inl (cI, 88, .inl a0_rows)), (q_a1, .inr (3, [.ref q_a1_rows, .int a1_size])), (q_a1_rows, .inl (cI, 88, .inl a1_rows))] s.heap.size = A at hD ⊢
  have hA : ∀ q : Nat, s.heap.size ≤ q → A q := fun q h => by rw [← hAe]; exact Or.inr h
  have hS : va_S A s.heap s.heap [] := va_S.rf
  have hP : va_P D vwCl [(q_a0, .inr (3, [.ref q_a0_rows, .int a0_size])), (q_a0_rows, .inl (cI, 88, .inl a0_rows)), (q_a1, .inr (3, [.ref q_a1_rows, .int a1_size])), (q_a1_rows, .inl (cI, 88, .inl a1_rows))] s.heap := hP
  generalize hQQ : MQ below _ _ s _ _ _ = QQ
  have hl := lv_entry ([.ref q_a0, .ref q_a1]) (n := 2) (Nat.le_of_ble_eq_true rfl)
  rw [lg_entry_eq]
  generalize (lg_sl ([.ref q_a0, .ref q_a1]) ++ List.replicate (2 - (lg_sl ([.ref q_a0, .ref q_a1])).length) Slot.unset).toArray = ls at hl ⊢
  have hl : lv_has ls 2 [(0, .ref q_a0), (1, .ref q_a1)] := hl
  unfold p_X4_take at hf
  refine lv_aload_n hx hb dX4_take_0 rfl (lv_at hl 1 rfl) ?_
  refine va_get (D := D) (ci := 3) (v := .ref q_a1_rows) (C := RX4) (T := TX4) (N := 2) hx hb hts in_X4 hown hK hP 2 rfl rfl 0 (by decide) kf_11 (fun _ h9 => h9) rfl dX4_take_1 ?_
  refine lv_iconst (v := 0) hx hb dX4_take_4 (by decide) ?_
  refine lv_aload_n hx hb dX4_take_5 rfl (lv_at hl 0 rfl) ?_
  refine va_get (D := D) (ci := 3) (v := .ref q_a0_rows) (C := RX4) (T := TX4) (N := 2) hx hb hts in_X4 hown hK hP 0 rfl rfl 0 (by decide) kf_11 (fun _ h9 => h9) rfl dX4_take_6 ?_
  refine lv_iconst (v := 0) hx hb dX4_take_9 (by decide) ?_
  refine lv_bipush (v := 88) hx hb dX4_take_10 (by decide) ?_
  refine va_copyi hx hb (by rw [hml]; exact hl.1.symm) hown kl_19 kl_nat kl_sta kl_ini hK hP hD hS 3 1 0 0 rfl rfl rfl rfl rfl (by decide) (by decide) (by decide) (by decide) (by decide) (fun _ _ => rfl) (Nat.le_of_ble_eq_true rfl) (Nat.le_of_ble_eq_true rfl) dX4_take_12 (fun H locs hP hD hS => ?_)
  have hP : va_P D vwCl [(q_a0, .inr (3, [.ref q_a0_rows, .int a0_size])), (q_a0_rows, .inl (cI, 88, .inl (va_cpy a1_rows a0_rows (0 : Int32).toNatClampNeg (0 : Int32).toNatClampNeg (88 : Int32).toNatClampNeg))), (q_a1, .inr (3, [.ref q_a1_rows, .int a1_size])), (q_a1_rows, .inl (cI, 88, .inl a1_rows))] H := hP
  have hD : va_D A [(q_a0, .inr (3, [.ref q_a0_rows, .int a0_size])), (q_a0_rows, .inl (cI, 88, .inl (va_cpy a1_rows a0_rows (0 : Int32).toNatClampNeg (0 : Int32).toNatClampNeg (88 : Int32).toNatClampNeg))), (q_a1, .inr (3, [.ref q_a1_rows, .int a1_size])), (q_a1_rows, .inl (cI, 88, .inl a1_rows))] := hD
  refine lv_aload_n hx hb dX4_take_15 rfl (lv_at hl 0 rfl) ?_
  refine lv_aload_n hx hb dX4_take_16 rfl (lv_at hl 1 rfl) ?_
  refine va_get (D := D) (ci := 3) (v := .int a1_size) (C := RX4) (T := TX4) (N := 2) hx hb hts in_X4 hown hK hP 2 rfl rfl 1 (by decide) kf_15 (fun _ h9 => h9) rfl dX4_take_17 ?_
  refine va_put (D := D) (ci := 3) (v := .int a1_size) (ty := .int) (C := RX4) (T := TX4) (N := 2) hx hb hts in_X4 tyX4 tyX4_ok nmX4 hown hK hP hD hS 0 rfl rfl 1 (by decide) kf_15 (fun _ h9 => h9) rfl (by decide +kernel) rfl rfl (Nat.le_of_ble_eq_true rfl) dX4_take_20 (fun H locs hP hD hS => ?_)
  have hP : va_P D vwCl [(q_a0, .inr (3, [.ref q_a0_rows, .int a1_size])), (q_a0_rows, .inl (cI, 88, .inl (va_cpy a1_rows a0_rows (0 : Int32).toNatClampNeg (0 : Int32).toNatClampNeg (88 : Int32).toNatClampNeg))), (q_a1, .inr (3, [.ref q_a1_rows, .int a1_size])), (q_a1_rows, .inl (cI, 88, .inl a1_rows))] H := hP
  have hD : va_D A [(q_a0, .inr (3, [.ref q_a0_rows, .int a1_size])), (q_a0_rows, .inl (cI, 88, .inl (va_cpy a1_rows a0_rows (0 : Int32).toNatClampNeg (0 : Int32).toNatClampNeg (88 : Int32).toNatClampNeg))), (q_a1, .inr (3, [.ref q_a1_rows, .int a1_size])), (q_a1_rows, .inl (cI, 88, .inl a1_rows))] := hD
  subst hQQ
  have hP9 := hP.sub (ws' := [(q_a0, .inr (3, [.ref q_a0_rows, .int a1_size])), (q_a0_rows, .inl (cI, 88, .inl (va_cpy a1_rows a0_rows (0 : Int32).toNatClampNeg (0 : Int32).toNatClampNeg (88 : Int32).toNatClampNeg))), (q_a1, .inr (3, [.ref q_a1_rows, .int a1_size])), (q_a1_rows, .inl (cI, 88, .inl a1_rows))]) [0, 1, 2, 3] rfl
  have hD9 := hD.sub (ws' := [(q_a0, .inr (3, [.ref q_a0_rows, .int a1_size])), (q_a0_rows, .inl (cI, 88, .inl (va_cpy a1_rows a0_rows (0 : Int32).toNatClampNeg (0 : Int32).toNatClampNeg (88 : Int32).toNatClampNeg))), (q_a1, .inr (3, [.ref q_a1_rows, .int a1_size])), (q_a1_rows, .inl (cI, 88, .inl a1_rows))]) [0, 1, 2, 3] (by decide) rfl
  exact W.vret hx hb hr (fun t ht hW => ⟨⟨(va_cpy a1_rows a0_rows (0 : Int32).toNatClampNeg (0 : Int32).toNatClampNeg (88 : Int32).toNatClampNeg, a1_size), rfl, hf, by rw [ht]; exact hP9, hD9⟩, hS.F ht⟩) hS.2.2 dX4_take_23
def p_X6_costAt (a0_bends_truth : Nat → Int32) (a0_bends_mud : Nat → Int32) (a0_kind : Int32) (a0_fog : Int32) (x1 : Int32) (x2 : Int32) (Q : Int32 → Prop) : Prop :=
  p_X0_holds a0_bends_truth a0_bends_mud x1 (fun r_1 => vp_in x1 8 ∧ (p_X2_paceOf a0_kind x2 r_1 a0_fog (a0_bends_mud x1.toNatClampNeg) (fun r_2 => p_X2_costOf r_2 r_1 (fun r_3 => Q r_3))))
def rmX6_costAt : Room := { frames := 1, cells := 0, slots := 0, locals := 28 }
set_option maxHeartbeats 4000000 in
set_option maxRecDepth 100000 in
theorem c_X6_costAt (l : Launch) (D : va_G) (cI cZ cO : ClassId) (q_a0 q_a0_bends q_a0_felt q_a0_paces q_a0_past q_a0_bends_yards q_a0_bends_truth q_a0_bends_notes q_a0_bends_words q_a0_bends_mud : Nat) (a0_kind : Int32) (a0_fog : Int32) (a0_here : Int32) (a0_seconds : Int32) (a0_crashes : Int32) (a0_bends_size : Int32) (a0_bends_truth : Nat → Int32) (a0_bends_mud : Nat → Int32) (x1 : Int32) (x2 : Int32) (Q : Int32 → Prop) (hf : p_X6_costAt a0_bends_truth a0_bends_mud a0_kind a0_fog x1 x2 Q) : Met l yX6_costAt wsX6_costAt rmX6_costAt (va_Pc [.ref q_a0, .int x1, .int x2] (fun U => va_P D vwCl [(q_a0, .inr (5, [.ref q_a0_bends, .ref q_a0_felt, .ref q_a0_paces, .ref q_a0_past, .int a0_kind, .int a0_fog, .int a0_here, .int a0_seconds, .int a0_crashes])), (q_a0_bends, .inr (0, [.ref q_a0_bends_yards, .ref q_a0_bends_truth, .ref q_a0_bends_notes, .ref q_a0_bends_words, .ref q_a0_bends_mud, .int a0_bends_size])), (q_a0_bends_truth, .inl (cI, 8, .inl a0_bends_truth)), (q_a0_bends_mud, .inl (cI, 8, .inl a0_bends_mud))] U.heap ∧ XK D cI cZ cO U)) (vp_Si Q) 0 0 (fun _ => False) := by
  refine Met.ofW (cc := cX6_costAt) (maxL := 4) (ret := (some .int)) (by decide) rfl ?_
  intro p e s m args below meth c s₁ B hml hv
  obtain ⟨rfl, hP, hX⟩ := hv
  have hK := hX.1
  have hx := B.exec
  have hb := B.bytes
  have hr := B.returns
  have hts := atoms_spec (ws := wsX6_costAt) B.pre
  have hown : s.vm.findClass RX6 = some m.cls := findClass_of_methodNamed B.named
  have hlocks := B.notSynchronized
  have in_X6 : ∀ w ∈ wsX60, w ∈ wsX6_costAt := fun _ h => List.mem_cons_of_mem _ (List.mem_append_left _ (List.mem_append_right _ h))
  have in_X0 : ∀ w ∈ wsX00, w ∈ wsX6_costAt := fun _ h => List.mem_cons_of_mem _ (List.mem_append_right _ h)
  have kf_10 := hts (.fieldLink RX6 10 "LeftCrest$Stage" "bends" "LLeftCrest$Bends;") (by decide +kernel)
  have kf_37 := hts (.fieldLink RX6 37 "LeftCrest$Stage" "kind" "I") (by decide +kernel)
  have kf_41 := hts (.fieldLink RX6 41 "LeftCrest$Stage" "fog" "I") (by decide +kernel)
  have kf_76 := hts (.fieldLink RX6 76 "LeftCrest$Bends" "mud" "[I") (by decide +kernel)
  generalize hQQ : MQ below _ _ s _ _ _ = QQ
  have hl := lv_entry ([.ref q_a0, .int x1, .int x2]) (n := 4) (Nat.le_of_ble_eq_true rfl)
  rw [lg_entry_eq]
  generalize (lg_sl ([.ref q_a0, .int x1, .int x2]) ++ List.replicate (4 - (lg_sl ([.ref q_a0, .int x1, .int x2])).length) Slot.unset).toArray = ls at hl ⊢
  have hl : lv_has ls 4 [(0, .ref q_a0), (1, .int x1), (2, .int x2)] := hl
  unfold p_X6_costAt at hf
  refine lv_aload_n hx hb dX6_costAt_0 rfl (lv_at hl 0 rfl) ?_
  refine va_get (D := D) (ci := 5) (v := .ref q_a0_bends) (C := RX6) (T := TX6) (N := 9) hx hb hts in_X6 hown hK hP 0 rfl rfl 0 (by decide) kf_10 (fun _ h9 => h9) rfl dX6_costAt_1 ?_
  refine lv_iload_n hx hb dX6_costAt_4 rfl (lv_at hl 1 rfl) ?_
  refine ya_csi (va_runV (As := [.int x1]) (rest := []) ⟨hx, hb, hml, hown, hts⟩ (c_X0_holds l D cI cZ cO q_a0_bends q_a0_bends_yards q_a0_bends_truth q_a0_bends_notes q_a0_bends_words q_a0_bends_mud a0_bends_size a0_bends_truth a0_bends_mud x1 _ hf) (cwV 1 hts gX6_costAt_X0_holds rfl rfl rfl (by decide +kernel) ⟨Nat.le_of_ble_eq_true rfl, Nat.le_of_ble_eq_true rfl⟩) (pv_ro (ci := 0) (q0 := 0) (hP.sub [1, 2, 3] rfl) hX rfl rfl) rfl rfl hl.1 rfl (lv_room (Nat.le_of_ble_eq_true rfl)) dX6_costAt_5 ⟨Nat.zero_le _, Nat.zero_le _⟩) (fun r_1 hf => ?_)
  refine lv_istore_n (lv' := [(3, .int r_1), (0, .ref q_a0), (1, .int x1), (2, .int x2)]) hx hb dX6_costAt_8 rfl hl (by decide) rfl (fun ls hl => ?_)
  refine lv_aload_n hx hb dX6_costAt_9 rfl (lv_at hl 1 rfl) ?_
  refine va_get (D := D) (ci := 5) (v := .int a0_kind) (C := RX6) (T := TX6) (N := 9) hx hb hts in_X6 hown hK hP 0 rfl rfl 4 (by decide) kf_37 (fun _ h9 => h9) rfl dX6_costAt_10 ?_
  refine lv_iload_n hx hb dX6_costAt_13 rfl (lv_at hl 3 rfl) ?_
  refine lv_iload_n hx hb dX6_costAt_14 rfl (lv_at hl 0 rfl) ?_
  refine lv_aload_n hx hb dX6_costAt_15 rfl (lv_at hl 1 rfl) ?_
  refine va_get (D := D) (ci := 5) (v := .int a0_fog) (C := RX6) (T := TX6) (N := 9) hx hb hts in_X6 hown hK hP 0 rfl rfl 5 (by decide) kf_41 (fun _ h9 => h9) rfl dX6_costAt_16 ?_
  refine lv_aload_n hx hb dX6_costAt_19 rfl (lv_at hl 1 rfl) ?_
  refine va_get (D := D) (ci := 5) (v := .ref q_a0_bends) (C := RX6) (T := TX6) (N := 9) hx hb hts in_X6 hown hK hP 0 rfl rfl 0 (by decide) kf_10 (fun _ h9 => h9) rfl dX6_costAt_20 ?_
  refine va_get (D := D) (ci := 0) (v := .ref q_a0_bends_mud) (C := RX0) (T := TX0) (N := 6) hx hb hts in_X0 hown hK hP 1 rfl rfl 4 (by decide) kf_76 (fun _ h9 => h9) rfl dX6_costAt_23 ?_
  refine lv_iload_n hx hb dX6_costAt_26 rfl (lv_at hl 2 rfl) ?_
  refine va_iald hx hb hK hP 3 0 rfl rfl hf.1 dX6_costAt_27 ?_
  have hf := hf.2
  refine ya_csi (va_runS (As := [.int a0_kind, .int x2, .int r_1, .int a0_fog, .int (a0_bends_mud x1.toNatClampNeg)]) (rest := []) ⟨hx, hb, hml, hown, hts⟩ (c_X2_paceOf l D cI cZ cO  a0_kind x2 r_1 a0_fog (a0_bends_mud x1.toNatClampNeg) _ hf) (va_cwS 5 hts gX6_costAt_X2_paceOf rfl rfl rfl (by decide +kernel) ⟨Nat.le_of_ble_eq_true rfl, Nat.le_of_ble_eq_true rfl⟩) (ps_ro va_P0 hX) rfl rfl hl.1 rfl (lv_room (Nat.le_of_ble_eq_true rfl)) dX6_costAt_28 ⟨Nat.zero_le _, Nat.zero_le _⟩) (fun r_2 hf => ?_)
  refine lv_iload_n hx hb dX6_costAt_31 rfl (lv_at hl 0 rfl) ?_
  refine ya_csi (va_runS (As := [.int r_2, .int r_1]) (rest := []) ⟨hx, hb, hml, hown, hts⟩ (c_X2_costOf l D cI cZ cO  r_2 r_1 _ hf) (va_cwS 2 hts gX6_costAt_X2_costOf rfl rfl rfl (by decide +kernel) ⟨Nat.le_of_ble_eq_true rfl, Nat.le_of_ble_eq_true rfl⟩) (ps_ro va_P0 hX) rfl rfl hl.1 rfl (lv_room (Nat.le_of_ble_eq_true rfl)) dX6_costAt_32 ⟨Nat.zero_le _, Nat.zero_le _⟩) (fun r_3 hf => ?_)
  subst hQQ
  exact W.iret hx hb hr (fun t ht hW => ⟨_, rfl, hf, ht⟩) (fun _ h => absurd h List.not_mem_nil) dX6_costAt_35
def p_X6_costNoted (a0_bends_truth : Nat → Int32) (a0_bends_notes : Nat → Int32) (a0_bends_mud : Nat → Int32) (a0_kind : Int32) (a0_fog : Int32) (x1 : Int32) (Q : Int32 → Prop) : Prop :=
  vp_in x1 8 ∧ (p_X6_costAt a0_bends_truth a0_bends_mud a0_kind a0_fog x1 (a0_bends_notes x1.toNatClampNeg) (fun r_1 => Q r_1))
def rmX6_costNoted : Room := { frames := 2, cells := 0, slots := 0, locals := 51 }
set_option maxHeartbeats 4000000 in
set_option maxRecDepth 100000 in
theorem c_X6_costNoted (l : Launch) (D : va_G) (cI cZ cO : ClassId) (q_a0 q_a0_bends q_a0_felt q_a0_paces q_a0_past q_a0_bends_yards q_a0_bends_truth q_a0_bends_notes q_a0_bends_words q_a0_bends_mud : Nat) (a0_kind : Int32) (a0_fog : Int32) (a0_here : Int32) (a0_seconds : Int32) (a0_crashes : Int32) (a0_bends_size : Int32) (a0_bends_truth : Nat → Int32) (a0_bends_notes : Nat → Int32) (a0_bends_mud : Nat → Int32) (x1 : Int32) (Q : Int32 → Prop) (hf : p_X6_costNoted a0_bends_truth a0_bends_notes a0_bends_mud a0_kind a0_fog x1 Q) : Met l yX6_costNoted wsX6_costNoted rmX6_costNoted (va_Pc [.ref q_a0, .int x1] (fun U => va_P D vwCl [(q_a0, .inr (5, [.ref q_a0_bends, .ref q_a0_felt, .ref q_a0_paces, .ref q_a0_past, .int a0_kind, .int a0_fog, .int a0_here, .int a0_seconds, .int a0_crashes])), (q_a0_bends, .inr (0, [.ref q_a0_bends_yards, .ref q_a0_bends_truth, .ref q_a0_bends_notes, .ref q_a0_bends_words, .ref q_a0_bends_mud, .int a0_bends_size])), (q_a0_bends_truth, .inl (cI, 8, .inl a0_bends_truth)), (q_a0_bends_notes, .inl (cI, 8, .inl a0_bends_notes)), (q_a0_bends_mud, .inl (cI, 8, .inl a0_bends_mud))] U.heap ∧ XK D cI cZ cO U)) (vp_Si Q) 0 0 (fun _ => False) := by
  refine Met.ofW (cc := cX6_costNoted) (maxL := 2) (ret := (some .int)) (by decide) rfl ?_
  intro p e s m args below meth c s₁ B hml hv
  obtain ⟨rfl, hP, hX⟩ := hv
  have hK := hX.1
  have hx := B.exec
  have hb := B.bytes
  have hr := B.returns
  have hts := atoms_spec (ws := wsX6_costNoted) B.pre
  have hown : s.vm.findClass RX6 = some m.cls := findClass_of_methodNamed B.named
  have hlocks := B.notSynchronized
  have in_X6 : ∀ w ∈ wsX60, w ∈ wsX6_costNoted := fun _ h => List.mem_cons_of_mem _ (List.mem_append_left _ (List.mem_append_right _ h))
  have in_X0 : ∀ w ∈ wsX00, w ∈ wsX6_costNoted := fun _ h => List.mem_cons_of_mem _ (List.mem_append_right _ h)
  have kf_10 := hts (.fieldLink RX6 10 "LeftCrest$Stage" "bends" "LLeftCrest$Bends;") (by decide +kernel)
  have kf_90 := hts (.fieldLink RX6 90 "LeftCrest$Bends" "notes" "[I") (by decide +kernel)
  generalize hQQ : MQ below _ _ s _ _ _ = QQ
  have hl := lv_entry ([.ref q_a0, .int x1]) (n := 2) (Nat.le_of_ble_eq_true rfl)
  rw [lg_entry_eq]
  generalize (lg_sl ([.ref q_a0, .int x1]) ++ List.replicate (2 - (lg_sl ([.ref q_a0, .int x1])).length) Slot.unset).toArray = ls at hl ⊢
  have hl : lv_has ls 2 [(0, .ref q_a0), (1, .int x1)] := hl
  unfold p_X6_costNoted at hf
  refine lv_aload_n hx hb dX6_costNoted_0 rfl (lv_at hl 0 rfl) ?_
  refine lv_iload_n hx hb dX6_costNoted_1 rfl (lv_at hl 1 rfl) ?_
  refine lv_aload_n hx hb dX6_costNoted_2 rfl (lv_at hl 0 rfl) ?_
  refine va_get (D := D) (ci := 5) (v := .ref q_a0_bends) (C := RX6) (T := TX6) (N := 9) hx hb hts in_X6 hown hK hP 0 rfl rfl 0 (by decide) kf_10 (fun _ h9 => h9) rfl dX6_costNoted_3 ?_
  refine va_get (D := D) (ci := 0) (v := .ref q_a0_bends_notes) (C := RX0) (T := TX0) (N := 6) hx hb hts in_X0 hown hK hP 1 rfl rfl 2 (by decide) kf_90 (fun _ h9 => h9) rfl dX6_costNoted_6 ?_
  refine lv_iload_n hx hb dX6_costNoted_9 rfl (lv_at hl 1 rfl) ?_
  refine va_iald hx hb hK hP 3 0 rfl rfl hf.1 dX6_costNoted_10 ?_
  have hf := hf.2
  refine ya_csi (va_runV (As := [.int x1, .int (a0_bends_notes x1.toNatClampNeg)]) (rest := []) ⟨hx, hb, hml, hown, hts⟩ (c_X6_costAt l D cI cZ cO q_a0 q_a0_bends q_a0_felt q_a0_paces q_a0_past q_a0_bends_yards q_a0_bends_truth q_a0_bends_notes q_a0_bends_words q_a0_bends_mud a0_kind a0_fog a0_here a0_seconds a0_crashes a0_bends_size a0_bends_truth a0_bends_mud x1 (a0_bends_notes x1.toNatClampNeg) _ hf) (cwV 2 hts gX6_costNoted_X6_costAt rfl rfl rfl (by decide +kernel) ⟨Nat.le_of_ble_eq_true rfl, Nat.le_of_ble_eq_true rfl⟩) (pv_ro (ci := 5) (q0 := 0) (hP.sub [0, 1, 2, 4] rfl) hX rfl rfl) rfl rfl hl.1 rfl (lv_room (Nat.le_of_ble_eq_true rfl)) dX6_costNoted_11 ⟨Nat.zero_le _, Nat.zero_le _⟩) (fun r_1 hf => ?_)
  subst hQQ
  exact W.iret hx hb hr (fun t ht hW => ⟨_, rfl, hf, ht⟩) (fun _ h => absurd h List.not_mem_nil) dX6_costNoted_14
def jX5_savedAt_37 (a1_bends_truth : Nat → Int32) (a1_bends_notes : Nat → Int32) (a1_bends_mud : Nat → Int32) (a1_kind : Int32) (a1_fog : Int32) (x2 : Int32) (Q : Int32 → Prop) (v_1 : Int32) : Prop :=
  p_X6_costNoted a1_bends_truth a1_bends_notes a1_bends_mud a1_kind a1_fog x2 (fun r_2 => Q (r_2 - v_1))
def bX5_savedAt_6 (a1_bends_truth : Nat → Int32) (a1_bends_notes : Nat → Int32) (a1_bends_mud : Nat → Int32) (a1_kind : Int32) (a1_fog : Int32) (x2 : Int32) (Q : Int32 → Prop) (k_5 : Int32 → Int32 → Prop) (v_3 : Int32) (v_4 : Int32) : Prop :=
  if 6 < v_4 then (jX5_savedAt_37 a1_bends_truth a1_bends_notes a1_bends_mud a1_kind a1_fog x2 Q v_3) else (p_X6_costAt a1_bends_truth a1_bends_mud a1_kind a1_fog x2 v_4 (fun r_7 => if v_3 ≤ r_7 then (k_5 v_3 (v_4 + 1)) else (k_5 r_7 (v_4 + 1))))
def p_X5_savedAt (a1_bends_truth : Nat → Int32) (a1_bends_notes : Nat → Int32) (a1_bends_mud : Nat → Int32) (a1_kind : Int32) (a1_fog : Int32) (x2 : Int32) (Q : Int32 → Prop) : Prop :=
  lq2 (bX5_savedAt_6 a1_bends_truth a1_bends_notes a1_bends_mud a1_kind a1_fog x2 Q) 1000 60 0
def rmX5_savedAt : Room := { frames := 3, cells := 0, slots := 0, locals := 72 }
set_option maxHeartbeats 4000000 in
set_option maxRecDepth 100000 in
theorem c_X5_savedAt (l : Launch) (D : va_G) (cI cZ cO : ClassId) (q_a0 q_a0_gains q_a0_alike q_a1 q_a1_bends q_a1_felt q_a1_paces q_a1_past q_a1_bends_yards q_a1_bends_truth q_a1_bends_notes q_a1_bends_words q_a1_bends_mud : Nat) (a1_kind : Int32) (a1_fog : Int32) (a1_here : Int32) (a1_seconds : Int32) (a1_crashes : Int32) (a1_bends_size : Int32) (a1_bends_truth : Nat → Int32) (a1_bends_notes : Nat → Int32) (a1_bends_mud : Nat → Int32) (x2 : Int32) (Q : Int32 → Prop) (hf : p_X5_savedAt a1_bends_truth a1_bends_notes a1_bends_mud a1_kind a1_fog x2 Q) : Met l yX5_savedAt wsX5_savedAt rmX5_savedAt (va_Pc [.ref q_a0, .ref q_a1, .int x2] (fun U => va_P D vwCl [(q_a0, .inr (4, [.ref q_a0_gains, .ref q_a0_alike])), (q_a1, .inr (5, [.ref q_a1_bends, .ref q_a1_felt, .ref q_a1_paces, .ref q_a1_past, .int a1_kind, .int a1_fog, .int a1_here, .int a1_seconds, .int a1_crashes])), (q_a1_bends, .inr (0, [.ref q_a1_bends_yards, .ref q_a1_bends_truth, .ref q_a1_bends_notes, .ref q_a1_bends_words, .ref q_a1_bends_mud, .int a1_bends_size])), (q_a1_bends_truth, .inl (cI, 8, .inl a1_bends_truth)), (q_a1_bends_notes, .inl (cI, 8, .inl a1_bends_notes)), (q_a1_bends_mud, .inl (cI, 8, .inl a1_bends_mud))] U.heap ∧ XK D cI cZ cO U)) (vp_Si Q) 0 0 (fun _ => False) := by
  refine Met.ofW (cc := cX5_savedAt) (maxL := 6) (ret := (some .int)) (by decide) rfl ?_
  intro p e s m args below meth c s₁ B hml hv
  obtain ⟨rfl, hP, hX⟩ := hv
  have hK := hX.1
  have hx := B.exec
  have hb := B.bytes
  have hr := B.returns
  have hts := atoms_spec (ws := wsX5_savedAt) B.pre
  have hown : s.vm.findClass RX5 = some m.cls := findClass_of_methodNamed B.named
  have hlocks := B.notSynchronized
  generalize hQQ : MQ below _ _ s _ _ _ = QQ
  have hl := lv_entry ([.ref q_a0, .ref q_a1, .int x2]) (n := 6) (Nat.le_of_ble_eq_true rfl)
  rw [lg_entry_eq]
  generalize (lg_sl ([.ref q_a0, .ref q_a1, .int x2]) ++ List.replicate (6 - (lg_sl ([.ref q_a0, .ref q_a1, .int x2])).length) Slot.unset).toArray = ls at hl ⊢
  have hl : lv_has ls 6 [(0, .ref q_a0), (1, .ref q_a1), (2, .int x2)] := hl
  have hj_37 : ∀ (v_1 : Int32), jX5_savedAt_37 a1_bends_truth a1_bends_notes a1_bends_mud a1_kind a1_fog x2 Q v_1 → ∀ ls : Array Slot, lv_has ls 6 [(1, .ref q_a1), (2, .int x2), (3, .int v_1)] → W p l e (headSpec wsX5_savedAt rmX5_savedAt).room s m ([.ref q_a0, .ref q_a1, .int x2] : List Value).toArray below meth c s.heap [] 0 0 QQ (F0 m 37 ls []) := by
    intro v_1 hf ls hl
    unfold jX5_savedAt_37 at hf
    refine lv_aload_n hx hb dX5_savedAt_37 rfl (lv_at hl 0 rfl) ?_
    refine lv_iload_n hx hb dX5_savedAt_38 rfl (lv_at hl 1 rfl) ?_
    refine ya_csi (va_runV (As := [.int x2]) (rest := []) ⟨hx, hb, hml, hown, hts⟩ (c_X6_costNoted l D cI cZ cO q_a1 q_a1_bends q_a1_felt q_a1_paces q_a1_past q_a1_bends_yards q_a1_bends_truth q_a1_bends_notes q_a1_bends_words q_a1_bends_mud a1_kind a1_fog a1_here a1_seconds a1_crashes a1_bends_size a1_bends_truth a1_bends_notes a1_bends_mud x2 _ hf) (cwV 1 hts gX5_savedAt_X6_costNoted rfl rfl rfl (by decide +kernel) ⟨Nat.le_of_ble_eq_true rfl, Nat.le_of_ble_eq_true rfl⟩) (pv_ro (ci := 5) (q0 := 0) (hP.sub [1, 2, 3, 4, 5] rfl) hX rfl rfl) rfl rfl hl.1 rfl (lv_room (Nat.le_of_ble_eq_true rfl)) dX5_savedAt_39 ⟨Nat.zero_le _, Nat.zero_le _⟩) (fun r_2 hf => ?_)
    refine lv_iload_n hx hb dX5_savedAt_42 rfl (lv_at hl 2 rfl) ?_
    refine lv_isub hx hb dX5_savedAt_43 ?_
    subst hQQ
    exact W.iret hx hb hr (fun t ht hW => ⟨_, rfl, hf, ht⟩) (fun _ h => absurd h List.not_mem_nil) dX5_savedAt_44
  unfold p_X5_savedAt at hf
  refine lv_bipush (v := 60) hx hb dX5_savedAt_0 (by decide) ?_
  refine lv_istore_n (lv' := [(3, .int 60), (0, .ref q_a0), (1, .ref q_a1), (2, .int x2)]) hx hb dX5_savedAt_2 rfl hl (by decide) rfl (fun ls hl => ?_)
  refine lv_iconst (v := 0) hx hb dX5_savedAt_3 (by decide) ?_
  refine lv_istore (lv' := [(4, .int 0), (3, .int 60), (0, .ref q_a0), (1, .ref q_a1), (2, .int x2)]) hx hb dX5_savedAt_4 hl (by decide) rfl (fun ls hl => ?_)
  have hlp_6 : ∀ (n_6 : Nat) (v_3 : Int32) (v_4 : Int32) (ls : Array Slot), lq2 (bX5_savedAt_6 a1_bends_truth a1_bends_notes a1_bends_mud a1_kind a1_fog x2 Q) n_6 v_3 v_4 → lv_has ls 6 [(1, .ref q_a1), (2, .int x2), (3, .int v_3), (4, .int v_4)] → W p l e (headSpec wsX5_savedAt rmX5_savedAt).room s m ([.ref q_a0, .ref q_a1, .int x2] : List Value).toArray below meth c s.heap [] 0 0 QQ (F0 m 6 ls []) := by
    intro n_6
    induction n_6 with
    | zero => intro v_3 v_4 ls hf; exact (lq2_0 hf).elim
    | succ n_6 ih =>
      have ih_6 := ih
      intro v_3 v_4 ls hf hl
      have hf := lq2_s hf
      unfold bX5_savedAt_6 at hf
      refine lv_iload hx hb dX5_savedAt_6 (lv_at hl 3 rfl) ?_
      refine lv_bipush (v := 6) hx hb dX5_savedAt_8 (by decide) ?_
      refine lv_icmp_gt (tgt := 37) hx hb dX5_savedAt_10 (by decide) (fun c_6 => ?_) (fun c_6 => ?_)
      · have hf := it_t c_6 hf
        exact hj_37 v_3 hf ls (lv_sub hl [0, 1, 2] rfl)
      · have hf := it_f c_6 hf
        refine lv_aload_n hx hb dX5_savedAt_13 rfl (lv_at hl 0 rfl) ?_
        refine lv_iload_n hx hb dX5_savedAt_14 rfl (lv_at hl 1 rfl) ?_
        refine lv_iload hx hb dX5_savedAt_15 (lv_at hl 3 rfl) ?_
        refine ya_csi (va_runV (As := [.int x2, .int v_4]) (rest := []) ⟨hx, hb, hml, hown, hts⟩ (c_X6_costAt l D cI cZ cO q_a1 q_a1_bends q_a1_felt q_a1_paces q_a1_past q_a1_bends_yards q_a1_bends_truth q_a1_bends_notes q_a1_bends_words q_a1_bends_mud a1_kind a1_fog a1_here a1_seconds a1_crashes a1_bends_size a1_bends_truth a1_bends_mud x2 v_4 _ hf) (cwV 2 hts gX5_savedAt_X6_costAt rfl rfl rfl (by decide +kernel) ⟨Nat.le_of_ble_eq_true rfl, Nat.le_of_ble_eq_true rfl⟩) (pv_ro (ci := 5) (q0 := 0) (hP.sub [1, 2, 3, 5] rfl) hX rfl rfl) rfl rfl hl.1 rfl (lv_room (Nat.le_of_ble_eq_true rfl)) dX5_savedAt_17 ⟨Nat.zero_le _, Nat.zero_le _⟩) (fun r_7 hf => ?_)
        refine lv_istore (lv' := [(5, .int r_7), (1, .ref q_a1), (2, .int x2), (3, .int v_3), (4, .int v_4)]) hx hb dX5_savedAt_20 hl (by decide) rfl (fun ls hl => ?_)
        refine lv_iload hx hb dX5_savedAt_22 (lv_at hl 0 rfl) ?_
        refine lv_iload_n hx hb dX5_savedAt_24 rfl (lv_at hl 3 rfl) ?_
        refine lv_icmp_ge (tgt := 31) hx hb dX5_savedAt_25 (by decide) (fun c_8 => ?_) (fun c_8 => ?_)
        · have hf := it_t c_8 hf
          refine lv_iinc (v := v_4 + 1) (lv' := [(4, .int (v_4 + 1)), (5, .int r_7), (1, .ref q_a1), (2, .int x2), (3, .int v_3)]) hx hb dX5_savedAt_31 hl (k := 4) rfl rfl (by decide) rfl (fun ls hl => ?_)
          refine lv_goto (tgt := 6) hx hb dX5_savedAt_34 (by decide) ?_
          exact ih v_3 (v_4 + 1) ls hf (lv_sub hl [2, 3, 4, 0] rfl)
        · have hf := it_f c_8 hf
          refine lv_iload hx hb dX5_savedAt_28 (lv_at hl 0 rfl) ?_
          refine lv_istore_n (lv' := [(3, .int r_7), (5, .int r_7), (1, .ref q_a1), (2, .int x2), (4, .int v_4)]) hx hb dX5_savedAt_30 rfl hl (by decide) rfl (fun ls hl => ?_)
          refine lv_iinc (v := v_4 + 1) (lv' := [(4, .int (v_4 + 1)), (3, .int r_7), (5, .int r_7), (1, .ref q_a1), (2, .int x2)]) hx hb dX5_savedAt_31 hl (k := 4) rfl rfl (by decide) rfl (fun ls hl => ?_)
          refine lv_goto (tgt := 6) hx hb dX5_savedAt_34 (by decide) ?_
          exact ih r_7 (v_4 + 1) ls hf (lv_sub hl [3, 4, 1, 0] rfl)
  exact hlp_6 1000 60 0 ls hf (lv_sub hl [3, 4, 1, 0] rfl)
def p_X8_hasBit (x0 : Int32) (x1 : Int32) (Q : Int32 → Prop) : Prop :=
  if ((x0 >>> (x1 &&& 31)) &&& 1) = 1 then (Q 1) else (Q 0)
def rmX8_hasBit : Room := { frames := 0, cells := 0, slots := 0, locals := 0 }
set_option maxHeartbeats 4000000 in
set_option maxRecDepth 100000 in
theorem c_X8_hasBit (l : Launch) (D : va_G) (cI cZ cO : ClassId) (x0 : Int32) (x1 : Int32) (Q : Int32 → Prop) (hf : p_X8_hasBit x0 x1 Q) : Met l yX8_hasBit wsX8_hasBit rmX8_hasBit (va_Pc [.int x0, .int x1] (fun U => va_P D vwCl [] U.heap ∧ XK D cI cZ cO U)) (vp_Si Q) 0 0 (fun _ => False) := by
  refine Met.ofW (cc := cX8_hasBit) (maxL := 2) (ret := (some .boolean)) (by decide) rfl ?_
  intro p e s m args below meth c s₁ B hml hv
  obtain ⟨rfl, hP, hX⟩ := hv
  have hK := hX.1
  have hx := B.exec
  have hb := B.bytes
  have hr := B.returns
  have hts := atoms_spec (ws := wsX8_hasBit) B.pre
  have hown : s.vm.findClass RX8 = some m.cls := findClass_of_methodNamed B.named
  have hlocks := B.notSynchronized
  generalize hQQ : MQ below _ _ s _ _ _ = QQ
  have hl := lv_entry ([.int x0, .int x1]) (n := 2) (Nat.le_of_ble_eq_true rfl)
  rw [lg_entry_eq]
  generalize (lg_sl ([.int x0, .int x1]) ++ List.replicate (2 - (lg_sl ([.int x0, .int x1])).length) Slot.unset).toArray = ls at hl ⊢
  have hl : lv_has ls 2 [(0, .int x0), (1, .int x1)] := hl
  unfold p_X8_hasBit at hf
  refine lv_iload_n hx hb dX8_hasBit_0 rfl (lv_at hl 0 rfl) ?_
  refine lv_iload_n hx hb dX8_hasBit_1 rfl (lv_at hl 1 rfl) ?_
  refine lv_ishr hx hb dX8_hasBit_2 ?_
  refine lv_iconst (v := 1) hx hb dX8_hasBit_3 (by decide) ?_
  refine lv_iand hx hb dX8_hasBit_4 ?_
  refine lv_iconst (v := 1) hx hb dX8_hasBit_5 (by decide) ?_
  refine lv_icmp_ne (tgt := 13) hx hb dX8_hasBit_6 (by decide) (fun c_1 => ?_) (fun c_1 => ?_)
  · have hf := it_f c_1 hf
    refine lv_iconst (v := 0) hx hb dX8_hasBit_13 (by decide) ?_
    subst hQQ
    exact W.zret hx hb hr rfl (fun t ht hW => ⟨_, rfl, hf, ht⟩) (fun _ h => absurd h List.not_mem_nil) dX8_hasBit_14
  · have hf := it_t c_1 hf
    refine lv_iconst (v := 1) hx hb dX8_hasBit_9 (by decide) ?_
    refine lv_goto (tgt := 14) hx hb dX8_hasBit_10 (by decide) ?_
    subst hQQ
    exact W.zret hx hb hr rfl (fun t ht hW => ⟨_, rfl, hf, ht⟩) (fun _ h => absurd h List.not_mem_nil) dX8_hasBit_14
def jX5_bestMended_111 (Q : Int32 → (Nat → Int32) → Prop) (w_1 : Nat → Int32) (k_5 : Int32 → Int32 → Prop) (v_3 : Int32) (v_4 : Int32) (v_6 : Int32) : Prop :=
  if v_6 = (-1) then (Q v_3 w_1) else (k_5 (v_3 ||| (1 <<< (v_6 &&& 31))) (v_4 + 1))
def bX5_bestMended_64 (Q : Int32 → (Nat → Int32) → Prop) (w_1 : Nat → Int32) (v_2 : Int32) (k_5 : Int32 → Int32 → Prop) (v_3 : Int32) (v_4 : Int32) (k_12 : Int32 → Int32 → Int32 → Prop) (v_9 : Int32) (v_10 : Int32) (v_11 : Int32) : Prop :=
  if v_2 ≤ v_11 then (jX5_bestMended_111 Q w_1 k_5 v_3 v_4 v_9) else (p_X8_hasBit v_3 v_11 (fun r_14 => if r_14 = 0 then (vp_in v_11 8 ∧ (if (w_1 v_11.toNatClampNeg) ≤ v_10 then (k_12 v_9 v_10 (v_11 + 1)) else (vp_in v_11 8 ∧ (k_12 v_11 (w_1 v_11.toNatClampNeg) (v_11 + 1))))) else (k_12 v_9 v_10 (v_11 + 1))))
def bX5_bestMended_46 (a1_here : Int32) (x2 : Int32) (Q : Int32 → (Nat → Int32) → Prop) (w_1 : Nat → Int32) (v_2 : Int32) (k_5 : Int32 → Int32 → Prop) (v_3 : Int32) (v_4 : Int32) : Prop :=
  if x2 ≤ v_4 then (Q v_3 w_1) else (lq3 (bX5_bestMended_64 Q w_1 v_2 k_5 v_3 v_4) 1000 (-1) 0 a1_here)
def jX5_bestMended_40 (a1_here : Int32) (x2 : Int32) (Q : Int32 → (Nat → Int32) → Prop) (w_1 : Nat → Int32) (v_2 : Int32) : Prop :=
  lq2 (bX5_bestMended_46 a1_here x2 Q w_1 v_2) 1000 0 0
def bX5_bestMended_14 (a1_bends_truth : Nat → Int32) (a1_bends_notes : Nat → Int32) (a1_bends_mud : Nat → Int32) (a1_bends_size : Int32) (a1_kind : Int32) (a1_fog : Int32) (a1_here : Int32) (x2 : Int32) (Q : Int32 → (Nat → Int32) → Prop) (k_19 : (Nat → Int32) → Int32 → Prop) (w_17 : Nat → Int32) (v_18 : Int32) : Prop :=
  if a1_bends_size ≤ v_18 then (jX5_bestMended_40 a1_here x2 Q w_17 a1_bends_size) else (p_X5_savedAt a1_bends_truth a1_bends_notes a1_bends_mud a1_kind a1_fog v_18 (fun r_21 => vp_in v_18 8 ∧ (k_19 (upd w_17 (v_18.toNatClampNeg) r_21) (v_18 + 1))))
def p_X5_bestMended (a0_gains : Nat → Int32) (a1_bends_truth : Nat → Int32) (a1_bends_notes : Nat → Int32) (a1_bends_mud : Nat → Int32) (a1_bends_size : Int32) (a1_kind : Int32) (a1_fog : Int32) (a1_here : Int32) (x2 : Int32) (Q : Int32 → (Nat → Int32) → Prop) : Prop :=
  lq2 (bX5_bestMended_14 a1_bends_truth a1_bends_notes a1_bends_mud a1_bends_size a1_kind a1_fog a1_here x2 Q) 1000 a0_gains a1_here
def rmX5_bestMended : Room := { frames := 4, cells := 0, slots := 0, locals := 97 }
set_option maxHeartbeats 4000000 in
set_option maxRecDepth 100000 in
theorem c_X5_bestMended (l : Launch) (D : va_G) (cI cZ cO : ClassId) (q_a0 q_a0_gains q_a0_alike q_a1 q_a1_bends q_a1_felt q_a1_paces q_a1_past q_a1_bends_yards q_a1_bends_truth q_a1_bends_notes q_a1_bends_words q_a1_bends_mud : Nat) (a0_gains : Nat → Int32) (a1_kind : Int32) (a1_fog : Int32) (a1_here : Int32) (a1_seconds : Int32) (a1_crashes : Int32) (a1_bends_size : Int32) (a1_bends_truth : Nat → Int32) (a1_bends_notes : Nat → Int32) (a1_bends_mud : Nat → Int32) (sz : Nat) (x2 : Int32) (Q : Int32 → (Nat → Int32) → Prop) (hf : p_X5_bestMended a0_gains a1_bends_truth a1_bends_notes a1_bends_mud a1_bends_size a1_kind a1_fog a1_here x2 Q) : Met l yX5_bestMended wsX5_bestMended rmX5_bestMended (va_Pc [.ref q_a0, .ref q_a1, .int x2] (fun U => U.heap.size = sz ∧ va_P D vwCl [(q_a0, .inr (4, [.ref q_a0_gains, .ref q_a0_alike])), (q_a0_gains, .inl (cI, 8, .inl a0_gains)), (q_a1, .inr (5, [.ref q_a1_bends, .ref q_a1_felt, .ref q_a1_paces, .ref q_a1_past, .int a1_kind, .int a1_fog, .int a1_here, .int a1_seconds, .int a1_crashes])), (q_a1_bends, .inr (0, [.ref q_a1_bends_yards, .ref q_a1_bends_truth, .ref q_a1_bends_notes, .ref q_a1_bends_words, .ref q_a1_bends_mud, .int a1_bends_size])), (q_a1_bends_truth, .inl (cI, 8, .inl a1_bends_truth)), (q_a1_bends_notes, .inl (cI, 8, .inl a1_bends_notes)), (q_a1_bends_mud, .inl (cI, 8, .inl a1_bends_mud))] U.heap ∧ XK D cI cZ cO U ∧ va_D (fun _ => True) [(q_a0, .inr (4, [.ref q_a0_gains, .ref q_a0_alike])), (q_a0_gains, .inl (cI, 8, .inl a0_gains)), (q_a1, .inr (5, [.ref q_a1_bends, .ref q_a1_felt, .ref q_a1_paces, .ref q_a1_past, .int a1_kind, .int a1_fog, .int a1_here, .int a1_seconds, .int a1_crashes])), (q_a1_bends, .inr (0, [.ref q_a1_bends_yards, .ref q_a1_bends_truth, .ref q_a1_bends_notes, .ref q_a1_bends_words, .ref q_a1_bends_mud, .int a1_bends_size])), (q_a1_bends_truth, .inl (cI, 8, .inl a1_bends_truth)), (q_a1_bends_notes, .inl (cI, 8, .inl a1_bends_notes)), (q_a1_bends_mud, .inl (cI, 8, .inl a1_bends_mud))])) (va_Qi (fun r (u : (Nat → Int32)) => Q r u) (fun (u : (Nat → Int32)) t => va_P D vwCl [(q_a0, .inr (4, [.ref q_a0_gains, .ref q_a0_alike])), (q_a0_gains, .inl (cI, 8, .inl u)), (q_a1, .inr (5, [.ref q_a1_bends, .ref q_a1_felt, .ref q_a1_paces, .ref q_a1_past, .int a1_kind, .int a1_fog, .int a1_here, .int a1_seconds, .int a1_crashes])), (q_a1_bends, .inr (0, [.ref q_a1_bends_yards, .ref q_a1_bends_truth, .ref q_a1_bends_notes, .ref q_a1_bends_words, .ref q_a1_bends_mud, .int a1_bends_size])), (q_a1_bends_truth, .inl (cI, 8, .inl a1_bends_truth)), (q_a1_bends_notes, .inl (cI, 8, .inl a1_bends_notes)), (q_a1_bends_mud, .inl (cI, 8, .inl a1_bends_mud))] t.heap ∧ va_D (va_A [(q_a0, .inr (4, [.ref q_a0_gains, .ref q_a0_alike])), (q_a0_gains, .inl (cI, 8, .inl a0_gains)), (q_a1, .inr (5, [.ref q_a1_bends, .ref q_a1_felt, .ref q_a1_paces, .ref q_a1_past, .int a1_kind, .int a1_fog, .int a1_here, .int a1_seconds, .int a1_crashes])), (q_a1_bends, .inr (0, [.ref q_a1_bends_yards, .ref q_a1_bends_truth, .ref q_a1_bends_notes, .ref q_a1_bends_words, .ref q_a1_bends_mud, .int a1_bends_size])), (q_a1_bends_truth, .inl (cI, 8, .inl a1_bends_truth)), (q_a1_bends_notes, .inl (cI, 8, .inl a1_bends_notes)), (q_a1_bends_mud, .inl (cI, 8, .inl a1_bends_mud))] sz) [(q_a0, .inr (4, [.ref q_a0_gains, .ref q_a0_alike])), (q_a0_gains, .inl (cI, 8, .inl u)), (q_a1, .inr (5, [.ref q_a1_bends, .ref q_a1_felt, .ref q_a1_paces, .ref q_a1_past, .int a1_kind, .int a1_fog, .int a1_here, .int a1_seconds, .int a1_crashes])), (q_a1_bends, .inr (0, [.ref q_a1_bends_yards, .ref q_a1_bends_truth, .ref q_a1_bends_notes, .ref q_a1_bends_words, .ref q_a1_bends_mud, .int a1_bends_size])), (q_a1_bends_truth, .inl (cI, 8, .inl a1_bends_truth)), (q_a1_bends_notes, .inl (cI, 8, .inl a1_bends_notes)), (q_a1_bends_mud, .inl (cI, 8, .inl a1_bends_mud))]) (va_A [(q_a0, .inr (4, [.ref q_a0_gains, .ref q_a0_alike])), (q_a0_gains, .inl (cI, 8, .inl a0_gains)), (q_a1, .inr (5, [.ref q_a1_bends, .ref q_a1_felt, .ref q_a1_paces, .ref q_a1_past, .int a1_kind, .int a1_fog, .int a1_here, .int a1_seconds, .int a1_crashes])), (q_a1_bends, .inr (0, [.ref q_a1_bends_yards, .ref q_a1_bends_truth, .ref q_a1_bends_notes, .ref q_a1_bends_words, .ref q_a1_bends_mud, .int a1_bends_size])), (q_a1_bends_truth, .inl (cI, 8, .inl a1_bends_truth)), (q_a1_bends_notes, .inl (cI, 8, .inl a1_bends_notes)), (q_a1_bends_mud, .inl (cI, 8, .inl a1_bends_mud))] sz)) 0 0 (va_A [(q_a0, .inr (4, [.ref q_a0_gains, .ref q_a0_alike])), (q_a0_gains, .inl (cI, 8, .inl a0_gains)), (q_a1, .inr (5, [.ref q_a1_bends, .ref q_a1_felt, .ref q_a1_paces, .ref q_a1_past, .int a1_kind, .int a1_fog, .int a1_here, .int a1_seconds, .int a1_crashes])), (q_a1_bends, .inr (0, [.ref q_a1_bends_yards, .ref q_a1_bends_truth, .ref q_a1_bends_notes, .ref q_a1_bends_words, .ref q_a1_bends_mud, .int a1_bends_size])), (q_a1_bends_truth, .inl (cI, 8, .inl a1_bends_truth)), (q_a1_bends_notes, .inl (cI, 8, .inl a1_bends_notes)), (q_a1_bends_mud, .inl (cI, 8, .inl a1_bends_mud))] sz) := by
  refine Met.ofW (cc := cX5_bestMended) (maxL := 9) (ret := (some .int)) (by decide) rfl ?_
  intro p e s m args below meth c s₁ B hml hv
  obtain ⟨rfl, hsz, hP, hX, hD0⟩ := hv
  have hK := hX.1
  have hx := B.exec
  have hb := B.bytes
  have hr := B.returns
  have hts := atoms_spec (ws := wsX5_bestMended) B.pre
  have hown : s.vm.findClass RX5 = some m.cls := findClass_of_methodNamed B.named
  have hlocks := B.notSynchronized
  have in_X6 : ∀ w ∈ wsX60, w ∈ wsX5_bestMended := fun _ h => List.mem_cons_of_mem _ (List.mem_append_left _ (List.mem_append_left _ (List.mem_append_right _ h)))
  have in_X5 : ∀ w ∈ wsX50, w ∈ wsX5_bestMended := fun _ h => List.mem_cons_of_mem _ (List.mem_append_right _ h)
  have in_X0 : ∀ w ∈ wsX00, w ∈ wsX5_bestMended := fun _ h => List.mem_cons_of_mem _ (List.mem_append_left _ (List.mem_append_right _ h))
  have kf_30 := hts (.fieldLink RX5 30 "LeftCrest$Stage" "here" "I") (by decide +kernel)
  have ki_X8 := hts (.initialized RX8) (by decide +kernel)
  have ks_X8_hasBit := hts (.static yX8_hasBit) (by decide +kernel)
  have kf_9 := hts (.fieldLink RX5 9 "LeftCrest$Plans" "gains" "[I") (by decide +kernel)
  have kf_18 := hts (.fieldLink RX5 18 "LeftCrest$Stage" "bends" "LLeftCrest$Bends;") (by decide +kernel)
  have kf_24 := hts (.fieldLink RX5 24 "LeftCrest$Bends" "size" "I") (by decide +kernel)
  subst hsz
  have hD := hD0.self (sz := s.heap.size)
  generalize hAe : va_A [(q_a0, .inr (4, [.ref q_a0_gains, .ref q_a0_alike])), (q_a0_gains, .inl (cI, 8, .inl a0_gains)), (q_a1, .inr (5, [.ref q_a1_bends, .ref q_a1_felt, .ref q_a1_paces, .ref q_a1_past, .int a1_kind, .int a1_fog, .int a1_here, .int a1_seconds, .int a1_crashes])), (q_a1_bends, .inr (0, [.ref q_a1_bends_yards, .ref q_a1_bends_truth, .ref q_a1_bends_notes, .ref q_a1_bends_words, .ref q_a1_bends_mud, .int a1_bends_size])), (q_a1_bends_truth, .inl (cI, 8, .inl a1_bends_truth)), (q_a1_bends_notes, .inl (cI, 8, .inl a1_bends_notes)), (q_a1_bends_mud, .inl (cI, 8, .inl a1_bends_mud))] s.heap.size = A at hD ⊢
  have hA : ∀ q : Nat, s.heap.size ≤ q → A q := fun q h => by rw [← hAe]; exact Or.inr h
  have hS : va_S A s.heap s.heap [] := va_S.rf
  have hP : va_P D vwCl [(q_a0, .inr (4, [.ref q_a0_gains, .ref q_a0_alike])), (q_a0_gains, .inl (cI, 8, .inl a0_gains)), (q_a1, .inr (5, [.ref q_a1_bends, .ref q_a1_felt, .ref q_a1_paces, .ref q_a1_past, .int a1_kind, .int a1_fog, .int a1_here, .int a1_seconds, .int a1_crashes])), (q_a1_bends, .inr (0, [.ref q_a1_bends_yards, .ref q_a1_bends_truth, .ref q_a1_bends_notes, .ref q_a1_bends_words, .ref q_a1_bends_mud, .int a1_bends_size])), (q_a1_bends_truth, .inl (cI, 8, .inl a1_bends_truth)), (q_a1_bends_notes, .inl (cI, 8, .inl a1_bends_notes)), (q_a1_bends_mud, .inl (cI, 8, .inl a1_bends_mud))] s.heap := hP
  generalize hQQ : MQ below _ _ s _ _ _ = QQ
  have hl := lv_entry ([.ref q_a0, .ref q_a1, .int x2]) (n := 9) (Nat.le_of_ble_eq_true rfl)
  rw [lg_entry_eq]
  generalize (lg_sl ([.ref q_a0, .ref q_a1, .int x2]) ++ List.replicate (9 - (lg_sl ([.ref q_a0, .ref q_a1, .int x2])).length) Slot.unset).toArray = ls at hl ⊢
  have hl : lv_has ls 9 [(0, .ref q_a0), (1, .ref q_a1), (2, .int x2)] := hl
  have hj_40 : ∀ (w_1 : Nat → Int32) (v_2 : Int32) (H : Heap) (locs : List Loc), jX5_bestMended_40 a1_here x2 Q w_1 v_2 → va_P D vwCl [(q_a0, .inr (4, [.ref q_a0_gains, .ref q_a0_alike])), (q_a0_gains, .inl (cI, 8, .inl w_1)), (q_a1, .inr (5, [.ref q_a1_bends, .ref q_a1_felt, .ref q_a1_paces, .ref q_a1_past, .int a1_kind, .int a1_fog, .int a1_here, .int a1_seconds, .int a1_crashes])), (q_a1_bends, .inr (0, [.ref q_a1_bends_yards, .ref q_a1_bends_truth, .ref q_a1_bends_notes, .ref q_a1_bends_words, .ref q_a1_bends_mud, .int a1_bends_size])), (q_a1_bends_truth, .inl (cI, 8, .inl a1_bends_truth)), (q_a1_bends_notes, .inl (cI, 8, .inl a1_bends_notes)), (q_a1_bends_mud, .inl (cI, 8, .inl a1_bends_mud))] H → va_D A [(q_a0, .inr (4, [.ref q_a0_gains, .ref q_a0_alike])), (q_a0_gains, .inl (cI, 8, .inl w_1)), (q_a1, .inr (5, [.ref q_a1_bends, .ref q_a1_felt, .ref q_a1_paces, .ref q_a1_past, .int a1_kind, .int a1_fog, .int a1_here, .int a1_seconds, .int a1_crashes])), (q_a1_bends, .inr (0, [.ref q_a1_bends_yards, .ref q_a1_bends_truth, .ref q_a1_bends_notes, .ref q_a1_bends_words, .ref q_a1_bends_mud, .int a1_bends_size])), (q_a1_bends_truth, .inl (cI, 8, .inl a1_bends_truth)), (q_a1_bends_notes, .inl (cI, 8, .inl a1_bends_notes)), (q_a1_bends_mud, .inl (cI, 8, .inl a1_bends_mud))] → va_S A s.heap H locs → ∀ ls : Array Slot, lv_has ls 9 [(0, .ref q_a0), (1, .ref q_a1), (2, .int x2), (3, .int v_2)] → W p l e (headSpec wsX5_bestMended rmX5_bestMended).room s m ([.ref q_a0, .ref q_a1, .int x2] : List Value).toArray below meth c H locs 0 0 QQ (F0 m 40 ls []) := by
    intro w_1 v_2 H locs hf hP hD hS ls hl
    unfold jX5_bestMended_40 at hf
    refine lv_iconst (v := 0) hx hb dX5_bestMended_40 (by decide) ?_
    refine lv_istore (lv' := [(4, .int 0), (0, .ref q_a0), (1, .ref q_a1), (2, .int x2), (3, .int v_2)]) hx hb dX5_bestMended_41 hl (by decide) rfl (fun ls hl => ?_)
    refine lv_iconst (v := 0) hx hb dX5_bestMended_43 (by decide) ?_
    refine lv_istore (lv' := [(5, .int 0), (4, .int 0), (0, .ref q_a0), (1, .ref q_a1), (2, .int x2), (3, .int v_2)]) hx hb dX5_bestMended_44 hl (by decide) rfl (fun ls hl => ?_)
    have hlp_46 : ∀ (n_46 : Nat) (v_3 : Int32) (v_4 : Int32) (H : Heap) (locs : List Loc) (ls : Array Slot), lq2 (bX5_bestMended_46 a1_here x2 Q w_1 v_2) n_46 v_3 v_4 → va_P D vwCl [(q_a0, .inr (4, [.ref q_a0_gains, .ref q_a0_alike])), (q_a0_gains, .inl (cI, 8, .inl w_1)), (q_a1, .inr (5, [.ref q_a1_bends, .ref q_a1_felt, .ref q_a1_paces, .ref q_a1_past, .int a1_kind, .int a1_fog, .int a1_here, .int a1_seconds, .int a1_crashes])), (q_a1_bends, .inr (0, [.ref q_a1_bends_yards, .ref q_a1_bends_truth, .ref q_a1_bends_notes, .ref q_a1_bends_words, .ref q_a1_bends_mud, .int a1_bends_size])), (q_a1_bends_truth, .inl (cI, 8, .inl a1_bends_truth)), (q_a1_bends_notes, .inl (cI, 8, .inl a1_bends_notes)), (q_a1_bends_mud, .inl (cI, 8, .inl a1_bends_mud))] H → va_D A [(q_a0, .inr (4, [.ref q_a0_gains, .ref q_a0_alike])), (q_a0_gains, .inl (cI, 8, .inl w_1)), (q_a1, .inr (5, [.ref q_a1_bends, .ref q_a1_felt, .ref q_a1_paces, .ref q_a1_past, .int a1_kind, .int a1_fog, .int a1_here, .int a1_seconds, .int a1_crashes])), (q_a1_bends, .inr (0, [.ref q_a1_bends_yards, .ref q_a1_bends_truth, .ref q_a1_bends_notes, .ref q_a1_bends_words, .ref q_a1_bends_mud, .int a1_bends_size])), (q_a1_bends_truth, .inl (cI, 8, .inl a1_bends_truth)), (q_a1_bends_notes, .inl (cI, 8, .inl a1_bends_notes)), (q_a1_bends_mud, .inl (cI, 8, .inl a1_bends_mud))] → va_S A s.heap H locs → lv_has ls 9 [(0, .ref q_a0), (1, .ref q_a1), (2, .int x2), (3, .int v_2), (4, .int v_3), (5, .int v_4)] → W p l e (headSpec wsX5_bestMended rmX5_bestMended).room s m ([.ref q_a0, .ref q_a1, .int x2] : List Value).toArray below meth c H locs 0 0 QQ (F0 m 46 ls []) := by
      intro n_46
      induction n_46 with
      | zero => intro v_3 v_4 H locs ls hf; exact (lq2_0 hf).elim
      | succ n_46 ih =>
        have ih_46 := ih
        intro v_3 v_4 H locs ls hf hP hD hS hl
        have hj_111 : ∀ (v_6 : Int32) (H : Heap) (locs : List Loc), jX5_bestMended_111 Q w_1 (lq2 (bX5_bestMended_46 a1_here x2 Q w_1 v_2) n_46) v_3 v_4 v_6 → va_P D vwCl [(q_a0, .inr (4, [.ref q_a0_gains, .ref q_a0_alike])), (q_a0_gains, .inl (cI, 8, .inl w_1)), (q_a1, .inr (5, [.ref q_a1_bends, .ref q_a1_felt, .ref q_a1_paces, .ref q_a1_past, .int a1_kind, .int a1_fog, .int a1_here, .int a1_seconds, .int a1_crashes])), (q_a1_bends, .inr (0, [.ref q_a1_bends_yards, .ref q_a1_bends_truth, .ref q_a1_bends_notes, .ref q_a1_bends_words, .ref q_a1_bends_mud, .int a1_bends_size])), (q_a1_bends_truth, .inl (cI, 8, .inl a1_bends_truth)), (q_a1_bends_notes, .inl (cI, 8, .inl a1_bends_notes)), (q_a1_bends_mud, .inl (cI, 8, .inl a1_bends_mud))] H → va_D A [(q_a0, .inr (4, [.ref q_a0_gains, .ref q_a0_alike])), (q_a0_gains, .inl (cI, 8, .inl w_1)), (q_a1, .inr (5, [.ref q_a1_bends, .ref q_a1_felt, .ref q_a1_paces, .ref q_a1_past, .int a1_kind, .int a1_fog, .int a1_here, .int a1_seconds, .int a1_crashes])), (q_a1_bends, .inr (0, [.ref q_a1_bends_yards, .ref q_a1_bends_truth, .ref q_a1_bends_notes, .ref q_a1_bends_words, .ref q_a1_bends_mud, .int a1_bends_size])), (q_a1_bends_truth, .inl (cI, 8, .inl a1_bends_truth)), (q_a1_bends_notes, .inl (cI, 8, .inl a1_bends_notes)), (q_a1_bends_mud, .inl (cI, 8, .inl a1_bends_mud))] → va_S A s.heap H locs → ∀ ls : Array Slot, lv_has ls 9 [(0, .ref q_a0), (1, .ref q_a1), (2, .int x2), (3, .int v_2), (4, .int v_3), (5, .int v_4), (6, .int v_6)] → W p l e (headSpec wsX5_bestMended rmX5_bestMended).room s m ([.ref q_a0, .ref q_a1, .int x2] : List Value).toArray below meth c H locs 0 0 QQ (F0 m 111 ls []) := by
          intro v_6 H locs hf hP hD hS ls hl
          unfold jX5_bestMended_111 at hf
          refine lv_iload hx hb dX5_bestMended_111 (lv_at hl 6 rfl) ?_
          refine lv_iconst (v := (-1)) hx hb dX5_bestMended_113 (by decide) ?_
          refine lv_icmp_ne (tgt := 120) hx hb dX5_bestMended_114 (by decide) (fun c_7 => ?_) (fun c_7 => ?_)
          · have hf := it_f c_7 hf
            refine lv_iload hx hb dX5_bestMended_120 (lv_at hl 4 rfl) ?_
            refine lv_iconst (v := 1) hx hb dX5_bestMended_122 (by decide) ?_
            refine lv_iload hx hb dX5_bestMended_123 (lv_at hl 6 rfl) ?_
            refine lv_ishl hx hb dX5_bestMended_125 ?_
            refine lv_ior hx hb dX5_bestMended_126 ?_
            refine lv_istore (lv' := [(4, .int (v_3 ||| (1 <<< (v_6 &&& 31)))), (0, .ref q_a0), (1, .ref q_a1), (2, .int x2), (3, .int v_2), (5, .int v_4), (6, .int v_6)]) hx hb dX5_bestMended_127 hl (by decide) rfl (fun ls hl => ?_)
            refine lv_iinc (v := v_4 + 1) (lv' := [(5, .int (v_4 + 1)), (4, .int (v_3 ||| (1 <<< (v_6 &&& 31)))), (0, .ref q_a0), (1, .ref q_a1), (2, .int x2), (3, .int v_2), (6, .int v_6)]) hx hb dX5_bestMended_129 hl (k := 5) rfl rfl (by decide) rfl (fun ls hl => ?_)
            refine lv_goto (tgt := 46) hx hb dX5_bestMended_132 (by decide) ?_
            exact ih (v_3 ||| (1 <<< (v_6 &&& 31))) (v_4 + 1) _ _ ls hf (hP.sub [0, 1, 2, 3, 4, 5, 6] rfl) (hD.sub [0, 1, 2, 3, 4, 5, 6] (by decide) rfl) hS (lv_sub hl [2, 3, 4, 5, 1, 0] rfl)
          · have hf := it_t c_7 hf
            refine lv_goto (tgt := 135) hx hb dX5_bestMended_117 (by decide) ?_
            refine lv_iload hx hb dX5_bestMended_135 (lv_at hl 4 rfl) ?_
            subst hQQ
            have hP9 := hP.sub (ws' := [(q_a0, .inr (4, [.ref q_a0_gains, .ref q_a0_alike])), (q_a0_gains, .inl (cI, 8, .inl w_1)), (q_a1, .inr (5, [.ref q_a1_bends, .ref q_a1_felt, .ref q_a1_paces, .ref q_a1_past, .int a1_kind, .int a1_fog, .int a1_here, .int a1_seconds, .int a1_crashes])), (q_a1_bends, .inr (0, [.ref q_a1_bends_yards, .ref q_a1_bends_truth, .ref q_a1_bends_notes, .ref q_a1_bends_words, .ref q_a1_bends_mud, .int a1_bends_size])), (q_a1_bends_truth, .inl (cI, 8, .inl a1_bends_truth)), (q_a1_bends_notes, .inl (cI, 8, .inl a1_bends_notes)), (q_a1_bends_mud, .inl (cI, 8, .inl a1_bends_mud))]) [0, 1, 2, 3, 4, 5, 6] rfl
            have hD9 := hD.sub (ws' := [(q_a0, .inr (4, [.ref q_a0_gains, .ref q_a0_alike])), (q_a0_gains, .inl (cI, 8, .inl w_1)), (q_a1, .inr (5, [.ref q_a1_bends, .ref q_a1_felt, .ref q_a1_paces, .ref q_a1_past, .int a1_kind, .int a1_fog, .int a1_here, .int a1_seconds, .int a1_crashes])), (q_a1_bends, .inr (0, [.ref q_a1_bends_yards, .ref q_a1_bends_truth, .ref q_a1_bends_notes, .ref q_a1_bends_words, .ref q_a1_bends_mud, .int a1_bends_size])), (q_a1_bends_truth, .inl (cI, 8, .inl a1_bends_truth)), (q_a1_bends_notes, .inl (cI, 8, .inl a1_bends_notes)), (q_a1_bends_mud, .inl (cI, 8, .inl a1_bends_mud))]) [0, 1, 2, 3, 4, 5, 6] (by decide) rfl
            exact W.iret hx hb hr (fun t ht hW => ⟨⟨v_3, w_1, rfl, hf, by rw [ht]; exact hP9, hD9⟩, hS.F ht⟩) hS.2.2 dX5_bestMended_137
        have hf := lq2_s hf
        unfold bX5_bestMended_46 at hf
        refine lv_iload hx hb dX5_bestMended_46 (lv_at hl 5 rfl) ?_
        refine lv_iload_n hx hb dX5_bestMended_48 rfl (lv_at hl 2 rfl) ?_
        refine lv_icmp_ge (tgt := 135) hx hb dX5_bestMended_49 (by decide) (fun c_8 => ?_) (fun c_8 => ?_)
        · have hf := it_t c_8 hf
          refine lv_iload hx hb dX5_bestMended_135 (lv_at hl 4 rfl) ?_
          subst hQQ
          have hP9 := hP.sub (ws' := [(q_a0, .inr (4, [.ref q_a0_gains, .ref q_a0_alike])), (q_a0_gains, .inl (cI, 8, .inl w_1)), (q_a1, .inr (5, [.ref q_a1_bends, .ref q_a1_felt, .ref q_a1_paces, .ref q_a1_past, .int a1_kind, .int a1_fog, .int a1_here, .int a1_seconds, .int a1_crashes])), (q_a1_bends, .inr (0, [.ref q_a1_bends_yards, .ref q_a1_bends_truth, .ref q_a1_bends_notes, .ref q_a1_bends_words, .ref q_a1_bends_mud, .int a1_bends_size])), (q_a1_bends_truth, .inl (cI, 8, .inl a1_bends_truth)), (q_a1_bends_notes, .inl (cI, 8, .inl a1_bends_notes)), (q_a1_bends_mud, .inl (cI, 8, .inl a1_bends_mud))]) [0, 1, 2, 3, 4, 5, 6] rfl
          have hD9 := hD.sub (ws' := [(q_a0, .inr (4, [.ref q_a0_gains, .ref q_a0_alike])), (q_a0_gains, .inl (cI, 8, .inl w_1)), (q_a1, .inr (5, [.ref q_a1_bends, .ref q_a1_felt, .ref q_a1_paces, .ref q_a1_past, .int a1_kind, .int a1_fog, .int a1_here, .int a1_seconds, .int a1_crashes])), (q_a1_bends, .inr (0, [.ref q_a1_bends_yards, .ref q_a1_bends_truth, .ref q_a1_bends_notes, .ref q_a1_bends_words, .ref q_a1_bends_mud, .int a1_bends_size])), (q_a1_bends_truth, .inl (cI, 8, .inl a1_bends_truth)), (q_a1_bends_notes, .inl (cI, 8, .inl a1_bends_notes)), (q_a1_bends_mud, .inl (cI, 8, .inl a1_bends_mud))]) [0, 1, 2, 3, 4, 5, 6] (by decide) rfl
          exact W.iret hx hb hr (fun t ht hW => ⟨⟨v_3, w_1, rfl, hf, by rw [ht]; exact hP9, hD9⟩, hS.F ht⟩) hS.2.2 dX5_bestMended_137
        · have hf := it_f c_8 hf
          refine lv_iconst (v := (-1)) hx hb dX5_bestMended_52 (by decide) ?_
          refine lv_istore (lv' := [(6, .int (-1)), (0, .ref q_a0), (1, .ref q_a1), (2, .int x2), (3, .int v_2), (4, .int v_3), (5, .int v_4)]) hx hb dX5_bestMended_53 hl (by decide) rfl (fun ls hl => ?_)
          refine lv_iconst (v := 0) hx hb dX5_bestMended_55 (by decide) ?_
          refine lv_istore (lv' := [(7, .int 0), (6, .int (-1)), (0, .ref q_a0), (1, .ref q_a1), (2, .int x2), (3, .int v_2), (4, .int v_3), (5, .int v_4)]) hx hb dX5_bestMended_56 hl (by decide) rfl (fun ls hl => ?_)
          refine lv_aload_n hx hb dX5_bestMended_58 rfl (lv_at hl 3 rfl) ?_
          refine va_get (D := D) (ci := 5) (v := .int a1_here) (C := RX6) (T := TX6) (N := 9) hx hb hts in_X6 hown hK hP 2 rfl rfl 6 (by decide) kf_30 (fun _ h9 => h9) rfl dX5_bestMended_59 ?_
          refine lv_istore (lv' := [(8, .int a1_here), (7, .int 0), (6, .int (-1)), (0, .ref q_a0), (1, .ref q_a1), (2, .int x2), (3, .int v_2), (4, .int v_3), (5, .int v_4)]) hx hb dX5_bestMended_62 hl (by decide) rfl (fun ls hl => ?_)
          have hlp_64 : ∀ (n_64 : Nat) (v_9 : Int32) (v_10 : Int32) (v_11 : Int32) (H : Heap) (locs : List Loc) (ls : Array Slot), lq3 (bX5_bestMended_64 Q w_1 v_2 (lq2 (bX5_bestMended_46 a1_here x2 Q w_1 v_2) n_46) v_3 v_4) n_64 v_9 v_10 v_11 → va_P D vwCl [(q_a0, .inr (4, [.ref q_a0_gains, .ref q_a0_alike])), (q_a0_gains, .inl (cI, 8, .inl w_1)), (q_a1, .inr (5, [.ref q_a1_bends, .ref q_a1_felt, .ref q_a1_paces, .ref q_a1_past, .int a1_kind, .int a1_fog, .int a1_here, .int a1_seconds, .int a1_crashes])), (q_a1_bends, .inr (0, [.ref q_a1_bends_yards, .ref q_a1_bends_truth, .ref q_a1_bends_notes, .ref q_a1_bends_words, .ref q_a1_bends_mud, .int a1_bends_size])), (q_a1_bends_truth, .inl (cI, 8, .inl a1_bends_truth)), (q_a1_bends_notes, .inl (cI, 8, .inl a1_bends_notes)), (q_a1_bends_mud, .inl (cI, 8, .inl a1_bends_mud))] H → va_D A [(q_a0, .inr (4, [.ref q_a0_gains, .ref q_a0_alike])), (q_a0_gains, .inl (cI, 8, .inl w_1)), (q_a1, .inr (5, [.ref q_a1_bends, .ref q_a1_felt, .ref q_a1_paces, .ref q_a1_past, .int a1_kind, .int a1_fog, .int a1_here, .int a1_seconds, .int a1_crashes])), (q_a1_bends, .inr (0, [.ref q_a1_bends_yards, .ref q_a1_bends_truth, .ref q_a1_bends_notes, .ref q_a1_bends_words, .ref q_a1_bends_mud, .int a1_bends_size])), (q_a1_bends_truth, .inl (cI, 8, .inl a1_bends_truth)), (q_a1_bends_notes, .inl (cI, 8, .inl a1_bends_notes)), (q_a1_bends_mud, .inl (cI, 8, .inl a1_bends_mud))] → va_S A s.heap H locs → lv_has ls 9 [(0, .ref q_a0), (1, .ref q_a1), (2, .int x2), (3, .int v_2), (4, .int v_3), (5, .int v_4), (6, .int v_9), (7, .int v_10), (8, .int v_11)] → W p l e (headSpec wsX5_bestMended rmX5_bestMended).room s m ([.ref q_a0, .ref q_a1, .int x2] : List Value).toArray below meth c H locs 0 0 QQ (F0 m 64 ls []) := by
            intro n_64
            induction n_64 with
            | zero => intro v_9 v_10 v_11 H locs ls hf; exact (lq3_0 hf).elim
            | succ n_64 ih =>
              have ih_64 := ih
              intro v_9 v_10 v_11 H locs ls hf hP hD hS hl
              have hf := lq3_s hf
              unfold bX5_bestMended_64 at hf
              refine lv_iload hx hb dX5_bestMended_64 (lv_at hl 8 rfl) ?_
              refine lv_iload_n hx hb dX5_bestMended_66 rfl (lv_at hl 3 rfl) ?_
              refine lv_icmp_ge (tgt := 111) hx hb dX5_bestMended_67 (by decide) (fun c_13 => ?_) (fun c_13 => ?_)
              · have hf := it_t c_13 hf
                exact hj_111 v_9 _ _ hf (hP.sub [0, 1, 2, 3, 4, 5, 6] rfl) (hD.sub [0, 1, 2, 3, 4, 5, 6] (by decide) rfl) hS ls (lv_sub hl [0, 1, 2, 3, 4, 5, 6] rfl)
              · have hf := it_f c_13 hf
                refine lv_iload hx hb dX5_bestMended_70 (lv_at hl 4 rfl) ?_
                refine lv_iload hx hb dX5_bestMended_72 (lv_at hl 8 rfl) ?_
                refine ya_csi (va_runSN (As := [.int v_3, .int v_11]) (rest := []) ⟨hx, hb, hml, hown, hts⟩ (c_X8_hasBit l D cI cZ cO  v_3 v_11 _ hf) (⟨va_cnB 2 hts gX5_bestMended_X8_hasBit_n37 rfl rfl rfl hX.n_X5_37 ki_X8 (by decide +kernel) ⟨Nat.le_of_ble_eq_true rfl, Nat.le_of_ble_eq_true rfl⟩, ks_X8_hasBit, trivial⟩) (ps_ro va_P0 hX) rfl rfl hl.1 rfl (lv_room (Nat.le_of_ble_eq_true rfl)) dX5_bestMended_74 ⟨Nat.zero_le _, Nat.zero_le _⟩) (fun r_14 hf => ?_)
                refine lv_if_ne (tgt := 105) hx hb dX5_bestMended_77 (by decide) (fun c_15 => ?_) (fun c_15 => ?_)
                · have hf := it_f c_15 hf
                  refine lv_iinc (v := v_11 + 1) (lv' := [(8, .int (v_11 + 1)), (0, .ref q_a0), (1, .ref q_a1), (2, .int x2), (3, .int v_2), (4, .int v_3), (5, .int v_4), (6, .int v_9), (7, .int v_10)]) hx hb dX5_bestMended_105 hl (k := 8) rfl rfl (by decide) rfl (fun ls hl => ?_)
                  refine lv_goto (tgt := 64) hx hb dX5_bestMended_108 (by decide) ?_
                  exact ih v_9 v_10 (v_11 + 1) _ _ ls hf (hP.sub [0, 1, 2, 3, 4, 5, 6] rfl) (hD.sub [0, 1, 2, 3, 4, 5, 6] (by decide) rfl) hS (lv_sub hl [1, 2, 3, 4, 5, 6, 7, 8, 0] rfl)
                · have hf := it_t c_15 hf
                  refine lv_aload_n hx hb dX5_bestMended_80 rfl (lv_at hl 0 rfl) ?_
                  refine va_get (D := D) (ci := 4) (v := .ref q_a0_gains) (C := RX5) (T := TX5) (N := 2) hx hb hts in_X5 hown hK hP 0 rfl rfl 0 (by decide) kf_9 (fun _ h9 => h9) rfl dX5_bestMended_81 ?_
                  refine lv_iload hx hb dX5_bestMended_84 (lv_at hl 8 rfl) ?_
                  refine va_iald hx hb hK hP 1 0 rfl rfl hf.1 dX5_bestMended_86 ?_
                  have hf := hf.2
                  refine lv_iload hx hb dX5_bestMended_87 (lv_at hl 7 rfl) ?_
                  refine lv_icmp_le (tgt := 105) hx hb dX5_bestMended_89 (by decide) (fun c_16 => ?_) (fun c_16 => ?_)
                  · have hf := it_t c_16 hf
                    refine lv_iinc (v := v_11 + 1) (lv' := [(8, .int (v_11 + 1)), (0, .ref q_a0), (1, .ref q_a1), (2, .int x2), (3, .int v_2), (4, .int v_3), (5, .int v_4), (6, .int v_9), (7, .int v_10)]) hx hb dX5_bestMended_105 hl (k := 8) rfl rfl (by decide) rfl (fun ls hl => ?_)
                    refine lv_goto (tgt := 64) hx hb dX5_bestMended_108 (by decide) ?_
                    exact ih v_9 v_10 (v_11 + 1) _ _ ls hf (hP.sub [0, 1, 2, 3, 4, 5, 6] rfl) (hD.sub [0, 1, 2, 3, 4, 5, 6] (by decide) rfl) hS (lv_sub hl [1, 2, 3, 4, 5, 6, 7, 8, 0] rfl)
                  · have hf := it_f c_16 hf
                    refine lv_iload hx hb dX5_bestMended_92 (lv_at hl 8 rfl) ?_
                    refine lv_istore (lv' := [(6, .int v_11), (0, .ref q_a0), (1, .ref q_a1), (2, .int x2), (3, .int v_2), (4, .int v_3), (5, .int v_4), (7, .int v_10), (8, .int v_11)]) hx hb dX5_bestMended_94 hl (by decide) rfl (fun ls hl => ?_)
                    refine lv_aload_n hx hb dX5_bestMended_96 rfl (lv_at hl 1 rfl) ?_
                    refine va_get (D := D) (ci := 4) (v := .ref q_a0_gains) (C := RX5) (T := TX5) (N := 2) hx hb hts in_X5 hown hK hP 0 rfl rfl 0 (by decide) kf_9 (fun _ h9 => h9) rfl dX5_bestMended_97 ?_
                    refine lv_iload hx hb dX5_bestMended_100 (lv_at hl 8 rfl) ?_
                    refine va_iald hx hb hK hP 1 0 rfl rfl hf.1 dX5_bestMended_102 ?_
                    have hf := hf.2
                    refine lv_istore (lv' := [(7, .int (w_1 v_11.toNatClampNeg)), (6, .int v_11), (0, .ref q_a0), (1, .ref q_a1), (2, .int x2), (3, .int v_2), (4, .int v_3), (5, .int v_4), (8, .int v_11)]) hx hb dX5_bestMended_103 hl (by decide) rfl (fun ls hl => ?_)
                    refine lv_iinc (v := v_11 + 1) (lv' := [(8, .int (v_11 + 1)), (7, .int (w_1 v_11.toNatClampNeg)), (6, .int v_11), (0, .ref q_a0), (1, .ref q_a1), (2, .int x2), (3, .int v_2), (4, .int v_3), (5, .int v_4)]) hx hb dX5_bestMended_105 hl (k := 8) rfl rfl (by decide) rfl (fun ls hl => ?_)
                    refine lv_goto (tgt := 64) hx hb dX5_bestMended_108 (by decide) ?_
                    exact ih v_11 (w_1 v_11.toNatClampNeg) (v_11 + 1) _ _ ls hf (hP.sub [0, 1, 2, 3, 4, 5, 6] rfl) (hD.sub [0, 1, 2, 3, 4, 5, 6] (by decide) rfl) hS (lv_sub hl [3, 4, 5, 6, 7, 8, 2, 1, 0] rfl)
          exact hlp_64 1000 (-1) 0 a1_here _ _ ls hf (hP.sub [0, 1, 2, 3, 4, 5, 6] rfl) (hD.sub [0, 1, 2, 3, 4, 5, 6] (by decide) rfl) hS (lv_sub hl [3, 4, 5, 6, 7, 8, 2, 1, 0] rfl)
    exact hlp_46 1000 0 0 _ _ ls hf (hP.sub [0, 1, 2, 3, 4, 5, 6] rfl) (hD.sub [0, 1, 2, 3, 4, 5, 6] (by decide) rfl) hS (lv_sub hl [2, 3, 4, 5, 1, 0] rfl)
  unfold p_X5_bestMended at hf
  refine lv_aload_n hx hb dX5_bestMended_0 rfl (lv_at hl 1 rfl) ?_
  refine va_get (D := D) (ci := 5) (v := .ref q_a1_bends) (C := RX6) (T := TX6) (N := 9) hx hb hts in_X6 hown hK hP 2 rfl rfl 0 (by decide) kf_18 (fun _ h9 => h9) rfl dX5_bestMended_1 ?_
  refine va_get (D := D) (ci := 0) (v := .int a1_bends_size) (C := RX0) (T := TX0) (N := 6) hx hb hts in_X0 hown hK hP 3 rfl rfl 5 (by decide) kf_24 (fun _ h9 => h9) rfl dX5_bestMended_4 ?_
  refine lv_istore_n (lv' := [(3, .int a1_bends_size), (0, .ref q_a0), (1, .ref q_a1), (2, .int x2)]) hx hb dX5_bestMended_7 rfl hl (by decide) rfl (fun ls hl => ?_)
  refine lv_aload_n hx hb dX5_bestMended_8 rfl (lv_at hl 2 rfl) ?_
  refine va_get (D := D) (ci := 5) (v := .int a1_here) (C := RX6) (T := TX6) (N := 9) hx hb hts in_X6 hown hK hP 2 rfl rfl 6 (by decide) kf_30 (fun _ h9 => h9) rfl dX5_bestMended_9 ?_
  refine lv_istore (lv' := [(4, .int a1_here), (3, .int a1_bends_size), (0, .ref q_a0), (1, .ref q_a1), (2, .int x2)]) hx hb dX5_bestMended_12 hl (by decide) rfl (fun ls hl => ?_)
  have hlp_14 : ∀ (n_14 : Nat) (w_17 : Nat → Int32) (v_18 : Int32) (H : Heap) (locs : List Loc) (ls : Array Slot), lq2 (bX5_bestMended_14 a1_bends_truth a1_bends_notes a1_bends_mud a1_bends_size a1_kind a1_fog a1_here x2 Q) n_14 w_17 v_18 → va_P D vwCl [(q_a0, .inr (4, [.ref q_a0_gains, .ref q_a0_alike])), (q_a0_gains, .inl (cI, 8, .inl w_17)), (q_a1, .inr (5, [.ref q_a1_bends, .ref q_a1_felt, .ref q_a1_paces, .ref q_a1_past, .int a1_kind, .int a1_fog, .int a1_here, .int a1_seconds, .int a1_crashes])), (q_a1_bends, .inr (0, [.ref q_a1_bends_yards, .ref q_a1_bends_truth, .ref q_a1_bends_notes, .ref q_a1_bends_words, .ref q_a1_bends_mud, .int a1_bends_size])), (q_a1_bends_truth, .inl (cI, 8, .inl a1_bends_truth)), (q_a1_bends_notes, .inl (cI, 8, .inl a1_bends_notes)), (q_a1_bends_mud, .inl (cI, 8, .inl a1_bends_mud))] H → va_D A [(q_a0, .inr (4, [.ref q_a0_gains, .ref q_a0_alike])), (q_a0_gains, .inl (cI, 8, .inl w_17)), (q_a1, .inr (5, [.ref q_a1_bends, .ref q_a1_felt, .ref q_a1_paces, .ref q_a1_past, .int a1_kind, .int a1_fog, .int a1_here, .int a1_seconds, .int a1_crashes])), (q_a1_bends, .inr (0, [.ref q_a1_bends_yards, .ref q_a1_bends_truth, .ref q_a1_bends_notes, .ref q_a1_bends_words, .ref q_a1_bends_mud, .int a1_bends_size])), (q_a1_bends_truth, .inl (cI, 8, .inl a1_bends_truth)), (q_a1_bends_notes, .inl (cI, 8, .inl a1_bends_notes)), (q_a1_bends_mud, .inl (cI, 8, .inl a1_bends_mud))] → va_S A s.heap H locs → lv_has ls 9 [(0, .ref q_a0), (1, .ref q_a1), (2, .int x2), (3, .int a1_bends_size), (4, .int v_18)] → W p l e (headSpec wsX5_bestMended rmX5_bestMended).room s m ([.ref q_a0, .ref q_a1, .int x2] : List Value).toArray below meth c H locs 0 0 QQ (F0 m 14 ls []) := by
    intro n_14
    induction n_14 with
    | zero => intro w_17 v_18 H locs ls hf; exact (lq2_0 hf).elim
    | succ n_14 ih =>
      have ih_14 := ih
      intro w_17 v_18 H locs ls hf hP hD hS hl
      have hf := lq2_s hf
      unfold bX5_bestMended_14 at hf
      refine lv_iload hx hb dX5_bestMended_14 (lv_at hl 4 rfl) ?_
      refine lv_iload_n hx hb dX5_bestMended_16 rfl (lv_at hl 3 rfl) ?_
      refine lv_icmp_ge (tgt := 40) hx hb dX5_bestMended_17 (by decide) (fun c_20 => ?_) (fun c_20 => ?_)
      · have hf := it_t c_20 hf
        exact hj_40 w_17 a1_bends_size _ _ hf (hP.sub [0, 1, 2, 3, 4, 5, 6] rfl) (hD.sub [0, 1, 2, 3, 4, 5, 6] (by decide) rfl) hS ls (lv_sub hl [0, 1, 2, 3] rfl)
      · have hf := it_f c_20 hf
        refine lv_aload_n hx hb dX5_bestMended_20 rfl (lv_at hl 0 rfl) ?_
        refine va_get (D := D) (ci := 4) (v := .ref q_a0_gains) (C := RX5) (T := TX5) (N := 2) hx hb hts in_X5 hown hK hP 0 rfl rfl 0 (by decide) kf_9 (fun _ h9 => h9) rfl dX5_bestMended_21 ?_
        refine lv_iload hx hb dX5_bestMended_24 (lv_at hl 4 rfl) ?_
        refine lv_aload_n hx hb dX5_bestMended_26 rfl (lv_at hl 0 rfl) ?_
        refine lv_aload_n hx hb dX5_bestMended_27 rfl (lv_at hl 1 rfl) ?_
        refine lv_iload hx hb dX5_bestMended_28 (lv_at hl 4 rfl) ?_
        refine ya_csi (va_runV (As := [.ref q_a1, .int v_18]) (rest := [.int v_18, .ref q_a0_gains]) ⟨hx, hb, hml, hown, hts⟩ (c_X5_savedAt l D cI cZ cO q_a0 q_a0_gains q_a0_alike q_a1 q_a1_bends q_a1_felt q_a1_paces q_a1_past q_a1_bends_yards q_a1_bends_truth q_a1_bends_notes q_a1_bends_words q_a1_bends_mud a1_kind a1_fog a1_here a1_seconds a1_crashes a1_bends_size a1_bends_truth a1_bends_notes a1_bends_mud v_18 _ hf) (cwV 2 hts gX5_bestMended_X5_savedAt rfl rfl rfl (by decide +kernel) ⟨Nat.le_of_ble_eq_true rfl, Nat.le_of_ble_eq_true rfl⟩) (pv_ro (ci := 4) (q0 := 0) (hP.sub [0, 2, 3, 4, 5, 6] rfl) hX rfl rfl) rfl rfl hl.1 rfl (lv_room (Nat.le_of_ble_eq_true rfl)) dX5_bestMended_30 ⟨Nat.zero_le _, Nat.zero_le _⟩) (fun r_21 hf => ?_)
        refine va_iast hx hb hK hP hD hS 1 0 rfl rfl hf.1 dX5_bestMended_33 (fun H locs hP hD hS => ?_)
        have hP : va_P D vwCl [(q_a0, .inr (4, [.ref q_a0_gains, .ref q_a0_alike])), (q_a0_gains, .inl (cI, 8, .inl (upd w_17 (v_18.toNatClampNeg) r_21))), (q_a1, .inr (5, [.ref q_a1_bends, .ref q_a1_felt, .ref q_a1_paces, .ref q_a1_past, .int a1_kind, .int a1_fog, .int a1_here, .int a1_seconds, .int a1_crashes])), (q_a1_bends, .inr (0, [.ref q_a1_bends_yards, .ref q_a1_bends_truth, .ref q_a1_bends_notes, .ref q_a1_bends_words, .ref q_a1_bends_mud, .int a1_bends_size])), (q_a1_bends_truth, .inl (cI, 8, .inl a1_bends_truth)), (q_a1_bends_notes, .inl (cI, 8, .inl a1_bends_notes)), (q_a1_bends_mud, .inl (cI, 8, .inl a1_bends_mud))] H := hP
        have hD : va_D A [(q_a0, .inr (4, [.ref q_a0_gains, .ref q_a0_alike])), (q_a0_gains, .inl (cI, 8, .inl (upd w_17 (v_18.toNatClampNeg) r_21))), (q_a1, .inr (5, [.ref q_a1_bends, .ref q_a1_felt, .ref q_a1_paces, .ref q_a1_past, .int a1_kind, .int a1_fog, .int a1_here, .int a1_seconds, .int a1_crashes])), (q_a1_bends, .inr (0, [.ref q_a1_bends_yards, .ref q_a1_bends_truth, .ref q_a1_bends_notes, .ref q_a1_bends_words, .ref q_a1_bends_mud, .int a1_bends_size])), (q_a1_bends_truth, .inl (cI, 8, .inl a1_bends_truth)), (q_a1_bends_notes, .inl (cI, 8, .inl a1_bends_notes)), (q_a1_bends_mud, .inl (cI, 8, .inl a1_bends_mud))] := hD
        have hf := hf.2
        refine lv_iinc (v := v_18 + 1) (lv' := [(4, .int (v_18 + 1)), (0, .ref q_a0), (1, .ref q_a1), (2, .int x2), (3, .int a1_bends_size)]) hx hb dX5_bestMended_34 hl (k := 4) rfl rfl (by decide) rfl (fun ls hl => ?_)
        refine lv_goto (tgt := 14) hx hb dX5_bestMended_37 (by decide) ?_
        exact ih (upd w_17 (v_18.toNatClampNeg) r_21) (v_18 + 1) _ _ ls hf (hP.sub [0, 1, 2, 3, 4, 5, 6] rfl) (hD.sub [0, 1, 2, 3, 4, 5, 6] (by decide) rfl) hS (lv_sub hl [1, 2, 3, 4, 0] rfl)
  exact hlp_14 1000 a0_gains a1_here _ _ ls hf (hP.sub [0, 1, 2, 3, 4, 5, 6] rfl) (hD.sub [0, 1, 2, 3, 4, 5, 6] (by decide) rfl) hS (lv_sub hl [2, 3, 4, 1, 0] rfl)
def bX5_savedBy_8 (a1_bends_truth : Nat → Int32) (a1_bends_notes : Nat → Int32) (a1_bends_mud : Nat → Int32) (a1_bends_size : Int32) (a1_kind : Int32) (a1_fog : Int32) (x2 : Int32) (Q : Int32 → Prop) (k_3 : Int32 → Int32 → Prop) (v_1 : Int32) (v_2 : Int32) : Prop :=
  if a1_bends_size ≤ v_2 then (Q v_1) else (p_X8_hasBit x2 v_2 (fun r_5 => if r_5 = 0 then (k_3 v_1 (v_2 + 1)) else (p_X5_savedAt a1_bends_truth a1_bends_notes a1_bends_mud a1_kind a1_fog v_2 (fun r_7 => k_3 (v_1 + r_7) (v_2 + 1)))))
def p_X5_savedBy (a1_bends_truth : Nat → Int32) (a1_bends_notes : Nat → Int32) (a1_bends_mud : Nat → Int32) (a1_bends_size : Int32) (a1_kind : Int32) (a1_fog : Int32) (a1_here : Int32) (x2 : Int32) (Q : Int32 → Prop) : Prop :=
  lq2 (bX5_savedBy_8 a1_bends_truth a1_bends_notes a1_bends_mud a1_bends_size a1_kind a1_fog x2 Q) 1000 0 a1_here
def rmX5_savedBy : Room := { frames := 4, cells := 0, slots := 0, locals := 97 }
set_option maxHeartbeats 4000000 in
set_option maxRecDepth 100000 in
theorem c_X5_savedBy (l : Launch) (D : va_G) (cI cZ cO : ClassId) (q_a0 q_a0_gains q_a0_alike q_a1 q_a1_bends q_a1_felt q_a1_paces q_a1_past q_a1_bends_yards q_a1_bends_truth q_a1_bends_notes q_a1_bends_words q_a1_bends_mud : Nat) (a1_kind : Int32) (a1_fog : Int32) (a1_here : Int32) (a1_seconds : Int32) (a1_crashes : Int32) (a1_bends_size : Int32) (a1_bends_truth : Nat → Int32) (a1_bends_notes : Nat → Int32) (a1_bends_mud : Nat → Int32) (x2 : Int32) (Q : Int32 → Prop) (hf : p_X5_savedBy a1_bends_truth a1_bends_notes a1_bends_mud a1_bends_size a1_kind a1_fog a1_here x2 Q) : Met l yX5_savedBy wsX5_savedBy rmX5_savedBy (va_Pc [.ref q_a0, .ref q_a1, .int x2] (fun U => va_P D vwCl [(q_a0, .inr (4, [.ref q_a0_gains, .ref q_a0_alike])), (q_a1, .inr (5, [.ref q_a1_bends, .ref q_a1_felt, .ref q_a1_paces, .ref q_a1_past, .int a1_kind, .int a1_fog, .int a1_here, .int a1_seconds, .int a1_crashes])), (q_a1_bends, .inr (0, [.ref q_a1_bends_yards, .ref q_a1_bends_truth, .ref q_a1_bends_notes, .ref q_a1_bends_words, .ref q_a1_bends_mud, .int a1_bends_size])), (q_a1_bends_truth, .inl (cI, 8, .inl a1_bends_truth)), (q_a1_bends_notes, .inl (cI, 8, .inl a1_bends_notes)), (q_a1_bends_mud, .inl (cI, 8, .inl a1_bends_mud))] U.heap ∧ XK D cI cZ cO U)) (vp_Si Q) 0 0 (fun _ => False) := by
  refine Met.ofW (cc := cX5_savedBy) (maxL := 5) (ret := (some .int)) (by decide) rfl ?_
  intro p e s m args below meth c s₁ B hml hv
  obtain ⟨rfl, hP, hX⟩ := hv
  have hK := hX.1
  have hx := B.exec
  have hb := B.bytes
  have hr := B.returns
  have hts := atoms_spec (ws := wsX5_savedBy) B.pre
  have hown : s.vm.findClass RX5 = some m.cls := findClass_of_methodNamed B.named
  have hlocks := B.notSynchronized
  have in_X6 : ∀ w ∈ wsX60, w ∈ wsX5_savedBy := fun _ h => List.mem_cons_of_mem _ (List.mem_append_left _ (List.mem_append_right _ h))
  have in_X0 : ∀ w ∈ wsX00, w ∈ wsX5_savedBy := fun _ h => List.mem_cons_of_mem _ (List.mem_append_right _ h)
  have kf_30 := hts (.fieldLink RX5 30 "LeftCrest$Stage" "here" "I") (by decide +kernel)
  have kf_18 := hts (.fieldLink RX5 18 "LeftCrest$Stage" "bends" "LLeftCrest$Bends;") (by decide +kernel)
  have kf_24 := hts (.fieldLink RX5 24 "LeftCrest$Bends" "size" "I") (by decide +kernel)
  have ki_X8 := hts (.initialized RX8) (by decide +kernel)
  have ks_X8_hasBit := hts (.static yX8_hasBit) (by decide +kernel)
  generalize hQQ : MQ below _ _ s _ _ _ = QQ
  have hl := lv_entry ([.ref q_a0, .ref q_a1, .int x2]) (n := 5) (Nat.le_of_ble_eq_true rfl)
  rw [lg_entry_eq]
  generalize (lg_sl ([.ref q_a0, .ref q_a1, .int x2]) ++ List.replicate (5 - (lg_sl ([.ref q_a0, .ref q_a1, .int x2])).length) Slot.unset).toArray = ls at hl ⊢
  have hl : lv_has ls 5 [(0, .ref q_a0), (1, .ref q_a1), (2, .int x2)] := hl
  unfold p_X5_savedBy at hf
  refine lv_iconst (v := 0) hx hb dX5_savedBy_0 (by decide) ?_
  refine lv_istore_n (lv' := [(3, .int 0), (0, .ref q_a0), (1, .ref q_a1), (2, .int x2)]) hx hb dX5_savedBy_1 rfl hl (by decide) rfl (fun ls hl => ?_)
  refine lv_aload_n hx hb dX5_savedBy_2 rfl (lv_at hl 2 rfl) ?_
  refine va_get (D := D) (ci := 5) (v := .int a1_here) (C := RX6) (T := TX6) (N := 9) hx hb hts in_X6 hown hK hP 1 rfl rfl 6 (by decide) kf_30 (fun _ h9 => h9) rfl dX5_savedBy_3 ?_
  refine lv_istore (lv' := [(4, .int a1_here), (3, .int 0), (0, .ref q_a0), (1, .ref q_a1), (2, .int x2)]) hx hb dX5_savedBy_6 hl (by decide) rfl (fun ls hl => ?_)
  have hlp_8 : ∀ (n_8 : Nat) (v_1 : Int32) (v_2 : Int32) (ls : Array Slot), lq2 (bX5_savedBy_8 a1_bends_truth a1_bends_notes a1_bends_mud a1_bends_size a1_kind a1_fog x2 Q) n_8 v_1 v_2 → lv_has ls 5 [(0, .ref q_a0), (1, .ref q_a1), (2, .int x2), (3, .int v_1), (4, .int v_2)] → W p l e (headSpec wsX5_savedBy rmX5_savedBy).room s m ([.ref q_a0, .ref q_a1, .int x2] : List Value).toArray below meth c s.heap [] 0 0 QQ (F0 m 8 ls []) := by
    intro n_8
    induction n_8 with
    | zero => intro v_1 v_2 ls hf; exact (lq2_0 hf).elim
    | succ n_8 ih =>
      have ih_8 := ih
      intro v_1 v_2 ls hf hl
      have hf := lq2_s hf
      unfold bX5_savedBy_8 at hf
      refine lv_iload hx hb dX5_savedBy_8 (lv_at hl 4 rfl) ?_
      refine lv_aload_n hx hb dX5_savedBy_10 rfl (lv_at hl 1 rfl) ?_
      refine va_get (D := D) (ci := 5) (v := .ref q_a1_bends) (C := RX6) (T := TX6) (N := 9) hx hb hts in_X6 hown hK hP 1 rfl rfl 0 (by decide) kf_18 (fun _ h9 => h9) rfl dX5_savedBy_11 ?_
      refine va_get (D := D) (ci := 0) (v := .int a1_bends_size) (C := RX0) (T := TX0) (N := 6) hx hb hts in_X0 hown hK hP 2 rfl rfl 5 (by decide) kf_24 (fun _ h9 => h9) rfl dX5_savedBy_14 ?_
      refine lv_icmp_ge (tgt := 45) hx hb dX5_savedBy_17 (by decide) (fun c_4 => ?_) (fun c_4 => ?_)
      · have hf := it_t c_4 hf
        refine lv_iload_n hx hb dX5_savedBy_45 rfl (lv_at hl 3 rfl) ?_
        subst hQQ
        exact W.iret hx hb hr (fun t ht hW => ⟨_, rfl, hf, ht⟩) (fun _ h => absurd h List.not_mem_nil) dX5_savedBy_46
      · have hf := it_f c_4 hf
        refine lv_iload_n hx hb dX5_savedBy_20 rfl (lv_at hl 2 rfl) ?_
        refine lv_iload hx hb dX5_savedBy_21 (lv_at hl 4 rfl) ?_
        refine ya_csi (va_runSN (As := [.int x2, .int v_2]) (rest := []) ⟨hx, hb, hml, hown, hts⟩ (c_X8_hasBit l D cI cZ cO  x2 v_2 _ hf) (⟨va_cnB 2 hts gX5_savedBy_X8_hasBit_n37 rfl rfl rfl hX.n_X5_37 ki_X8 (by decide +kernel) ⟨Nat.le_of_ble_eq_true rfl, Nat.le_of_ble_eq_true rfl⟩, ks_X8_hasBit, trivial⟩) (ps_ro va_P0 hX) rfl rfl hl.1 rfl (lv_room (Nat.le_of_ble_eq_true rfl)) dX5_savedBy_23 ⟨Nat.zero_le _, Nat.zero_le _⟩) (fun r_5 hf => ?_)
        refine lv_if_eq (tgt := 39) hx hb dX5_savedBy_26 (by decide) (fun c_6 => ?_) (fun c_6 => ?_)
        · have hf := it_t c_6 hf
          refine lv_iinc (v := v_2 + 1) (lv' := [(4, .int (v_2 + 1)), (0, .ref q_a0), (1, .ref q_a1), (2, .int x2), (3, .int v_1)]) hx hb dX5_savedBy_39 hl (k := 4) rfl rfl (by decide) rfl (fun ls hl => ?_)
          refine lv_goto (tgt := 8) hx hb dX5_savedBy_42 (by decide) ?_
          exact ih v_1 (v_2 + 1) ls hf (lv_sub hl [1, 2, 3, 4, 0] rfl)
        · have hf := it_f c_6 hf
          refine lv_iload_n hx hb dX5_savedBy_29 rfl (lv_at hl 3 rfl) ?_
          refine lv_aload_n hx hb dX5_savedBy_30 rfl (lv_at hl 0 rfl) ?_
          refine lv_aload_n hx hb dX5_savedBy_31 rfl (lv_at hl 1 rfl) ?_
          refine lv_iload hx hb dX5_savedBy_32 (lv_at hl 4 rfl) ?_
          refine ya_csi (va_runV (As := [.ref q_a1, .int v_2]) (rest := [.int v_1]) ⟨hx, hb, hml, hown, hts⟩ (c_X5_savedAt l D cI cZ cO q_a0 q_a0_gains q_a0_alike q_a1 q_a1_bends q_a1_felt q_a1_paces q_a1_past q_a1_bends_yards q_a1_bends_truth q_a1_bends_notes q_a1_bends_words q_a1_bends_mud a1_kind a1_fog a1_here a1_seconds a1_crashes a1_bends_size a1_bends_truth a1_bends_notes a1_bends_mud v_2 _ hf) (cwV 2 hts gX5_savedBy_X5_savedAt rfl rfl rfl (by decide +kernel) ⟨Nat.le_of_ble_eq_true rfl, Nat.le_of_ble_eq_true rfl⟩) (pv_ro (ci := 4) (q0 := 0) (hP.sub [0, 1, 2, 3, 4, 5] rfl) hX rfl rfl) rfl rfl hl.1 rfl (lv_room (Nat.le_of_ble_eq_true rfl)) dX5_savedBy_34 ⟨Nat.zero_le _, Nat.zero_le _⟩) (fun r_7 hf => ?_)
          refine lv_iadd hx hb dX5_savedBy_37 ?_
          refine lv_istore_n (lv' := [(3, .int (v_1 + r_7)), (0, .ref q_a0), (1, .ref q_a1), (2, .int x2), (4, .int v_2)]) hx hb dX5_savedBy_38 rfl hl (by decide) rfl (fun ls hl => ?_)
          refine lv_iinc (v := v_2 + 1) (lv' := [(4, .int (v_2 + 1)), (3, .int (v_1 + r_7)), (0, .ref q_a0), (1, .ref q_a1), (2, .int x2)]) hx hb dX5_savedBy_39 hl (k := 4) rfl rfl (by decide) rfl (fun ls hl => ?_)
          refine lv_goto (tgt := 8) hx hb dX5_savedBy_42 (by decide) ?_
          exact ih (v_1 + r_7) (v_2 + 1) ls hf (lv_sub hl [2, 3, 4, 1, 0] rfl)
  exact hlp_8 1000 0 a1_here ls hf (lv_sub hl [2, 3, 4, 1, 0] rfl)
def bX5_gainSaying_8 (a0_gains : Nat → Int32) (a1_bends_size : Int32) (x2 : Int32) (Q : Int32 → Prop) (k_3 : Int32 → Int32 → Prop) (v_1 : Int32) (v_2 : Int32) : Prop :=
  if a1_bends_size ≤ v_2 then (Q v_1) else (p_X8_hasBit x2 v_2 (fun r_5 => if r_5 = 0 then (k_3 v_1 (v_2 + 1)) else (vp_in v_2 8 ∧ (k_3 (v_1 + (a0_gains v_2.toNatClampNeg)) (v_2 + 1)))))
def p_X5_gainSaying (a0_gains : Nat → Int32) (a1_bends_size : Int32) (a1_here : Int32) (x2 : Int32) (Q : Int32 → Prop) : Prop :=
  lq2 (bX5_gainSaying_8 a0_gains a1_bends_size x2 Q) 1000 0 a1_here
def rmX5_gainSaying : Room := { frames := 1, cells := 0, slots := 0, locals := 21 }
set_option maxHeartbeats 4000000 in
set_option maxRecDepth 100000 in
theorem c_X5_gainSaying (l : Launch) (D : va_G) (cI cZ cO : ClassId) (q_a0 q_a0_gains q_a0_alike q_a1 q_a1_bends q_a1_felt q_a1_paces q_a1_past q_a1_bends_yards q_a1_bends_truth q_a1_bends_notes q_a1_bends_words q_a1_bends_mud : Nat) (a0_gains : Nat → Int32) (a1_kind : Int32) (a1_fog : Int32) (a1_here : Int32) (a1_seconds : Int32) (a1_crashes : Int32) (a1_bends_size : Int32) (x2 : Int32) (Q : Int32 → Prop) (hf : p_X5_gainSaying a0_gains a1_bends_size a1_here x2 Q) : Met l yX5_gainSaying wsX5_gainSaying rmX5_gainSaying (va_Pc [.ref q_a0, .ref q_a1, .int x2] (fun U => va_P D vwCl [(q_a0, .inr (4, [.ref q_a0_gains, .ref q_a0_alike])), (q_a0_gains, .inl (cI, 8, .inl a0_gains)), (q_a1, .inr (5, [.ref q_a1_bends, .ref q_a1_felt, .ref q_a1_paces, .ref q_a1_past, .int a1_kind, .int a1_fog, .int a1_here, .int a1_seconds, .int a1_crashes])), (q_a1_bends, .inr (0, [.ref q_a1_bends_yards, .ref q_a1_bends_truth, .ref q_a1_bends_notes, .ref q_a1_bends_words, .ref q_a1_bends_mud, .int a1_bends_size]))] U.heap ∧ XK D cI cZ cO U)) (vp_Si Q) 0 0 (fun _ => False) := by
  refine Met.ofW (cc := cX5_gainSaying) (maxL := 5) (ret := (some .int)) (by decide) rfl ?_
  intro p e s m args below meth c s₁ B hml hv
  obtain ⟨rfl, hP, hX⟩ := hv
  have hK := hX.1
  have hx := B.exec
  have hb := B.bytes
  have hr := B.returns
  have hts := atoms_spec (ws := wsX5_gainSaying) B.pre
  have hown : s.vm.findClass RX5 = some m.cls := findClass_of_methodNamed B.named
  have hlocks := B.notSynchronized
  have in_X6 : ∀ w ∈ wsX60, w ∈ wsX5_gainSaying := fun _ h => List.mem_cons_of_mem _ (List.mem_append_left _ (List.mem_append_left _ (List.mem_append_right _ h)))
  have in_X0 : ∀ w ∈ wsX00, w ∈ wsX5_gainSaying := fun _ h => List.mem_cons_of_mem _ (List.mem_append_left _ (List.mem_append_right _ h))
  have in_X5 : ∀ w ∈ wsX50, w ∈ wsX5_gainSaying := fun _ h => List.mem_cons_of_mem _ (List.mem_append_right _ h)
  have kf_30 := hts (.fieldLink RX5 30 "LeftCrest$Stage" "here" "I") (by decide +kernel)
  have kf_18 := hts (.fieldLink RX5 18 "LeftCrest$Stage" "bends" "LLeftCrest$Bends;") (by decide +kernel)
  have kf_24 := hts (.fieldLink RX5 24 "LeftCrest$Bends" "size" "I") (by decide +kernel)
  have ki_X8 := hts (.initialized RX8) (by decide +kernel)
  have ks_X8_hasBit := hts (.static yX8_hasBit) (by decide +kernel)
  have kf_9 := hts (.fieldLink RX5 9 "LeftCrest$Plans" "gains" "[I") (by decide +kernel)
  generalize hQQ : MQ below _ _ s _ _ _ = QQ
  have hl := lv_entry ([.ref q_a0, .ref q_a1, .int x2]) (n := 5) (Nat.le_of_ble_eq_true rfl)
  rw [lg_entry_eq]
  generalize (lg_sl ([.ref q_a0, .ref q_a1, .int x2]) ++ List.replicate (5 - (lg_sl ([.ref q_a0, .ref q_a1, .int x2])).length) Slot.unset).toArray = ls at hl ⊢
  have hl : lv_has ls 5 [(0, .ref q_a0), (1, .ref q_a1), (2, .int x2)] := hl
  unfold p_X5_gainSaying at hf
  refine lv_iconst (v := 0) hx hb dX5_gainSaying_0 (by decide) ?_
  refine lv_istore_n (lv' := [(3, .int 0), (0, .ref q_a0), (1, .ref q_a1), (2, .int x2)]) hx hb dX5_gainSaying_1 rfl hl (by decide) rfl (fun ls hl => ?_)
  refine lv_aload_n hx hb dX5_gainSaying_2 rfl (lv_at hl 2 rfl) ?_
  refine va_get (D := D) (ci := 5) (v := .int a1_here) (C := RX6) (T := TX6) (N := 9) hx hb hts in_X6 hown hK hP 2 rfl rfl 6 (by decide) kf_30 (fun _ h9 => h9) rfl dX5_gainSaying_3 ?_
  refine lv_istore (lv' := [(4, .int a1_here), (3, .int 0), (0, .ref q_a0), (1, .ref q_a1), (2, .int x2)]) hx hb dX5_gainSaying_6 hl (by decide) rfl (fun ls hl => ?_)
  have hlp_8 : ∀ (n_8 : Nat) (v_1 : Int32) (v_2 : Int32) (ls : Array Slot), lq2 (bX5_gainSaying_8 a0_gains a1_bends_size x2 Q) n_8 v_1 v_2 → lv_has ls 5 [(0, .ref q_a0), (1, .ref q_a1), (2, .int x2), (3, .int v_1), (4, .int v_2)] → W p l e (headSpec wsX5_gainSaying rmX5_gainSaying).room s m ([.ref q_a0, .ref q_a1, .int x2] : List Value).toArray below meth c s.heap [] 0 0 QQ (F0 m 8 ls []) := by
    intro n_8
    induction n_8 with
    | zero => intro v_1 v_2 ls hf; exact (lq2_0 hf).elim
    | succ n_8 ih =>
      have ih_8 := ih
      intro v_1 v_2 ls hf hl
      have hf := lq2_s hf
      unfold bX5_gainSaying_8 at hf
      refine lv_iload hx hb dX5_gainSaying_8 (lv_at hl 4 rfl) ?_
      refine lv_aload_n hx hb dX5_gainSaying_10 rfl (lv_at hl 1 rfl) ?_
      refine va_get (D := D) (ci := 5) (v := .ref q_a1_bends) (C := RX6) (T := TX6) (N := 9) hx hb hts in_X6 hown hK hP 2 rfl rfl 0 (by decide) kf_18 (fun _ h9 => h9) rfl dX5_gainSaying_11 ?_
      refine va_get (D := D) (ci := 0) (v := .int a1_bends_size) (C := RX0) (T := TX0) (N := 6) hx hb hts in_X0 hown hK hP 3 rfl rfl 5 (by decide) kf_24 (fun _ h9 => h9) rfl dX5_gainSaying_14 ?_
      refine lv_icmp_ge (tgt := 45) hx hb dX5_gainSaying_17 (by decide) (fun c_4 => ?_) (fun c_4 => ?_)
      · have hf := it_t c_4 hf
        refine lv_iload_n hx hb dX5_gainSaying_45 rfl (lv_at hl 3 rfl) ?_
        subst hQQ
        exact W.iret hx hb hr (fun t ht hW => ⟨_, rfl, hf, ht⟩) (fun _ h => absurd h List.not_mem_nil) dX5_gainSaying_46
      · have hf := it_f c_4 hf
        refine lv_iload_n hx hb dX5_gainSaying_20 rfl (lv_at hl 2 rfl) ?_
        refine lv_iload hx hb dX5_gainSaying_21 (lv_at hl 4 rfl) ?_
        refine ya_csi (va_runSN (As := [.int x2, .int v_2]) (rest := []) ⟨hx, hb, hml, hown, hts⟩ (c_X8_hasBit l D cI cZ cO  x2 v_2 _ hf) (⟨va_cnB 2 hts gX5_gainSaying_X8_hasBit_n37 rfl rfl rfl hX.n_X5_37 ki_X8 (by decide +kernel) ⟨Nat.le_of_ble_eq_true rfl, Nat.le_of_ble_eq_true rfl⟩, ks_X8_hasBit, trivial⟩) (ps_ro va_P0 hX) rfl rfl hl.1 rfl (lv_room (Nat.le_of_ble_eq_true rfl)) dX5_gainSaying_23 ⟨Nat.zero_le _, Nat.zero_le _⟩) (fun r_5 hf => ?_)
        refine lv_if_eq (tgt := 39) hx hb dX5_gainSaying_26 (by decide) (fun c_6 => ?_) (fun c_6 => ?_)
        · have hf := it_t c_6 hf
          refine lv_iinc (v := v_2 + 1) (lv' := [(4, .int (v_2 + 1)), (0, .ref q_a0), (1, .ref q_a1), (2, .int x2), (3, .int v_1)]) hx hb dX5_gainSaying_39 hl (k := 4) rfl rfl (by decide) rfl (fun ls hl => ?_)
          refine lv_goto (tgt := 8) hx hb dX5_gainSaying_42 (by decide) ?_
          exact ih v_1 (v_2 + 1) ls hf (lv_sub hl [1, 2, 3, 4, 0] rfl)
        · have hf := it_f c_6 hf
          refine lv_iload_n hx hb dX5_gainSaying_29 rfl (lv_at hl 3 rfl) ?_
          refine lv_aload_n hx hb dX5_gainSaying_30 rfl (lv_at hl 0 rfl) ?_
          refine va_get (D := D) (ci := 4) (v := .ref q_a0_gains) (C := RX5) (T := TX5) (N := 2) hx hb hts in_X5 hown hK hP 0 rfl rfl 0 (by decide) kf_9 (fun _ h9 => h9) rfl dX5_gainSaying_31 ?_
          refine lv_iload hx hb dX5_gainSaying_34 (lv_at hl 4 rfl) ?_
          refine va_iald hx hb hK hP 1 0 rfl rfl hf.1 dX5_gainSaying_36 ?_
          have hf := hf.2
          refine lv_iadd hx hb dX5_gainSaying_37 ?_
          refine lv_istore_n (lv' := [(3, .int (v_1 + (a0_gains v_2.toNatClampNeg))), (0, .ref q_a0), (1, .ref q_a1), (2, .int x2), (4, .int v_2)]) hx hb dX5_gainSaying_38 rfl hl (by decide) rfl (fun ls hl => ?_)
          refine lv_iinc (v := v_2 + 1) (lv' := [(4, .int (v_2 + 1)), (3, .int (v_1 + (a0_gains v_2.toNatClampNeg))), (0, .ref q_a0), (1, .ref q_a1), (2, .int x2)]) hx hb dX5_gainSaying_39 hl (k := 4) rfl rfl (by decide) rfl (fun ls hl => ?_)
          refine lv_goto (tgt := 8) hx hb dX5_gainSaying_42 (by decide) ?_
          exact ih (v_1 + (a0_gains v_2.toNatClampNeg)) (v_2 + 1) ls hf (lv_sub hl [2, 3, 4, 1, 0] rfl)
  exact hlp_8 1000 0 a1_here ls hf (lv_sub hl [2, 3, 4, 1, 0] rfl)
def bX5_hasBreath_12 (a1_bends_yards : Nat → Int32) (a1_bends_words : Nat → Int32) (a1_bends_size : Int32) (x2 : Int32) (x3 : Int32) (Q : Int32 → Prop) (k_4 : Int32 → Int32 → Int32 → Prop) (v_1 : Int32) (v_2 : Int32) (v_3 : Int32) : Prop :=
  if a1_bends_size ≤ v_3 then (Q 1) else (vp_in v_3 8 ∧ (p_X8_hasBit x2 v_3 (fun r_6 => if r_6 = 0 then (k_4 (v_1 + (a1_bends_yards v_3.toNatClampNeg)) v_2 (v_3 + 1)) else (vp_in v_3 8 ∧ (if (v_2 + (a1_bends_words v_3.toNatClampNeg)) ≤ (x3 * (v_1 + (a1_bends_yards v_3.toNatClampNeg))) then (k_4 (v_1 + (a1_bends_yards v_3.toNatClampNeg)) (v_2 + (a1_bends_words v_3.toNatClampNeg)) (v_3 + 1)) else (Q 0))))))
def p_X5_hasBreath (a1_bends_yards : Nat → Int32) (a1_bends_words : Nat → Int32) (a1_bends_size : Int32) (a1_here : Int32) (x2 : Int32) (x3 : Int32) (Q : Int32 → Prop) : Prop :=
  lq3 (bX5_hasBreath_12 a1_bends_yards a1_bends_words a1_bends_size x2 x3 Q) 1000 0 0 a1_here
def rmX5_hasBreath : Room := { frames := 1, cells := 0, slots := 0, locals := 21 }
set_option maxHeartbeats 4000000 in
set_option maxRecDepth 100000 in
theorem c_X5_hasBreath (l : Launch) (D : va_G) (cI cZ cO : ClassId) (q_a0 q_a0_gains q_a0_alike q_a1 q_a1_bends q_a1_felt q_a1_paces q_a1_past q_a1_bends_yards q_a1_bends_truth q_a1_bends_notes q_a1_bends_words q_a1_bends_mud : Nat) (a1_kind : Int32) (a1_fog : Int32) (a1_here : Int32) (a1_seconds : Int32) (a1_crashes : Int32) (a1_bends_size : Int32) (a1_bends_yards : Nat → Int32) (a1_bends_words : Nat → Int32) (x2 : Int32) (x3 : Int32) (Q : Int32 → Prop) (hf : p_X5_hasBreath a1_bends_yards a1_bends_words a1_bends_size a1_here x2 x3 Q) : Met l yX5_hasBreath wsX5_hasBreath rmX5_hasBreath (va_Pc [.ref q_a0, .ref q_a1, .int x2, .int x3] (fun U => va_P D vwCl [(q_a0, .inr (4, [.ref q_a0_gains, .ref q_a0_alike])), (q_a1, .inr (5, [.ref q_a1_bends, .ref q_a1_felt, .ref q_a1_paces, .ref q_a1_past, .int a1_kind, .int a1_fog, .int a1_here, .int a1_seconds, .int a1_crashes])), (q_a1_bends, .inr (0, [.ref q_a1_bends_yards, .ref q_a1_bends_truth, .ref q_a1_bends_notes, .ref q_a1_bends_words, .ref q_a1_bends_mud, .int a1_bends_size])), (q_a1_bends_yards, .inl (cI, 8, .inl a1_bends_yards)), (q_a1_bends_words, .inl (cI, 8, .inl a1_bends_words))] U.heap ∧ XK D cI cZ cO U)) (vp_Si Q) 0 0 (fun _ => False) := by
  refine Met.ofW (cc := cX5_hasBreath) (maxL := 7) (ret := (some .boolean)) (by decide) rfl ?_
  intro p e s m args below meth c s₁ B hml hv
  obtain ⟨rfl, hP, hX⟩ := hv
  have hK := hX.1
  have hx := B.exec
  have hb := B.bytes
  have hr := B.returns
  have hts := atoms_spec (ws := wsX5_hasBreath) B.pre
  have hown : s.vm.findClass RX5 = some m.cls := findClass_of_methodNamed B.named
  have hlocks := B.notSynchronized
  have in_X6 : ∀ w ∈ wsX60, w ∈ wsX5_hasBreath := fun _ h => List.mem_cons_of_mem _ (List.mem_append_left _ (List.mem_append_right _ h))
  have in_X0 : ∀ w ∈ wsX00, w ∈ wsX5_hasBreath := fun _ h => List.mem_cons_of_mem _ (List.mem_append_right _ h)
  have kf_30 := hts (.fieldLink RX5 30 "LeftCrest$Stage" "here" "I") (by decide +kernel)
  have kf_18 := hts (.fieldLink RX5 18 "LeftCrest$Stage" "bends" "LLeftCrest$Bends;") (by decide +kernel)
  have kf_24 := hts (.fieldLink RX5 24 "LeftCrest$Bends" "size" "I") (by decide +kernel)
  have kf_61 := hts (.fieldLink RX5 61 "LeftCrest$Bends" "yards" "[I") (by decide +kernel)
  have ki_X8 := hts (.initialized RX8) (by decide +kernel)
  have ks_X8_hasBit := hts (.static yX8_hasBit) (by decide +kernel)
  have kf_64 := hts (.fieldLink RX5 64 "LeftCrest$Bends" "words" "[I") (by decide +kernel)
  generalize hQQ : MQ below _ _ s _ _ _ = QQ
  have hl := lv_entry ([.ref q_a0, .ref q_a1, .int x2, .int x3]) (n := 7) (Nat.le_of_ble_eq_true rfl)
  rw [lg_entry_eq]
  generalize (lg_sl ([.ref q_a0, .ref q_a1, .int x2, .int x3]) ++ List.replicate (7 - (lg_sl ([.ref q_a0, .ref q_a1, .int x2, .int x3])).length) Slot.unset).toArray = ls at hl ⊢
  have hl : lv_has ls 7 [(0, .ref q_a0), (1, .ref q_a1), (2, .int x2), (3, .int x3)] := hl
  unfold p_X5_hasBreath at hf
  refine lv_iconst (v := 0) hx hb dX5_hasBreath_0 (by decide) ?_
  refine lv_istore (lv' := [(4, .int 0), (0, .ref q_a0), (1, .ref q_a1), (2, .int x2), (3, .int x3)]) hx hb dX5_hasBreath_1 hl (by decide) rfl (fun ls hl => ?_)
  refine lv_iconst (v := 0) hx hb dX5_hasBreath_3 (by decide) ?_
  refine lv_istore (lv' := [(5, .int 0), (4, .int 0), (0, .ref q_a0), (1, .ref q_a1), (2, .int x2), (3, .int x3)]) hx hb dX5_hasBreath_4 hl (by decide) rfl (fun ls hl => ?_)
  refine lv_aload_n hx hb dX5_hasBreath_6 rfl (lv_at hl 3 rfl) ?_
  refine va_get (D := D) (ci := 5) (v := .int a1_here) (C := RX6) (T := TX6) (N := 9) hx hb hts in_X6 hown hK hP 1 rfl rfl 6 (by decide) kf_30 (fun _ h9 => h9) rfl dX5_hasBreath_7 ?_
  refine lv_istore (lv' := [(6, .int a1_here), (5, .int 0), (4, .int 0), (0, .ref q_a0), (1, .ref q_a1), (2, .int x2), (3, .int x3)]) hx hb dX5_hasBreath_10 hl (by decide) rfl (fun ls hl => ?_)
  have hlp_12 : ∀ (n_12 : Nat) (v_1 : Int32) (v_2 : Int32) (v_3 : Int32) (ls : Array Slot), lq3 (bX5_hasBreath_12 a1_bends_yards a1_bends_words a1_bends_size x2 x3 Q) n_12 v_1 v_2 v_3 → lv_has ls 7 [(1, .ref q_a1), (2, .int x2), (3, .int x3), (4, .int v_1), (5, .int v_2), (6, .int v_3)] → W p l e (headSpec wsX5_hasBreath rmX5_hasBreath).room s m ([.ref q_a0, .ref q_a1, .int x2, .int x3] : List Value).toArray below meth c s.heap [] 0 0 QQ (F0 m 12 ls []) := by
    intro n_12
    induction n_12 with
    | zero => intro v_1 v_2 v_3 ls hf; exact (lq3_0 hf).elim
    | succ n_12 ih =>
      have ih_12 := ih
      intro v_1 v_2 v_3 ls hf hl
      have hf := lq3_s hf
      unfold bX5_hasBreath_12 at hf
      refine lv_iload hx hb dX5_hasBreath_12 (lv_at hl 5 rfl) ?_
      refine lv_aload_n hx hb dX5_hasBreath_14 rfl (lv_at hl 0 rfl) ?_
      refine va_get (D := D) (ci := 5) (v := .ref q_a1_bends) (C := RX6) (T := TX6) (N := 9) hx hb hts in_X6 hown hK hP 1 rfl rfl 0 (by decide) kf_18 (fun _ h9 => h9) rfl dX5_hasBreath_15 ?_
      refine va_get (D := D) (ci := 0) (v := .int a1_bends_size) (C := RX0) (T := TX0) (N := 6) hx hb hts in_X0 hown hK hP 2 rfl rfl 5 (by decide) kf_24 (fun _ h9 => h9) rfl dX5_hasBreath_18 ?_
      refine lv_icmp_ge (tgt := 83) hx hb dX5_hasBreath_21 (by decide) (fun c_5 => ?_) (fun c_5 => ?_)
      · have hf := it_t c_5 hf
        refine lv_iconst (v := 1) hx hb dX5_hasBreath_83 (by decide) ?_
        subst hQQ
        exact W.zret hx hb hr rfl (fun t ht hW => ⟨_, rfl, hf, ht⟩) (fun _ h => absurd h List.not_mem_nil) dX5_hasBreath_84
      · have hf := it_f c_5 hf
        refine lv_iload hx hb dX5_hasBreath_24 (lv_at hl 3 rfl) ?_
        refine lv_aload_n hx hb dX5_hasBreath_26 rfl (lv_at hl 0 rfl) ?_
        refine va_get (D := D) (ci := 5) (v := .ref q_a1_bends) (C := RX6) (T := TX6) (N := 9) hx hb hts in_X6 hown hK hP 1 rfl rfl 0 (by decide) kf_18 (fun _ h9 => h9) rfl dX5_hasBreath_27 ?_
        refine va_get (D := D) (ci := 0) (v := .ref q_a1_bends_yards) (C := RX0) (T := TX0) (N := 6) hx hb hts in_X0 hown hK hP 2 rfl rfl 0 (by decide) kf_61 (fun _ h9 => h9) rfl dX5_hasBreath_30 ?_
        refine lv_iload hx hb dX5_hasBreath_33 (lv_at hl 5 rfl) ?_
        refine va_iald hx hb hK hP 3 0 rfl rfl hf.1 dX5_hasBreath_35 ?_
        have hf := hf.2
        refine lv_iadd hx hb dX5_hasBreath_36 ?_
        refine lv_istore (lv' := [(4, .int (v_1 + (a1_bends_yards v_3.toNatClampNeg))), (1, .ref q_a1), (2, .int x2), (3, .int x3), (5, .int v_2), (6, .int v_3)]) hx hb dX5_hasBreath_37 hl (by decide) rfl (fun ls hl => ?_)
        refine lv_iload_n hx hb dX5_hasBreath_39 rfl (lv_at hl 2 rfl) ?_
        refine lv_iload hx hb dX5_hasBreath_40 (lv_at hl 5 rfl) ?_
        refine ya_csi (va_runSN (As := [.int x2, .int v_3]) (rest := []) ⟨hx, hb, hml, hown, hts⟩ (c_X8_hasBit l D cI cZ cO  x2 v_3 _ hf) (⟨va_cnB 2 hts gX5_hasBreath_X8_hasBit_n37 rfl rfl rfl hX.n_X5_37 ki_X8 (by decide +kernel) ⟨Nat.le_of_ble_eq_true rfl, Nat.le_of_ble_eq_true rfl⟩, ks_X8_hasBit, trivial⟩) (ps_ro va_P0 hX) rfl rfl hl.1 rfl (lv_room (Nat.le_of_ble_eq_true rfl)) dX5_hasBreath_42 ⟨Nat.zero_le _, Nat.zero_le _⟩) (fun r_6 hf => ?_)
        refine lv_if_ne (tgt := 51) hx hb dX5_hasBreath_45 (by decide) (fun c_7 => ?_) (fun c_7 => ?_)
        · have hf := it_f c_7 hf
          refine lv_iload hx hb dX5_hasBreath_51 (lv_at hl 4 rfl) ?_
          refine lv_aload_n hx hb dX5_hasBreath_53 rfl (lv_at hl 1 rfl) ?_
          refine va_get (D := D) (ci := 5) (v := .ref q_a1_bends) (C := RX6) (T := TX6) (N := 9) hx hb hts in_X6 hown hK hP 1 rfl rfl 0 (by decide) kf_18 (fun _ h9 => h9) rfl dX5_hasBreath_54 ?_
          refine va_get (D := D) (ci := 0) (v := .ref q_a1_bends_words) (C := RX0) (T := TX0) (N := 6) hx hb hts in_X0 hown hK hP 2 rfl rfl 3 (by decide) kf_64 (fun _ h9 => h9) rfl dX5_hasBreath_57 ?_
          refine lv_iload hx hb dX5_hasBreath_60 (lv_at hl 5 rfl) ?_
          refine va_iald hx hb hK hP 4 0 rfl rfl hf.1 dX5_hasBreath_62 ?_
          have hf := hf.2
          refine lv_iadd hx hb dX5_hasBreath_63 ?_
          refine lv_istore (lv' := [(5, .int (v_2 + (a1_bends_words v_3.toNatClampNeg))), (4, .int (v_1 + (a1_bends_yards v_3.toNatClampNeg))), (1, .ref q_a1), (2, .int x2), (3, .int x3), (6, .int v_3)]) hx hb dX5_hasBreath_64 hl (by decide) rfl (fun ls hl => ?_)
          refine lv_iload hx hb dX5_hasBreath_66 (lv_at hl 0 rfl) ?_
          refine lv_iload_n hx hb dX5_hasBreath_68 rfl (lv_at hl 4 rfl) ?_
          refine lv_iload hx hb dX5_hasBreath_69 (lv_at hl 1 rfl) ?_
          refine lv_imul hx hb dX5_hasBreath_71 ?_
          refine lv_icmp_le (tgt := 77) hx hb dX5_hasBreath_72 (by decide) (fun c_8 => ?_) (fun c_8 => ?_)
          · have hf := it_t c_8 hf
            refine lv_iinc (v := v_3 + 1) (lv' := [(6, .int (v_3 + 1)), (5, .int (v_2 + (a1_bends_words v_3.toNatClampNeg))), (4, .int (v_1 + (a1_bends_yards v_3.toNatClampNeg))), (1, .ref q_a1), (2, .int x2), (3, .int x3)]) hx hb dX5_hasBreath_77 hl (k := 5) rfl rfl (by decide) rfl (fun ls hl => ?_)
            refine lv_goto (tgt := 12) hx hb dX5_hasBreath_80 (by decide) ?_
            exact ih (v_1 + (a1_bends_yards v_3.toNatClampNeg)) (v_2 + (a1_bends_words v_3.toNatClampNeg)) (v_3 + 1) ls hf (lv_sub hl [3, 4, 5, 2, 1, 0] rfl)
          · have hf := it_f c_8 hf
            refine lv_iconst (v := 0) hx hb dX5_hasBreath_75 (by decide) ?_
            subst hQQ
            exact W.zret hx hb hr rfl (fun t ht hW => ⟨_, rfl, hf, ht⟩) (fun _ h => absurd h List.not_mem_nil) dX5_hasBreath_76
        · have hf := it_t c_7 hf
          refine lv_goto (tgt := 77) hx hb dX5_hasBreath_48 (by decide) ?_
          refine lv_iinc (v := v_3 + 1) (lv' := [(6, .int (v_3 + 1)), (4, .int (v_1 + (a1_bends_yards v_3.toNatClampNeg))), (1, .ref q_a1), (2, .int x2), (3, .int x3), (5, .int v_2)]) hx hb dX5_hasBreath_77 hl (k := 5) rfl rfl (by decide) rfl (fun ls hl => ?_)
          refine lv_goto (tgt := 12) hx hb dX5_hasBreath_80 (by decide) ?_
          exact ih (v_1 + (a1_bends_yards v_3.toNatClampNeg)) v_2 (v_3 + 1) ls hf (lv_sub hl [2, 3, 4, 1, 5, 0] rfl)
  exact hlp_12 1000 0 0 a1_here ls hf (lv_sub hl [4, 5, 6, 2, 1, 0] rfl)
def bX5_bestSaid_76 (a1_bends_yards : Nat → Int32) (a1_bends_words : Nat → Int32) (a1_bends_size : Int32) (a1_here : Int32) (x2 : Int32) (Q : Int32 → (Nat → Int32) → Prop) (w_1 : Nat → Int32) (v_2 : Int32) (k_6 : Int32 → Int32 → Int32 → Prop) (v_3 : Int32) (v_4 : Int32) (v_5 : Int32) : Prop :=
  if v_2 < v_5 then (Q v_3 w_1) else (if (v_5 &&& (v_2 ^^^ (-1))) = 0 then (p_X5_gainSaying w_1 a1_bends_size a1_here v_5 (fun r_9 => if r_9 ≤ v_4 then (k_6 v_3 v_4 (v_5 + 1)) else (p_X5_hasBreath a1_bends_yards a1_bends_words a1_bends_size a1_here v_5 x2 (fun r_11 => if r_11 = 0 then (k_6 v_3 v_4 (v_5 + 1)) else (k_6 v_5 r_9 (v_5 + 1)))))) else (k_6 v_3 v_4 (v_5 + 1)))
def jX5_bestSaid_67 (a1_bends_yards : Nat → Int32) (a1_bends_words : Nat → Int32) (a1_bends_size : Int32) (a1_here : Int32) (x2 : Int32) (Q : Int32 → (Nat → Int32) → Prop) (w_1 : Nat → Int32) (v_2 : Int32) : Prop :=
  lq3 (bX5_bestSaid_76 a1_bends_yards a1_bends_words a1_bends_size a1_here x2 Q w_1 v_2) 1000 0 0 1
def bX5_bestSaid_8 (a1_bends_yards : Nat → Int32) (a1_bends_truth : Nat → Int32) (a1_bends_notes : Nat → Int32) (a1_bends_words : Nat → Int32) (a1_bends_mud : Nat → Int32) (a1_bends_size : Int32) (a1_kind : Int32) (a1_fog : Int32) (a1_here : Int32) (x2 : Int32) (Q : Int32 → (Nat → Int32) → Prop) (k_16 : (Nat → Int32) → Int32 → Int32 → Prop) (w_13 : Nat → Int32) (v_14 : Int32) (v_15 : Int32) : Prop :=
  if a1_bends_size ≤ v_15 then (jX5_bestSaid_67 a1_bends_yards a1_bends_words a1_bends_size a1_here x2 Q w_13 v_14) else (p_X6_costAt a1_bends_truth a1_bends_mud a1_kind a1_fog v_15 0 (fun r_18 => p_X6_costNoted a1_bends_truth a1_bends_notes a1_bends_mud a1_kind a1_fog v_15 (fun r_19 => vp_in v_15 8 ∧ (vp_in v_15 8 ∧ (if (a1_bends_notes v_15.toNatClampNeg) = 0 then (k_16 (upd w_13 (v_15.toNatClampNeg) (r_18 - r_19)) v_14 (v_15 + 1)) else (k_16 (upd w_13 (v_15.toNatClampNeg) (r_18 - r_19)) (v_14 ||| (1 <<< (v_15 &&& 31))) (v_15 + 1)))))))
def p_X5_bestSaid (a0_gains : Nat → Int32) (a1_bends_yards : Nat → Int32) (a1_bends_truth : Nat → Int32) (a1_bends_notes : Nat → Int32) (a1_bends_words : Nat → Int32) (a1_bends_mud : Nat → Int32) (a1_bends_size : Int32) (a1_kind : Int32) (a1_fog : Int32) (a1_here : Int32) (x2 : Int32) (Q : Int32 → (Nat → Int32) → Prop) : Prop :=
  lq3 (bX5_bestSaid_8 a1_bends_yards a1_bends_truth a1_bends_notes a1_bends_words a1_bends_mud a1_bends_size a1_kind a1_fog a1_here x2 Q) 1000 a0_gains 0 a1_here
def rmX5_bestSaid : Room := { frames := 3, cells := 0, slots := 0, locals := 72 }
set_option maxHeartbeats 4000000 in
set_option maxRecDepth 100000 in
theorem c_X5_bestSaid (l : Launch) (D : va_G) (cI cZ cO : ClassId) (q_a0 q_a0_gains q_a0_alike q_a1 q_a1_bends q_a1_felt q_a1_paces q_a1_past q_a1_bends_yards q_a1_bends_truth q_a1_bends_notes q_a1_bends_words q_a1_bends_mud : Nat) (a0_gains : Nat → Int32) (a1_kind : Int32) (a1_fog : Int32) (a1_here : Int32) (a1_seconds : Int32) (a1_crashes : Int32) (a1_bends_size : Int32) (a1_bends_yards : Nat → Int32) (a1_bends_truth : Nat → Int32) (a1_bends_notes : Nat → Int32) (a1_bends_words : Nat → Int32) (a1_bends_mud : Nat → Int32) (sz : Nat) (x2 : Int32) (Q : Int32 → (Nat → Int32) → Prop) (hf : p_X5_bestSaid a0_gains a1_bends_yards a1_bends_truth a1_bends_notes a1_bends_words a1_bends_mud a1_bends_size a1_kind a1_fog a1_here x2 Q) : Met l yX5_bestSaid wsX5_bestSaid rmX5_bestSaid (va_Pc [.ref q_a0, .ref q_a1, .int x2] (fun U => U.heap.size = sz ∧ va_P D vwCl [(q_a0, .inr (4, [.ref q_a0_gains, .ref q_a0_alike])), (q_a0_gains, .inl (cI, 8, .inl a0_gains)), (q_a1, .inr (5, [.ref q_a1_bends, .ref q_a1_felt, .ref q_a1_paces, .ref q_a1_past, .int a1_kind, .int a1_fog, .int a1_here, .int a1_seconds, .int a1_crashes])), (q_a1_bends, .inr (0, [.ref q_a1_bends_yards, .ref q_a1_bends_truth, .ref q_a1_bends_notes, .ref q_a1_bends_words, .ref q_a1_bends_mud, .int a1_bends_size])), (q_a1_bends_yards, .inl (cI, 8, .inl a1_bends_yards)), (q_a1_bends_truth, .inl (cI, 8, .inl a1_bends_truth)), (q_a1_bends_notes, .inl (cI, 8, .inl a1_bends_notes)), (q_a1_bends_words, .inl (cI, 8, .inl a1_bends_words)), (q_a1_bends_mud, .inl (cI, 8, .inl a1_bends_mud))] U.heap ∧ XK D cI cZ cO U ∧ va_D (fun _ => True) [(q_a0, .inr (4, [.ref q_a0_gains, .ref q_a0_alike])), (q_a0_gains, .inl (cI, 8, .inl a0_gains)), (q_a1, .inr (5, [.ref q_a1_bends, .ref q_a1_felt, .ref q_a1_paces, .ref q_a1_past, .int a1_kind, .int a1_fog, .int a1_here, .int a1_seconds, .int a1_crashes])), (q_a1_bends, .inr (0, [.ref q_a1_bends_yards, .ref q_a1_bends_truth, .ref q_a1_bends_notes, .ref q_a1_bends_words, .ref q_a1_bends_mud, .int a1_bends_size])), (q_a1_bends_yards, .inl (cI, 8, .inl a1_bends_yards)), (q_a1_bends_truth, .inl (cI, 8, .inl a1_bends_truth)), (q_a1_bends_notes, .inl (cI, 8, .inl a1_bends_notes)), (q_a1_bends_words, .inl (cI, 8, .inl a1_bends_words)), (q_a1_bends_mud, .inl (cI, 8, .inl a1_bends_mud))])) (va_Qi (fun r (u : (Nat → Int32)) => Q r u) (fun (u : (Nat → Int32)) t => va_P D vwCl [(q_a0, .inr (4, [.ref q_a0_gains, .ref q_a0_alike])), (q_a0_gains, .inl (cI, 8, .inl u)), (q_a1, .inr (5, [.ref q_a1_bends, .ref q_a1_felt, .ref q_a1_paces, .ref q_a1_past, .int a1_kind, .int a1_fog, .int a1_here, .int a1_seconds, .int a1_crashes])), (q_a1_bends, .inr (0, [.ref q_a1_bends_yards, .ref q_a1_bends_truth, .ref q_a1_bends_notes, .ref q_a1_bends_words, .ref q_a1_bends_mud, .int a1_bends_size])), (q_a1_bends_yards, .inl (cI, 8, .inl a1_bends_yards)), (q_a1_bends_truth, .inl (cI, 8, .inl a1_bends_truth)), (q_a1_bends_notes, .inl (cI, 8, .inl a1_bends_notes)), (q_a1_bends_words, .inl (cI, 8, .inl a1_bends_words)), (q_a1_bends_mud, .inl (cI, 8, .inl a1_bends_mud))] t.heap ∧ va_D (va_A [(q_a0, .inr (4, [.ref q_a0_gains, .ref q_a0_alike])), (q_a0_gains, .inl (cI, 8, .inl a0_gains)), (q_a1, .inr (5, [.ref q_a1_bends, .ref q_a1_felt, .ref q_a1_paces, .ref q_a1_past, .int a1_kind, .int a1_fog, .int a1_here, .int a1_seconds, .int a1_crashes])), (q_a1_bends, .inr (0, [.ref q_a1_bends_yards, .ref q_a1_bends_truth, .ref q_a1_bends_notes, .ref q_a1_bends_words, .ref q_a1_bends_mud, .int a1_bends_size])), (q_a1_bends_yards, .inl (cI, 8, .inl a1_bends_yards)), (q_a1_bends_truth, .inl (cI, 8, .inl a1_bends_truth)), (q_a1_bends_notes, .inl (cI, 8, .inl a1_bends_notes)), (q_a1_bends_words, .inl (cI, 8, .inl a1_bends_words)), (q_a1_bends_mud, .inl (cI, 8, .inl a1_bends_mud))] sz) [(q_a0, .inr (4, [.ref q_a0_gains, .ref q_a0_alike])), (q_a0_gains, .inl (cI, 8, .inl u)), (q_a1, .inr (5, [.ref q_a1_bends, .ref q_a1_felt, .ref q_a1_paces, .ref q_a1_past, .int a1_kind, .int a1_fog, .int a1_here, .int a1_seconds, .int a1_crashes])), (q_a1_bends, .inr (0, [.ref q_a1_bends_yards, .ref q_a1_bends_truth, .ref q_a1_bends_notes, .ref q_a1_bends_words, .ref q_a1_bends_mud, .int a1_bends_size])), (q_a1_bends_yards, .inl (cI, 8, .inl a1_bends_yards)), (q_a1_bends_truth, .inl (cI, 8, .inl a1_bends_truth)), (q_a1_bends_notes, .inl (cI, 8, .inl a1_bends_notes)), (q_a1_bends_words, .inl (cI, 8, .inl a1_bends_words)), (q_a1_bends_mud, .inl (cI, 8, .inl a1_bends_mud))]) (va_A [(q_a0, .inr (4, [.ref q_a0_gains, .ref q_a0_alike])), (q_a0_gains, .inl (cI, 8, .inl a0_gains)), (q_a1, .inr (5, [.ref q_a1_bends, .ref q_a1_felt, .ref q_a1_paces, .ref q_a1_past, .int a1_kind, .int a1_fog, .int a1_here, .int a1_seconds, .int a1_crashes])), (q_a1_bends, .inr (0, [.ref q_a1_bends_yards, .ref q_a1_bends_truth, .ref q_a1_bends_notes, .ref q_a1_bends_words, .ref q_a1_bends_mud, .int a1_bends_size])), (q_a1_bends_yards, .inl (cI, 8, .inl a1_bends_yards)), (q_a1_bends_truth, .inl (cI, 8, .inl a1_bends_truth)), (q_a1_bends_notes, .inl (cI, 8, .inl a1_bends_notes)), (q_a1_bends_words, .inl (cI, 8, .inl a1_bends_words)), (q_a1_bends_mud, .inl (cI, 8, .inl a1_bends_mud))] sz)) 0 0 (va_A [(q_a0, .inr (4, [.ref q_a0_gains, .ref q_a0_alike])), (q_a0_gains, .inl (cI, 8, .inl a0_gains)), (q_a1, .inr (5, [.ref q_a1_bends, .ref q_a1_felt, .ref q_a1_paces, .ref q_a1_past, .int a1_kind, .int a1_fog, .int a1_here, .int a1_seconds, .int a1_crashes])), (q_a1_bends, .inr (0, [.ref q_a1_bends_yards, .ref q_a1_bends_truth, .ref q_a1_bends_notes, .ref q_a1_bends_words, .ref q_a1_bends_mud, .int a1_bends_size])), (q_a1_bends_yards, .inl (cI, 8, .inl a1_bends_yards)), (q_a1_bends_truth, .inl (cI, 8, .inl a1_bends_truth)), (q_a1_bends_notes, .inl (cI, 8, .inl a1_bends_notes)), (q_a1_bends_words, .inl (cI, 8, .inl a1_bends_words)), (q_a1_bends_mud, .inl (cI, 8, .inl a1_bends_mud))] sz) := by
  refine Met.ofW (cc := cX5_bestSaid) (maxL := 8) (ret := (some .int)) (by decide) rfl ?_
  intro p e s m args below meth c s₁ B hml hv
  obtain ⟨rfl, hsz, hP, hX, hD0⟩ := hv
  have hK := hX.1
  have hx := B.exec
  have hb := B.bytes
  have hr := B.returns
  have hts := atoms_spec (ws := wsX5_bestSaid) B.pre
  have hown : s.vm.findClass RX5 = some m.cls := findClass_of_methodNamed B.named
  have hlocks := B.notSynchronized
  have in_X6 : ∀ w ∈ wsX60, w ∈ wsX5_bestSaid := fun _ h => List.mem_cons_of_mem _ (List.mem_append_left _ (List.mem_append_left _ (List.mem_append_right _ h)))
  have in_X0 : ∀ w ∈ wsX00, w ∈ wsX5_bestSaid := fun _ h => List.mem_cons_of_mem _ (List.mem_append_left _ (List.mem_append_right _ h))
  have in_X5 : ∀ w ∈ wsX50, w ∈ wsX5_bestSaid := fun _ h => List.mem_cons_of_mem _ (List.mem_append_right _ h)
  have kf_30 := hts (.fieldLink RX5 30 "LeftCrest$Stage" "here" "I") (by decide +kernel)
  have kf_18 := hts (.fieldLink RX5 18 "LeftCrest$Stage" "bends" "LLeftCrest$Bends;") (by decide +kernel)
  have kf_24 := hts (.fieldLink RX5 24 "LeftCrest$Bends" "size" "I") (by decide +kernel)
  have kf_9 := hts (.fieldLink RX5 9 "LeftCrest$Plans" "gains" "[I") (by decide +kernel)
  have kf_51 := hts (.fieldLink RX5 51 "LeftCrest$Bends" "notes" "[I") (by decide +kernel)
  subst hsz
  have hD := hD0.self (sz := s.heap.size)
  generalize hAe : va_A [(q_a0, .inr (4, [.ref q_a0_gains, .ref q_a0_alike])), (q_a0_gains, .inl (cI, 8, .inl a0_gains)), (q_a1, .inr (5, [.ref q_a1_bends, .ref q_a1_felt, .ref q_a1_paces, .ref q_a1_past, .int a1_kind, .int a1_fog, .int a1_here, .int a1_seconds, .int a1_crashes])), (q_a1_bends, .inr (0, [.ref q_a1_bends_yards, .ref q_a1_bends_truth, .ref q_a1_bends_notes, .ref q_a1_bends_words, .ref q_a1_bends_mud, .int a1_bends_size])), (q_a1_bends_yards, .inl (cI, 8, .inl a1_bends_yards)), (q_a1_bends_truth, .inl (cI, 8, .inl a1_bends_truth)), (q_a1_bends_notes, .inl (cI, 8, .inl a1_bends_notes)), (q_a1_bends_words, .inl (cI, 8, .inl a1_bends_words)), (q_a1_bends_mud, .inl (cI, 8, .inl a1_bends_mud))] s.heap.size = A at hD ⊢
  have hA : ∀ q : Nat, s.heap.size ≤ q → A q := fun q h => by rw [← hAe]; exact Or.inr h
  have hS : va_S A s.heap s.heap [] := va_S.rf
  have hP : va_P D vwCl [(q_a0, .inr (4, [.ref q_a0_gains, .ref q_a0_alike])), (q_a0_gains, .inl (cI, 8, .inl a0_gains)), (q_a1, .inr (5, [.ref q_a1_bends, .ref q_a1_felt, .ref q_a1_paces, .ref q_a1_past, .int a1_kind, .int a1_fog, .int a1_here, .int a1_seconds, .int a1_crashes])), (q_a1_bends, .inr (0, [.ref q_a1_bends_yards, .ref q_a1_bends_truth, .ref q_a1_bends_notes, .ref q_a1_bends_words, .ref q_a1_bends_mud, .int a1_bends_size])), (q_a1_bends_yards, .inl (cI, 8, .inl a1_bends_yards)), (q_a1_bends_truth, .inl (cI, 8, .inl a1_bends_truth)), (q_a1_bends_notes, .inl (cI, 8, .inl a1_bends_notes)), (q_a1_bends_words, .inl (cI, 8, .inl a1_bends_words)), (q_a1_bends_mud, .inl (cI, 8, .inl a1_bends_mud))] s.heap := hP
  generalize hQQ : MQ below _ _ s _ _ _ = QQ
  have hl := lv_entry ([.ref q_a0, .ref q_a1, .int x2]) (n := 8) (Nat.le_of_ble_eq_true rfl)
  rw [lg_entry_eq]
  generalize (lg_sl ([.ref q_a0, .ref q_a1, .int x2]) ++ List.replicate (8 - (lg_sl ([.ref q_a0, .ref q_a1, .int x2])).length) Slot.unset).toArray = ls at hl ⊢
  have hl : lv_has ls 8 [(0, .ref q_a0), (1, .ref q_a1), (2, .int x2)] := hl
  have hj_67 : ∀ (w_1 : Nat → Int32) (v_2 : Int32) (H : Heap) (locs : List Loc), jX5_bestSaid_67 a1_bends_yards a1_bends_words a1_bends_size a1_here x2 Q w_1 v_2 → va_P D vwCl [(q_a0, .inr (4, [.ref q_a0_gains, .ref q_a0_alike])), (q_a0_gains, .inl (cI, 8, .inl w_1)), (q_a1, .inr (5, [.ref q_a1_bends, .ref q_a1_felt, .ref q_a1_paces, .ref q_a1_past, .int a1_kind, .int a1_fog, .int a1_here, .int a1_seconds, .int a1_crashes])), (q_a1_bends, .inr (0, [.ref q_a1_bends_yards, .ref q_a1_bends_truth, .ref q_a1_bends_notes, .ref q_a1_bends_words, .ref q_a1_bends_mud, .int a1_bends_size])), (q_a1_bends_yards, .inl (cI, 8, .inl a1_bends_yards)), (q_a1_bends_truth, .inl (cI, 8, .inl a1_bends_truth)), (q_a1_bends_notes, .inl (cI, 8, .inl a1_bends_notes)), (q_a1_bends_words, .inl (cI, 8, .inl a1_bends_words)), (q_a1_bends_mud, .inl (cI, 8, .inl a1_bends_mud))] H → va_D A [(q_a0, .inr (4, [.ref q_a0_gains, .ref q_a0_alike])), (q_a0_gains, .inl (cI, 8, .inl w_1)), (q_a1, .inr (5, [.ref q_a1_bends, .ref q_a1_felt, .ref q_a1_paces, .ref q_a1_past, .int a1_kind, .int a1_fog, .int a1_here, .int a1_seconds, .int a1_crashes])), (q_a1_bends, .inr (0, [.ref q_a1_bends_yards, .ref q_a1_bends_truth, .ref q_a1_bends_notes, .ref q_a1_bends_words, .ref q_a1_bends_mud, .int a1_bends_size])), (q_a1_bends_yards, .inl (cI, 8, .inl a1_bends_yards)), (q_a1_bends_truth, .inl (cI, 8, .inl a1_bends_truth)), (q_a1_bends_notes, .inl (cI, 8, .inl a1_bends_notes)), (q_a1_bends_words, .inl (cI, 8, .inl a1_bends_words)), (q_a1_bends_mud, .inl (cI, 8, .inl a1_bends_mud))] → va_S A s.heap H locs → ∀ ls : Array Slot, lv_has ls 8 [(0, .ref q_a0), (1, .ref q_a1), (2, .int x2), (3, .int v_2)] → W p l e (headSpec wsX5_bestSaid rmX5_bestSaid).room s m ([.ref q_a0, .ref q_a1, .int x2] : List Value).toArray below meth c H locs 0 0 QQ (F0 m 67 ls []) := by
    intro w_1 v_2 H locs hf hP hD hS ls hl
    unfold jX5_bestSaid_67 at hf
    refine lv_iconst (v := 0) hx hb dX5_bestSaid_67 (by decide) ?_
    refine lv_istore (lv' := [(4, .int 0), (0, .ref q_a0), (1, .ref q_a1), (2, .int x2), (3, .int v_2)]) hx hb dX5_bestSaid_68 hl (by decide) rfl (fun ls hl => ?_)
    refine lv_iconst (v := 0) hx hb dX5_bestSaid_70 (by decide) ?_
    refine lv_istore (lv' := [(5, .int 0), (4, .int 0), (0, .ref q_a0), (1, .ref q_a1), (2, .int x2), (3, .int v_2)]) hx hb dX5_bestSaid_71 hl (by decide) rfl (fun ls hl => ?_)
    refine lv_iconst (v := 1) hx hb dX5_bestSaid_73 (by decide) ?_
    refine lv_istore (lv' := [(6, .int 1), (5, .int 0), (4, .int 0), (0, .ref q_a0), (1, .ref q_a1), (2, .int x2), (3, .int v_2)]) hx hb dX5_bestSaid_74 hl (by decide) rfl (fun ls hl => ?_)
    have hlp_76 : ∀ (n_76 : Nat) (v_3 : Int32) (v_4 : Int32) (v_5 : Int32) (H : Heap) (locs : List Loc) (ls : Array Slot), lq3 (bX5_bestSaid_76 a1_bends_yards a1_bends_words a1_bends_size a1_here x2 Q w_1 v_2) n_76 v_3 v_4 v_5 → va_P D vwCl [(q_a0, .inr (4, [.ref q_a0_gains, .ref q_a0_alike])), (q_a0_gains, .inl (cI, 8, .inl w_1)), (q_a1, .inr (5, [.ref q_a1_bends, .ref q_a1_felt, .ref q_a1_paces, .ref q_a1_past, .int a1_kind, .int a1_fog, .int a1_here, .int a1_seconds, .int a1_crashes])), (q_a1_bends, .inr (0, [.ref q_a1_bends_yards, .ref q_a1_bends_truth, .ref q_a1_bends_notes, .ref q_a1_bends_words, .ref q_a1_bends_mud, .int a1_bends_size])), (q_a1_bends_yards, .inl (cI, 8, .inl a1_bends_yards)), (q_a1_bends_truth, .inl (cI, 8, .inl a1_bends_truth)), (q_a1_bends_notes, .inl (cI, 8, .inl a1_bends_notes)), (q_a1_bends_words, .inl (cI, 8, .inl a1_bends_words)), (q_a1_bends_mud, .inl (cI, 8, .inl a1_bends_mud))] H → va_D A [(q_a0, .inr (4, [.ref q_a0_gains, .ref q_a0_alike])), (q_a0_gains, .inl (cI, 8, .inl w_1)), (q_a1, .inr (5, [.ref q_a1_bends, .ref q_a1_felt, .ref q_a1_paces, .ref q_a1_past, .int a1_kind, .int a1_fog, .int a1_here, .int a1_seconds, .int a1_crashes])), (q_a1_bends, .inr (0, [.ref q_a1_bends_yards, .ref q_a1_bends_truth, .ref q_a1_bends_notes, .ref q_a1_bends_words, .ref q_a1_bends_mud, .int a1_bends_size])), (q_a1_bends_yards, .inl (cI, 8, .inl a1_bends_yards)), (q_a1_bends_truth, .inl (cI, 8, .inl a1_bends_truth)), (q_a1_bends_notes, .inl (cI, 8, .inl a1_bends_notes)), (q_a1_bends_words, .inl (cI, 8, .inl a1_bends_words)), (q_a1_bends_mud, .inl (cI, 8, .inl a1_bends_mud))] → va_S A s.heap H locs → lv_has ls 8 [(0, .ref q_a0), (1, .ref q_a1), (2, .int x2), (3, .int v_2), (4, .int v_3), (5, .int v_4), (6, .int v_5)] → W p l e (headSpec wsX5_bestSaid rmX5_bestSaid).room s m ([.ref q_a0, .ref q_a1, .int x2] : List Value).toArray below meth c H locs 0 0 QQ (F0 m 76 ls []) := by
      intro n_76
      induction n_76 with
      | zero => intro v_3 v_4 v_5 H locs ls hf; exact (lq3_0 hf).elim
      | succ n_76 ih =>
        have ih_76 := ih
        intro v_3 v_4 v_5 H locs ls hf hP hD hS hl
        have hf := lq3_s hf
        unfold bX5_bestSaid_76 at hf
        refine lv_iload hx hb dX5_bestSaid_76 (lv_at hl 6 rfl) ?_
        refine lv_iload_n hx hb dX5_bestSaid_78 rfl (lv_at hl 3 rfl) ?_
        refine lv_icmp_gt (tgt := 135) hx hb dX5_bestSaid_79 (by decide) (fun c_7 => ?_) (fun c_7 => ?_)
        · have hf := it_t c_7 hf
          refine lv_iload hx hb dX5_bestSaid_135 (lv_at hl 4 rfl) ?_
          subst hQQ
          have hP9 := hP.sub (ws' := [(q_a0, .inr (4, [.ref q_a0_gains, .ref q_a0_alike])), (q_a0_gains, .inl (cI, 8, .inl w_1)), (q_a1, .inr (5, [.ref q_a1_bends, .ref q_a1_felt, .ref q_a1_paces, .ref q_a1_past, .int a1_kind, .int a1_fog, .int a1_here, .int a1_seconds, .int a1_crashes])), (q_a1_bends, .inr (0, [.ref q_a1_bends_yards, .ref q_a1_bends_truth, .ref q_a1_bends_notes, .ref q_a1_bends_words, .ref q_a1_bends_mud, .int a1_bends_size])), (q_a1_bends_yards, .inl (cI, 8, .inl a1_bends_yards)), (q_a1_bends_truth, .inl (cI, 8, .inl a1_bends_truth)), (q_a1_bends_notes, .inl (cI, 8, .inl a1_bends_notes)), (q_a1_bends_words, .inl (cI, 8, .inl a1_bends_words)), (q_a1_bends_mud, .inl (cI, 8, .inl a1_bends_mud))]) [0, 1, 2, 3, 4, 5, 6, 7, 8] rfl
          have hD9 := hD.sub (ws' := [(q_a0, .inr (4, [.ref q_a0_gains, .ref q_a0_alike])), (q_a0_gains, .inl (cI, 8, .inl w_1)), (q_a1, .inr (5, [.ref q_a1_bends, .ref q_a1_felt, .ref q_a1_paces, .ref q_a1_past, .int a1_kind, .int a1_fog, .int a1_here, .int a1_seconds, .int a1_crashes])), (q_a1_bends, .inr (0, [.ref q_a1_bends_yards, .ref q_a1_bends_truth, .ref q_a1_bends_notes, .ref q_a1_bends_words, .ref q_a1_bends_mud, .int a1_bends_size])), (q_a1_bends_yards, .inl (cI, 8, .inl a1_bends_yards)), (q_a1_bends_truth, .inl (cI, 8, .inl a1_bends_truth)), (q_a1_bends_notes, .inl (cI, 8, .inl a1_bends_notes)), (q_a1_bends_words, .inl (cI, 8, .inl a1_bends_words)), (q_a1_bends_mud, .inl (cI, 8, .inl a1_bends_mud))]) [0, 1, 2, 3, 4, 5, 6, 7, 8] (by decide) rfl
          exact W.iret hx hb hr (fun t ht hW => ⟨⟨v_3, w_1, rfl, hf, by rw [ht]; exact hP9, hD9⟩, hS.F ht⟩) hS.2.2 dX5_bestSaid_137
        · have hf := it_f c_7 hf
          refine lv_iload hx hb dX5_bestSaid_82 (lv_at hl 6 rfl) ?_
          refine lv_iload_n hx hb dX5_bestSaid_84 rfl (lv_at hl 3 rfl) ?_
          refine lv_iconst (v := (-1)) hx hb dX5_bestSaid_85 (by decide) ?_
          refine lv_ixor hx hb dX5_bestSaid_86 ?_
          refine lv_iand hx hb dX5_bestSaid_87 ?_
          refine lv_if_eq (tgt := 94) hx hb dX5_bestSaid_88 (by decide) (fun c_8 => ?_) (fun c_8 => ?_)
          · have hf := it_t c_8 hf
            refine lv_aload_n hx hb dX5_bestSaid_94 rfl (lv_at hl 0 rfl) ?_
            refine lv_aload_n hx hb dX5_bestSaid_95 rfl (lv_at hl 1 rfl) ?_
            refine lv_iload hx hb dX5_bestSaid_96 (lv_at hl 6 rfl) ?_
            refine ya_csi (va_runV (As := [.ref q_a1, .int v_5]) (rest := []) ⟨hx, hb, hml, hown, hts⟩ (c_X5_gainSaying l D cI cZ cO q_a0 q_a0_gains q_a0_alike q_a1 q_a1_bends q_a1_felt q_a1_paces q_a1_past q_a1_bends_yards q_a1_bends_truth q_a1_bends_notes q_a1_bends_words q_a1_bends_mud w_1 a1_kind a1_fog a1_here a1_seconds a1_crashes a1_bends_size v_5 _ hf) (cwV 2 hts gX5_bestSaid_X5_gainSaying rfl rfl rfl (by decide +kernel) ⟨Nat.le_of_ble_eq_true rfl, Nat.le_of_ble_eq_true rfl⟩) (pv_ro (ci := 4) (q0 := 0) (hP.sub [0, 1, 2, 3] rfl) hX rfl rfl) rfl rfl hl.1 rfl (lv_room (Nat.le_of_ble_eq_true rfl)) dX5_bestSaid_98 ⟨Nat.zero_le _, Nat.zero_le _⟩) (fun r_9 hf => ?_)
            refine lv_istore (lv' := [(7, .int r_9), (0, .ref q_a0), (1, .ref q_a1), (2, .int x2), (3, .int v_2), (4, .int v_3), (5, .int v_4), (6, .int v_5)]) hx hb dX5_bestSaid_101 hl (by decide) rfl (fun ls hl => ?_)
            refine lv_iload hx hb dX5_bestSaid_103 (lv_at hl 0 rfl) ?_
            refine lv_iload hx hb dX5_bestSaid_105 (lv_at hl 6 rfl) ?_
            refine lv_icmp_le (tgt := 129) hx hb dX5_bestSaid_107 (by decide) (fun c_10 => ?_) (fun c_10 => ?_)
            · have hf := it_t c_10 hf
              refine lv_iinc (v := v_5 + 1) (lv' := [(6, .int (v_5 + 1)), (7, .int r_9), (0, .ref q_a0), (1, .ref q_a1), (2, .int x2), (3, .int v_2), (4, .int v_3), (5, .int v_4)]) hx hb dX5_bestSaid_129 hl (k := 7) rfl rfl (by decide) rfl (fun ls hl => ?_)
              refine lv_goto (tgt := 76) hx hb dX5_bestSaid_132 (by decide) ?_
              exact ih v_3 v_4 (v_5 + 1) _ _ ls hf (hP.sub [0, 1, 2, 3, 4, 5, 6, 7, 8] rfl) (hD.sub [0, 1, 2, 3, 4, 5, 6, 7, 8] (by decide) rfl) hS (lv_sub hl [2, 3, 4, 5, 6, 7, 0] rfl)
            · have hf := it_f c_10 hf
              refine lv_aload_n hx hb dX5_bestSaid_110 rfl (lv_at hl 1 rfl) ?_
              refine lv_aload_n hx hb dX5_bestSaid_111 rfl (lv_at hl 2 rfl) ?_
              refine lv_iload hx hb dX5_bestSaid_112 (lv_at hl 7 rfl) ?_
              refine lv_iload_n hx hb dX5_bestSaid_114 rfl (lv_at hl 3 rfl) ?_
              refine ya_csi (va_runV (As := [.ref q_a1, .int v_5, .int x2]) (rest := []) ⟨hx, hb, hml, hown, hts⟩ (c_X5_hasBreath l D cI cZ cO q_a0 q_a0_gains q_a0_alike q_a1 q_a1_bends q_a1_felt q_a1_paces q_a1_past q_a1_bends_yards q_a1_bends_truth q_a1_bends_notes q_a1_bends_words q_a1_bends_mud a1_kind a1_fog a1_here a1_seconds a1_crashes a1_bends_size a1_bends_yards a1_bends_words v_5 x2 _ hf) (cwV 3 hts gX5_bestSaid_X5_hasBreath rfl rfl rfl (by decide +kernel) ⟨Nat.le_of_ble_eq_true rfl, Nat.le_of_ble_eq_true rfl⟩) (pv_ro (ci := 4) (q0 := 0) (hP.sub [0, 2, 3, 4, 7] rfl) hX rfl rfl) rfl rfl hl.1 rfl (lv_room (Nat.le_of_ble_eq_true rfl)) dX5_bestSaid_115 ⟨Nat.zero_le _, Nat.zero_le _⟩) (fun r_11 hf => ?_)
              refine lv_if_eq (tgt := 129) hx hb dX5_bestSaid_118 (by decide) (fun c_12 => ?_) (fun c_12 => ?_)
              · have hf := it_t c_12 hf
                refine lv_iinc (v := v_5 + 1) (lv' := [(6, .int (v_5 + 1)), (7, .int r_9), (0, .ref q_a0), (1, .ref q_a1), (2, .int x2), (3, .int v_2), (4, .int v_3), (5, .int v_4)]) hx hb dX5_bestSaid_129 hl (k := 7) rfl rfl (by decide) rfl (fun ls hl => ?_)
                refine lv_goto (tgt := 76) hx hb dX5_bestSaid_132 (by decide) ?_
                exact ih v_3 v_4 (v_5 + 1) _ _ ls hf (hP.sub [0, 1, 2, 3, 4, 5, 6, 7, 8] rfl) (hD.sub [0, 1, 2, 3, 4, 5, 6, 7, 8] (by decide) rfl) hS (lv_sub hl [2, 3, 4, 5, 6, 7, 0] rfl)
              · have hf := it_f c_12 hf
                refine lv_iload hx hb dX5_bestSaid_121 (lv_at hl 7 rfl) ?_
                refine lv_istore (lv' := [(4, .int v_5), (7, .int r_9), (0, .ref q_a0), (1, .ref q_a1), (2, .int x2), (3, .int v_2), (5, .int v_4), (6, .int v_5)]) hx hb dX5_bestSaid_123 hl (by decide) rfl (fun ls hl => ?_)
                refine lv_iload hx hb dX5_bestSaid_125 (lv_at hl 1 rfl) ?_
                refine lv_istore (lv' := [(5, .int r_9), (4, .int v_5), (7, .int r_9), (0, .ref q_a0), (1, .ref q_a1), (2, .int x2), (3, .int v_2), (6, .int v_5)]) hx hb dX5_bestSaid_127 hl (by decide) rfl (fun ls hl => ?_)
                refine lv_iinc (v := v_5 + 1) (lv' := [(6, .int (v_5 + 1)), (5, .int r_9), (4, .int v_5), (7, .int r_9), (0, .ref q_a0), (1, .ref q_a1), (2, .int x2), (3, .int v_2)]) hx hb dX5_bestSaid_129 hl (k := 7) rfl rfl (by decide) rfl (fun ls hl => ?_)
                refine lv_goto (tgt := 76) hx hb dX5_bestSaid_132 (by decide) ?_
                exact ih v_5 r_9 (v_5 + 1) _ _ ls hf (hP.sub [0, 1, 2, 3, 4, 5, 6, 7, 8] rfl) (hD.sub [0, 1, 2, 3, 4, 5, 6, 7, 8] (by decide) rfl) hS (lv_sub hl [4, 5, 6, 7, 2, 1, 0] rfl)
          · have hf := it_f c_8 hf
            refine lv_goto (tgt := 129) hx hb dX5_bestSaid_91 (by decide) ?_
            refine lv_iinc (v := v_5 + 1) (lv' := [(6, .int (v_5 + 1)), (0, .ref q_a0), (1, .ref q_a1), (2, .int x2), (3, .int v_2), (4, .int v_3), (5, .int v_4)]) hx hb dX5_bestSaid_129 hl (k := 6) rfl rfl (by decide) rfl (fun ls hl => ?_)
            refine lv_goto (tgt := 76) hx hb dX5_bestSaid_132 (by decide) ?_
            exact ih v_3 v_4 (v_5 + 1) _ _ ls hf (hP.sub [0, 1, 2, 3, 4, 5, 6, 7, 8] rfl) (hD.sub [0, 1, 2, 3, 4, 5, 6, 7, 8] (by decide) rfl) hS (lv_sub hl [1, 2, 3, 4, 5, 6, 0] rfl)
    exact hlp_76 1000 0 0 1 _ _ ls hf (hP.sub [0, 1, 2, 3, 4, 5, 6, 7, 8] rfl) (hD.sub [0, 1, 2, 3, 4, 5, 6, 7, 8] (by decide) rfl) hS (lv_sub hl [3, 4, 5, 6, 2, 1, 0] rfl)
  unfold p_X5_bestSaid at hf
  refine lv_iconst (v := 0) hx hb dX5_bestSaid_0 (by decide) ?_
  refine lv_istore_n (lv' := [(3, .int 0), (0, .ref q_a0), (1, .ref q_a1), (2, .int x2)]) hx hb dX5_bestSaid_1 rfl hl (by decide) rfl (fun ls hl => ?_)
  refine lv_aload_n hx hb dX5_bestSaid_2 rfl (lv_at hl 2 rfl) ?_
  refine va_get (D := D) (ci := 5) (v := .int a1_here) (C := RX6) (T := TX6) (N := 9) hx hb hts in_X6 hown hK hP 2 rfl rfl 6 (by decide) kf_30 (fun _ h9 => h9) rfl dX5_bestSaid_3 ?_
  refine lv_istore (lv' := [(4, .int a1_here), (3, .int 0), (0, .ref q_a0), (1, .ref q_a1), (2, .int x2)]) hx hb dX5_bestSaid_6 hl (by decide) rfl (fun ls hl => ?_)
  have hlp_8 : ∀ (n_8 : Nat) (w_13 : Nat → Int32) (v_14 : Int32) (v_15 : Int32) (H : Heap) (locs : List Loc) (ls : Array Slot), lq3 (bX5_bestSaid_8 a1_bends_yards a1_bends_truth a1_bends_notes a1_bends_words a1_bends_mud a1_bends_size a1_kind a1_fog a1_here x2 Q) n_8 w_13 v_14 v_15 → va_P D vwCl [(q_a0, .inr (4, [.ref q_a0_gains, .ref q_a0_alike])), (q_a0_gains, .inl (cI, 8, .inl w_13)), (q_a1, .inr (5, [.ref q_a1_bends, .ref q_a1_felt, .ref q_a1_paces, .ref q_a1_past, .int a1_kind, .int a1_fog, .int a1_here, .int a1_seconds, .int a1_crashes])), (q_a1_bends, .inr (0, [.ref q_a1_bends_yards, .ref q_a1_bends_truth, .ref q_a1_bends_notes, .ref q_a1_bends_words, .ref q_a1_bends_mud, .int a1_bends_size])), (q_a1_bends_yards, .inl (cI, 8, .inl a1_bends_yards)), (q_a1_bends_truth, .inl (cI, 8, .inl a1_bends_truth)), (q_a1_bends_notes, .inl (cI, 8, .inl a1_bends_notes)), (q_a1_bends_words, .inl (cI, 8, .inl a1_bends_words)), (q_a1_bends_mud, .inl (cI, 8, .inl a1_bends_mud))] H → va_D A [(q_a0, .inr (4, [.ref q_a0_gains, .ref q_a0_alike])), (q_a0_gains, .inl (cI, 8, .inl w_13)), (q_a1, .inr (5, [.ref q_a1_bends, .ref q_a1_felt, .ref q_a1_paces, .ref q_a1_past, .int a1_kind, .int a1_fog, .int a1_here, .int a1_seconds, .int a1_crashes])), (q_a1_bends, .inr (0, [.ref q_a1_bends_yards, .ref q_a1_bends_truth, .ref q_a1_bends_notes, .ref q_a1_bends_words, .ref q_a1_bends_mud, .int a1_bends_size])), (q_a1_bends_yards, .inl (cI, 8, .inl a1_bends_yards)), (q_a1_bends_truth, .inl (cI, 8, .inl a1_bends_truth)), (q_a1_bends_notes, .inl (cI, 8, .inl a1_bends_notes)), (q_a1_bends_words, .inl (cI, 8, .inl a1_bends_words)), (q_a1_bends_mud, .inl (cI, 8, .inl a1_bends_mud))] → va_S A s.heap H locs → lv_has ls 8 [(0, .ref q_a0), (1, .ref q_a1), (2, .int x2), (3, .int v_14), (4, .int v_15)] → W p l e (headSpec wsX5_bestSaid rmX5_bestSaid).room s m ([.ref q_a0, .ref q_a1, .int x2] : List Value).toArray below meth c H locs 0 0 QQ (F0 m 8 ls []) := by
    intro n_8
    induction n_8 with
    | zero => intro w_13 v_14 v_15 H locs ls hf; exact (lq3_0 hf).elim
    | succ n_8 ih =>
      have ih_8 := ih
      intro w_13 v_14 v_15 H locs ls hf hP hD hS hl
      have hf := lq3_s hf
      unfold bX5_bestSaid_8 at hf
      refine lv_iload hx hb dX5_bestSaid_8 (lv_at hl 4 rfl) ?_
      refine lv_aload_n hx hb dX5_bestSaid_10 rfl (lv_at hl 1 rfl) ?_
      refine va_get (D := D) (ci := 5) (v := .ref q_a1_bends) (C := RX6) (T := TX6) (N := 9) hx hb hts in_X6 hown hK hP 2 rfl rfl 0 (by decide) kf_18 (fun _ h9 => h9) rfl dX5_bestSaid_11 ?_
      refine va_get (D := D) (ci := 0) (v := .int a1_bends_size) (C := RX0) (T := TX0) (N := 6) hx hb hts in_X0 hown hK hP 3 rfl rfl 5 (by decide) kf_24 (fun _ h9 => h9) rfl dX5_bestSaid_14 ?_
      refine lv_icmp_ge (tgt := 67) hx hb dX5_bestSaid_17 (by decide) (fun c_17 => ?_) (fun c_17 => ?_)
      · have hf := it_t c_17 hf
        exact hj_67 w_13 v_14 _ _ hf (hP.sub [0, 1, 2, 3, 4, 5, 6, 7, 8] rfl) (hD.sub [0, 1, 2, 3, 4, 5, 6, 7, 8] (by decide) rfl) hS ls (lv_sub hl [0, 1, 2, 3] rfl)
      · have hf := it_f c_17 hf
        refine lv_aload_n hx hb dX5_bestSaid_20 rfl (lv_at hl 0 rfl) ?_
        refine va_get (D := D) (ci := 4) (v := .ref q_a0_gains) (C := RX5) (T := TX5) (N := 2) hx hb hts in_X5 hown hK hP 0 rfl rfl 0 (by decide) kf_9 (fun _ h9 => h9) rfl dX5_bestSaid_21 ?_
        refine lv_iload hx hb dX5_bestSaid_24 (lv_at hl 4 rfl) ?_
        refine lv_aload_n hx hb dX5_bestSaid_26 rfl (lv_at hl 1 rfl) ?_
        refine lv_iload hx hb dX5_bestSaid_27 (lv_at hl 4 rfl) ?_
        refine lv_iconst (v := 0) hx hb dX5_bestSaid_29 (by decide) ?_
        refine ya_csi (va_runV (As := [.int v_15, .int 0]) (rest := [.int v_15, .ref q_a0_gains]) ⟨hx, hb, hml, hown, hts⟩ (c_X6_costAt l D cI cZ cO q_a1 q_a1_bends q_a1_felt q_a1_paces q_a1_past q_a1_bends_yards q_a1_bends_truth q_a1_bends_notes q_a1_bends_words q_a1_bends_mud a1_kind a1_fog a1_here a1_seconds a1_crashes a1_bends_size a1_bends_truth a1_bends_mud v_15 0 _ hf) (cwV 2 hts gX5_bestSaid_X6_costAt rfl rfl rfl (by decide +kernel) ⟨Nat.le_of_ble_eq_true rfl, Nat.le_of_ble_eq_true rfl⟩) (pv_ro (ci := 5) (q0 := 0) (hP.sub [2, 3, 5, 8] rfl) hX rfl rfl) rfl rfl hl.1 rfl (lv_room (Nat.le_of_ble_eq_true rfl)) dX5_bestSaid_30 ⟨Nat.zero_le _, Nat.zero_le _⟩) (fun r_18 hf => ?_)
        refine lv_aload_n hx hb dX5_bestSaid_33 rfl (lv_at hl 1 rfl) ?_
        refine lv_iload hx hb dX5_bestSaid_34 (lv_at hl 4 rfl) ?_
        refine ya_csi (va_runV (As := [.int v_15]) (rest := [.int r_18, .int v_15, .ref q_a0_gains]) ⟨hx, hb, hml, hown, hts⟩ (c_X6_costNoted l D cI cZ cO q_a1 q_a1_bends q_a1_felt q_a1_paces q_a1_past q_a1_bends_yards q_a1_bends_truth q_a1_bends_notes q_a1_bends_words q_a1_bends_mud a1_kind a1_fog a1_here a1_seconds a1_crashes a1_bends_size a1_bends_truth a1_bends_notes a1_bends_mud v_15 _ hf) (cwV 1 hts gX5_bestSaid_X6_costNoted rfl rfl rfl (by decide +kernel) ⟨Nat.le_of_ble_eq_true rfl, Nat.le_of_ble_eq_true rfl⟩) (pv_ro (ci := 5) (q0 := 0) (hP.sub [2, 3, 5, 6, 8] rfl) hX rfl rfl) rfl rfl hl.1 rfl (lv_room (Nat.le_of_ble_eq_true rfl)) dX5_bestSaid_36 ⟨Nat.zero_le _, Nat.zero_le _⟩) (fun r_19 hf => ?_)
        refine lv_isub hx hb dX5_bestSaid_39 ?_
        refine va_iast hx hb hK hP hD hS 1 0 rfl rfl hf.1 dX5_bestSaid_40 (fun H locs hP hD hS => ?_)
        have hP : va_P D vwCl [(q_a0, .inr (4, [.ref q_a0_gains, .ref q_a0_alike])), (q_a0_gains, .inl (cI, 8, .inl (upd w_13 (v_15.toNatClampNeg) (r_18 - r_19)))), (q_a1, .inr (5, [.ref q_a1_bends, .ref q_a1_felt, .ref q_a1_paces, .ref q_a1_past, .int a1_kind, .int a1_fog, .int a1_here, .int a1_seconds, .int a1_crashes])), (q_a1_bends, .inr (0, [.ref q_a1_bends_yards, .ref q_a1_bends_truth, .ref q_a1_bends_notes, .ref q_a1_bends_words, .ref q_a1_bends_mud, .int a1_bends_size])), (q_a1_bends_yards, .inl (cI, 8, .inl a1_bends_yards)), (q_a1_bends_truth, .inl (cI, 8, .inl a1_bends_truth)), (q_a1_bends_notes, .inl (cI, 8, .inl a1_bends_notes)), (q_a1_bends_words, .inl (cI, 8, .inl a1_bends_words)), (q_a1_bends_mud, .inl (cI, 8, .inl a1_bends_mud))] H := hP
        have hD : va_D A [(q_a0, .inr (4, [.ref q_a0_gains, .ref q_a0_alike])), (q_a0_gains, .inl (cI, 8, .inl (upd w_13 (v_15.toNatClampNeg) (r_18 - r_19)))), (q_a1, .inr (5, [.ref q_a1_bends, .ref q_a1_felt, .ref q_a1_paces, .ref q_a1_past, .int a1_kind, .int a1_fog, .int a1_here, .int a1_seconds, .int a1_crashes])), (q_a1_bends, .inr (0, [.ref q_a1_bends_yards, .ref q_a1_bends_truth, .ref q_a1_bends_notes, .ref q_a1_bends_words, .ref q_a1_bends_mud, .int a1_bends_size])), (q_a1_bends_yards, .inl (cI, 8, .inl a1_bends_yards)), (q_a1_bends_truth, .inl (cI, 8, .inl a1_bends_truth)), (q_a1_bends_notes, .inl (cI, 8, .inl a1_bends_notes)), (q_a1_bends_words, .inl (cI, 8, .inl a1_bends_words)), (q_a1_bends_mud, .inl (cI, 8, .inl a1_bends_mud))] := hD
        have hf := hf.2
        refine lv_aload_n hx hb dX5_bestSaid_41 rfl (lv_at hl 1 rfl) ?_
        refine va_get (D := D) (ci := 5) (v := .ref q_a1_bends) (C := RX6) (T := TX6) (N := 9) hx hb hts in_X6 hown hK hP 2 rfl rfl 0 (by decide) kf_18 (fun _ h9 => h9) rfl dX5_bestSaid_42 ?_
        refine va_get (D := D) (ci := 0) (v := .ref q_a1_bends_notes) (C := RX0) (T := TX0) (N := 6) hx hb hts in_X0 hown hK hP 3 rfl rfl 2 (by decide) kf_51 (fun _ h9 => h9) rfl dX5_bestSaid_45 ?_
        refine lv_iload hx hb dX5_bestSaid_48 (lv_at hl 4 rfl) ?_
        refine va_iald hx hb hK hP 6 0 rfl rfl hf.1 dX5_bestSaid_50 ?_
        have hf := hf.2
        refine lv_if_eq (tgt := 61) hx hb dX5_bestSaid_51 (by decide) (fun c_20 => ?_) (fun c_20 => ?_)
        · have hf := it_t c_20 hf
          refine lv_iinc (v := v_15 + 1) (lv' := [(4, .int (v_15 + 1)), (0, .ref q_a0), (1, .ref q_a1), (2, .int x2), (3, .int v_14)]) hx hb dX5_bestSaid_61 hl (k := 4) rfl rfl (by decide) rfl (fun ls hl => ?_)
          refine lv_goto (tgt := 8) hx hb dX5_bestSaid_64 (by decide) ?_
          exact ih (upd w_13 (v_15.toNatClampNeg) (r_18 - r_19)) v_14 (v_15 + 1) _ _ ls hf (hP.sub [0, 1, 2, 3, 4, 5, 6, 7, 8] rfl) (hD.sub [0, 1, 2, 3, 4, 5, 6, 7, 8] (by decide) rfl) hS (lv_sub hl [1, 2, 3, 4, 0] rfl)
        · have hf := it_f c_20 hf
          refine lv_iload_n hx hb dX5_bestSaid_54 rfl (lv_at hl 3 rfl) ?_
          refine lv_iconst (v := 1) hx hb dX5_bestSaid_55 (by decide) ?_
          refine lv_iload hx hb dX5_bestSaid_56 (lv_at hl 4 rfl) ?_
          refine lv_ishl hx hb dX5_bestSaid_58 ?_
          refine lv_ior hx hb dX5_bestSaid_59 ?_
          refine lv_istore_n (lv' := [(3, .int (v_14 ||| (1 <<< (v_15 &&& 31)))), (0, .ref q_a0), (1, .ref q_a1), (2, .int x2), (4, .int v_15)]) hx hb dX5_bestSaid_60 rfl hl (by decide) rfl (fun ls hl => ?_)
          refine lv_iinc (v := v_15 + 1) (lv' := [(4, .int (v_15 + 1)), (3, .int (v_14 ||| (1 <<< (v_15 &&& 31)))), (0, .ref q_a0), (1, .ref q_a1), (2, .int x2)]) hx hb dX5_bestSaid_61 hl (k := 4) rfl rfl (by decide) rfl (fun ls hl => ?_)
          refine lv_goto (tgt := 8) hx hb dX5_bestSaid_64 (by decide) ?_
          exact ih (upd w_13 (v_15.toNatClampNeg) (r_18 - r_19)) (v_14 ||| (1 <<< (v_15 &&& 31))) (v_15 + 1) _ _ ls hf (hP.sub [0, 1, 2, 3, 4, 5, 6, 7, 8] rfl) (hD.sub [0, 1, 2, 3, 4, 5, 6, 7, 8] (by decide) rfl) hS (lv_sub hl [2, 3, 4, 1, 0] rfl)
  exact hlp_8 1000 a0_gains 0 a1_here _ _ ls hf (hP.sub [0, 1, 2, 3, 4, 5, 6, 7, 8] rfl) (hD.sub [0, 1, 2, 3, 4, 5, 6, 7, 8] (by decide) rfl) hS (lv_sub hl [2, 3, 4, 1, 0] rfl)
def bX5_costSaying_8 (a1_bends_truth : Nat → Int32) (a1_bends_notes : Nat → Int32) (a1_bends_mud : Nat → Int32) (a1_bends_size : Int32) (a1_kind : Int32) (a1_fog : Int32) (x2 : Int32) (Q : Int32 → Prop) (k_3 : Int32 → Int32 → Prop) (v_1 : Int32) (v_2 : Int32) : Prop :=
  if a1_bends_size ≤ v_2 then (Q v_1) else (p_X8_hasBit x2 v_2 (fun r_5 => if r_5 = 0 then (p_X6_costAt a1_bends_truth a1_bends_mud a1_kind a1_fog v_2 0 (fun r_7 => k_3 (v_1 + r_7) (v_2 + 1))) else (p_X6_costNoted a1_bends_truth a1_bends_notes a1_bends_mud a1_kind a1_fog v_2 (fun r_8 => k_3 (v_1 + r_8) (v_2 + 1)))))
def p_X5_costSaying (a1_bends_truth : Nat → Int32) (a1_bends_notes : Nat → Int32) (a1_bends_mud : Nat → Int32) (a1_bends_size : Int32) (a1_kind : Int32) (a1_fog : Int32) (a1_here : Int32) (x2 : Int32) (Q : Int32 → Prop) : Prop :=
  lq2 (bX5_costSaying_8 a1_bends_truth a1_bends_notes a1_bends_mud a1_bends_size a1_kind a1_fog x2 Q) 1000 0 a1_here
def rmX5_costSaying : Room := { frames := 3, cells := 0, slots := 0, locals := 72 }
set_option maxHeartbeats 4000000 in
set_option maxRecDepth 100000 in
theorem c_X5_costSaying (l : Launch) (D : va_G) (cI cZ cO : ClassId) (q_a0 q_a0_gains q_a0_alike q_a1 q_a1_bends q_a1_felt q_a1_paces q_a1_past q_a1_bends_yards q_a1_bends_truth q_a1_bends_notes q_a1_bends_words q_a1_bends_mud : Nat) (a1_kind : Int32) (a1_fog : Int32) (a1_here : Int32) (a1_seconds : Int32) (a1_crashes : Int32) (a1_bends_size : Int32) (a1_bends_truth : Nat → Int32) (a1_bends_notes : Nat → Int32) (a1_bends_mud : Nat → Int32) (x2 : Int32) (Q : Int32 → Prop) (hf : p_X5_costSaying a1_bends_truth a1_bends_notes a1_bends_mud a1_bends_size a1_kind a1_fog a1_here x2 Q) : Met l yX5_costSaying wsX5_costSaying rmX5_costSaying (va_Pc [.ref q_a0, .ref q_a1, .int x2] (fun U => va_P D vwCl [(q_a0, .inr (4, [.ref q_a0_gains, .ref q_a0_alike])), (q_a1, .inr (5, [.ref q_a1_bends, .ref q_a1_felt, .ref q_a1_paces, .ref q_a1_past, .int a1_kind, .int a1_fog, .int a1_here, .int a1_seconds, .int a1_crashes])), (q_a1_bends, .inr (0, [.ref q_a1_bends_yards, .ref q_a1_bends_truth, .ref q_a1_bends_notes, .ref q_a1_bends_words, .ref q_a1_bends_mud, .int a1_bends_size])), (q_a1_bends_truth, .inl (cI, 8, .inl a1_bends_truth)), (q_a1_bends_notes, .inl (cI, 8, .inl a1_bends_notes)), (q_a1_bends_mud, .inl (cI, 8, .inl a1_bends_mud))] U.heap ∧ XK D cI cZ cO U)) (vp_Si Q) 0 0 (fun _ => False) := by
  refine Met.ofW (cc := cX5_costSaying) (maxL := 5) (ret := (some .int)) (by decide) rfl ?_
  intro p e s m args below meth c s₁ B hml hv
  obtain ⟨rfl, hP, hX⟩ := hv
  have hK := hX.1
  have hx := B.exec
  have hb := B.bytes
  have hr := B.returns
  have hts := atoms_spec (ws := wsX5_costSaying) B.pre
  have hown : s.vm.findClass RX5 = some m.cls := findClass_of_methodNamed B.named
  have hlocks := B.notSynchronized
  have in_X6 : ∀ w ∈ wsX60, w ∈ wsX5_costSaying := fun _ h => List.mem_cons_of_mem _ (List.mem_append_left _ (List.mem_append_right _ h))
  have in_X0 : ∀ w ∈ wsX00, w ∈ wsX5_costSaying := fun _ h => List.mem_cons_of_mem _ (List.mem_append_right _ h)
  have kf_30 := hts (.fieldLink RX5 30 "LeftCrest$Stage" "here" "I") (by decide +kernel)
  have kf_18 := hts (.fieldLink RX5 18 "LeftCrest$Stage" "bends" "LLeftCrest$Bends;") (by decide +kernel)
  have kf_24 := hts (.fieldLink RX5 24 "LeftCrest$Bends" "size" "I") (by decide +kernel)
  have ki_X8 := hts (.initialized RX8) (by decide +kernel)
  have ks_X8_hasBit := hts (.static yX8_hasBit) (by decide +kernel)
  generalize hQQ : MQ below _ _ s _ _ _ = QQ
  have hl := lv_entry ([.ref q_a0, .ref q_a1, .int x2]) (n := 5) (Nat.le_of_ble_eq_true rfl)
  rw [lg_entry_eq]
  generalize (lg_sl ([.ref q_a0, .ref q_a1, .int x2]) ++ List.replicate (5 - (lg_sl ([.ref q_a0, .ref q_a1, .int x2])).length) Slot.unset).toArray = ls at hl ⊢
  have hl : lv_has ls 5 [(0, .ref q_a0), (1, .ref q_a1), (2, .int x2)] := hl
  unfold p_X5_costSaying at hf
  refine lv_iconst (v := 0) hx hb dX5_costSaying_0 (by decide) ?_
  refine lv_istore_n (lv' := [(3, .int 0), (0, .ref q_a0), (1, .ref q_a1), (2, .int x2)]) hx hb dX5_costSaying_1 rfl hl (by decide) rfl (fun ls hl => ?_)
  refine lv_aload_n hx hb dX5_costSaying_2 rfl (lv_at hl 2 rfl) ?_
  refine va_get (D := D) (ci := 5) (v := .int a1_here) (C := RX6) (T := TX6) (N := 9) hx hb hts in_X6 hown hK hP 1 rfl rfl 6 (by decide) kf_30 (fun _ h9 => h9) rfl dX5_costSaying_3 ?_
  refine lv_istore (lv' := [(4, .int a1_here), (3, .int 0), (0, .ref q_a0), (1, .ref q_a1), (2, .int x2)]) hx hb dX5_costSaying_6 hl (by decide) rfl (fun ls hl => ?_)
  have hlp_8 : ∀ (n_8 : Nat) (v_1 : Int32) (v_2 : Int32) (ls : Array Slot), lq2 (bX5_costSaying_8 a1_bends_truth a1_bends_notes a1_bends_mud a1_bends_size a1_kind a1_fog x2 Q) n_8 v_1 v_2 → lv_has ls 5 [(1, .ref q_a1), (2, .int x2), (3, .int v_1), (4, .int v_2)] → W p l e (headSpec wsX5_costSaying rmX5_costSaying).room s m ([.ref q_a0, .ref q_a1, .int x2] : List Value).toArray below meth c s.heap [] 0 0 QQ (F0 m 8 ls []) := by
    intro n_8
    induction n_8 with
    | zero => intro v_1 v_2 ls hf; exact (lq2_0 hf).elim
    | succ n_8 ih =>
      have ih_8 := ih
      intro v_1 v_2 ls hf hl
      have hf := lq2_s hf
      unfold bX5_costSaying_8 at hf
      refine lv_iload hx hb dX5_costSaying_8 (lv_at hl 3 rfl) ?_
      refine lv_aload_n hx hb dX5_costSaying_10 rfl (lv_at hl 0 rfl) ?_
      refine va_get (D := D) (ci := 5) (v := .ref q_a1_bends) (C := RX6) (T := TX6) (N := 9) hx hb hts in_X6 hown hK hP 1 rfl rfl 0 (by decide) kf_18 (fun _ h9 => h9) rfl dX5_costSaying_11 ?_
      refine va_get (D := D) (ci := 0) (v := .int a1_bends_size) (C := RX0) (T := TX0) (N := 6) hx hb hts in_X0 hown hK hP 2 rfl rfl 5 (by decide) kf_24 (fun _ h9 => h9) rfl dX5_costSaying_14 ?_
      refine lv_icmp_ge (tgt := 54) hx hb dX5_costSaying_17 (by decide) (fun c_4 => ?_) (fun c_4 => ?_)
      · have hf := it_t c_4 hf
        refine lv_iload_n hx hb dX5_costSaying_54 rfl (lv_at hl 2 rfl) ?_
        subst hQQ
        exact W.iret hx hb hr (fun t ht hW => ⟨_, rfl, hf, ht⟩) (fun _ h => absurd h List.not_mem_nil) dX5_costSaying_55
      · have hf := it_f c_4 hf
        refine lv_iload_n hx hb dX5_costSaying_20 rfl (lv_at hl 2 rfl) ?_
        refine lv_iload_n hx hb dX5_costSaying_21 rfl (lv_at hl 1 rfl) ?_
        refine lv_iload hx hb dX5_costSaying_22 (lv_at hl 3 rfl) ?_
        refine ya_csi (va_runSN (As := [.int x2, .int v_2]) (rest := [.int v_1]) ⟨hx, hb, hml, hown, hts⟩ (c_X8_hasBit l D cI cZ cO  x2 v_2 _ hf) (⟨va_cnB 2 hts gX5_costSaying_X8_hasBit_n37 rfl rfl rfl hX.n_X5_37 ki_X8 (by decide +kernel) ⟨Nat.le_of_ble_eq_true rfl, Nat.le_of_ble_eq_true rfl⟩, ks_X8_hasBit, trivial⟩) (ps_ro va_P0 hX) rfl rfl hl.1 rfl (lv_room (Nat.le_of_ble_eq_true rfl)) dX5_costSaying_24 ⟨Nat.zero_le _, Nat.zero_le _⟩) (fun r_5 hf => ?_)
        refine lv_if_eq (tgt := 39) hx hb dX5_costSaying_27 (by decide) (fun c_6 => ?_) (fun c_6 => ?_)
        · have hf := it_t c_6 hf
          refine lv_aload_n hx hb dX5_costSaying_39 rfl (lv_at hl 0 rfl) ?_
          refine lv_iload hx hb dX5_costSaying_40 (lv_at hl 3 rfl) ?_
          refine lv_iconst (v := 0) hx hb dX5_costSaying_42 (by decide) ?_
          refine ya_csi (va_runV (As := [.int v_2, .int 0]) (rest := [.int v_1]) ⟨hx, hb, hml, hown, hts⟩ (c_X6_costAt l D cI cZ cO q_a1 q_a1_bends q_a1_felt q_a1_paces q_a1_past q_a1_bends_yards q_a1_bends_truth q_a1_bends_notes q_a1_bends_words q_a1_bends_mud a1_kind a1_fog a1_here a1_seconds a1_crashes a1_bends_size a1_bends_truth a1_bends_mud v_2 0 _ hf) (cwV 2 hts gX5_costSaying_X6_costAt rfl rfl rfl (by decide +kernel) ⟨Nat.le_of_ble_eq_true rfl, Nat.le_of_ble_eq_true rfl⟩) (pv_ro (ci := 5) (q0 := 0) (hP.sub [1, 2, 3, 5] rfl) hX rfl rfl) rfl rfl hl.1 rfl (lv_room (Nat.le_of_ble_eq_true rfl)) dX5_costSaying_43 ⟨Nat.zero_le _, Nat.zero_le _⟩) (fun r_7 hf => ?_)
          refine lv_iadd hx hb dX5_costSaying_46 ?_
          refine lv_istore_n (lv' := [(3, .int (v_1 + r_7)), (1, .ref q_a1), (2, .int x2), (4, .int v_2)]) hx hb dX5_costSaying_47 rfl hl (by decide) rfl (fun ls hl => ?_)
          refine lv_iinc (v := v_2 + 1) (lv' := [(4, .int (v_2 + 1)), (3, .int (v_1 + r_7)), (1, .ref q_a1), (2, .int x2)]) hx hb dX5_costSaying_48 hl (k := 3) rfl rfl (by decide) rfl (fun ls hl => ?_)
          refine lv_goto (tgt := 8) hx hb dX5_costSaying_51 (by decide) ?_
          exact ih (v_1 + r_7) (v_2 + 1) ls hf (lv_sub hl [2, 3, 1, 0] rfl)
        · have hf := it_f c_6 hf
          refine lv_aload_n hx hb dX5_costSaying_30 rfl (lv_at hl 0 rfl) ?_
          refine lv_iload hx hb dX5_costSaying_31 (lv_at hl 3 rfl) ?_
          refine ya_csi (va_runV (As := [.int v_2]) (rest := [.int v_1]) ⟨hx, hb, hml, hown, hts⟩ (c_X6_costNoted l D cI cZ cO q_a1 q_a1_bends q_a1_felt q_a1_paces q_a1_past q_a1_bends_yards q_a1_bends_truth q_a1_bends_notes q_a1_bends_words q_a1_bends_mud a1_kind a1_fog a1_here a1_seconds a1_crashes a1_bends_size a1_bends_truth a1_bends_notes a1_bends_mud v_2 _ hf) (cwV 1 hts gX5_costSaying_X6_costNoted rfl rfl rfl (by decide +kernel) ⟨Nat.le_of_ble_eq_true rfl, Nat.le_of_ble_eq_true rfl⟩) (pv_ro (ci := 5) (q0 := 0) (hP.sub [1, 2, 3, 4, 5] rfl) hX rfl rfl) rfl rfl hl.1 rfl (lv_room (Nat.le_of_ble_eq_true rfl)) dX5_costSaying_33 ⟨Nat.zero_le _, Nat.zero_le _⟩) (fun r_8 hf => ?_)
          refine lv_goto (tgt := 46) hx hb dX5_costSaying_36 (by decide) ?_
          refine lv_iadd hx hb dX5_costSaying_46 ?_
          refine lv_istore_n (lv' := [(3, .int (v_1 + r_8)), (1, .ref q_a1), (2, .int x2), (4, .int v_2)]) hx hb dX5_costSaying_47 rfl hl (by decide) rfl (fun ls hl => ?_)
          refine lv_iinc (v := v_2 + 1) (lv' := [(4, .int (v_2 + 1)), (3, .int (v_1 + r_8)), (1, .ref q_a1), (2, .int x2)]) hx hb dX5_costSaying_48 hl (k := 3) rfl rfl (by decide) rfl (fun ls hl => ?_)
          refine lv_goto (tgt := 8) hx hb dX5_costSaying_51 (by decide) ?_
          exact ih (v_1 + r_8) (v_2 + 1) ls hf (lv_sub hl [2, 3, 1, 0] rfl)
  exact hlp_8 1000 0 a1_here ls hf (lv_sub hl [3, 4, 1, 0] rfl)
def bX5_likeliestTurned_16 (a1_bends_truth : Nat → Int32) (a1_bends_notes : Nat → Int32) (a1_bends_mud : Nat → Int32) (a1_bends_size : Int32) (a1_kind : Int32) (a1_fog : Int32) (Q : Int32 → Prop) (k_4 : Int32 → Int32 → Int32 → Prop) (v_1 : Int32) (v_2 : Int32) (v_3 : Int32) : Prop :=
  if a1_bends_size ≤ (v_3 + 1) then (Q v_1) else (p_X6_costNoted a1_bends_truth a1_bends_notes a1_bends_mud a1_kind a1_fog v_3 (fun r_6 => p_X6_costNoted a1_bends_truth a1_bends_notes a1_bends_mud a1_kind a1_fog (v_3 + 1) (fun r_7 => vp_in (v_3 + 1) 8 ∧ (p_X6_costAt a1_bends_truth a1_bends_mud a1_kind a1_fog v_3 (a1_bends_notes (v_3 + 1).toNatClampNeg) (fun r_8 => vp_in v_3 8 ∧ (p_X6_costAt a1_bends_truth a1_bends_mud a1_kind a1_fog (v_3 + 1) (a1_bends_notes v_3.toNatClampNeg) (fun r_9 => if ((r_6 + r_7) - (r_8 + r_9)) ≤ v_2 then (k_4 v_1 v_2 (v_3 + 1)) else (k_4 v_3 ((r_6 + r_7) - (r_8 + r_9)) (v_3 + 1)))))))))
def p_X5_likeliestTurned (a1_bends_truth : Nat → Int32) (a1_bends_notes : Nat → Int32) (a1_bends_mud : Nat → Int32) (a1_bends_size : Int32) (a1_kind : Int32) (a1_fog : Int32) (Q : Int32 → Prop) : Prop :=
  lq3 (bX5_likeliestTurned_16 a1_bends_truth a1_bends_notes a1_bends_mud a1_bends_size a1_kind a1_fog Q) 1000 (-1) 0 0
def rmX5_likeliestTurned : Room := { frames := 3, cells := 0, slots := 0, locals := 72 }
set_option maxHeartbeats 4000000 in
set_option maxRecDepth 100000 in
theorem c_X5_likeliestTurned (l : Launch) (D : va_G) (cI cZ cO : ClassId) (q_a0 q_a0_gains q_a0_alike q_a1 q_a1_bends q_a1_felt q_a1_paces q_a1_past q_a1_bends_yards q_a1_bends_truth q_a1_bends_notes q_a1_bends_words q_a1_bends_mud : Nat) (a1_kind : Int32) (a1_fog : Int32) (a1_here : Int32) (a1_seconds : Int32) (a1_crashes : Int32) (a1_bends_size : Int32) (a1_bends_truth : Nat → Int32) (a1_bends_notes : Nat → Int32) (a1_bends_mud : Nat → Int32) (Q : Int32 → Prop) (hf : p_X5_likeliestTurned a1_bends_truth a1_bends_notes a1_bends_mud a1_bends_size a1_kind a1_fog Q) : Met l yX5_likeliestTurned wsX5_likeliestTurned rmX5_likeliestTurned (va_Pc [.ref q_a0, .ref q_a1] (fun U => va_P D vwCl [(q_a0, .inr (4, [.ref q_a0_gains, .ref q_a0_alike])), (q_a1, .inr (5, [.ref q_a1_bends, .ref q_a1_felt, .ref q_a1_paces, .ref q_a1_past, .int a1_kind, .int a1_fog, .int a1_here, .int a1_seconds, .int a1_crashes])), (q_a1_bends, .inr (0, [.ref q_a1_bends_yards, .ref q_a1_bends_truth, .ref q_a1_bends_notes, .ref q_a1_bends_words, .ref q_a1_bends_mud, .int a1_bends_size])), (q_a1_bends_truth, .inl (cI, 8, .inl a1_bends_truth)), (q_a1_bends_notes, .inl (cI, 8, .inl a1_bends_notes)), (q_a1_bends_mud, .inl (cI, 8, .inl a1_bends_mud))] U.heap ∧ XK D cI cZ cO U)) (vp_Si Q) 0 0 (fun _ => False) := by
  refine Met.ofW (cc := cX5_likeliestTurned) (maxL := 8) (ret := (some .int)) (by decide) rfl ?_
  intro p e s m args below meth c s₁ B hml hv
  obtain ⟨rfl, hP, hX⟩ := hv
  have hK := hX.1
  have hx := B.exec
  have hb := B.bytes
  have hr := B.returns
  have hts := atoms_spec (ws := wsX5_likeliestTurned) B.pre
  have hown : s.vm.findClass RX5 = some m.cls := findClass_of_methodNamed B.named
  have hlocks := B.notSynchronized
  have in_X6 : ∀ w ∈ wsX60, w ∈ wsX5_likeliestTurned := fun _ h => List.mem_cons_of_mem _ (List.mem_append_left _ (List.mem_append_right _ h))
  have in_X0 : ∀ w ∈ wsX00, w ∈ wsX5_likeliestTurned := fun _ h => List.mem_cons_of_mem _ (List.mem_append_right _ h)
  have kf_18 := hts (.fieldLink RX5 18 "LeftCrest$Stage" "bends" "LLeftCrest$Bends;") (by decide +kernel)
  have kf_51 := hts (.fieldLink RX5 51 "LeftCrest$Bends" "notes" "[I") (by decide +kernel)
  have kf_24 := hts (.fieldLink RX5 24 "LeftCrest$Bends" "size" "I") (by decide +kernel)
  generalize hQQ : MQ below _ _ s _ _ _ = QQ
  have hl := lv_entry ([.ref q_a0, .ref q_a1]) (n := 8) (Nat.le_of_ble_eq_true rfl)
  rw [lg_entry_eq]
  generalize (lg_sl ([.ref q_a0, .ref q_a1]) ++ List.replicate (8 - (lg_sl ([.ref q_a0, .ref q_a1])).length) Slot.unset).toArray = ls at hl ⊢
  have hl : lv_has ls 8 [(0, .ref q_a0), (1, .ref q_a1)] := hl
  unfold p_X5_likeliestTurned at hf
  refine lv_aload_n hx hb dX5_likeliestTurned_0 rfl (lv_at hl 1 rfl) ?_
  refine va_get (D := D) (ci := 5) (v := .ref q_a1_bends) (C := RX6) (T := TX6) (N := 9) hx hb hts in_X6 hown hK hP 1 rfl rfl 0 (by decide) kf_18 (fun _ h9 => h9) rfl dX5_likeliestTurned_1 ?_
  refine va_get (D := D) (ci := 0) (v := .ref q_a1_bends_notes) (C := RX0) (T := TX0) (N := 6) hx hb hts in_X0 hown hK hP 2 rfl rfl 2 (by decide) kf_51 (fun _ h9 => h9) rfl dX5_likeliestTurned_4 ?_
  refine lv_astore_n (lv' := [(2, .ref q_a1_bends_notes), (0, .ref q_a0), (1, .ref q_a1)]) hx hb dX5_likeliestTurned_7 rfl hl (by decide) rfl (fun ls hl => ?_)
  refine lv_iconst (v := (-1)) hx hb dX5_likeliestTurned_8 (by decide) ?_
  refine lv_istore_n (lv' := [(3, .int (-1)), (2, .ref q_a1_bends_notes), (0, .ref q_a0), (1, .ref q_a1)]) hx hb dX5_likeliestTurned_9 rfl hl (by decide) rfl (fun ls hl => ?_)
  refine lv_iconst (v := 0) hx hb dX5_likeliestTurned_10 (by decide) ?_
  refine lv_istore (lv' := [(4, .int 0), (3, .int (-1)), (2, .ref q_a1_bends_notes), (0, .ref q_a0), (1, .ref q_a1)]) hx hb dX5_likeliestTurned_11 hl (by decide) rfl (fun ls hl => ?_)
  refine lv_iconst (v := 0) hx hb dX5_likeliestTurned_13 (by decide) ?_
  refine lv_istore (lv' := [(5, .int 0), (4, .int 0), (3, .int (-1)), (2, .ref q_a1_bends_notes), (0, .ref q_a0), (1, .ref q_a1)]) hx hb dX5_likeliestTurned_14 hl (by decide) rfl (fun ls hl => ?_)
  have hlp_16 : ∀ (n_16 : Nat) (v_1 : Int32) (v_2 : Int32) (v_3 : Int32) (ls : Array Slot), lq3 (bX5_likeliestTurned_16 a1_bends_truth a1_bends_notes a1_bends_mud a1_bends_size a1_kind a1_fog Q) n_16 v_1 v_2 v_3 → lv_has ls 8 [(1, .ref q_a1), (2, .ref q_a1_bends_notes), (3, .int v_1), (4, .int v_2), (5, .int v_3)] → W p l e (headSpec wsX5_likeliestTurned rmX5_likeliestTurned).room s m ([.ref q_a0, .ref q_a1] : List Value).toArray below meth c s.heap [] 0 0 QQ (F0 m 16 ls []) := by
    intro n_16
    induction n_16 with
    | zero => intro v_1 v_2 v_3 ls hf; exact (lq3_0 hf).elim
    | succ n_16 ih =>
      have ih_16 := ih
      intro v_1 v_2 v_3 ls hf hl
      have hf := lq3_s hf
      unfold bX5_likeliestTurned_16 at hf
      refine lv_iload hx hb dX5_likeliestTurned_16 (lv_at hl 4 rfl) ?_
      refine lv_iconst (v := 1) hx hb dX5_likeliestTurned_18 (by decide) ?_
      refine lv_iadd hx hb dX5_likeliestTurned_19 ?_
      refine lv_aload_n hx hb dX5_likeliestTurned_20 rfl (lv_at hl 0 rfl) ?_
      refine va_get (D := D) (ci := 5) (v := .ref q_a1_bends) (C := RX6) (T := TX6) (N := 9) hx hb hts in_X6 hown hK hP 1 rfl rfl 0 (by decide) kf_18 (fun _ h9 => h9) rfl dX5_likeliestTurned_21 ?_
      refine va_get (D := D) (ci := 0) (v := .int a1_bends_size) (C := RX0) (T := TX0) (N := 6) hx hb hts in_X0 hown hK hP 2 rfl rfl 5 (by decide) kf_24 (fun _ h9 => h9) rfl dX5_likeliestTurned_24 ?_
      refine lv_icmp_ge (tgt := 100) hx hb dX5_likeliestTurned_27 (by decide) (fun c_5 => ?_) (fun c_5 => ?_)
      · have hf := it_t c_5 hf
        refine lv_iload_n hx hb dX5_likeliestTurned_100 rfl (lv_at hl 2 rfl) ?_
        subst hQQ
        exact W.iret hx hb hr (fun t ht hW => ⟨_, rfl, hf, ht⟩) (fun _ h => absurd h List.not_mem_nil) dX5_likeliestTurned_101
      · have hf := it_f c_5 hf
        refine lv_aload_n hx hb dX5_likeliestTurned_30 rfl (lv_at hl 0 rfl) ?_
        refine lv_iload hx hb dX5_likeliestTurned_31 (lv_at hl 4 rfl) ?_
        refine ya_csi (va_runV (As := [.int v_3]) (rest := []) ⟨hx, hb, hml, hown, hts⟩ (c_X6_costNoted l D cI cZ cO q_a1 q_a1_bends q_a1_felt q_a1_paces q_a1_past q_a1_bends_yards q_a1_bends_truth q_a1_bends_notes q_a1_bends_words q_a1_bends_mud a1_kind a1_fog a1_here a1_seconds a1_crashes a1_bends_size a1_bends_truth a1_bends_notes a1_bends_mud v_3 _ hf) (cwV 1 hts gX5_likeliestTurned_X6_costNoted rfl rfl rfl (by decide +kernel) ⟨Nat.le_of_ble_eq_true rfl, Nat.le_of_ble_eq_true rfl⟩) (pv_ro (ci := 5) (q0 := 0) (hP.sub [1, 2, 3, 4, 5] rfl) hX rfl rfl) rfl rfl hl.1 rfl (lv_room (Nat.le_of_ble_eq_true rfl)) dX5_likeliestTurned_33 ⟨Nat.zero_le _, Nat.zero_le _⟩) (fun r_6 hf => ?_)
        refine lv_aload_n hx hb dX5_likeliestTurned_36 rfl (lv_at hl 0 rfl) ?_
        refine lv_iload hx hb dX5_likeliestTurned_37 (lv_at hl 4 rfl) ?_
        refine lv_iconst (v := 1) hx hb dX5_likeliestTurned_39 (by decide) ?_
        refine lv_iadd hx hb dX5_likeliestTurned_40 ?_
        refine ya_csi (va_runV (As := [.int (v_3 + 1)]) (rest := [.int r_6]) ⟨hx, hb, hml, hown, hts⟩ (c_X6_costNoted l D cI cZ cO q_a1 q_a1_bends q_a1_felt q_a1_paces q_a1_past q_a1_bends_yards q_a1_bends_truth q_a1_bends_notes q_a1_bends_words q_a1_bends_mud a1_kind a1_fog a1_here a1_seconds a1_crashes a1_bends_size a1_bends_truth a1_bends_notes a1_bends_mud (v_3 + 1) _ hf) (cwV 1 hts gX5_likeliestTurned_X6_costNoted rfl rfl rfl (by decide +kernel) ⟨Nat.le_of_ble_eq_true rfl, Nat.le_of_ble_eq_true rfl⟩) (pv_ro (ci := 5) (q0 := 0) (hP.sub [1, 2, 3, 4, 5] rfl) hX rfl rfl) rfl rfl hl.1 rfl (lv_room (Nat.le_of_ble_eq_true rfl)) dX5_likeliestTurned_41 ⟨Nat.zero_le _, Nat.zero_le _⟩) (fun r_7 hf => ?_)
        refine lv_iadd hx hb dX5_likeliestTurned_44 ?_
        refine lv_istore (lv' := [(6, .int (r_6 + r_7)), (1, .ref q_a1), (2, .ref q_a1_bends_notes), (3, .int v_1), (4, .int v_2), (5, .int v_3)]) hx hb dX5_likeliestTurned_45 hl (by decide) rfl (fun ls hl => ?_)
        refine lv_aload_n hx hb dX5_likeliestTurned_47 rfl (lv_at hl 1 rfl) ?_
        refine lv_iload hx hb dX5_likeliestTurned_48 (lv_at hl 5 rfl) ?_
        refine lv_aload_n hx hb dX5_likeliestTurned_50 rfl (lv_at hl 2 rfl) ?_
        refine lv_iload hx hb dX5_likeliestTurned_51 (lv_at hl 5 rfl) ?_
        refine lv_iconst (v := 1) hx hb dX5_likeliestTurned_53 (by decide) ?_
        refine lv_iadd hx hb dX5_likeliestTurned_54 ?_
        refine va_iald hx hb hK hP 4 0 rfl rfl hf.1 dX5_likeliestTurned_55 ?_
        have hf := hf.2
        refine ya_csi (va_runV (As := [.int v_3, .int (a1_bends_notes (v_3 + 1).toNatClampNeg)]) (rest := []) ⟨hx, hb, hml, hown, hts⟩ (c_X6_costAt l D cI cZ cO q_a1 q_a1_bends q_a1_felt q_a1_paces q_a1_past q_a1_bends_yards q_a1_bends_truth q_a1_bends_notes q_a1_bends_words q_a1_bends_mud a1_kind a1_fog a1_here a1_seconds a1_crashes a1_bends_size a1_bends_truth a1_bends_mud v_3 (a1_bends_notes (v_3 + 1).toNatClampNeg) _ hf) (cwV 2 hts gX5_likeliestTurned_X6_costAt rfl rfl rfl (by decide +kernel) ⟨Nat.le_of_ble_eq_true rfl, Nat.le_of_ble_eq_true rfl⟩) (pv_ro (ci := 5) (q0 := 0) (hP.sub [1, 2, 3, 5] rfl) hX rfl rfl) rfl rfl hl.1 rfl (lv_room (Nat.le_of_ble_eq_true rfl)) dX5_likeliestTurned_56 ⟨Nat.zero_le _, Nat.zero_le _⟩) (fun r_8 hf => ?_)
        refine lv_aload_n hx hb dX5_likeliestTurned_59 rfl (lv_at hl 1 rfl) ?_
        refine lv_iload hx hb dX5_likeliestTurned_60 (lv_at hl 5 rfl) ?_
        refine lv_iconst (v := 1) hx hb dX5_likeliestTurned_62 (by decide) ?_
        refine lv_iadd hx hb dX5_likeliestTurned_63 ?_
        refine lv_aload_n hx hb dX5_likeliestTurned_64 rfl (lv_at hl 2 rfl) ?_
        refine lv_iload hx hb dX5_likeliestTurned_65 (lv_at hl 5 rfl) ?_
        refine va_iald hx hb hK hP 4 0 rfl rfl hf.1 dX5_likeliestTurned_67 ?_
        have hf := hf.2
        refine ya_csi (va_runV (As := [.int (v_3 + 1), .int (a1_bends_notes v_3.toNatClampNeg)]) (rest := [.int r_8]) ⟨hx, hb, hml, hown, hts⟩ (c_X6_costAt l D cI cZ cO q_a1 q_a1_bends q_a1_felt q_a1_paces q_a1_past q_a1_bends_yards q_a1_bends_truth q_a1_bends_notes q_a1_bends_words q_a1_bends_mud a1_kind a1_fog a1_here a1_seconds a1_crashes a1_bends_size a1_bends_truth a1_bends_mud (v_3 + 1) (a1_bends_notes v_3.toNatClampNeg) _ hf) (cwV 2 hts gX5_likeliestTurned_X6_costAt rfl rfl rfl (by decide +kernel) ⟨Nat.le_of_ble_eq_true rfl, Nat.le_of_ble_eq_true rfl⟩) (pv_ro (ci := 5) (q0 := 0) (hP.sub [1, 2, 3, 5] rfl) hX rfl rfl) rfl rfl hl.1 rfl (lv_room (Nat.le_of_ble_eq_true rfl)) dX5_likeliestTurned_68 ⟨Nat.zero_le _, Nat.zero_le _⟩) (fun r_9 hf => ?_)
        refine lv_iadd hx hb dX5_likeliestTurned_71 ?_
        refine lv_istore (lv' := [(7, .int (r_8 + r_9)), (6, .int (r_6 + r_7)), (1, .ref q_a1), (2, .ref q_a1_bends_notes), (3, .int v_1), (4, .int v_2), (5, .int v_3)]) hx hb dX5_likeliestTurned_72 hl (by decide) rfl (fun ls hl => ?_)
        refine lv_iload hx hb dX5_likeliestTurned_74 (lv_at hl 1 rfl) ?_
        refine lv_iload hx hb dX5_likeliestTurned_76 (lv_at hl 0 rfl) ?_
        refine lv_isub hx hb dX5_likeliestTurned_78 ?_
        refine lv_iload hx hb dX5_likeliestTurned_79 (lv_at hl 5 rfl) ?_
        refine lv_icmp_le (tgt := 94) hx hb dX5_likeliestTurned_81 (by decide) (fun c_10 => ?_) (fun c_10 => ?_)
        · have hf := it_t c_10 hf
          refine lv_iinc (v := v_3 + 1) (lv' := [(5, .int (v_3 + 1)), (7, .int (r_8 + r_9)), (6, .int (r_6 + r_7)), (1, .ref q_a1), (2, .ref q_a1_bends_notes), (3, .int v_1), (4, .int v_2)]) hx hb dX5_likeliestTurned_94 hl (k := 6) rfl rfl (by decide) rfl (fun ls hl => ?_)
          refine lv_goto (tgt := 16) hx hb dX5_likeliestTurned_97 (by decide) ?_
          exact ih v_1 v_2 (v_3 + 1) ls hf (lv_sub hl [3, 4, 5, 6, 0] rfl)
        · have hf := it_f c_10 hf
          refine lv_iload hx hb dX5_likeliestTurned_84 (lv_at hl 6 rfl) ?_
          refine lv_istore_n (lv' := [(3, .int v_3), (7, .int (r_8 + r_9)), (6, .int (r_6 + r_7)), (1, .ref q_a1), (2, .ref q_a1_bends_notes), (4, .int v_2), (5, .int v_3)]) hx hb dX5_likeliestTurned_86 rfl hl (by decide) rfl (fun ls hl => ?_)
          refine lv_iload hx hb dX5_likeliestTurned_87 (lv_at hl 2 rfl) ?_
          refine lv_iload hx hb dX5_likeliestTurned_89 (lv_at hl 1 rfl) ?_
          refine lv_isub hx hb dX5_likeliestTurned_91 ?_
          refine lv_istore (lv' := [(4, .int ((r_6 + r_7) - (r_8 + r_9))), (3, .int v_3), (7, .int (r_8 + r_9)), (6, .int (r_6 + r_7)), (1, .ref q_a1), (2, .ref q_a1_bends_notes), (5, .int v_3)]) hx hb dX5_likeliestTurned_92 hl (by decide) rfl (fun ls hl => ?_)
          refine lv_iinc (v := v_3 + 1) (lv' := [(5, .int (v_3 + 1)), (4, .int ((r_6 + r_7) - (r_8 + r_9))), (3, .int v_3), (7, .int (r_8 + r_9)), (6, .int (r_6 + r_7)), (1, .ref q_a1), (2, .ref q_a1_bends_notes)]) hx hb dX5_likeliestTurned_94 hl (k := 6) rfl rfl (by decide) rfl (fun ls hl => ?_)
          refine lv_goto (tgt := 16) hx hb dX5_likeliestTurned_97 (by decide) ?_
          exact ih v_3 ((r_6 + r_7) - (r_8 + r_9)) (v_3 + 1) ls hf (lv_sub hl [5, 6, 2, 1, 0] rfl)
  exact hlp_16 1000 (-1) 0 0 ls hf (lv_sub hl [5, 3, 2, 1, 0] rfl)
def p_X8_within (x0 : Int32) (x1 : Int32) (x2 : Int32) (Q : Int32 → Prop) : Prop :=
  if x0 < x1 then (Q 0) else (if x2 < x0 then (Q 0) else (Q 1))
def rmX8_within : Room := { frames := 0, cells := 0, slots := 0, locals := 0 }
set_option maxHeartbeats 4000000 in
set_option maxRecDepth 100000 in
theorem c_X8_within (l : Launch) (D : va_G) (cI cZ cO : ClassId) (x0 : Int32) (x1 : Int32) (x2 : Int32) (Q : Int32 → Prop) (hf : p_X8_within x0 x1 x2 Q) : Met l yX8_within wsX8_within rmX8_within (va_Pc [.int x0, .int x1, .int x2] (fun U => va_P D vwCl [] U.heap ∧ XK D cI cZ cO U)) (vp_Si Q) 0 0 (fun _ => False) := by
  refine Met.ofW (cc := cX8_within) (maxL := 3) (ret := (some .boolean)) (by decide) rfl ?_
  intro p e s m args below meth c s₁ B hml hv
  obtain ⟨rfl, hP, hX⟩ := hv
  have hK := hX.1
  have hx := B.exec
  have hb := B.bytes
  have hr := B.returns
  have hts := atoms_spec (ws := wsX8_within) B.pre
  have hown : s.vm.findClass RX8 = some m.cls := findClass_of_methodNamed B.named
  have hlocks := B.notSynchronized
  generalize hQQ : MQ below _ _ s _ _ _ = QQ
  have hl := lv_entry ([.int x0, .int x1, .int x2]) (n := 3) (Nat.le_of_ble_eq_true rfl)
  rw [lg_entry_eq]
  generalize (lg_sl ([.int x0, .int x1, .int x2]) ++ List.replicate (3 - (lg_sl ([.int x0, .int x1, .int x2])).length) Slot.unset).toArray = ls at hl ⊢
  have hl : lv_has ls 3 [(0, .int x0), (1, .int x1), (2, .int x2)] := hl
  unfold p_X8_within at hf
  refine lv_iload_n hx hb dX8_within_0 rfl (lv_at hl 0 rfl) ?_
  refine lv_iload_n hx hb dX8_within_1 rfl (lv_at hl 1 rfl) ?_
  refine lv_icmp_lt (tgt := 14) hx hb dX8_within_2 (by decide) (fun c_1 => ?_) (fun c_1 => ?_)
  · have hf := it_t c_1 hf
    refine lv_iconst (v := 0) hx hb dX8_within_14 (by decide) ?_
    subst hQQ
    exact W.zret hx hb hr rfl (fun t ht hW => ⟨_, rfl, hf, ht⟩) (fun _ h => absurd h List.not_mem_nil) dX8_within_15
  · have hf := it_f c_1 hf
    refine lv_iload_n hx hb dX8_within_5 rfl (lv_at hl 0 rfl) ?_
    refine lv_iload_n hx hb dX8_within_6 rfl (lv_at hl 2 rfl) ?_
    refine lv_icmp_gt (tgt := 14) hx hb dX8_within_7 (by decide) (fun c_2 => ?_) (fun c_2 => ?_)
    · have hf := it_t c_2 hf
      refine lv_iconst (v := 0) hx hb dX8_within_14 (by decide) ?_
      subst hQQ
      exact W.zret hx hb hr rfl (fun t ht hW => ⟨_, rfl, hf, ht⟩) (fun _ h => absurd h List.not_mem_nil) dX8_within_15
    · have hf := it_f c_2 hf
      refine lv_iconst (v := 1) hx hb dX8_within_10 (by decide) ?_
      refine lv_goto (tgt := 15) hx hb dX8_within_11 (by decide) ?_
      subst hQQ
      exact W.zret hx hb hr rfl (fun t ht hW => ⟨_, rfl, hf, ht⟩) (fun _ h => absurd h List.not_mem_nil) dX8_within_15
def bX5_mostAlike_30 (a1_truth : Nat → Int32) (a1_notes : Nat → Int32) (a1_mud : Nat → Int32) (x2 : Int32) (x3 : Int32) (x4 : Int32) (Q : Int32 → (Nat → Int32) → Prop) (k_5 : (Nat → Int32) → Int32 → Int32 → Prop) (w_2 : Nat → Int32) (v_3 : Int32) (v_4 : Int32) : Prop :=
  if 5 < v_4 then (Q v_3 w_2) else (p_X8_hasBit x4 v_4 (fun r_7 => if r_7 = 0 then (k_5 w_2 v_3 (v_4 + 1)) else (vp_in x2 8 ∧ (p_X0_holds a1_truth a1_mud x2 (fun r_9 => vp_in x2 8 ∧ (p_X2_paceOf v_4 (a1_notes x2.toNatClampNeg) r_9 x3 (a1_mud x2.toNatClampNeg) (fun r_10 => p_X8_within r_10 1 7 (fun r_11 => if r_11 = 0 then (k_5 w_2 v_3 (v_4 + 1)) else (vp_in r_10 8 ∧ (vp_in r_10 8 ∧ (vp_in r_10 8 ∧ (if ((upd w_2 (r_10.toNatClampNeg) ((w_2 r_10.toNatClampNeg) + 1)) r_10.toNatClampNeg) ≤ v_3 then (k_5 (upd w_2 (r_10.toNatClampNeg) ((w_2 r_10.toNatClampNeg) + 1)) v_3 (v_4 + 1)) else (vp_in r_10 8 ∧ (k_5 (upd w_2 (r_10.toNatClampNeg) ((w_2 r_10.toNatClampNeg) + 1)) ((upd w_2 (r_10.toNatClampNeg) ((w_2 r_10.toNatClampNeg) + 1)) r_10.toNatClampNeg) (v_4 + 1)))))))))))))))
def jX5_mostAlike_24 (a1_truth : Nat → Int32) (a1_notes : Nat → Int32) (a1_mud : Nat → Int32) (x2 : Int32) (x3 : Int32) (x4 : Int32) (Q : Int32 → (Nat → Int32) → Prop) (w_1 : Nat → Int32) : Prop :=
  lq3 (bX5_mostAlike_30 a1_truth a1_notes a1_mud x2 x3 x4 Q) 1000 w_1 0 0
def bX5_mostAlike_3 (a1_truth : Nat → Int32) (a1_notes : Nat → Int32) (a1_mud : Nat → Int32) (x2 : Int32) (x3 : Int32) (x4 : Int32) (Q : Int32 → (Nat → Int32) → Prop) (k_16 : (Nat → Int32) → Int32 → Prop) (w_14 : Nat → Int32) (v_15 : Int32) : Prop :=
  if 7 < v_15 then (jX5_mostAlike_24 a1_truth a1_notes a1_mud x2 x3 x4 Q w_14) else (vp_in v_15 8 ∧ (k_16 (upd w_14 (v_15.toNatClampNeg) 0) (v_15 + 1)))
def p_X5_mostAlike (a0_alike : Nat → Int32) (a1_truth : Nat → Int32) (a1_notes : Nat → Int32) (a1_mud : Nat → Int32) (x2 : Int32) (x3 : Int32) (x4 : Int32) (Q : Int32 → (Nat → Int32) → Prop) : Prop :=
  lq2 (bX5_mostAlike_3 a1_truth a1_notes a1_mud x2 x3 x4 Q) 1000 a0_alike 0
def rmX5_mostAlike : Room := { frames := 1, cells := 0, slots := 0, locals := 28 }
set_option maxHeartbeats 4000000 in
set_option maxRecDepth 100000 in
theorem c_X5_mostAlike (l : Launch) (D : va_G) (cI cZ cO : ClassId) (q_a0 q_a0_gains q_a0_alike q_a1 q_a1_yards q_a1_truth q_a1_notes q_a1_words q_a1_mud : Nat) (a0_alike : Nat → Int32) (a1_size : Int32) (a1_truth : Nat → Int32) (a1_notes : Nat → Int32) (a1_mud : Nat → Int32) (sz : Nat) (x2 : Int32) (x3 : Int32) (x4 : Int32) (Q : Int32 → (Nat → Int32) → Prop) (hf : p_X5_mostAlike a0_alike a1_truth a1_notes a1_mud x2 x3 x4 Q) : Met l yX5_mostAlike wsX5_mostAlike rmX5_mostAlike (va_Pc [.ref q_a0, .ref q_a1, .int x2, .int x3, .int x4] (fun U => U.heap.size = sz ∧ va_P D vwCl [(q_a0, .inr (4, [.ref q_a0_gains, .ref q_a0_alike])), (q_a0_alike, .inl (cI, 8, .inl a0_alike)), (q_a1, .inr (0, [.ref q_a1_yards, .ref q_a1_truth, .ref q_a1_notes, .ref q_a1_words, .ref q_a1_mud, .int a1_size])), (q_a1_truth, .inl (cI, 8, .inl a1_truth)), (q_a1_notes, .inl (cI, 8, .inl a1_notes)), (q_a1_mud, .inl (cI, 8, .inl a1_mud))] U.heap ∧ XK D cI cZ cO U ∧ va_D (fun _ => True) [(q_a0, .inr (4, [.ref q_a0_gains, .ref q_a0_alike])), (q_a0_alike, .inl (cI, 8, .inl a0_alike)), (q_a1, .inr (0, [.ref q_a1_yards, .ref q_a1_truth, .ref q_a1_notes, .ref q_a1_words, .ref q_a1_mud, .int a1_size])), (q_a1_truth, .inl (cI, 8, .inl a1_truth)), (q_a1_notes, .inl (cI, 8, .inl a1_notes)), (q_a1_mud, .inl (cI, 8, .inl a1_mud))])) (va_Qi (fun r (u : (Nat → Int32)) => Q r u) (fun (u : (Nat → Int32)) t => va_P D vwCl [(q_a0, .inr (4, [.ref q_a0_gains, .ref q_a0_alike])), (q_a0_alike, .inl (cI, 8, .inl u)), (q_a1, .inr (0, [.ref q_a1_yards, .ref q_a1_truth, .ref q_a1_notes, .ref q_a1_words, .ref q_a1_mud, .int a1_size])), (q_a1_truth, .inl (cI, 8, .inl a1_truth)), (q_a1_notes, .inl (cI, 8, .inl a1_notes)), (q_a1_mud, .inl (cI, 8, .inl a1_mud))] t.heap ∧ va_D (va_A [(q_a0, .inr (4, [.ref q_a0_gains, .ref q_a0_alike])), (q_a0_alike, .inl (cI, 8, .inl a0_alike)), (q_a1, .inr (0, [.ref q_a1_yards, .ref q_a1_truth, .ref q_a1_notes, .ref q_a1_words, .ref q_a1_mud, .int a1_size])), (q_a1_truth, .inl (cI, 8, .inl a1_truth)), (q_a1_notes, .inl (cI, 8, .inl a1_notes)), (q_a1_mud, .inl (cI, 8, .inl a1_mud))] sz) [(q_a0, .inr (4, [.ref q_a0_gains, .ref q_a0_alike])), (q_a0_alike, .inl (cI, 8, .inl u)), (q_a1, .inr (0, [.ref q_a1_yards, .ref q_a1_truth, .ref q_a1_notes, .ref q_a1_words, .ref q_a1_mud, .int a1_size])), (q_a1_truth, .inl (cI, 8, .inl a1_truth)), (q_a1_notes, .inl (cI, 8, .inl a1_notes)), (q_a1_mud, .inl (cI, 8, .inl a1_mud))]) (va_A [(q_a0, .inr (4, [.ref q_a0_gains, .ref q_a0_alike])), (q_a0_alike, .inl (cI, 8, .inl a0_alike)), (q_a1, .inr (0, [.ref q_a1_yards, .ref q_a1_truth, .ref q_a1_notes, .ref q_a1_words, .ref q_a1_mud, .int a1_size])), (q_a1_truth, .inl (cI, 8, .inl a1_truth)), (q_a1_notes, .inl (cI, 8, .inl a1_notes)), (q_a1_mud, .inl (cI, 8, .inl a1_mud))] sz)) 0 0 (va_A [(q_a0, .inr (4, [.ref q_a0_gains, .ref q_a0_alike])), (q_a0_alike, .inl (cI, 8, .inl a0_alike)), (q_a1, .inr (0, [.ref q_a1_yards, .ref q_a1_truth, .ref q_a1_notes, .ref q_a1_words, .ref q_a1_mud, .int a1_size])), (q_a1_truth, .inl (cI, 8, .inl a1_truth)), (q_a1_notes, .inl (cI, 8, .inl a1_notes)), (q_a1_mud, .inl (cI, 8, .inl a1_mud))] sz) := by
  refine Met.ofW (cc := cX5_mostAlike) (maxL := 8) (ret := (some .int)) (by decide) rfl ?_
  intro p e s m args below meth c s₁ B hml hv
  obtain ⟨rfl, hsz, hP, hX, hD0⟩ := hv
  have hK := hX.1
  have hx := B.exec
  have hb := B.bytes
  have hr := B.returns
  have hts := atoms_spec (ws := wsX5_mostAlike) B.pre
  have hown : s.vm.findClass RX5 = some m.cls := findClass_of_methodNamed B.named
  have hlocks := B.notSynchronized
  have in_X0 : ∀ w ∈ wsX00, w ∈ wsX5_mostAlike := fun _ h => List.mem_cons_of_mem _ (List.mem_append_right _ h)
  have in_X5 : ∀ w ∈ wsX50, w ∈ wsX5_mostAlike := fun _ h => List.mem_cons_of_mem _ (List.mem_append_left _ (List.mem_append_right _ h))
  have ki_X8 := hts (.initialized RX8) (by decide +kernel)
  have ks_X8_hasBit := hts (.static yX8_hasBit) (by decide +kernel)
  have kf_51 := hts (.fieldLink RX5 51 "LeftCrest$Bends" "notes" "[I") (by decide +kernel)
  have kf_74 := hts (.fieldLink RX5 74 "LeftCrest$Bends" "mud" "[I") (by decide +kernel)
  have ks_X8_within := hts (.static yX8_within) (by decide +kernel)
  have kf_15 := hts (.fieldLink RX5 15 "LeftCrest$Plans" "alike" "[I") (by decide +kernel)
  subst hsz
  have hD := hD0.self (sz := s.heap.size)
  generalize hAe : va_A [(q_a0, .inr (4, [.ref q_a0_gains, .ref q_a0_alike])), (q_a0_alike, .inl (cI, 8, .inl a0_alike)), (q_a1, .inr (0, [.ref q_a1_yards, .ref q_a1_truth, .ref q_a1_notes, .ref q_a1_words, .ref q_a1_mud, .int a1_size])), (q_a1_truth, .inl (cI, 8, .inl a1_truth)), (q_a1_notes, .inl (cI, 8, .inl a1_notes)), (q_a1_mud, .inl (cI, 8, .inl a1_mud))] s.heap.size = A at hD ⊢
  have hA : ∀ q : Nat, s.heap.size ≤ q → A q := fun q h => by rw [← hAe]; exact Or.inr h
  have hS : va_S A s.heap s.heap [] := va_S.rf
  have hP : va_P D vwCl [(q_a0, .inr (4, [.ref q_a0_gains, .ref q_a0_alike])), (q_a0_alike, .inl (cI, 8, .inl a0_alike)), (q_a1, .inr (0, [.ref q_a1_yards, .ref q_a1_truth, .ref q_a1_notes, .ref q_a1_words, .ref q_a1_mud, .int a1_size])), (q_a1_truth, .inl (cI, 8, .inl a1_truth)), (q_a1_notes, .inl (cI, 8, .inl a1_notes)), (q_a1_mud, .inl (cI, 8, .inl a1_mud))] s.heap := hP
  generalize hQQ : MQ below _ _ s _ _ _ = QQ
  have hl := lv_entry ([.ref q_a0, .ref q_a1, .int x2, .int x3, .int x4]) (n := 8) (Nat.le_of_ble_eq_true rfl)
  rw [lg_entry_eq]
  generalize (lg_sl ([.ref q_a0, .ref q_a1, .int x2, .int x3, .int x4]) ++ List.replicate (8 - (lg_sl ([.ref q_a0, .ref q_a1, .int x2, .int x3, .int x4])).length) Slot.unset).toArray = ls at hl ⊢
  have hl : lv_has ls 8 [(0, .ref q_a0), (1, .ref q_a1), (2, .int x2), (3, .int x3), (4, .int x4)] := hl
  have hj_24 : ∀ (w_1 : Nat → Int32) (H : Heap) (locs : List Loc), jX5_mostAlike_24 a1_truth a1_notes a1_mud x2 x3 x4 Q w_1 → va_P D vwCl [(q_a0, .inr (4, [.ref q_a0_gains, .ref q_a0_alike])), (q_a0_alike, .inl (cI, 8, .inl w_1)), (q_a1, .inr (0, [.ref q_a1_yards, .ref q_a1_truth, .ref q_a1_notes, .ref q_a1_words, .ref q_a1_mud, .int a1_size])), (q_a1_truth, .inl (cI, 8, .inl a1_truth)), (q_a1_notes, .inl (cI, 8, .inl a1_notes)), (q_a1_mud, .inl (cI, 8, .inl a1_mud))] H → va_D A [(q_a0, .inr (4, [.ref q_a0_gains, .ref q_a0_alike])), (q_a0_alike, .inl (cI, 8, .inl w_1)), (q_a1, .inr (0, [.ref q_a1_yards, .ref q_a1_truth, .ref q_a1_notes, .ref q_a1_words, .ref q_a1_mud, .int a1_size])), (q_a1_truth, .inl (cI, 8, .inl a1_truth)), (q_a1_notes, .inl (cI, 8, .inl a1_notes)), (q_a1_mud, .inl (cI, 8, .inl a1_mud))] → va_S A s.heap H locs → ∀ ls : Array Slot, lv_has ls 8 [(0, .ref q_a0), (1, .ref q_a1), (2, .int x2), (3, .int x3), (4, .int x4)] → W p l e (headSpec wsX5_mostAlike rmX5_mostAlike).room s m ([.ref q_a0, .ref q_a1, .int x2, .int x3, .int x4] : List Value).toArray below meth c H locs 0 0 QQ (F0 m 24 ls []) := by
    intro w_1 H locs hf hP hD hS ls hl
    unfold jX5_mostAlike_24 at hf
    refine lv_iconst (v := 0) hx hb dX5_mostAlike_24 (by decide) ?_
    refine lv_istore (lv' := [(5, .int 0), (0, .ref q_a0), (1, .ref q_a1), (2, .int x2), (3, .int x3), (4, .int x4)]) hx hb dX5_mostAlike_25 hl (by decide) rfl (fun ls hl => ?_)
    refine lv_iconst (v := 0) hx hb dX5_mostAlike_27 (by decide) ?_
    refine lv_istore (lv' := [(6, .int 0), (5, .int 0), (0, .ref q_a0), (1, .ref q_a1), (2, .int x2), (3, .int x3), (4, .int x4)]) hx hb dX5_mostAlike_28 hl (by decide) rfl (fun ls hl => ?_)
    have hlp_30 : ∀ (n_30 : Nat) (w_2 : Nat → Int32) (v_3 : Int32) (v_4 : Int32) (H : Heap) (locs : List Loc) (ls : Array Slot), lq3 (bX5_mostAlike_30 a1_truth a1_notes a1_mud x2 x3 x4 Q) n_30 w_2 v_3 v_4 → va_P D vwCl [(q_a0, .inr (4, [.ref q_a0_gains, .ref q_a0_alike])), (q_a0_alike, .inl (cI, 8, .inl w_2)), (q_a1, .inr (0, [.ref q_a1_yards, .ref q_a1_truth, .ref q_a1_notes, .ref q_a1_words, .ref q_a1_mud, .int a1_size])), (q_a1_truth, .inl (cI, 8, .inl a1_truth)), (q_a1_notes, .inl (cI, 8, .inl a1_notes)), (q_a1_mud, .inl (cI, 8, .inl a1_mud))] H → va_D A [(q_a0, .inr (4, [.ref q_a0_gains, .ref q_a0_alike])), (q_a0_alike, .inl (cI, 8, .inl w_2)), (q_a1, .inr (0, [.ref q_a1_yards, .ref q_a1_truth, .ref q_a1_notes, .ref q_a1_words, .ref q_a1_mud, .int a1_size])), (q_a1_truth, .inl (cI, 8, .inl a1_truth)), (q_a1_notes, .inl (cI, 8, .inl a1_notes)), (q_a1_mud, .inl (cI, 8, .inl a1_mud))] → va_S A s.heap H locs → lv_has ls 8 [(0, .ref q_a0), (1, .ref q_a1), (2, .int x2), (3, .int x3), (4, .int x4), (5, .int v_3), (6, .int v_4)] → W p l e (headSpec wsX5_mostAlike rmX5_mostAlike).room s m ([.ref q_a0, .ref q_a1, .int x2, .int x3, .int x4] : List Value).toArray below meth c H locs 0 0 QQ (F0 m 30 ls []) := by
      intro n_30
      induction n_30 with
      | zero => intro w_2 v_3 v_4 H locs ls hf; exact (lq3_0 hf).elim
      | succ n_30 ih =>
        have ih_30 := ih
        intro w_2 v_3 v_4 H locs ls hf hP hD hS hl
        have hf := lq3_s hf
        unfold bX5_mostAlike_30 at hf
        refine lv_iload hx hb dX5_mostAlike_30 (lv_at hl 6 rfl) ?_
        refine lv_iconst (v := 5) hx hb dX5_mostAlike_32 (by decide) ?_
        refine lv_icmp_gt (tgt := 126) hx hb dX5_mostAlike_33 (by decide) (fun c_6 => ?_) (fun c_6 => ?_)
        · have hf := it_t c_6 hf
          refine lv_iload hx hb dX5_mostAlike_126 (lv_at hl 5 rfl) ?_
          subst hQQ
          have hP9 := hP.sub (ws' := [(q_a0, .inr (4, [.ref q_a0_gains, .ref q_a0_alike])), (q_a0_alike, .inl (cI, 8, .inl w_2)), (q_a1, .inr (0, [.ref q_a1_yards, .ref q_a1_truth, .ref q_a1_notes, .ref q_a1_words, .ref q_a1_mud, .int a1_size])), (q_a1_truth, .inl (cI, 8, .inl a1_truth)), (q_a1_notes, .inl (cI, 8, .inl a1_notes)), (q_a1_mud, .inl (cI, 8, .inl a1_mud))]) [0, 1, 2, 3, 4, 5] rfl
          have hD9 := hD.sub (ws' := [(q_a0, .inr (4, [.ref q_a0_gains, .ref q_a0_alike])), (q_a0_alike, .inl (cI, 8, .inl w_2)), (q_a1, .inr (0, [.ref q_a1_yards, .ref q_a1_truth, .ref q_a1_notes, .ref q_a1_words, .ref q_a1_mud, .int a1_size])), (q_a1_truth, .inl (cI, 8, .inl a1_truth)), (q_a1_notes, .inl (cI, 8, .inl a1_notes)), (q_a1_mud, .inl (cI, 8, .inl a1_mud))]) [0, 1, 2, 3, 4, 5] (by decide) rfl
          exact W.iret hx hb hr (fun t ht hW => ⟨⟨v_3, w_2, rfl, hf, by rw [ht]; exact hP9, hD9⟩, hS.F ht⟩) hS.2.2 dX5_mostAlike_128
        · have hf := it_f c_6 hf
          refine lv_iload hx hb dX5_mostAlike_36 (lv_at hl 4 rfl) ?_
          refine lv_iload hx hb dX5_mostAlike_38 (lv_at hl 6 rfl) ?_
          refine ya_csi (va_runSN (As := [.int x4, .int v_4]) (rest := []) ⟨hx, hb, hml, hown, hts⟩ (c_X8_hasBit l D cI cZ cO  x4 v_4 _ hf) (⟨va_cnB 2 hts gX5_mostAlike_X8_hasBit_n37 rfl rfl rfl hX.n_X5_37 ki_X8 (by decide +kernel) ⟨Nat.le_of_ble_eq_true rfl, Nat.le_of_ble_eq_true rfl⟩, ks_X8_hasBit, trivial⟩) (ps_ro va_P0 hX) rfl rfl hl.1 rfl (lv_room (Nat.le_of_ble_eq_true rfl)) dX5_mostAlike_40 ⟨Nat.zero_le _, Nat.zero_le _⟩) (fun r_7 hf => ?_)
          refine lv_if_ne (tgt := 49) hx hb dX5_mostAlike_43 (by decide) (fun c_8 => ?_) (fun c_8 => ?_)
          · have hf := it_f c_8 hf
            refine lv_iload hx hb dX5_mostAlike_49 (lv_at hl 6 rfl) ?_
            refine lv_aload_n hx hb dX5_mostAlike_51 rfl (lv_at hl 1 rfl) ?_
            refine va_get (D := D) (ci := 0) (v := .ref q_a1_notes) (C := RX0) (T := TX0) (N := 6) hx hb hts in_X0 hown hK hP 2 rfl rfl 2 (by decide) kf_51 (fun _ h9 => h9) rfl dX5_mostAlike_52 ?_
            refine lv_iload_n hx hb dX5_mostAlike_55 rfl (lv_at hl 2 rfl) ?_
            refine va_iald hx hb hK hP 4 0 rfl rfl hf.1 dX5_mostAlike_56 ?_
            have hf := hf.2
            refine lv_aload_n hx hb dX5_mostAlike_57 rfl (lv_at hl 1 rfl) ?_
            refine lv_iload_n hx hb dX5_mostAlike_58 rfl (lv_at hl 2 rfl) ?_
            refine ya_csi (va_runV (As := [.int x2]) (rest := [.int (a1_notes x2.toNatClampNeg), .int v_4]) ⟨hx, hb, hml, hown, hts⟩ (c_X0_holds l D cI cZ cO q_a1 q_a1_yards q_a1_truth q_a1_notes q_a1_words q_a1_mud a1_size a1_truth a1_mud x2 _ hf) (cwV 1 hts gX5_mostAlike_X0_holds rfl rfl rfl (by decide +kernel) ⟨Nat.le_of_ble_eq_true rfl, Nat.le_of_ble_eq_true rfl⟩) (pv_ro (ci := 0) (q0 := 0) (hP.sub [2, 3, 5] rfl) hX rfl rfl) rfl rfl hl.1 rfl (lv_room (Nat.le_of_ble_eq_true rfl)) dX5_mostAlike_59 ⟨Nat.zero_le _, Nat.zero_le _⟩) (fun r_9 hf => ?_)
            refine lv_iload_n hx hb dX5_mostAlike_62 rfl (lv_at hl 3 rfl) ?_
            refine lv_aload_n hx hb dX5_mostAlike_63 rfl (lv_at hl 1 rfl) ?_
            refine va_get (D := D) (ci := 0) (v := .ref q_a1_mud) (C := RX0) (T := TX0) (N := 6) hx hb hts in_X0 hown hK hP 2 rfl rfl 4 (by decide) kf_74 (fun _ h9 => h9) rfl dX5_mostAlike_64 ?_
            refine lv_iload_n hx hb dX5_mostAlike_67 rfl (lv_at hl 2 rfl) ?_
            refine va_iald hx hb hK hP 5 0 rfl rfl hf.1 dX5_mostAlike_68 ?_
            have hf := hf.2
            refine ya_csi (va_runS (As := [.int v_4, .int (a1_notes x2.toNatClampNeg), .int r_9, .int x3, .int (a1_mud x2.toNatClampNeg)]) (rest := []) ⟨hx, hb, hml, hown, hts⟩ (c_X2_paceOf l D cI cZ cO  v_4 (a1_notes x2.toNatClampNeg) r_9 x3 (a1_mud x2.toNatClampNeg) _ hf) (va_cwS 5 hts gX5_mostAlike_X2_paceOf rfl rfl rfl (by decide +kernel) ⟨Nat.le_of_ble_eq_true rfl, Nat.le_of_ble_eq_true rfl⟩) (ps_ro va_P0 hX) rfl rfl hl.1 rfl (lv_room (Nat.le_of_ble_eq_true rfl)) dX5_mostAlike_69 ⟨Nat.zero_le _, Nat.zero_le _⟩) (fun r_10 hf => ?_)
            refine lv_istore (lv' := [(7, .int r_10), (0, .ref q_a0), (1, .ref q_a1), (2, .int x2), (3, .int x3), (4, .int x4), (5, .int v_3), (6, .int v_4)]) hx hb dX5_mostAlike_72 hl (by decide) rfl (fun ls hl => ?_)
            refine lv_iload hx hb dX5_mostAlike_74 (lv_at hl 0 rfl) ?_
            refine lv_iconst (v := 1) hx hb dX5_mostAlike_76 (by decide) ?_
            refine lv_bipush (v := 7) hx hb dX5_mostAlike_77 (by decide) ?_
            refine ya_csi (va_runSN (As := [.int r_10, .int 1, .int 7]) (rest := []) ⟨hx, hb, hml, hown, hts⟩ (c_X8_within l D cI cZ cO  r_10 1 7 _ hf) (⟨va_cnB 3 hts gX5_mostAlike_X8_within_n81 rfl rfl rfl hX.n_X5_81 ki_X8 (by decide +kernel) ⟨Nat.le_of_ble_eq_true rfl, Nat.le_of_ble_eq_true rfl⟩, ks_X8_within, trivial⟩) (ps_ro va_P0 hX) rfl rfl hl.1 rfl (lv_room (Nat.le_of_ble_eq_true rfl)) dX5_mostAlike_79 ⟨Nat.zero_le _, Nat.zero_le _⟩) (fun r_11 hf => ?_)
            refine lv_if_ne (tgt := 88) hx hb dX5_mostAlike_82 (by decide) (fun c_12 => ?_) (fun c_12 => ?_)
            · have hf := it_f c_12 hf
              refine lv_aload_n hx hb dX5_mostAlike_88 rfl (lv_at hl 1 rfl) ?_
              refine va_get (D := D) (ci := 4) (v := .ref q_a0_alike) (C := RX5) (T := TX5) (N := 2) hx hb hts in_X5 hown hK hP 0 rfl rfl 1 (by decide) kf_15 (fun _ h9 => h9) rfl dX5_mostAlike_89 ?_
              refine lv_iload hx hb dX5_mostAlike_92 (lv_at hl 0 rfl) ?_
              refine lv_dup2_11 hx hb dX5_mostAlike_94 rfl rfl ?_
              refine va_iald hx hb hK hP 1 0 rfl rfl hf.1 dX5_mostAlike_95 ?_
              have hf := hf.2
              refine lv_iconst (v := 1) hx hb dX5_mostAlike_96 (by decide) ?_
              refine lv_iadd hx hb dX5_mostAlike_97 ?_
              refine va_iast hx hb hK hP hD hS 1 0 rfl rfl hf.1 dX5_mostAlike_98 (fun H locs hP hD hS => ?_)
              have hP : va_P D vwCl [(q_a0, .inr (4, [.ref q_a0_gains, .ref q_a0_alike])), (q_a0_alike, .inl (cI, 8, .inl (upd w_2 (r_10.toNatClampNeg) ((w_2 r_10.toNatClampNeg) + 1)))), (q_a1, .inr (0, [.ref q_a1_yards, .ref q_a1_truth, .ref q_a1_notes, .ref q_a1_words, .ref q_a1_mud, .int a1_size])), (q_a1_truth, .inl (cI, 8, .inl a1_truth)), (q_a1_notes, .inl (cI, 8, .inl a1_notes)), (q_a1_mud, .inl (cI, 8, .inl a1_mud))] H := hP
              have hD : va_D A [(q_a0, .inr (4, [.ref q_a0_gains, .ref q_a0_alike])), (q_a0_alike, .inl (cI, 8, .inl (upd w_2 (r_10.toNatClampNeg) ((w_2 r_10.toNatClampNeg) + 1)))), (q_a1, .inr (0, [.ref q_a1_yards, .ref q_a1_truth, .ref q_a1_notes, .ref q_a1_words, .ref q_a1_mud, .int a1_size])), (q_a1_truth, .inl (cI, 8, .inl a1_truth)), (q_a1_notes, .inl (cI, 8, .inl a1_notes)), (q_a1_mud, .inl (cI, 8, .inl a1_mud))] := hD
              have hf := hf.2
              refine lv_aload_n hx hb dX5_mostAlike_99 rfl (lv_at hl 1 rfl) ?_
              refine va_get (D := D) (ci := 4) (v := .ref q_a0_alike) (C := RX5) (T := TX5) (N := 2) hx hb hts in_X5 hown hK hP 0 rfl rfl 1 (by decide) kf_15 (fun _ h9 => h9) rfl dX5_mostAlike_100 ?_
              refine lv_iload hx hb dX5_mostAlike_103 (lv_at hl 0 rfl) ?_
              refine va_iald hx hb hK hP 1 0 rfl rfl hf.1 dX5_mostAlike_105 ?_
              have hf := hf.2
              refine lv_iload hx hb dX5_mostAlike_106 (lv_at hl 6 rfl) ?_
              refine lv_icmp_le (tgt := 120) hx hb dX5_mostAlike_108 (by decide) (fun c_13 => ?_) (fun c_13 => ?_)
              · have hf := it_t c_13 hf
                refine lv_iinc (v := v_4 + 1) (lv' := [(6, .int (v_4 + 1)), (7, .int r_10), (0, .ref q_a0), (1, .ref q_a1), (2, .int x2), (3, .int x3), (4, .int x4), (5, .int v_3)]) hx hb dX5_mostAlike_120 hl (k := 7) rfl rfl (by decide) rfl (fun ls hl => ?_)
                refine lv_goto (tgt := 30) hx hb dX5_mostAlike_123 (by decide) ?_
                exact ih (upd w_2 (r_10.toNatClampNeg) ((w_2 r_10.toNatClampNeg) + 1)) v_3 (v_4 + 1) _ _ ls hf (hP.sub [0, 1, 2, 3, 4, 5] rfl) (hD.sub [0, 1, 2, 3, 4, 5] (by decide) rfl) hS (lv_sub hl [2, 3, 4, 5, 6, 7, 0] rfl)
              · have hf := it_f c_13 hf
                refine lv_aload_n hx hb dX5_mostAlike_111 rfl (lv_at hl 1 rfl) ?_
                refine va_get (D := D) (ci := 4) (v := .ref q_a0_alike) (C := RX5) (T := TX5) (N := 2) hx hb hts in_X5 hown hK hP 0 rfl rfl 1 (by decide) kf_15 (fun _ h9 => h9) rfl dX5_mostAlike_112 ?_
                refine lv_iload hx hb dX5_mostAlike_115 (lv_at hl 0 rfl) ?_
                refine va_iald hx hb hK hP 1 0 rfl rfl hf.1 dX5_mostAlike_117 ?_
                have hf := hf.2
                refine lv_istore (lv' := [(5, .int ((upd w_2 (r_10.toNatClampNeg) ((w_2 r_10.toNatClampNeg) + 1)) r_10.toNatClampNeg)), (7, .int r_10), (0, .ref q_a0), (1, .ref q_a1), (2, .int x2), (3, .int x3), (4, .int x4), (6, .int v_4)]) hx hb dX5_mostAlike_118 hl (by decide) rfl (fun ls hl => ?_)
                refine lv_iinc (v := v_4 + 1) (lv' := [(6, .int (v_4 + 1)), (5, .int ((upd w_2 (r_10.toNatClampNeg) ((w_2 r_10.toNatClampNeg) + 1)) r_10.toNatClampNeg)), (7, .int r_10), (0, .ref q_a0), (1, .ref q_a1), (2, .int x2), (3, .int x3), (4, .int x4)]) hx hb dX5_mostAlike_120 hl (k := 7) rfl rfl (by decide) rfl (fun ls hl => ?_)
                refine lv_goto (tgt := 30) hx hb dX5_mostAlike_123 (by decide) ?_
                exact ih (upd w_2 (r_10.toNatClampNeg) ((w_2 r_10.toNatClampNeg) + 1)) ((upd w_2 (r_10.toNatClampNeg) ((w_2 r_10.toNatClampNeg) + 1)) r_10.toNatClampNeg) (v_4 + 1) _ _ ls hf (hP.sub [0, 1, 2, 3, 4, 5] rfl) (hD.sub [0, 1, 2, 3, 4, 5] (by decide) rfl) hS (lv_sub hl [3, 4, 5, 6, 7, 1, 0] rfl)
            · have hf := it_t c_12 hf
              refine lv_goto (tgt := 120) hx hb dX5_mostAlike_85 (by decide) ?_
              refine lv_iinc (v := v_4 + 1) (lv' := [(6, .int (v_4 + 1)), (7, .int r_10), (0, .ref q_a0), (1, .ref q_a1), (2, .int x2), (3, .int x3), (4, .int x4), (5, .int v_3)]) hx hb dX5_mostAlike_120 hl (k := 7) rfl rfl (by decide) rfl (fun ls hl => ?_)
              refine lv_goto (tgt := 30) hx hb dX5_mostAlike_123 (by decide) ?_
              exact ih w_2 v_3 (v_4 + 1) _ _ ls hf (hP.sub [0, 1, 2, 3, 4, 5] rfl) (hD.sub [0, 1, 2, 3, 4, 5] (by decide) rfl) hS (lv_sub hl [2, 3, 4, 5, 6, 7, 0] rfl)
          · have hf := it_t c_8 hf
            refine lv_goto (tgt := 120) hx hb dX5_mostAlike_46 (by decide) ?_
            refine lv_iinc (v := v_4 + 1) (lv' := [(6, .int (v_4 + 1)), (0, .ref q_a0), (1, .ref q_a1), (2, .int x2), (3, .int x3), (4, .int x4), (5, .int v_3)]) hx hb dX5_mostAlike_120 hl (k := 6) rfl rfl (by decide) rfl (fun ls hl => ?_)
            refine lv_goto (tgt := 30) hx hb dX5_mostAlike_123 (by decide) ?_
            exact ih w_2 v_3 (v_4 + 1) _ _ ls hf (hP.sub [0, 1, 2, 3, 4, 5] rfl) (hD.sub [0, 1, 2, 3, 4, 5] (by decide) rfl) hS (lv_sub hl [1, 2, 3, 4, 5, 6, 0] rfl)
    exact hlp_30 1000 w_1 0 0 _ _ ls hf (hP.sub [0, 1, 2, 3, 4, 5] rfl) (hD.sub [0, 1, 2, 3, 4, 5] (by decide) rfl) hS (lv_sub hl [2, 3, 4, 5, 6, 1, 0] rfl)
  unfold p_X5_mostAlike at hf
  refine lv_iconst (v := 0) hx hb dX5_mostAlike_0 (by decide) ?_
  refine lv_istore (lv' := [(5, .int 0), (0, .ref q_a0), (1, .ref q_a1), (2, .int x2), (3, .int x3), (4, .int x4)]) hx hb dX5_mostAlike_1 hl (by decide) rfl (fun ls hl => ?_)
  have hlp_3 : ∀ (n_3 : Nat) (w_14 : Nat → Int32) (v_15 : Int32) (H : Heap) (locs : List Loc) (ls : Array Slot), lq2 (bX5_mostAlike_3 a1_truth a1_notes a1_mud x2 x3 x4 Q) n_3 w_14 v_15 → va_P D vwCl [(q_a0, .inr (4, [.ref q_a0_gains, .ref q_a0_alike])), (q_a0_alike, .inl (cI, 8, .inl w_14)), (q_a1, .inr (0, [.ref q_a1_yards, .ref q_a1_truth, .ref q_a1_notes, .ref q_a1_words, .ref q_a1_mud, .int a1_size])), (q_a1_truth, .inl (cI, 8, .inl a1_truth)), (q_a1_notes, .inl (cI, 8, .inl a1_notes)), (q_a1_mud, .inl (cI, 8, .inl a1_mud))] H → va_D A [(q_a0, .inr (4, [.ref q_a0_gains, .ref q_a0_alike])), (q_a0_alike, .inl (cI, 8, .inl w_14)), (q_a1, .inr (0, [.ref q_a1_yards, .ref q_a1_truth, .ref q_a1_notes, .ref q_a1_words, .ref q_a1_mud, .int a1_size])), (q_a1_truth, .inl (cI, 8, .inl a1_truth)), (q_a1_notes, .inl (cI, 8, .inl a1_notes)), (q_a1_mud, .inl (cI, 8, .inl a1_mud))] → va_S A s.heap H locs → lv_has ls 8 [(0, .ref q_a0), (1, .ref q_a1), (2, .int x2), (3, .int x3), (4, .int x4), (5, .int v_15)] → W p l e (headSpec wsX5_mostAlike rmX5_mostAlike).room s m ([.ref q_a0, .ref q_a1, .int x2, .int x3, .int x4] : List Value).toArray below meth c H locs 0 0 QQ (F0 m 3 ls []) := by
    intro n_3
    induction n_3 with
    | zero => intro w_14 v_15 H locs ls hf; exact (lq2_0 hf).elim
    | succ n_3 ih =>
      have ih_3 := ih
      intro w_14 v_15 H locs ls hf hP hD hS hl
      have hf := lq2_s hf
      unfold bX5_mostAlike_3 at hf
      refine lv_iload hx hb dX5_mostAlike_3 (lv_at hl 5 rfl) ?_
      refine lv_bipush (v := 7) hx hb dX5_mostAlike_5 (by decide) ?_
      refine lv_icmp_gt (tgt := 24) hx hb dX5_mostAlike_7 (by decide) (fun c_17 => ?_) (fun c_17 => ?_)
      · have hf := it_t c_17 hf
        exact hj_24 w_14 _ _ hf (hP.sub [0, 1, 2, 3, 4, 5] rfl) (hD.sub [0, 1, 2, 3, 4, 5] (by decide) rfl) hS ls (lv_sub hl [0, 1, 2, 3, 4] rfl)
      · have hf := it_f c_17 hf
        refine lv_aload_n hx hb dX5_mostAlike_10 rfl (lv_at hl 0 rfl) ?_
        refine va_get (D := D) (ci := 4) (v := .ref q_a0_alike) (C := RX5) (T := TX5) (N := 2) hx hb hts in_X5 hown hK hP 0 rfl rfl 1 (by decide) kf_15 (fun _ h9 => h9) rfl dX5_mostAlike_11 ?_
        refine lv_iload hx hb dX5_mostAlike_14 (lv_at hl 5 rfl) ?_
        refine lv_iconst (v := 0) hx hb dX5_mostAlike_16 (by decide) ?_
        refine va_iast hx hb hK hP hD hS 1 0 rfl rfl hf.1 dX5_mostAlike_17 (fun H locs hP hD hS => ?_)
        have hP : va_P D vwCl [(q_a0, .inr (4, [.ref q_a0_gains, .ref q_a0_alike])), (q_a0_alike, .inl (cI, 8, .inl (upd w_14 (v_15.toNatClampNeg) 0))), (q_a1, .inr (0, [.ref q_a1_yards, .ref q_a1_truth, .ref q_a1_notes, .ref q_a1_words, .ref q_a1_mud, .int a1_size])), (q_a1_truth, .inl (cI, 8, .inl a1_truth)), (q_a1_notes, .inl (cI, 8, .inl a1_notes)), (q_a1_mud, .inl (cI, 8, .inl a1_mud))] H := hP
        have hD : va_D A [(q_a0, .inr (4, [.ref q_a0_gains, .ref q_a0_alike])), (q_a0_alike, .inl (cI, 8, .inl (upd w_14 (v_15.toNatClampNeg) 0))), (q_a1, .inr (0, [.ref q_a1_yards, .ref q_a1_truth, .ref q_a1_notes, .ref q_a1_words, .ref q_a1_mud, .int a1_size])), (q_a1_truth, .inl (cI, 8, .inl a1_truth)), (q_a1_notes, .inl (cI, 8, .inl a1_notes)), (q_a1_mud, .inl (cI, 8, .inl a1_mud))] := hD
        have hf := hf.2
        refine lv_iinc (v := v_15 + 1) (lv' := [(5, .int (v_15 + 1)), (0, .ref q_a0), (1, .ref q_a1), (2, .int x2), (3, .int x3), (4, .int x4)]) hx hb dX5_mostAlike_18 hl (k := 5) rfl rfl (by decide) rfl (fun ls hl => ?_)
        refine lv_goto (tgt := 3) hx hb dX5_mostAlike_21 (by decide) ?_
        exact ih (upd w_14 (v_15.toNatClampNeg) 0) (v_15 + 1) _ _ ls hf (hP.sub [0, 1, 2, 3, 4, 5] rfl) (hD.sub [0, 1, 2, 3, 4, 5] (by decide) rfl) hS (lv_sub hl [1, 2, 3, 4, 5, 0] rfl)
  exact hlp_3 1000 a0_alike 0 _ _ ls hf (hP.sub [0, 1, 2, 3, 4, 5] rfl) (hD.sub [0, 1, 2, 3, 4, 5] (by decide) rfl) hS (lv_sub hl [1, 2, 3, 4, 5, 0] rfl)
def bX5_bestLook_25 (a1_bends_truth : Nat → Int32) (a1_bends_notes : Nat → Int32) (a1_bends_mud : Nat → Int32) (a1_bends_size : Int32) (x2 : Int32) (k_6 : (Nat → Int32) → Int32 → Int32 → Int32 → Prop) (v_5 : Int32) (k_12 : (Nat → Int32) → Int32 → Int32 → Int32 → Prop) (w_8 : Nat → Int32) (v_9 : Int32) (v_10 : Int32) (v_11 : Int32) : Prop :=
  if a1_bends_size ≤ v_11 then (k_6 w_8 v_9 v_10 (v_5 + 1)) else (p_X5_mostAlike w_8 a1_bends_truth a1_bends_notes a1_bends_mud v_11 v_5 x2 (fun r_14 u_15 => if v_10 ≤ r_14 then (k_12 u_15 v_9 v_10 (v_11 + 1)) else (k_12 u_15 ((10 * v_5) + v_11) r_14 (v_11 + 1))))
def bX5_bestLook_15 (a1_bends_truth : Nat → Int32) (a1_bends_notes : Nat → Int32) (a1_bends_mud : Nat → Int32) (a1_bends_size : Int32) (x2 : Int32) (Q : Int32 → (Nat → Int32) → Prop) (k_6 : (Nat → Int32) → Int32 → Int32 → Int32 → Prop) (w_2 : Nat → Int32) (v_3 : Int32) (v_4 : Int32) (v_5 : Int32) : Prop :=
  if 9 < v_5 then (Q v_3 w_2) else (lq4 (bX5_bestLook_25 a1_bends_truth a1_bends_notes a1_bends_mud a1_bends_size x2 k_6 v_5) 1000 w_2 v_3 v_4 0)
def p_X5_bestLook (a0_alike : Nat → Int32) (a1_bends_truth : Nat → Int32) (a1_bends_notes : Nat → Int32) (a1_bends_mud : Nat → Int32) (a1_bends_size : Int32) (x2 : Int32) (Q : Int32 → (Nat → Int32) → Prop) : Prop :=
  if x2 = 0 then (Q (-1) a0_alike) else (lq4 (bX5_bestLook_15 a1_bends_truth a1_bends_notes a1_bends_mud a1_bends_size x2 Q) 1000 a0_alike (-1) 7 0)
def rmX5_bestLook : Room := { frames := 2, cells := 0, slots := 0, locals := 55 }
set_option maxHeartbeats 4000000 in
set_option maxRecDepth 100000 in
theorem c_X5_bestLook (l : Launch) (D : va_G) (cI cZ cO : ClassId) (q_a0 q_a0_gains q_a0_alike q_a1 q_a1_bends q_a1_felt q_a1_paces q_a1_past q_a1_bends_yards q_a1_bends_truth q_a1_bends_notes q_a1_bends_words q_a1_bends_mud : Nat) (a0_alike : Nat → Int32) (a1_kind : Int32) (a1_fog : Int32) (a1_here : Int32) (a1_seconds : Int32) (a1_crashes : Int32) (a1_bends_size : Int32) (a1_bends_truth : Nat → Int32) (a1_bends_notes : Nat → Int32) (a1_bends_mud : Nat → Int32) (sz : Nat) (x2 : Int32) (Q : Int32 → (Nat → Int32) → Prop) (hf : p_X5_bestLook a0_alike a1_bends_truth a1_bends_notes a1_bends_mud a1_bends_size x2 Q) : Met l yX5_bestLook wsX5_bestLook rmX5_bestLook (va_Pc [.ref q_a0, .ref q_a1, .int x2] (fun U => U.heap.size = sz ∧ va_P D vwCl [(q_a0, .inr (4, [.ref q_a0_gains, .ref q_a0_alike])), (q_a0_alike, .inl (cI, 8, .inl a0_alike)), (q_a1, .inr (5, [.ref q_a1_bends, .ref q_a1_felt, .ref q_a1_paces, .ref q_a1_past, .int a1_kind, .int a1_fog, .int a1_here, .int a1_seconds, .int a1_crashes])), (q_a1_bends, .inr (0, [.ref q_a1_bends_yards, .ref q_a1_bends_truth, .ref q_a1_bends_notes, .ref q_a1_bends_words, .ref q_a1_bends_mud, .int a1_bends_size])), (q_a1_bends_truth, .inl (cI, 8, .inl a1_bends_truth)), (q_a1_bends_notes, .inl (cI, 8, .inl a1_bends_notes)), (q_a1_bends_mud, .inl (cI, 8, .inl a1_bends_mud))] U.heap ∧ XK D cI cZ cO U ∧ va_D (fun _ => True) [(q_a0, .inr (4, [.ref q_a0_gains, .ref q_a0_alike])), (q_a0_alike, .inl (cI, 8, .inl a0_alike)), (q_a1, .inr (5, [.ref q_a1_bends, .ref q_a1_felt, .ref q_a1_paces, .ref q_a1_past, .int a1_kind, .int a1_fog, .int a1_here, .int a1_seconds, .int a1_crashes])), (q_a1_bends, .inr (0, [.ref q_a1_bends_yards, .ref q_a1_bends_truth, .ref q_a1_bends_notes, .ref q_a1_bends_words, .ref q_a1_bends_mud, .int a1_bends_size])), (q_a1_bends_truth, .inl (cI, 8, .inl a1_bends_truth)), (q_a1_bends_notes, .inl (cI, 8, .inl a1_bends_notes)), (q_a1_bends_mud, .inl (cI, 8, .inl a1_bends_mud))])) (va_Qi (fun r (u : (Nat → Int32)) => Q r u) (fun (u : (Nat → Int32)) t => va_P D vwCl [(q_a0, .inr (4, [.ref q_a0_gains, .ref q_a0_alike])), (q_a0_alike, .inl (cI, 8, .inl u)), (q_a1, .inr (5, [.ref q_a1_bends, .ref q_a1_felt, .ref q_a1_paces, .ref q_a1_past, .int a1_kind, .int a1_fog, .int a1_here, .int a1_seconds, .int a1_crashes])), (q_a1_bends, .inr (0, [.ref q_a1_bends_yards, .ref q_a1_bends_truth, .ref q_a1_bends_notes, .ref q_a1_bends_words, .ref q_a1_bends_mud, .int a1_bends_size])), (q_a1_bends_truth, .inl (cI, 8, .inl a1_bends_truth)), (q_a1_bends_notes, .inl (cI, 8, .inl a1_bends_notes)), (q_a1_bends_mud, .inl (cI, 8, .inl a1_bends_mud))] t.heap ∧ va_D (va_A [(q_a0, .inr (4, [.ref q_a0_gains, .ref q_a0_alike])), (q_a0_alike, .inl (cI, 8, .inl a0_alike)), (q_a1, .inr (5, [.ref q_a1_bends, .ref q_a1_felt, .ref q_a1_paces, .ref q_a1_past, .int a1_kind, .int a1_fog, .int a1_here, .int a1_seconds, .int a1_crashes])), (q_a1_bends, .inr (0, [.ref q_a1_bends_yards, .ref q_a1_bends_truth, .ref q_a1_bends_notes, .ref q_a1_bends_words, .ref q_a1_bends_mud, .int a1_bends_size])), (q_a1_bends_truth, .inl (cI, 8, .inl a1_bends_truth)), (q_a1_bends_notes, .inl (cI, 8, .inl a1_bends_notes)), (q_a1_bends_mud, .inl (cI, 8, .inl a1_bends_mud))] sz) [(q_a0, .inr (4, [.ref q_a0_gains, .ref q_a0_alike])), (q_a0_alike, .inl (cI, 8, .inl u)), (q_a1, .inr (5, [.ref q_a1_bends, .ref q_a1_felt, .ref q_a1_paces, .ref q_a1_past, .int a1_kind, .int a1_fog, .int a1_here, .int a1_seconds, .int a1_crashes])), (q_a1_bends, .inr (0, [.ref q_a1_bends_yards, .ref q_a1_bends_truth, .ref q_a1_bends_notes, .ref q_a1_bends_words, .ref q_a1_bends_mud, .int a1_bends_size])), (q_a1_bends_truth, .inl (cI, 8, .inl a1_bends_truth)), (q_a1_bends_notes, .inl (cI, 8, .inl a1_bends_notes)), (q_a1_bends_mud, .inl (cI, 8, .inl a1_bends_mud))]) (va_A [(q_a0, .inr (4, [.ref q_a0_gains, .ref q_a0_alike])), (q_a0_alike, .inl (cI, 8, .inl a0_alike)), (q_a1, .inr (5, [.ref q_a1_bends, .ref q_a1_felt, .ref q_a1_paces, .ref q_a1_past, .int a1_kind, .int a1_fog, .int a1_here, .int a1_seconds, .int a1_crashes])), (q_a1_bends, .inr (0, [.ref q_a1_bends_yards, .ref q_a1_bends_truth, .ref q_a1_bends_notes, .ref q_a1_bends_words, .ref q_a1_bends_mud, .int a1_bends_size])), (q_a1_bends_truth, .inl (cI, 8, .inl a1_bends_truth)), (q_a1_bends_notes, .inl (cI, 8, .inl a1_bends_notes)), (q_a1_bends_mud, .inl (cI, 8, .inl a1_bends_mud))] sz)) 0 0 (va_A [(q_a0, .inr (4, [.ref q_a0_gains, .ref q_a0_alike])), (q_a0_alike, .inl (cI, 8, .inl a0_alike)), (q_a1, .inr (5, [.ref q_a1_bends, .ref q_a1_felt, .ref q_a1_paces, .ref q_a1_past, .int a1_kind, .int a1_fog, .int a1_here, .int a1_seconds, .int a1_crashes])), (q_a1_bends, .inr (0, [.ref q_a1_bends_yards, .ref q_a1_bends_truth, .ref q_a1_bends_notes, .ref q_a1_bends_words, .ref q_a1_bends_mud, .int a1_bends_size])), (q_a1_bends_truth, .inl (cI, 8, .inl a1_bends_truth)), (q_a1_bends_notes, .inl (cI, 8, .inl a1_bends_notes)), (q_a1_bends_mud, .inl (cI, 8, .inl a1_bends_mud))] sz) := by
  refine Met.ofW (cc := cX5_bestLook) (maxL := 8) (ret := (some .int)) (by decide) rfl ?_
  intro p e s m args below meth c s₁ B hml hv
  obtain ⟨rfl, hsz, hP, hX, hD0⟩ := hv
  have hK := hX.1
  have hx := B.exec
  have hb := B.bytes
  have hr := B.returns
  have hts := atoms_spec (ws := wsX5_bestLook) B.pre
  have hown : s.vm.findClass RX5 = some m.cls := findClass_of_methodNamed B.named
  have hlocks := B.notSynchronized
  have in_X6 : ∀ w ∈ wsX60, w ∈ wsX5_bestLook := fun _ h => List.mem_cons_of_mem _ (List.mem_append_left _ (List.mem_append_left _ (List.mem_append_right _ h)))
  have in_X0 : ∀ w ∈ wsX00, w ∈ wsX5_bestLook := fun _ h => List.mem_cons_of_mem _ (List.mem_append_left _ (List.mem_append_right _ h))
  have kf_18 := hts (.fieldLink RX5 18 "LeftCrest$Stage" "bends" "LLeftCrest$Bends;") (by decide +kernel)
  have kf_24 := hts (.fieldLink RX5 24 "LeftCrest$Bends" "size" "I") (by decide +kernel)
  subst hsz
  have hD := hD0.self (sz := s.heap.size)
  generalize hAe : va_A [(q_a0, .inr (4, [.ref q_a0_gains, .ref q_a0_alike])), (q_a0_alike, .inl (cI, 8, .inl a0_alike)), (q_a1, .inr (5, [.ref q_a1_bends, .ref q_a1_felt, .ref q_a1_paces, .ref q_a1_past, .int a1_kind, .int a1_fog, .int a1_here, .int a1_seconds, .int a1_crashes])), (q_a1_bends, .inr (0, [.ref q_a1_bends_yards, .ref q_a1_bends_truth, .ref q_a1_bends_notes, .ref q_a1_bends_words, .ref q_a1_bends_mud, .int a1_bends_size])), (q_a1_bends_truth, .inl (cI, 8, .inl a1_bends_truth)), (q_a1_bends_notes, .inl (cI, 8, .inl a1_bends_notes)), (q_a1_bends_mud, .inl (cI, 8, .inl a1_bends_mud))] s.heap.size = A at hD ⊢
  have hA : ∀ q : Nat, s.heap.size ≤ q → A q := fun q h => by rw [← hAe]; exact Or.inr h
  have hS : va_S A s.heap s.heap [] := va_S.rf
  have hP : va_P D vwCl [(q_a0, .inr (4, [.ref q_a0_gains, .ref q_a0_alike])), (q_a0_alike, .inl (cI, 8, .inl a0_alike)), (q_a1, .inr (5, [.ref q_a1_bends, .ref q_a1_felt, .ref q_a1_paces, .ref q_a1_past, .int a1_kind, .int a1_fog, .int a1_here, .int a1_seconds, .int a1_crashes])), (q_a1_bends, .inr (0, [.ref q_a1_bends_yards, .ref q_a1_bends_truth, .ref q_a1_bends_notes, .ref q_a1_bends_words, .ref q_a1_bends_mud, .int a1_bends_size])), (q_a1_bends_truth, .inl (cI, 8, .inl a1_bends_truth)), (q_a1_bends_notes, .inl (cI, 8, .inl a1_bends_notes)), (q_a1_bends_mud, .inl (cI, 8, .inl a1_bends_mud))] s.heap := hP
  generalize hQQ : MQ below _ _ s _ _ _ = QQ
  have hl := lv_entry ([.ref q_a0, .ref q_a1, .int x2]) (n := 8) (Nat.le_of_ble_eq_true rfl)
  rw [lg_entry_eq]
  generalize (lg_sl ([.ref q_a0, .ref q_a1, .int x2]) ++ List.replicate (8 - (lg_sl ([.ref q_a0, .ref q_a1, .int x2])).length) Slot.unset).toArray = ls at hl ⊢
  have hl : lv_has ls 8 [(0, .ref q_a0), (1, .ref q_a1), (2, .int x2)] := hl
  unfold p_X5_bestLook at hf
  refine lv_iload_n hx hb dX5_bestLook_0 rfl (lv_at hl 2 rfl) ?_
  refine lv_if_ne (tgt := 6) hx hb dX5_bestLook_1 (by decide) (fun c_1 => ?_) (fun c_1 => ?_)
  · have hf := it_f c_1 hf
    refine lv_iconst (v := (-1)) hx hb dX5_bestLook_6 (by decide) ?_
    refine lv_istore_n (lv' := [(3, .int (-1)), (0, .ref q_a0), (1, .ref q_a1), (2, .int x2)]) hx hb dX5_bestLook_7 rfl hl (by decide) rfl (fun ls hl => ?_)
    refine lv_bipush (v := 7) hx hb dX5_bestLook_8 (by decide) ?_
    refine lv_istore (lv' := [(4, .int 7), (3, .int (-1)), (0, .ref q_a0), (1, .ref q_a1), (2, .int x2)]) hx hb dX5_bestLook_10 hl (by decide) rfl (fun ls hl => ?_)
    refine lv_iconst (v := 0) hx hb dX5_bestLook_12 (by decide) ?_
    refine lv_istore (lv' := [(5, .int 0), (4, .int 7), (3, .int (-1)), (0, .ref q_a0), (1, .ref q_a1), (2, .int x2)]) hx hb dX5_bestLook_13 hl (by decide) rfl (fun ls hl => ?_)
    have hlp_15 : ∀ (n_15 : Nat) (w_2 : Nat → Int32) (v_3 : Int32) (v_4 : Int32) (v_5 : Int32) (H : Heap) (locs : List Loc) (ls : Array Slot), lq4 (bX5_bestLook_15 a1_bends_truth a1_bends_notes a1_bends_mud a1_bends_size x2 Q) n_15 w_2 v_3 v_4 v_5 → va_P D vwCl [(q_a0, .inr (4, [.ref q_a0_gains, .ref q_a0_alike])), (q_a0_alike, .inl (cI, 8, .inl w_2)), (q_a1, .inr (5, [.ref q_a1_bends, .ref q_a1_felt, .ref q_a1_paces, .ref q_a1_past, .int a1_kind, .int a1_fog, .int a1_here, .int a1_seconds, .int a1_crashes])), (q_a1_bends, .inr (0, [.ref q_a1_bends_yards, .ref q_a1_bends_truth, .ref q_a1_bends_notes, .ref q_a1_bends_words, .ref q_a1_bends_mud, .int a1_bends_size])), (q_a1_bends_truth, .inl (cI, 8, .inl a1_bends_truth)), (q_a1_bends_notes, .inl (cI, 8, .inl a1_bends_notes)), (q_a1_bends_mud, .inl (cI, 8, .inl a1_bends_mud))] H → va_D A [(q_a0, .inr (4, [.ref q_a0_gains, .ref q_a0_alike])), (q_a0_alike, .inl (cI, 8, .inl w_2)), (q_a1, .inr (5, [.ref q_a1_bends, .ref q_a1_felt, .ref q_a1_paces, .ref q_a1_past, .int a1_kind, .int a1_fog, .int a1_here, .int a1_seconds, .int a1_crashes])), (q_a1_bends, .inr (0, [.ref q_a1_bends_yards, .ref q_a1_bends_truth, .ref q_a1_bends_notes, .ref q_a1_bends_words, .ref q_a1_bends_mud, .int a1_bends_size])), (q_a1_bends_truth, .inl (cI, 8, .inl a1_bends_truth)), (q_a1_bends_notes, .inl (cI, 8, .inl a1_bends_notes)), (q_a1_bends_mud, .inl (cI, 8, .inl a1_bends_mud))] → va_S A s.heap H locs → lv_has ls 8 [(0, .ref q_a0), (1, .ref q_a1), (2, .int x2), (3, .int v_3), (4, .int v_4), (5, .int v_5)] → W p l e (headSpec wsX5_bestLook rmX5_bestLook).room s m ([.ref q_a0, .ref q_a1, .int x2] : List Value).toArray below meth c H locs 0 0 QQ (F0 m 15 ls []) := by
      intro n_15
      induction n_15 with
      | zero => intro w_2 v_3 v_4 v_5 H locs ls hf; exact (lq4_0 hf).elim
      | succ n_15 ih =>
        have ih_15 := ih
        intro w_2 v_3 v_4 v_5 H locs ls hf hP hD hS hl
        have hf := lq4_s hf
        unfold bX5_bestLook_15 at hf
        refine lv_iload hx hb dX5_bestLook_15 (lv_at hl 5 rfl) ?_
        refine lv_bipush (v := 9) hx hb dX5_bestLook_17 (by decide) ?_
        refine lv_icmp_gt (tgt := 84) hx hb dX5_bestLook_19 (by decide) (fun c_7 => ?_) (fun c_7 => ?_)
        · have hf := it_t c_7 hf
          refine lv_iload_n hx hb dX5_bestLook_84 rfl (lv_at hl 3 rfl) ?_
          subst hQQ
          have hP9 := hP.sub (ws' := [(q_a0, .inr (4, [.ref q_a0_gains, .ref q_a0_alike])), (q_a0_alike, .inl (cI, 8, .inl w_2)), (q_a1, .inr (5, [.ref q_a1_bends, .ref q_a1_felt, .ref q_a1_paces, .ref q_a1_past, .int a1_kind, .int a1_fog, .int a1_here, .int a1_seconds, .int a1_crashes])), (q_a1_bends, .inr (0, [.ref q_a1_bends_yards, .ref q_a1_bends_truth, .ref q_a1_bends_notes, .ref q_a1_bends_words, .ref q_a1_bends_mud, .int a1_bends_size])), (q_a1_bends_truth, .inl (cI, 8, .inl a1_bends_truth)), (q_a1_bends_notes, .inl (cI, 8, .inl a1_bends_notes)), (q_a1_bends_mud, .inl (cI, 8, .inl a1_bends_mud))]) [0, 1, 2, 3, 4, 5, 6] rfl
          have hD9 := hD.sub (ws' := [(q_a0, .inr (4, [.ref q_a0_gains, .ref q_a0_alike])), (q_a0_alike, .inl (cI, 8, .inl w_2)), (q_a1, .inr (5, [.ref q_a1_bends, .ref q_a1_felt, .ref q_a1_paces, .ref q_a1_past, .int a1_kind, .int a1_fog, .int a1_here, .int a1_seconds, .int a1_crashes])), (q_a1_bends, .inr (0, [.ref q_a1_bends_yards, .ref q_a1_bends_truth, .ref q_a1_bends_notes, .ref q_a1_bends_words, .ref q_a1_bends_mud, .int a1_bends_size])), (q_a1_bends_truth, .inl (cI, 8, .inl a1_bends_truth)), (q_a1_bends_notes, .inl (cI, 8, .inl a1_bends_notes)), (q_a1_bends_mud, .inl (cI, 8, .inl a1_bends_mud))]) [0, 1, 2, 3, 4, 5, 6] (by decide) rfl
          exact W.iret hx hb hr (fun t ht hW => ⟨⟨v_3, w_2, rfl, hf, by rw [ht]; exact hP9, hD9⟩, hS.F ht⟩) hS.2.2 dX5_bestLook_85
        · have hf := it_f c_7 hf
          refine lv_iconst (v := 0) hx hb dX5_bestLook_22 (by decide) ?_
          refine lv_istore (lv' := [(6, .int 0), (0, .ref q_a0), (1, .ref q_a1), (2, .int x2), (3, .int v_3), (4, .int v_4), (5, .int v_5)]) hx hb dX5_bestLook_23 hl (by decide) rfl (fun ls hl => ?_)
          have hlp_25 : ∀ (n_25 : Nat) (w_8 : Nat → Int32) (v_9 : Int32) (v_10 : Int32) (v_11 : Int32) (H : Heap) (locs : List Loc) (ls : Array Slot), lq4 (bX5_bestLook_25 a1_bends_truth a1_bends_notes a1_bends_mud a1_bends_size x2 (lq4 (bX5_bestLook_15 a1_bends_truth a1_bends_notes a1_bends_mud a1_bends_size x2 Q) n_15) v_5) n_25 w_8 v_9 v_10 v_11 → va_P D vwCl [(q_a0, .inr (4, [.ref q_a0_gains, .ref q_a0_alike])), (q_a0_alike, .inl (cI, 8, .inl w_8)), (q_a1, .inr (5, [.ref q_a1_bends, .ref q_a1_felt, .ref q_a1_paces, .ref q_a1_past, .int a1_kind, .int a1_fog, .int a1_here, .int a1_seconds, .int a1_crashes])), (q_a1_bends, .inr (0, [.ref q_a1_bends_yards, .ref q_a1_bends_truth, .ref q_a1_bends_notes, .ref q_a1_bends_words, .ref q_a1_bends_mud, .int a1_bends_size])), (q_a1_bends_truth, .inl (cI, 8, .inl a1_bends_truth)), (q_a1_bends_notes, .inl (cI, 8, .inl a1_bends_notes)), (q_a1_bends_mud, .inl (cI, 8, .inl a1_bends_mud))] H → va_D A [(q_a0, .inr (4, [.ref q_a0_gains, .ref q_a0_alike])), (q_a0_alike, .inl (cI, 8, .inl w_8)), (q_a1, .inr (5, [.ref q_a1_bends, .ref q_a1_felt, .ref q_a1_paces, .ref q_a1_past, .int a1_kind, .int a1_fog, .int a1_here, .int a1_seconds, .int a1_crashes])), (q_a1_bends, .inr (0, [.ref q_a1_bends_yards, .ref q_a1_bends_truth, .ref q_a1_bends_notes, .ref q_a1_bends_words, .ref q_a1_bends_mud, .int a1_bends_size])), (q_a1_bends_truth, .inl (cI, 8, .inl a1_bends_truth)), (q_a1_bends_notes, .inl (cI, 8, .inl a1_bends_notes)), (q_a1_bends_mud, .inl (cI, 8, .inl a1_bends_mud))] → va_S A s.heap H locs → lv_has ls 8 [(0, .ref q_a0), (1, .ref q_a1), (2, .int x2), (3, .int v_9), (4, .int v_10), (5, .int v_5), (6, .int v_11)] → W p l e (headSpec wsX5_bestLook rmX5_bestLook).room s m ([.ref q_a0, .ref q_a1, .int x2] : List Value).toArray below meth c H locs 0 0 QQ (F0 m 25 ls []) := by
            intro n_25
            induction n_25 with
            | zero => intro w_8 v_9 v_10 v_11 H locs ls hf; exact (lq4_0 hf).elim
            | succ n_25 ih =>
              have ih_25 := ih
              intro w_8 v_9 v_10 v_11 H locs ls hf hP hD hS hl
              have hf := lq4_s hf
              unfold bX5_bestLook_25 at hf
              refine lv_iload hx hb dX5_bestLook_25 (lv_at hl 6 rfl) ?_
              refine lv_aload_n hx hb dX5_bestLook_27 rfl (lv_at hl 1 rfl) ?_
              refine va_get (D := D) (ci := 5) (v := .ref q_a1_bends) (C := RX6) (T := TX6) (N := 9) hx hb hts in_X6 hown hK hP 2 rfl rfl 0 (by decide) kf_18 (fun _ h9 => h9) rfl dX5_bestLook_28 ?_
              refine va_get (D := D) (ci := 0) (v := .int a1_bends_size) (C := RX0) (T := TX0) (N := 6) hx hb hts in_X0 hown hK hP 3 rfl rfl 5 (by decide) kf_24 (fun _ h9 => h9) rfl dX5_bestLook_31 ?_
              refine lv_icmp_ge (tgt := 78) hx hb dX5_bestLook_34 (by decide) (fun c_13 => ?_) (fun c_13 => ?_)
              · have hf := it_t c_13 hf
                refine lv_iinc (v := v_5 + 1) (lv' := [(5, .int (v_5 + 1)), (0, .ref q_a0), (1, .ref q_a1), (2, .int x2), (3, .int v_9), (4, .int v_10), (6, .int v_11)]) hx hb dX5_bestLook_78 hl (k := 5) rfl rfl (by decide) rfl (fun ls hl => ?_)
                refine lv_goto (tgt := 15) hx hb dX5_bestLook_81 (by decide) ?_
                exact ih_15 w_8 v_9 v_10 (v_5 + 1) _ _ ls hf (hP.sub [0, 1, 2, 3, 4, 5, 6] rfl) (hD.sub [0, 1, 2, 3, 4, 5, 6] (by decide) rfl) hS (lv_sub hl [1, 2, 3, 4, 5, 0] rfl)
              · have hf := it_f c_13 hf
                refine lv_aload_n hx hb dX5_bestLook_37 rfl (lv_at hl 0 rfl) ?_
                refine lv_aload_n hx hb dX5_bestLook_38 rfl (lv_at hl 1 rfl) ?_
                refine va_get (D := D) (ci := 5) (v := .ref q_a1_bends) (C := RX6) (T := TX6) (N := 9) hx hb hts in_X6 hown hK hP 2 rfl rfl 0 (by decide) kf_18 (fun _ h9 => h9) rfl dX5_bestLook_39 ?_
                refine lv_iload hx hb dX5_bestLook_42 (lv_at hl 6 rfl) ?_
                refine lv_iload hx hb dX5_bestLook_44 (lv_at hl 5 rfl) ?_
                refine lv_iload_n hx hb dX5_bestLook_46 rfl (lv_at hl 2 rfl) ?_
                have hPc := hP.sub (ws' := [(q_a0, .inr (4, [.ref q_a0_gains, .ref q_a0_alike])), (q_a0_alike, .inl (cI, 8, .inl w_8)), (q_a1_bends, .inr (0, [.ref q_a1_bends_yards, .ref q_a1_bends_truth, .ref q_a1_bends_notes, .ref q_a1_bends_words, .ref q_a1_bends_mud, .int a1_bends_size])), (q_a1_bends_truth, .inl (cI, 8, .inl a1_bends_truth)), (q_a1_bends_notes, .inl (cI, 8, .inl a1_bends_notes)), (q_a1_bends_mud, .inl (cI, 8, .inl a1_bends_mud))]) [0, 1, 3, 4, 5, 6] rfl
                have hDc := hD.sub (ws' := [(q_a0, .inr (4, [.ref q_a0_gains, .ref q_a0_alike])), (q_a0_alike, .inl (cI, 8, .inl w_8)), (q_a1_bends, .inr (0, [.ref q_a1_bends_yards, .ref q_a1_bends_truth, .ref q_a1_bends_notes, .ref q_a1_bends_words, .ref q_a1_bends_mud, .int a1_bends_size])), (q_a1_bends_truth, .inl (cI, 8, .inl a1_bends_truth)), (q_a1_bends_notes, .inl (cI, 8, .inl a1_bends_notes)), (q_a1_bends_mud, .inl (cI, 8, .inl a1_bends_mud))]) [0, 1, 3, 4, 5, 6] (by decide) rfl
                have hFc := va_free (wc := [(q_a0, .inr (4, [.ref q_a0_gains, .ref q_a0_alike])), (q_a0_alike, .inl (cI, 8, .inl w_8)), (q_a1_bends, .inr (0, [.ref q_a1_bends_yards, .ref q_a1_bends_truth, .ref q_a1_bends_notes, .ref q_a1_bends_words, .ref q_a1_bends_mud, .int a1_bends_size])), (q_a1_bends_truth, .inl (cI, 8, .inl a1_bends_truth)), (q_a1_bends_notes, .inl (cI, 8, .inl a1_bends_notes)), (q_a1_bends_mud, .inl (cI, 8, .inl a1_bends_mud))]) hD hS hA [0, 1, 3, 4, 5, 6] rfl
                refine va_calli (va_runV (As := [.ref q_a1_bends, .int v_11, .int v_5, .int x2]) (rest := []) ⟨hx, hb, hml, hown, hts⟩ (c_X5_mostAlike l D cI cZ cO q_a0 q_a0_gains q_a0_alike q_a1_bends q_a1_bends_yards q_a1_bends_truth q_a1_bends_notes q_a1_bends_words q_a1_bends_mud w_8 a1_bends_size a1_bends_truth a1_bends_notes a1_bends_mud H.size v_11 v_5 x2 _ hf) (cwV 4 hts gX5_bestLook_X5_mostAlike rfl rfl rfl (by decide +kernel) ⟨Nat.le_of_ble_eq_true rfl, Nat.le_of_ble_eq_true rfl⟩) (pv_rw (ci := 4) (q0 := 0) hPc hDc hX rfl rfl) rfl rfl hl.1 rfl (lv_room (Nat.le_of_ble_eq_true rfl)) dX5_bestLook_47 ⟨Nat.zero_le _, Nat.zero_le _⟩) hS (fun q _ h => hFc q h) hFc (fun r_14 u t H1 locs ht hvm hf hB hz1 hk1 hS => ?_)
                obtain ⟨u_15, rfl⟩ : ∃ z, z = u := ⟨_, rfl⟩
                obtain ⟨hP1, hD1⟩ := hB
                rw [ht] at hP1
                clear hvm
                obtain ⟨hP, hD⟩ := va_join (wr := [(q_a1, .inr (5, [.ref q_a1_bends, .ref q_a1_felt, .ref q_a1_paces, .ref q_a1_past, .int a1_kind, .int a1_fog, .int a1_here, .int a1_seconds, .int a1_crashes]))]) (w1 := [(q_a0, .inr (4, [.ref q_a0_gains, .ref q_a0_alike])), (q_a0_alike, .inl (cI, 8, .inl u_15)), (q_a1_bends, .inr (0, [.ref q_a1_bends_yards, .ref q_a1_bends_truth, .ref q_a1_bends_notes, .ref q_a1_bends_words, .ref q_a1_bends_mud, .int a1_bends_size])), (q_a1_bends_truth, .inl (cI, 8, .inl a1_bends_truth)), (q_a1_bends_notes, .inl (cI, 8, .inl a1_bends_notes)), (q_a1_bends_mud, .inl (cI, 8, .inl a1_bends_mud))]) hP hD [0, 1, 3, 4, 5, 6] [2] rfl rfl (by decide) (by decide) hk1 hFc hP1 hD1
                clear hz1 hk1 hPc hDc hFc hP1 hD1
                generalize H1 = H at hP hS ⊢
                have hP : va_P D vwCl [(q_a1, .inr (5, [.ref q_a1_bends, .ref q_a1_felt, .ref q_a1_paces, .ref q_a1_past, .int a1_kind, .int a1_fog, .int a1_here, .int a1_seconds, .int a1_crashes])), (q_a0, .inr (4, [.ref q_a0_gains, .ref q_a0_alike])), (q_a0_alike, .inl (cI, 8, .inl u_15)), (q_a1_bends, .inr (0, [.ref q_a1_bends_yards, .ref q_a1_bends_truth, .ref q_a1_bends_notes, .ref q_a1_bends_words, .ref q_a1_bends_mud, .int a1_bends_size])), (q_a1_bends_truth, .inl (cI, 8, .inl a1_bends_truth)), (q_a1_bends_notes, .inl (cI, 8, .inl a1_bends_notes)), (q_a1_bends_mud, .inl (cI, 8, .inl a1_bends_mud))] H := hP
                have hD : va_D A [(q_a1, .inr (5, [.ref q_a1_bends, .ref q_a1_felt, .ref q_a1_paces, .ref q_a1_past, .int a1_kind, .int a1_fog, .int a1_here, .int a1_seconds, .int a1_crashes])), (q_a0, .inr (4, [.ref q_a0_gains, .ref q_a0_alike])), (q_a0_alike, .inl (cI, 8, .inl u_15)), (q_a1_bends, .inr (0, [.ref q_a1_bends_yards, .ref q_a1_bends_truth, .ref q_a1_bends_notes, .ref q_a1_bends_words, .ref q_a1_bends_mud, .int a1_bends_size])), (q_a1_bends_truth, .inl (cI, 8, .inl a1_bends_truth)), (q_a1_bends_notes, .inl (cI, 8, .inl a1_bends_notes)), (q_a1_bends_mud, .inl (cI, 8, .inl a1_bends_mud))] := hD
                refine lv_istore (lv' := [(7, .int r_14), (0, .ref q_a0), (1, .ref q_a1), (2, .int x2), (3, .int v_9), (4, .int v_10), (5, .int v_5), (6, .int v_11)]) hx hb dX5_bestLook_50 hl (by decide) rfl (fun ls hl => ?_)
                refine lv_iload hx hb dX5_bestLook_52 (lv_at hl 0 rfl) ?_
                refine lv_iload hx hb dX5_bestLook_54 (lv_at hl 5 rfl) ?_
                refine lv_icmp_ge (tgt := 72) hx hb dX5_bestLook_56 (by decide) (fun c_16 => ?_) (fun c_16 => ?_)
                · have hf := it_t c_16 hf
                  refine lv_iinc (v := v_11 + 1) (lv' := [(6, .int (v_11 + 1)), (7, .int r_14), (0, .ref q_a0), (1, .ref q_a1), (2, .int x2), (3, .int v_9), (4, .int v_10), (5, .int v_5)]) hx hb dX5_bestLook_72 hl (k := 7) rfl rfl (by decide) rfl (fun ls hl => ?_)
                  refine lv_goto (tgt := 25) hx hb dX5_bestLook_75 (by decide) ?_
                  exact ih u_15 v_9 v_10 (v_11 + 1) _ _ ls hf (hP.sub [1, 2, 0, 3, 4, 5, 6] rfl) (hD.sub [1, 2, 0, 3, 4, 5, 6] (by decide) rfl) hS (lv_sub hl [2, 3, 4, 5, 6, 7, 0] rfl)
                · have hf := it_f c_16 hf
                  refine lv_bipush (v := 10) hx hb dX5_bestLook_59 (by decide) ?_
                  refine lv_iload hx hb dX5_bestLook_61 (lv_at hl 6 rfl) ?_
                  refine lv_imul hx hb dX5_bestLook_63 ?_
                  refine lv_iload hx hb dX5_bestLook_64 (lv_at hl 7 rfl) ?_
                  refine lv_iadd hx hb dX5_bestLook_66 ?_
                  refine lv_istore_n (lv' := [(3, .int ((10 * v_5) + v_11)), (7, .int r_14), (0, .ref q_a0), (1, .ref q_a1), (2, .int x2), (4, .int v_10), (5, .int v_5), (6, .int v_11)]) hx hb dX5_bestLook_67 rfl hl (by decide) rfl (fun ls hl => ?_)
                  refine lv_iload hx hb dX5_bestLook_68 (lv_at hl 1 rfl) ?_
                  refine lv_istore (lv' := [(4, .int r_14), (3, .int ((10 * v_5) + v_11)), (7, .int r_14), (0, .ref q_a0), (1, .ref q_a1), (2, .int x2), (5, .int v_5), (6, .int v_11)]) hx hb dX5_bestLook_70 hl (by decide) rfl (fun ls hl => ?_)
                  refine lv_iinc (v := v_11 + 1) (lv' := [(6, .int (v_11 + 1)), (4, .int r_14), (3, .int ((10 * v_5) + v_11)), (7, .int r_14), (0, .ref q_a0), (1, .ref q_a1), (2, .int x2), (5, .int v_5)]) hx hb dX5_bestLook_72 hl (k := 7) rfl rfl (by decide) rfl (fun ls hl => ?_)
                  refine lv_goto (tgt := 25) hx hb dX5_bestLook_75 (by decide) ?_
                  exact ih u_15 ((10 * v_5) + v_11) r_14 (v_11 + 1) _ _ ls hf (hP.sub [1, 2, 0, 3, 4, 5, 6] rfl) (hD.sub [1, 2, 0, 3, 4, 5, 6] (by decide) rfl) hS (lv_sub hl [4, 5, 6, 2, 1, 7, 0] rfl)
          exact hlp_25 1000 w_2 v_3 v_4 0 _ _ ls hf (hP.sub [0, 1, 2, 3, 4, 5, 6] rfl) (hD.sub [0, 1, 2, 3, 4, 5, 6] (by decide) rfl) hS (lv_sub hl [1, 2, 3, 4, 5, 6, 0] rfl)
    exact hlp_15 1000 a0_alike (-1) 7 0 _ _ ls hf (hP.sub [0, 1, 2, 3, 4, 5, 6] rfl) (hD.sub [0, 1, 2, 3, 4, 5, 6] (by decide) rfl) hS (lv_sub hl [3, 4, 5, 2, 1, 0] rfl)
  · have hf := it_t c_1 hf
    refine lv_iconst (v := (-1)) hx hb dX5_bestLook_4 (by decide) ?_
    subst hQQ
    have hP9 := hP.sub (ws' := [(q_a0, .inr (4, [.ref q_a0_gains, .ref q_a0_alike])), (q_a0_alike, .inl (cI, 8, .inl a0_alike)), (q_a1, .inr (5, [.ref q_a1_bends, .ref q_a1_felt, .ref q_a1_paces, .ref q_a1_past, .int a1_kind, .int a1_fog, .int a1_here, .int a1_seconds, .int a1_crashes])), (q_a1_bends, .inr (0, [.ref q_a1_bends_yards, .ref q_a1_bends_truth, .ref q_a1_bends_notes, .ref q_a1_bends_words, .ref q_a1_bends_mud, .int a1_bends_size])), (q_a1_bends_truth, .inl (cI, 8, .inl a1_bends_truth)), (q_a1_bends_notes, .inl (cI, 8, .inl a1_bends_notes)), (q_a1_bends_mud, .inl (cI, 8, .inl a1_bends_mud))]) [0, 1, 2, 3, 4, 5, 6] rfl
    have hD9 := hD.sub (ws' := [(q_a0, .inr (4, [.ref q_a0_gains, .ref q_a0_alike])), (q_a0_alike, .inl (cI, 8, .inl a0_alike)), (q_a1, .inr (5, [.ref q_a1_bends, .ref q_a1_felt, .ref q_a1_paces, .ref q_a1_past, .int a1_kind, .int a1_fog, .int a1_here, .int a1_seconds, .int a1_crashes])), (q_a1_bends, .inr (0, [.ref q_a1_bends_yards, .ref q_a1_bends_truth, .ref q_a1_bends_notes, .ref q_a1_bends_words, .ref q_a1_bends_mud, .int a1_bends_size])), (q_a1_bends_truth, .inl (cI, 8, .inl a1_bends_truth)), (q_a1_bends_notes, .inl (cI, 8, .inl a1_bends_notes)), (q_a1_bends_mud, .inl (cI, 8, .inl a1_bends_mud))]) [0, 1, 2, 3, 4, 5, 6] (by decide) rfl
    exact W.iret hx hb hr (fun t ht hW => ⟨⟨(-1), a0_alike, rfl, hf, by rw [ht]; exact hP9, hD9⟩, hS.F ht⟩) hS.2.2 dX5_bestLook_5
