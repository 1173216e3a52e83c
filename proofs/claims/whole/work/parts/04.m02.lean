def p_X6_paceAt (a0_bends_truth : Nat → Int32) (a0_bends_mud : Nat → Int32) (a0_kind : Int32) (a0_fog : Int32) (x1 : Int32) (x2 : Int32) (Q : Int32 → Prop) : Prop :=
  p_X0_holds a0_bends_truth a0_bends_mud x1 (fun r_1 => vp_in x1 8 ∧ (p_X2_paceOf a0_kind x2 r_1 a0_fog (a0_bends_mud x1.toNatClampNeg) (fun r_2 => Q r_2)))
def rmX6_paceAt : Room := { frames := 1, cells := 0, slots := 0, locals := 28 }
set_option maxHeartbeats 4000000 in
set_option maxRecDepth 100000 in
theorem c_X6_paceAt (l : Launch) (D : va_G) (cI cZ cO : ClassId) (q_a0 q_a0_bends q_a0_felt q_a0_paces q_a0_past q_a0_bends_yards q_a0_bends_truth q_a0_bends_notes q_a0_bends_words q_a0_bends_mud : Nat) (a0_kind : Int32) (a0_fog : Int32) (a0_here : Int32) (a0_seconds : Int32) (a0_crashes : Int32) (a0_bends_size : Int32) (a0_bends_truth : Nat → Int32) (a0_bends_mud : Nat → Int32) (x1 : Int32) (x2 : Int32) (Q : Int32 → Prop) (hf : p_X6_paceAt a0_bends_truth a0_bends_mud a0_kind a0_fog x1 x2 Q) : Met l yX6_paceAt wsX6_paceAt rmX6_paceAt (va_Pc [.ref q_a0, .int x1, .int x2] (fun U => va_P D vwCl [(q_a0, .inr (5, [.ref q_a0_bends, .ref q_a0_felt, .ref q_a0_paces, .ref q_a0_past, .int a0_kind, .int a0_fog, .int a0_here, .int a0_seconds, .int a0_crashes])), (q_a0_bends, .inr (0, [.ref q_a0_bends_yards, .ref q_a0_bends_truth, .ref q_a0_bends_notes, .ref q_a0_bends_words, .ref q_a0_bends_mud, .int a0_bends_size])), (q_a0_bends_truth, .inl (cI, 8, .inl a0_bends_truth)), (q_a0_bends_mud, .inl (cI, 8, .inl a0_bends_mud))] U.heap ∧ XK D cI cZ cO U)) (vp_Si Q) 0 0 (fun _ => False) := by
  refine Met.ofW (cc := cX6_paceAt) (maxL := 3) (ret := (some .int)) (by decide) rfl ?_
  intro p e s m args below meth c s₁ B hml hv
  obtain ⟨rfl, hP, hX⟩ := hv
  have hK := hX.1
  have hx := B.exec
  have hb := B.bytes
  have hr := B.returns
  have hts := atoms_spec (ws := wsX6_paceAt) B.pre
  have hown : s.vm.findClass RX6 = some m.cls := findClass_of_methodNamed B.named
  have hlocks := B.notSynchronized
  have in_X6 : ∀ w ∈ wsX60, w ∈ wsX6_paceAt := fun _ h => List.mem_cons_of_mem _ (List.mem_append_left _ (List.mem_append_right _ h))
  have in_X0 : ∀ w ∈ wsX00, w ∈ wsX6_paceAt := fun _ h => List.mem_cons_of_mem _ (List.mem_append_right _ h)
  have kf_37 := hts (.fieldLink RX6 37 "LeftCrest$Stage" "kind" "I") (by decide +kernel)
  have kf_10 := hts (.fieldLink RX6 10 "LeftCrest$Stage" "bends" "LLeftCrest$Bends;") (by decide +kernel)
  have kf_41 := hts (.fieldLink RX6 41 "LeftCrest$Stage" "fog" "I") (by decide +kernel)
  have kf_76 := hts (.fieldLink RX6 76 "LeftCrest$Bends" "mud" "[I") (by decide +kernel)
  generalize hQQ : MQ below _ _ s _ _ _ = QQ
  have hl := lv_entry ([.ref q_a0, .int x1, .int x2]) (n := 3) (Nat.le_of_ble_eq_true rfl)
  rw [lg_entry_eq]
  generalize (lg_sl ([.ref q_a0, .int x1, .int x2]) ++ List.replicate (3 - (lg_sl ([.ref q_a0, .int x1, .int x2])).length) Slot.unset).toArray = ls at hl ⊢
  have hl : lv_has ls 3 [(0, .ref q_a0), (1, .int x1), (2, .int x2)] := hl
  unfold p_X6_paceAt at hf
  refine lv_aload_n hx hb dX6_paceAt_0 rfl (lv_at hl 0 rfl) ?_
  refine va_get (D := D) (ci := 5) (v := .int a0_kind) (C := RX6) (T := TX6) (N := 9) hx hb hts in_X6 hown hK hP 0 rfl rfl 4 (by decide) kf_37 (fun _ h9 => h9) rfl dX6_paceAt_1 ?_
  refine lv_iload_n hx hb dX6_paceAt_4 rfl (lv_at hl 2 rfl) ?_
  refine lv_aload_n hx hb dX6_paceAt_5 rfl (lv_at hl 0 rfl) ?_
  refine va_get (D := D) (ci := 5) (v := .ref q_a0_bends) (C := RX6) (T := TX6) (N := 9) hx hb hts in_X6 hown hK hP 0 rfl rfl 0 (by decide) kf_10 (fun _ h9 => h9) rfl dX6_paceAt_6 ?_
  refine lv_iload_n hx hb dX6_paceAt_9 rfl (lv_at hl 1 rfl) ?_
  refine ya_csi (va_runV (As := [.int x1]) (rest := [.int x2, .int a0_kind]) ⟨hx, hb, hml, hown, hts⟩ (c_X0_holds l D cI cZ cO q_a0_bends q_a0_bends_yards q_a0_bends_truth q_a0_bends_notes q_a0_bends_words q_a0_bends_mud a0_bends_size a0_bends_truth a0_bends_mud x1 _ hf) (cwV 1 hts gX6_paceAt_X0_holds rfl rfl rfl (by decide +kernel) ⟨Nat.le_of_ble_eq_true rfl, Nat.le_of_ble_eq_true rfl⟩) (pv_ro (ci := 0) (q0 := 0) (hP.sub [1, 2, 3] rfl) hX rfl rfl) rfl rfl hl.1 rfl (lv_room (Nat.le_of_ble_eq_true rfl)) dX6_paceAt_10 ⟨Nat.zero_le _, Nat.zero_le _⟩) (fun r_1 hf => ?_)
  refine lv_aload_n hx hb dX6_paceAt_13 rfl (lv_at hl 0 rfl) ?_
  refine va_get (D := D) (ci := 5) (v := .int a0_fog) (C := RX6) (T := TX6) (N := 9) hx hb hts in_X6 hown hK hP 0 rfl rfl 5 (by decide) kf_41 (fun _ h9 => h9) rfl dX6_paceAt_14 ?_
  refine lv_aload_n hx hb dX6_paceAt_17 rfl (lv_at hl 0 rfl) ?_
  refine va_get (D := D) (ci := 5) (v := .ref q_a0_bends) (C := RX6) (T := TX6) (N := 9) hx hb hts in_X6 hown hK hP 0 rfl rfl 0 (by decide) kf_10 (fun _ h9 => h9) rfl dX6_paceAt_18 ?_
  refine va_get (D := D) (ci := 0) (v := .ref q_a0_bends_mud) (C := RX0) (T := TX0) (N := 6) hx hb hts in_X0 hown hK hP 1 rfl rfl 4 (by decide) kf_76 (fun _ h9 => h9) rfl dX6_paceAt_21 ?_
  refine lv_iload_n hx hb dX6_paceAt_24 rfl (lv_at hl 1 rfl) ?_
  refine va_iald hx hb hK hP 3 0 rfl rfl hf.1 dX6_paceAt_25 ?_
  have hf := hf.2
  refine ya_csi (va_runS (As := [.int a0_kind, .int x2, .int r_1, .int a0_fog, .int (a0_bends_mud x1.toNatClampNeg)]) (rest := []) ⟨hx, hb, hml, hown, hts⟩ (c_X2_paceOf l D cI cZ cO  a0_kind x2 r_1 a0_fog (a0_bends_mud x1.toNatClampNeg) _ hf) (va_cwS 5 hts gX6_paceAt_X2_paceOf rfl rfl rfl (by decide +kernel) ⟨Nat.le_of_ble_eq_true rfl, Nat.le_of_ble_eq_true rfl⟩) (ps_ro va_P0 hX) rfl rfl hl.1 rfl (lv_room (Nat.le_of_ble_eq_true rfl)) dX6_paceAt_26 ⟨Nat.zero_le _, Nat.zero_le _⟩) (fun r_2 hf => ?_)
  subst hQQ
  exact W.iret hx hb hr (fun t ht hW => ⟨_, rfl, hf, ht⟩) (fun _ h => absurd h List.not_mem_nil) dX6_paceAt_29
def p_X5_costOfPair (a1_bends_truth : Nat → Int32) (a1_bends_notes : Nat → Int32) (a1_bends_mud : Nat → Int32) (a1_kind : Int32) (a1_fog : Int32) (x2 : Int32) (x3 : Int32) (x4 : Int32) (Q : Int32 → Prop) : Prop :=
  vp_in x2 8 ∧ (p_X6_paceAt a1_bends_truth a1_bends_mud a1_kind a1_fog x2 (if 0 < ((a1_bends_notes x2.toNatClampNeg) - x3) then ((a1_bends_notes x2.toNatClampNeg) - x3) else 0) (fun r_1 => p_X0_holds a1_bends_truth a1_bends_mud x2 (fun r_2 => p_X2_costOf (if (r_1 + x4) < 7 then (r_1 + x4) else 7) r_2 (fun r_3 => Q r_3))))
def rmX5_costOfPair : Room := { frames := 2, cells := 0, slots := 0, locals := 50 }
set_option maxHeartbeats 4000000 in
set_option maxRecDepth 100000 in
theorem c_X5_costOfPair (l : Launch) (D : va_G) (cI cZ cO : ClassId) (q_a0 q_a0_gains q_a0_alike q_a1 q_a1_bends q_a1_felt q_a1_paces q_a1_past q_a1_bends_yards q_a1_bends_truth q_a1_bends_notes q_a1_bends_words q_a1_bends_mud : Nat) (a1_kind : Int32) (a1_fog : Int32) (a1_here : Int32) (a1_seconds : Int32) (a1_crashes : Int32) (a1_bends_size : Int32) (a1_bends_truth : Nat → Int32) (a1_bends_notes : Nat → Int32) (a1_bends_mud : Nat → Int32) (x2 : Int32) (x3 : Int32) (x4 : Int32) (Q : Int32 → Prop) (hf : p_X5_costOfPair a1_bends_truth a1_bends_notes a1_bends_mud a1_kind a1_fog x2 x3 x4 Q) : Met l yX5_costOfPair wsX5_costOfPair rmX5_costOfPair (va_Pc [.ref q_a0, .ref q_a1, .int x2, .int x3, .int x4] (fun U => va_P D vwCl [(q_a0, .inr (4, [.ref q_a0_gains, .ref q_a0_alike])), (q_a1, .inr (5, [.ref q_a1_bends, .ref q_a1_felt, .ref q_a1_paces, .ref q_a1_past, .int a1_kind, .int a1_fog, .int a1_here, .int a1_seconds, .int a1_crashes])), (q_a1_bends, .inr (0, [.ref q_a1_bends_yards, .ref q_a1_bends_truth, .ref q_a1_bends_notes, .ref q_a1_bends_words, .ref q_a1_bends_mud, .int a1_bends_size])), (q_a1_bends_truth, .inl (cI, 8, .inl a1_bends_truth)), (q_a1_bends_notes, .inl (cI, 8, .inl a1_bends_notes)), (q_a1_bends_mud, .inl (cI, 8, .inl a1_bends_mud))] U.heap ∧ XK D cI cZ cO U)) (vp_Si Q) 0 0 (fun _ => False) := by
  refine Met.ofW (cc := cX5_costOfPair) (maxL := 7) (ret := (some .int)) (by decide) rfl ?_
  intro p e s m args below meth c s₁ B hml hv
  obtain ⟨rfl, hP, hX⟩ := hv
  have hK := hX.1
  have hx := B.exec
  have hb := B.bytes
  have hr := B.returns
  have hts := atoms_spec (ws := wsX5_costOfPair) B.pre
  have hown : s.vm.findClass RX5 = some m.cls := findClass_of_methodNamed B.named
  have hlocks := B.notSynchronized
  have in_X6 : ∀ w ∈ wsX60, w ∈ wsX5_costOfPair := fun _ h => List.mem_cons_of_mem _ (List.mem_append_left _ (List.mem_append_right _ h))
  have in_X0 : ∀ w ∈ wsX00, w ∈ wsX5_costOfPair := fun _ h => List.mem_cons_of_mem _ (List.mem_append_right _ h)
  have kf_18 := hts (.fieldLink RX5 18 "LeftCrest$Stage" "bends" "LLeftCrest$Bends;") (by decide +kernel)
  have kf_51 := hts (.fieldLink RX5 51 "LeftCrest$Bends" "notes" "[I") (by decide +kernel)
  have kl_95 := hts (.methodLink RX5 95 Lib.Math.max.name) (by decide +kernel)
  have ks_max := hts (.static Lib.Math.max.name) (by decide +kernel)
  have ki_math := hts (.initialized "java/lang/Math") (by decide +kernel)
  have kc_max := hts (.code Lib.Math.max.name Lib.Math.max.code 2 (some .int)) (by decide +kernel)
  have kl_103 := hts (.methodLink RX5 103 Lib.Math.min.name) (by decide +kernel)
  have ks_min := hts (.static Lib.Math.min.name) (by decide +kernel)
  have kc_min := hts (.code Lib.Math.min.name Lib.Math.min.code 2 (some .int)) (by decide +kernel)
  generalize hQQ : MQ below _ _ s _ _ _ = QQ
  have hl := lv_entry ([.ref q_a0, .ref q_a1, .int x2, .int x3, .int x4]) (n := 7) (Nat.le_of_ble_eq_true rfl)
  rw [lg_entry_eq]
  generalize (lg_sl ([.ref q_a0, .ref q_a1, .int x2, .int x3, .int x4]) ++ List.replicate (7 - (lg_sl ([.ref q_a0, .ref q_a1, .int x2, .int x3, .int x4])).length) Slot.unset).toArray = ls at hl ⊢
  have hl : lv_has ls 7 [(0, .ref q_a0), (1, .ref q_a1), (2, .int x2), (3, .int x3), (4, .int x4)] := hl
  unfold p_X5_costOfPair at hf
  refine lv_iconst (v := 0) hx hb dX5_costOfPair_0 (by decide) ?_
  refine lv_aload_n hx hb dX5_costOfPair_1 rfl (lv_at hl 1 rfl) ?_
  refine va_get (D := D) (ci := 5) (v := .ref q_a1_bends) (C := RX6) (T := TX6) (N := 9) hx hb hts in_X6 hown hK hP 1 rfl rfl 0 (by decide) kf_18 (fun _ h9 => h9) rfl dX5_costOfPair_2 ?_
  refine va_get (D := D) (ci := 0) (v := .ref q_a1_bends_notes) (C := RX0) (T := TX0) (N := 6) hx hb hts in_X0 hown hK hP 2 rfl rfl 2 (by decide) kf_51 (fun _ h9 => h9) rfl dX5_costOfPair_5 ?_
  refine lv_iload_n hx hb dX5_costOfPair_8 rfl (lv_at hl 2 rfl) ?_
  refine va_iald hx hb hK hP 4 0 rfl rfl hf.1 dX5_costOfPair_9 ?_
  have hf := hf.2
  refine lv_iload_n hx hb dX5_costOfPair_10 rfl (lv_at hl 3 rfl) ?_
  refine lv_isub hx hb dX5_costOfPair_11 ?_
  refine va_mmax hx hb (by rw [hml]; exact hl.1.symm) hown kl_95 ks_max ki_math kc_max (Nat.le_of_ble_eq_true rfl) (Nat.le_of_ble_eq_true rfl) (Nat.zero_le _) (Nat.zero_le _) dX5_costOfPair_12 ?_
  refine lv_istore (lv' := [(5, .int (if 0 < ((a1_bends_notes x2.toNatClampNeg) - x3) then ((a1_bends_notes x2.toNatClampNeg) - x3) else 0)), (0, .ref q_a0), (1, .ref q_a1), (2, .int x2), (3, .int x3), (4, .int x4)]) hx hb dX5_costOfPair_15 hl (by decide) rfl (fun ls hl => ?_)
  refine lv_bipush (v := 7) hx hb dX5_costOfPair_17 (by decide) ?_
  refine lv_aload_n hx hb dX5_costOfPair_19 rfl (lv_at hl 2 rfl) ?_
  refine lv_iload_n hx hb dX5_costOfPair_20 rfl (lv_at hl 3 rfl) ?_
  refine lv_iload hx hb dX5_costOfPair_21 (lv_at hl 0 rfl) ?_
  refine ya_csi (va_runV (As := [.int x2, .int (if 0 < ((a1_bends_notes x2.toNatClampNeg) - x3) then ((a1_bends_notes x2.toNatClampNeg) - x3) else 0)]) (rest := [.int 7]) ⟨hx, hb, hml, hown, hts⟩ (c_X6_paceAt l D cI cZ cO q_a1 q_a1_bends q_a1_felt q_a1_paces q_a1_past q_a1_bends_yards q_a1_bends_truth q_a1_bends_notes q_a1_bends_words q_a1_bends_mud a1_kind a1_fog a1_here a1_seconds a1_crashes a1_bends_size a1_bends_truth a1_bends_mud x2 (if 0 < ((a1_bends_notes x2.toNatClampNeg) - x3) then ((a1_bends_notes x2.toNatClampNeg) - x3) else 0) _ hf) (cwV 2 hts gX5_costOfPair_X6_paceAt rfl rfl rfl (by decide +kernel) ⟨Nat.le_of_ble_eq_true rfl, Nat.le_of_ble_eq_true rfl⟩) (pv_ro (ci := 5) (q0 := 0) (hP.sub [1, 2, 3, 5] rfl) hX rfl rfl) rfl rfl hl.1 rfl (lv_room (Nat.le_of_ble_eq_true rfl)) dX5_costOfPair_23 ⟨Nat.zero_le _, Nat.zero_le _⟩) (fun r_1 hf => ?_)
  refine lv_iload hx hb dX5_costOfPair_26 (lv_at hl 5 rfl) ?_
  refine lv_iadd hx hb dX5_costOfPair_28 ?_
  refine va_mmin hx hb (by rw [hml]; exact hl.1.symm) hown kl_103 ks_min ki_math kc_min (Nat.le_of_ble_eq_true rfl) (Nat.le_of_ble_eq_true rfl) (Nat.zero_le _) (Nat.zero_le _) dX5_costOfPair_29 ?_
  refine lv_istore (lv' := [(6, .int (if (r_1 + x4) < 7 then (r_1 + x4) else 7)), (5, .int (if 0 < ((a1_bends_notes x2.toNatClampNeg) - x3) then ((a1_bends_notes x2.toNatClampNeg) - x3) else 0)), (0, .ref q_a0), (1, .ref q_a1), (2, .int x2), (3, .int x3), (4, .int x4)]) hx hb dX5_costOfPair_32 hl (by decide) rfl (fun ls hl => ?_)
  refine lv_iload hx hb dX5_costOfPair_34 (lv_at hl 0 rfl) ?_
  refine lv_aload_n hx hb dX5_costOfPair_36 rfl (lv_at hl 3 rfl) ?_
  refine va_get (D := D) (ci := 5) (v := .ref q_a1_bends) (C := RX6) (T := TX6) (N := 9) hx hb hts in_X6 hown hK hP 1 rfl rfl 0 (by decide) kf_18 (fun _ h9 => h9) rfl dX5_costOfPair_37 ?_
  refine lv_iload_n hx hb dX5_costOfPair_40 rfl (lv_at hl 4 rfl) ?_
  refine ya_csi (va_runV (As := [.int x2]) (rest := [.int (if (r_1 + x4) < 7 then (r_1 + x4) else 7)]) ⟨hx, hb, hml, hown, hts⟩ (c_X0_holds l D cI cZ cO q_a1_bends q_a1_bends_yards q_a1_bends_truth q_a1_bends_notes q_a1_bends_words q_a1_bends_mud a1_bends_size a1_bends_truth a1_bends_mud x2 _ hf) (cwV 1 hts gX5_costOfPair_X0_holds rfl rfl rfl (by decide +kernel) ⟨Nat.le_of_ble_eq_true rfl, Nat.le_of_ble_eq_true rfl⟩) (pv_ro (ci := 0) (q0 := 0) (hP.sub [2, 3, 5] rfl) hX rfl rfl) rfl rfl hl.1 rfl (lv_room (Nat.le_of_ble_eq_true rfl)) dX5_costOfPair_41 ⟨Nat.zero_le _, Nat.zero_le _⟩) (fun r_2 hf => ?_)
  refine ya_csi (va_runS (As := [.int (if (r_1 + x4) < 7 then (r_1 + x4) else 7), .int r_2]) (rest := []) ⟨hx, hb, hml, hown, hts⟩ (c_X2_costOf l D cI cZ cO  (if (r_1 + x4) < 7 then (r_1 + x4) else 7) r_2 _ hf) (va_cwS 2 hts gX5_costOfPair_X2_costOf rfl rfl rfl (by decide +kernel) ⟨Nat.le_of_ble_eq_true rfl, Nat.le_of_ble_eq_true rfl⟩) (ps_ro va_P0 hX) rfl rfl hl.1 rfl (lv_room (Nat.le_of_ble_eq_true rfl)) dX5_costOfPair_44 ⟨Nat.zero_le _, Nat.zero_le _⟩) (fun r_3 hf => ?_)
  subst hQQ
  exact W.iret hx hb hr (fun t ht hW => ⟨_, rfl, hf, ht⟩) (fun _ h => absurd h List.not_mem_nil) dX5_costOfPair_47
def p_X5_toHer (a1_bends_truth : Nat → Int32) (a1_bends_notes : Nat → Int32) (a1_bends_mud : Nat → Int32) (a1_kind : Int32) (a1_fog : Int32) (x2 : Int32) (x3 : Int32) (x4 : Int32) (Q : Int32 → Prop) : Prop :=
  p_X5_costOfPair a1_bends_truth a1_bends_notes a1_bends_mud a1_kind a1_fog x2 x3 x4 (fun r_1 => Q ((-r_1) - x3))
def rmX5_toHer : Room := { frames := 3, cells := 0, slots := 0, locals := 76 }
set_option maxHeartbeats 4000000 in
set_option maxRecDepth 100000 in
theorem c_X5_toHer (l : Launch) (D : va_G) (cI cZ cO : ClassId) (q_a0 q_a0_gains q_a0_alike q_a1 q_a1_bends q_a1_felt q_a1_paces q_a1_past q_a1_bends_yards q_a1_bends_truth q_a1_bends_notes q_a1_bends_words q_a1_bends_mud : Nat) (a1_kind : Int32) (a1_fog : Int32) (a1_here : Int32) (a1_seconds : Int32) (a1_crashes : Int32) (a1_bends_size : Int32) (a1_bends_truth : Nat → Int32) (a1_bends_notes : Nat → Int32) (a1_bends_mud : Nat → Int32) (x2 : Int32) (x3 : Int32) (x4 : Int32) (Q : Int32 → Prop) (hf : p_X5_toHer a1_bends_truth a1_bends_notes a1_bends_mud a1_kind a1_fog x2 x3 x4 Q) : Met l yX5_toHer wsX5_toHer rmX5_toHer (va_Pc [.ref q_a0, .ref q_a1, .int x2, .int x3, .int x4] (fun U => va_P D vwCl [(q_a0, .inr (4, [.ref q_a0_gains, .ref q_a0_alike])), (q_a1, .inr (5, [.ref q_a1_bends, .ref q_a1_felt, .ref q_a1_paces, .ref q_a1_past, .int a1_kind, .int a1_fog, .int a1_here, .int a1_seconds, .int a1_crashes])), (q_a1_bends, .inr (0, [.ref q_a1_bends_yards, .ref q_a1_bends_truth, .ref q_a1_bends_notes, .ref q_a1_bends_words, .ref q_a1_bends_mud, .int a1_bends_size])), (q_a1_bends_truth, .inl (cI, 8, .inl a1_bends_truth)), (q_a1_bends_notes, .inl (cI, 8, .inl a1_bends_notes)), (q_a1_bends_mud, .inl (cI, 8, .inl a1_bends_mud))] U.heap ∧ XK D cI cZ cO U)) (vp_Si Q) 0 0 (fun _ => False) := by
  refine Met.ofW (cc := cX5_toHer) (maxL := 5) (ret := (some .int)) (by decide) rfl ?_
  intro p e s m args below meth c s₁ B hml hv
  obtain ⟨rfl, hP, hX⟩ := hv
  have hK := hX.1
  have hx := B.exec
  have hb := B.bytes
  have hr := B.returns
  have hts := atoms_spec (ws := wsX5_toHer) B.pre
  have hown : s.vm.findClass RX5 = some m.cls := findClass_of_methodNamed B.named
  have hlocks := B.notSynchronized
  generalize hQQ : MQ below _ _ s _ _ _ = QQ
  have hl := lv_entry ([.ref q_a0, .ref q_a1, .int x2, .int x3, .int x4]) (n := 5) (Nat.le_of_ble_eq_true rfl)
  rw [lg_entry_eq]
  generalize (lg_sl ([.ref q_a0, .ref q_a1, .int x2, .int x3, .int x4]) ++ List.replicate (5 - (lg_sl ([.ref q_a0, .ref q_a1, .int x2, .int x3, .int x4])).length) Slot.unset).toArray = ls at hl ⊢
  have hl : lv_has ls 5 [(0, .ref q_a0), (1, .ref q_a1), (2, .int x2), (3, .int x3), (4, .int x4)] := hl
  unfold p_X5_toHer at hf
  refine lv_aload_n hx hb dX5_toHer_0 rfl (lv_at hl 0 rfl) ?_
  refine lv_aload_n hx hb dX5_toHer_1 rfl (lv_at hl 1 rfl) ?_
  refine lv_iload_n hx hb dX5_toHer_2 rfl (lv_at hl 2 rfl) ?_
  refine lv_iload_n hx hb dX5_toHer_3 rfl (lv_at hl 3 rfl) ?_
  refine lv_iload hx hb dX5_toHer_4 (lv_at hl 4 rfl) ?_
  refine ya_csi (va_runV (As := [.ref q_a1, .int x2, .int x3, .int x4]) (rest := []) ⟨hx, hb, hml, hown, hts⟩ (c_X5_costOfPair l D cI cZ cO q_a0 q_a0_gains q_a0_alike q_a1 q_a1_bends q_a1_felt q_a1_paces q_a1_past q_a1_bends_yards q_a1_bends_truth q_a1_bends_notes q_a1_bends_words q_a1_bends_mud a1_kind a1_fog a1_here a1_seconds a1_crashes a1_bends_size a1_bends_truth a1_bends_notes a1_bends_mud x2 x3 x4 _ hf) (cwV 4 hts gX5_toHer_X5_costOfPair rfl rfl rfl (by decide +kernel) ⟨Nat.le_of_ble_eq_true rfl, Nat.le_of_ble_eq_true rfl⟩) (pv_ro (ci := 4) (q0 := 0) (hP.sub [0, 1, 2, 3, 4, 5] rfl) hX rfl rfl) rfl rfl hl.1 rfl (lv_room (Nat.le_of_ble_eq_true rfl)) dX5_toHer_6 ⟨Nat.zero_le _, Nat.zero_le _⟩) (fun r_1 hf => ?_)
  refine lv_ineg hx hb dX5_toHer_9 ?_
  refine lv_iload_n hx hb dX5_toHer_10 rfl (lv_at hl 3 rfl) ?_
  refine lv_isub hx hb dX5_toHer_11 ?_
  subst hQQ
  exact W.iret hx hb hr (fun t ht hW => ⟨_, rfl, hf, ht⟩) (fun _ h => absurd h List.not_mem_nil) dX5_toHer_12
def p_X5_toHim (a1_bends_truth : Nat → Int32) (a1_bends_notes : Nat → Int32) (a1_bends_mud : Nat → Int32) (a1_kind : Int32) (a1_fog : Int32) (x2 : Int32) (x3 : Int32) (x4 : Int32) (Q : Int32 → Prop) : Prop :=
  p_X5_costOfPair a1_bends_truth a1_bends_notes a1_bends_mud a1_kind a1_fog x2 x3 x4 (fun r_1 => Q ((-r_1) + (2 * x4)))
def rmX5_toHim : Room := { frames := 3, cells := 0, slots := 0, locals := 76 }
set_option maxHeartbeats 4000000 in
set_option maxRecDepth 100000 in
theorem c_X5_toHim (l : Launch) (D : va_G) (cI cZ cO : ClassId) (q_a0 q_a0_gains q_a0_alike q_a1 q_a1_bends q_a1_felt q_a1_paces q_a1_past q_a1_bends_yards q_a1_bends_truth q_a1_bends_notes q_a1_bends_words q_a1_bends_mud : Nat) (a1_kind : Int32) (a1_fog : Int32) (a1_here : Int32) (a1_seconds : Int32) (a1_crashes : Int32) (a1_bends_size : Int32) (a1_bends_truth : Nat → Int32) (a1_bends_notes : Nat → Int32) (a1_bends_mud : Nat → Int32) (x2 : Int32) (x3 : Int32) (x4 : Int32) (Q : Int32 → Prop) (hf : p_X5_toHim a1_bends_truth a1_bends_notes a1_bends_mud a1_kind a1_fog x2 x3 x4 Q) : Met l yX5_toHim wsX5_toHim rmX5_toHim (va_Pc [.ref q_a0, .ref q_a1, .int x2, .int x3, .int x4] (fun U => va_P D vwCl [(q_a0, .inr (4, [.ref q_a0_gains, .ref q_a0_alike])), (q_a1, .inr (5, [.ref q_a1_bends, .ref q_a1_felt, .ref q_a1_paces, .ref q_a1_past, .int a1_kind, .int a1_fog, .int a1_here, .int a1_seconds, .int a1_crashes])), (q_a1_bends, .inr (0, [.ref q_a1_bends_yards, .ref q_a1_bends_truth, .ref q_a1_bends_notes, .ref q_a1_bends_words, .ref q_a1_bends_mud, .int a1_bends_size])), (q_a1_bends_truth, .inl (cI, 8, .inl a1_bends_truth)), (q_a1_bends_notes, .inl (cI, 8, .inl a1_bends_notes)), (q_a1_bends_mud, .inl (cI, 8, .inl a1_bends_mud))] U.heap ∧ XK D cI cZ cO U)) (vp_Si Q) 0 0 (fun _ => False) := by
  refine Met.ofW (cc := cX5_toHim) (maxL := 5) (ret := (some .int)) (by decide) rfl ?_
  intro p e s m args below meth c s₁ B hml hv
  obtain ⟨rfl, hP, hX⟩ := hv
  have hK := hX.1
  have hx := B.exec
  have hb := B.bytes
  have hr := B.returns
  have hts := atoms_spec (ws := wsX5_toHim) B.pre
  have hown : s.vm.findClass RX5 = some m.cls := findClass_of_methodNamed B.named
  have hlocks := B.notSynchronized
  generalize hQQ : MQ below _ _ s _ _ _ = QQ
  have hl := lv_entry ([.ref q_a0, .ref q_a1, .int x2, .int x3, .int x4]) (n := 5) (Nat.le_of_ble_eq_true rfl)
  rw [lg_entry_eq]
  generalize (lg_sl ([.ref q_a0, .ref q_a1, .int x2, .int x3, .int x4]) ++ List.replicate (5 - (lg_sl ([.ref q_a0, .ref q_a1, .int x2, .int x3, .int x4])).length) Slot.unset).toArray = ls at hl ⊢
  have hl : lv_has ls 5 [(0, .ref q_a0), (1, .ref q_a1), (2, .int x2), (3, .int x3), (4, .int x4)] := hl
  unfold p_X5_toHim at hf
  refine lv_aload_n hx hb dX5_toHim_0 rfl (lv_at hl 0 rfl) ?_
  refine lv_aload_n hx hb dX5_toHim_1 rfl (lv_at hl 1 rfl) ?_
  refine lv_iload_n hx hb dX5_toHim_2 rfl (lv_at hl 2 rfl) ?_
  refine lv_iload_n hx hb dX5_toHim_3 rfl (lv_at hl 3 rfl) ?_
  refine lv_iload hx hb dX5_toHim_4 (lv_at hl 4 rfl) ?_
  refine ya_csi (va_runV (As := [.ref q_a1, .int x2, .int x3, .int x4]) (rest := []) ⟨hx, hb, hml, hown, hts⟩ (c_X5_costOfPair l D cI cZ cO q_a0 q_a0_gains q_a0_alike q_a1 q_a1_bends q_a1_felt q_a1_paces q_a1_past q_a1_bends_yards q_a1_bends_truth q_a1_bends_notes q_a1_bends_words q_a1_bends_mud a1_kind a1_fog a1_here a1_seconds a1_crashes a1_bends_size a1_bends_truth a1_bends_notes a1_bends_mud x2 x3 x4 _ hf) (cwV 4 hts gX5_toHim_X5_costOfPair rfl rfl rfl (by decide +kernel) ⟨Nat.le_of_ble_eq_true rfl, Nat.le_of_ble_eq_true rfl⟩) (pv_ro (ci := 4) (q0 := 0) (hP.sub [0, 1, 2, 3, 4, 5] rfl) hX rfl rfl) rfl rfl hl.1 rfl (lv_room (Nat.le_of_ble_eq_true rfl)) dX5_toHim_6 ⟨Nat.zero_le _, Nat.zero_le _⟩) (fun r_1 hf => ?_)
  refine lv_ineg hx hb dX5_toHim_9 ?_
  refine lv_iconst (v := 2) hx hb dX5_toHim_10 (by decide) ?_
  refine lv_iload hx hb dX5_toHim_11 (lv_at hl 4 rfl) ?_
  refine lv_imul hx hb dX5_toHim_13 ?_
  refine lv_iadd hx hb dX5_toHim_14 ?_
  subst hQQ
  exact W.iret hx hb hr (fun t ht hW => ⟨_, rfl, hf, ht⟩) (fun _ h => absurd h List.not_mem_nil) dX5_toHim_15
def jX5_pairsAtRest_85 (k_3 : Int32 → Int32 → Prop) (v_1 : Int32) (v_2 : Int32) (v_4 : Int32) (t_5 : Int32) : Prop :=
  if v_4 = 0 then (k_3 v_1 (v_2 + 1)) else (if t_5 = 0 then (k_3 v_1 (v_2 + 1)) else (k_3 (v_1 ||| (1 <<< (v_2 &&& 31))) (v_2 + 1)))
def jX5_pairsAtRest_53 (a1_bends_truth : Nat → Int32) (a1_bends_notes : Nat → Int32) (a1_bends_mud : Nat → Int32) (a1_kind : Int32) (a1_fog : Int32) (x2 : Int32) (k_3 : Int32 → Int32 → Prop) (v_1 : Int32) (v_2 : Int32) (v_8 : Int32) (v_9 : Int32) (t_10 : Int32) : Prop :=
  p_X5_toHim a1_bends_truth a1_bends_notes a1_bends_mud a1_kind a1_fog x2 v_8 v_9 (fun r_11 => p_X5_toHim a1_bends_truth a1_bends_notes a1_bends_mud a1_kind a1_fog x2 v_8 (1 - v_9) (fun r_12 => if r_11 < r_12 then (jX5_pairsAtRest_85 k_3 v_1 v_2 t_10 0) else (jX5_pairsAtRest_85 k_3 v_1 v_2 t_10 1)))
def bX5_pairsAtRest_5 (a1_bends_truth : Nat → Int32) (a1_bends_notes : Nat → Int32) (a1_bends_mud : Nat → Int32) (a1_kind : Int32) (a1_fog : Int32) (x2 : Int32) (Q : Int32 → Prop) (k_3 : Int32 → Int32 → Prop) (v_1 : Int32) (v_2 : Int32) : Prop :=
  if 4 ≤ v_2 then (Q v_1) else (p_X5_toHer a1_bends_truth a1_bends_notes a1_bends_mud a1_kind a1_fog x2 (v_2 &&& 1) (v_2 >>> (1 &&& 31)) (fun r_15 => p_X5_toHer a1_bends_truth a1_bends_notes a1_bends_mud a1_kind a1_fog x2 (1 - (v_2 &&& 1)) (v_2 >>> (1 &&& 31)) (fun r_16 => if r_15 < r_16 then (jX5_pairsAtRest_53 a1_bends_truth a1_bends_notes a1_bends_mud a1_kind a1_fog x2 k_3 v_1 v_2 (v_2 &&& 1) (v_2 >>> (1 &&& 31)) 0) else (jX5_pairsAtRest_53 a1_bends_truth a1_bends_notes a1_bends_mud a1_kind a1_fog x2 k_3 v_1 v_2 (v_2 &&& 1) (v_2 >>> (1 &&& 31)) 1))))
def p_X5_pairsAtRest (a1_bends_truth : Nat → Int32) (a1_bends_notes : Nat → Int32) (a1_bends_mud : Nat → Int32) (a1_kind : Int32) (a1_fog : Int32) (x2 : Int32) (Q : Int32 → Prop) : Prop :=
  lq2 (bX5_pairsAtRest_5 a1_bends_truth a1_bends_notes a1_bends_mud a1_kind a1_fog x2 Q) 1000 0 0
def rmX5_pairsAtRest : Room := { frames := 4, cells := 0, slots := 0, locals := 100 }
set_option maxHeartbeats 4000000 in
set_option maxRecDepth 100000 in
theorem c_X5_pairsAtRest (l : Launch) (D : va_G) (cI cZ cO : ClassId) (q_a0 q_a0_gains q_a0_alike q_a1 q_a1_bends q_a1_felt q_a1_paces q_a1_past q_a1_bends_yards q_a1_bends_truth q_a1_bends_notes q_a1_bends_words q_a1_bends_mud : Nat) (a1_kind : Int32) (a1_fog : Int32) (a1_here : Int32) (a1_seconds : Int32) (a1_crashes : Int32) (a1_bends_size : Int32) (a1_bends_truth : Nat → Int32) (a1_bends_notes : Nat → Int32) (a1_bends_mud : Nat → Int32) (x2 : Int32) (Q : Int32 → Prop) (hf : p_X5_pairsAtRest a1_bends_truth a1_bends_notes a1_bends_mud a1_kind a1_fog x2 Q) : Met l yX5_pairsAtRest wsX5_pairsAtRest rmX5_pairsAtRest (va_Pc [.ref q_a0, .ref q_a1, .int x2] (fun U => va_P D vwCl [(q_a0, .inr (4, [.ref q_a0_gains, .ref q_a0_alike])), (q_a1, .inr (5, [.ref q_a1_bends, .ref q_a1_felt, .ref q_a1_paces, .ref q_a1_past, .int a1_kind, .int a1_fog, .int a1_here, .int a1_seconds, .int a1_crashes])), (q_a1_bends, .inr (0, [.ref q_a1_bends_yards, .ref q_a1_bends_truth, .ref q_a1_bends_notes, .ref q_a1_bends_words, .ref q_a1_bends_mud, .int a1_bends_size])), (q_a1_bends_truth, .inl (cI, 8, .inl a1_bends_truth)), (q_a1_bends_notes, .inl (cI, 8, .inl a1_bends_notes)), (q_a1_bends_mud, .inl (cI, 8, .inl a1_bends_mud))] U.heap ∧ XK D cI cZ cO U)) (vp_Si Q) 0 0 (fun _ => False) := by
  refine Met.ofW (cc := cX5_pairsAtRest) (maxL := 9) (ret := (some .int)) (by decide) rfl ?_
  intro p e s m args below meth c s₁ B hml hv
  obtain ⟨rfl, hP, hX⟩ := hv
  have hK := hX.1
  have hx := B.exec
  have hb := B.bytes
  have hr := B.returns
  have hts := atoms_spec (ws := wsX5_pairsAtRest) B.pre
  have hown : s.vm.findClass RX5 = some m.cls := findClass_of_methodNamed B.named
  have hlocks := B.notSynchronized
  generalize hQQ : MQ below _ _ s _ _ _ = QQ
  have hl := lv_entry ([.ref q_a0, .ref q_a1, .int x2]) (n := 9) (Nat.le_of_ble_eq_true rfl)
  rw [lg_entry_eq]
  generalize (lg_sl ([.ref q_a0, .ref q_a1, .int x2]) ++ List.replicate (9 - (lg_sl ([.ref q_a0, .ref q_a1, .int x2])).length) Slot.unset).toArray = ls at hl ⊢
  have hl : lv_has ls 9 [(0, .ref q_a0), (1, .ref q_a1), (2, .int x2)] := hl
  unfold p_X5_pairsAtRest at hf
  refine lv_iconst (v := 0) hx hb dX5_pairsAtRest_0 (by decide) ?_
  refine lv_istore_n (lv' := [(3, .int 0), (0, .ref q_a0), (1, .ref q_a1), (2, .int x2)]) hx hb dX5_pairsAtRest_1 rfl hl (by decide) rfl (fun ls hl => ?_)
  refine lv_iconst (v := 0) hx hb dX5_pairsAtRest_2 (by decide) ?_
  refine lv_istore (lv' := [(4, .int 0), (3, .int 0), (0, .ref q_a0), (1, .ref q_a1), (2, .int x2)]) hx hb dX5_pairsAtRest_3 hl (by decide) rfl (fun ls hl => ?_)
  have hlp_5 : ∀ (n_5 : Nat) (v_1 : Int32) (v_2 : Int32) (ls : Array Slot), lq2 (bX5_pairsAtRest_5 a1_bends_truth a1_bends_notes a1_bends_mud a1_kind a1_fog x2 Q) n_5 v_1 v_2 → lv_has ls 9 [(0, .ref q_a0), (1, .ref q_a1), (2, .int x2), (3, .int v_1), (4, .int v_2)] → W p l e (headSpec wsX5_pairsAtRest rmX5_pairsAtRest).room s m ([.ref q_a0, .ref q_a1, .int x2] : List Value).toArray below meth c s.heap [] 0 0 QQ (F0 m 5 ls []) := by
    intro n_5
    induction n_5 with
    | zero => intro v_1 v_2 ls hf; exact (lq2_0 hf).elim
    | succ n_5 ih =>
      have ih_5 := ih
      intro v_1 v_2 ls hf hl
      have hj_85 : ∀ (v_4 : Int32) (t_5 : Int32), jX5_pairsAtRest_85 (lq2 (bX5_pairsAtRest_5 a1_bends_truth a1_bends_notes a1_bends_mud a1_kind a1_fog x2 Q) n_5) v_1 v_2 v_4 t_5 → ∀ ls : Array Slot, lv_has ls 9 [(0, .ref q_a0), (1, .ref q_a1), (2, .int x2), (3, .int v_1), (4, .int v_2), (7, .int v_4)] → W p l e (headSpec wsX5_pairsAtRest rmX5_pairsAtRest).room s m ([.ref q_a0, .ref q_a1, .int x2] : List Value).toArray below meth c s.heap [] 0 0 QQ (F0 m 85 ls [.int t_5]) := by
        intro v_4 t_5 hf ls hl
        unfold jX5_pairsAtRest_85 at hf
        refine lv_istore (lv' := [(8, .int t_5), (0, .ref q_a0), (1, .ref q_a1), (2, .int x2), (3, .int v_1), (4, .int v_2), (7, .int v_4)]) hx hb dX5_pairsAtRest_85 hl (by decide) rfl (fun ls hl => ?_)
        refine lv_iload hx hb dX5_pairsAtRest_87 (lv_at hl 6 rfl) ?_
        refine lv_if_eq (tgt := 104) hx hb dX5_pairsAtRest_89 (by decide) (fun c_6 => ?_) (fun c_6 => ?_)
        · have hf := it_t c_6 hf
          refine lv_iinc (v := v_2 + 1) (lv' := [(4, .int (v_2 + 1)), (8, .int t_5), (0, .ref q_a0), (1, .ref q_a1), (2, .int x2), (3, .int v_1), (7, .int v_4)]) hx hb dX5_pairsAtRest_104 hl (k := 5) rfl rfl (by decide) rfl (fun ls hl => ?_)
          refine lv_goto (tgt := 5) hx hb dX5_pairsAtRest_107 (by decide) ?_
          exact ih v_1 (v_2 + 1) ls hf (lv_sub hl [2, 3, 4, 5, 0] rfl)
        · have hf := it_f c_6 hf
          refine lv_iload hx hb dX5_pairsAtRest_92 (lv_at hl 0 rfl) ?_
          refine lv_if_eq (tgt := 104) hx hb dX5_pairsAtRest_94 (by decide) (fun c_7 => ?_) (fun c_7 => ?_)
          · have hf := it_t c_7 hf
            refine lv_iinc (v := v_2 + 1) (lv' := [(4, .int (v_2 + 1)), (8, .int t_5), (0, .ref q_a0), (1, .ref q_a1), (2, .int x2), (3, .int v_1), (7, .int v_4)]) hx hb dX5_pairsAtRest_104 hl (k := 5) rfl rfl (by decide) rfl (fun ls hl => ?_)
            refine lv_goto (tgt := 5) hx hb dX5_pairsAtRest_107 (by decide) ?_
            exact ih v_1 (v_2 + 1) ls hf (lv_sub hl [2, 3, 4, 5, 0] rfl)
          · have hf := it_f c_7 hf
            refine lv_iload_n hx hb dX5_pairsAtRest_97 rfl (lv_at hl 4 rfl) ?_
            refine lv_iconst (v := 1) hx hb dX5_pairsAtRest_98 (by decide) ?_
            refine lv_iload hx hb dX5_pairsAtRest_99 (lv_at hl 5 rfl) ?_
            refine lv_ishl hx hb dX5_pairsAtRest_101 ?_
            refine lv_ior hx hb dX5_pairsAtRest_102 ?_
            refine lv_istore_n (lv' := [(3, .int (v_1 ||| (1 <<< (v_2 &&& 31)))), (8, .int t_5), (0, .ref q_a0), (1, .ref q_a1), (2, .int x2), (4, .int v_2), (7, .int v_4)]) hx hb dX5_pairsAtRest_103 rfl hl (by decide) rfl (fun ls hl => ?_)
            refine lv_iinc (v := v_2 + 1) (lv' := [(4, .int (v_2 + 1)), (3, .int (v_1 ||| (1 <<< (v_2 &&& 31)))), (8, .int t_5), (0, .ref q_a0), (1, .ref q_a1), (2, .int x2), (7, .int v_4)]) hx hb dX5_pairsAtRest_104 hl (k := 5) rfl rfl (by decide) rfl (fun ls hl => ?_)
            refine lv_goto (tgt := 5) hx hb dX5_pairsAtRest_107 (by decide) ?_
            exact ih (v_1 ||| (1 <<< (v_2 &&& 31))) (v_2 + 1) ls hf (lv_sub hl [3, 4, 5, 1, 0] rfl)
      have hj_53 : ∀ (v_8 : Int32) (v_9 : Int32) (t_10 : Int32), jX5_pairsAtRest_53 a1_bends_truth a1_bends_notes a1_bends_mud a1_kind a1_fog x2 (lq2 (bX5_pairsAtRest_5 a1_bends_truth a1_bends_notes a1_bends_mud a1_kind a1_fog x2 Q) n_5) v_1 v_2 v_8 v_9 t_10 → ∀ ls : Array Slot, lv_has ls 9 [(0, .ref q_a0), (1, .ref q_a1), (2, .int x2), (3, .int v_1), (4, .int v_2), (5, .int v_8), (6, .int v_9)] → W p l e (headSpec wsX5_pairsAtRest rmX5_pairsAtRest).room s m ([.ref q_a0, .ref q_a1, .int x2] : List Value).toArray below meth c s.heap [] 0 0 QQ (F0 m 53 ls [.int t_10]) := by
        intro v_8 v_9 t_10 hf ls hl
        unfold jX5_pairsAtRest_53 at hf
        refine lv_istore (lv' := [(7, .int t_10), (0, .ref q_a0), (1, .ref q_a1), (2, .int x2), (3, .int v_1), (4, .int v_2), (5, .int v_8), (6, .int v_9)]) hx hb dX5_pairsAtRest_53 hl (by decide) rfl (fun ls hl => ?_)
        refine lv_aload_n hx hb dX5_pairsAtRest_55 rfl (lv_at hl 1 rfl) ?_
        refine lv_aload_n hx hb dX5_pairsAtRest_56 rfl (lv_at hl 2 rfl) ?_
        refine lv_iload_n hx hb dX5_pairsAtRest_57 rfl (lv_at hl 3 rfl) ?_
        refine lv_iload hx hb dX5_pairsAtRest_58 (lv_at hl 6 rfl) ?_
        refine lv_iload hx hb dX5_pairsAtRest_60 (lv_at hl 7 rfl) ?_
        refine ya_csi (va_runV (As := [.ref q_a1, .int x2, .int v_8, .int v_9]) (rest := []) ⟨hx, hb, hml, hown, hts⟩ (c_X5_toHim l D cI cZ cO q_a0 q_a0_gains q_a0_alike q_a1 q_a1_bends q_a1_felt q_a1_paces q_a1_past q_a1_bends_yards q_a1_bends_truth q_a1_bends_notes q_a1_bends_words q_a1_bends_mud a1_kind a1_fog a1_here a1_seconds a1_crashes a1_bends_size a1_bends_truth a1_bends_notes a1_bends_mud x2 v_8 v_9 _ hf) (cwV 4 hts gX5_pairsAtRest_X5_toHim rfl rfl rfl (by decide +kernel) ⟨Nat.le_of_ble_eq_true rfl, Nat.le_of_ble_eq_true rfl⟩) (pv_ro (ci := 4) (q0 := 0) (hP.sub [0, 1, 2, 3, 4, 5] rfl) hX rfl rfl) rfl rfl hl.1 rfl (lv_room (Nat.le_of_ble_eq_true rfl)) dX5_pairsAtRest_62 ⟨Nat.zero_le _, Nat.zero_le _⟩) (fun r_11 hf => ?_)
        refine lv_aload_n hx hb dX5_pairsAtRest_65 rfl (lv_at hl 1 rfl) ?_
        refine lv_aload_n hx hb dX5_pairsAtRest_66 rfl (lv_at hl 2 rfl) ?_
        refine lv_iload_n hx hb dX5_pairsAtRest_67 rfl (lv_at hl 3 rfl) ?_
        refine lv_iload hx hb dX5_pairsAtRest_68 (lv_at hl 6 rfl) ?_
        refine lv_iconst (v := 1) hx hb dX5_pairsAtRest_70 (by decide) ?_
        refine lv_iload hx hb dX5_pairsAtRest_71 (lv_at hl 7 rfl) ?_
        refine lv_isub hx hb dX5_pairsAtRest_73 ?_
        refine ya_csi (va_runV (As := [.ref q_a1, .int x2, .int v_8, .int (1 - v_9)]) (rest := [.int r_11]) ⟨hx, hb, hml, hown, hts⟩ (c_X5_toHim l D cI cZ cO q_a0 q_a0_gains q_a0_alike q_a1 q_a1_bends q_a1_felt q_a1_paces q_a1_past q_a1_bends_yards q_a1_bends_truth q_a1_bends_notes q_a1_bends_words q_a1_bends_mud a1_kind a1_fog a1_here a1_seconds a1_crashes a1_bends_size a1_bends_truth a1_bends_notes a1_bends_mud x2 v_8 (1 - v_9) _ hf) (cwV 4 hts gX5_pairsAtRest_X5_toHim rfl rfl rfl (by decide +kernel) ⟨Nat.le_of_ble_eq_true rfl, Nat.le_of_ble_eq_true rfl⟩) (pv_ro (ci := 4) (q0 := 0) (hP.sub [0, 1, 2, 3, 4, 5] rfl) hX rfl rfl) rfl rfl hl.1 rfl (lv_room (Nat.le_of_ble_eq_true rfl)) dX5_pairsAtRest_74 ⟨Nat.zero_le _, Nat.zero_le _⟩) (fun r_12 hf => ?_)
        refine lv_icmp_lt (tgt := 84) hx hb dX5_pairsAtRest_77 (by decide) (fun c_13 => ?_) (fun c_13 => ?_)
        · have hf := it_t c_13 hf
          refine lv_iconst (v := 0) hx hb dX5_pairsAtRest_84 (by decide) ?_
          exact hj_85 t_10 0 hf ls (lv_sub hl [1, 2, 3, 4, 5, 0] rfl)
        · have hf := it_f c_13 hf
          refine lv_iconst (v := 1) hx hb dX5_pairsAtRest_80 (by decide) ?_
          refine lv_goto (tgt := 85) hx hb dX5_pairsAtRest_81 (by decide) ?_
          exact hj_85 t_10 1 hf ls (lv_sub hl [1, 2, 3, 4, 5, 0] rfl)
      have hf := lq2_s hf
      unfold bX5_pairsAtRest_5 at hf
      refine lv_iload hx hb dX5_pairsAtRest_5 (lv_at hl 4 rfl) ?_
      refine lv_iconst (v := 4) hx hb dX5_pairsAtRest_7 (by decide) ?_
      refine lv_icmp_ge (tgt := 110) hx hb dX5_pairsAtRest_8 (by decide) (fun c_14 => ?_) (fun c_14 => ?_)
      · have hf := it_t c_14 hf
        refine lv_iload_n hx hb dX5_pairsAtRest_110 rfl (lv_at hl 3 rfl) ?_
        subst hQQ
        exact W.iret hx hb hr (fun t ht hW => ⟨_, rfl, hf, ht⟩) (fun _ h => absurd h List.not_mem_nil) dX5_pairsAtRest_111
      · have hf := it_f c_14 hf
        refine lv_iload hx hb dX5_pairsAtRest_11 (lv_at hl 4 rfl) ?_
        refine lv_iconst (v := 1) hx hb dX5_pairsAtRest_13 (by decide) ?_
        refine lv_iand hx hb dX5_pairsAtRest_14 ?_
        refine lv_istore (lv' := [(5, .int (v_2 &&& 1)), (0, .ref q_a0), (1, .ref q_a1), (2, .int x2), (3, .int v_1), (4, .int v_2)]) hx hb dX5_pairsAtRest_15 hl (by decide) rfl (fun ls hl => ?_)
        refine lv_iload hx hb dX5_pairsAtRest_17 (lv_at hl 5 rfl) ?_
        refine lv_iconst (v := 1) hx hb dX5_pairsAtRest_19 (by decide) ?_
        refine lv_ishr hx hb dX5_pairsAtRest_20 ?_
        refine lv_istore (lv' := [(6, .int (v_2 >>> (1 &&& 31))), (5, .int (v_2 &&& 1)), (0, .ref q_a0), (1, .ref q_a1), (2, .int x2), (3, .int v_1), (4, .int v_2)]) hx hb dX5_pairsAtRest_21 hl (by decide) rfl (fun ls hl => ?_)
        refine lv_aload_n hx hb dX5_pairsAtRest_23 rfl (lv_at hl 2 rfl) ?_
        refine lv_aload_n hx hb dX5_pairsAtRest_24 rfl (lv_at hl 3 rfl) ?_
        refine lv_iload_n hx hb dX5_pairsAtRest_25 rfl (lv_at hl 4 rfl) ?_
        refine lv_iload hx hb dX5_pairsAtRest_26 (lv_at hl 1 rfl) ?_
        refine lv_iload hx hb dX5_pairsAtRest_28 (lv_at hl 0 rfl) ?_
        refine ya_csi (va_runV (As := [.ref q_a1, .int x2, .int (v_2 &&& 1), .int (v_2 >>> (1 &&& 31))]) (rest := []) ⟨hx, hb, hml, hown, hts⟩ (c_X5_toHer l D cI cZ cO q_a0 q_a0_gains q_a0_alike q_a1 q_a1_bends q_a1_felt q_a1_paces q_a1_past q_a1_bends_yards q_a1_bends_truth q_a1_bends_notes q_a1_bends_words q_a1_bends_mud a1_kind a1_fog a1_here a1_seconds a1_crashes a1_bends_size a1_bends_truth a1_bends_notes a1_bends_mud x2 (v_2 &&& 1) (v_2 >>> (1 &&& 31)) _ hf) (cwV 4 hts gX5_pairsAtRest_X5_toHer rfl rfl rfl (by decide +kernel) ⟨Nat.le_of_ble_eq_true rfl, Nat.le_of_ble_eq_true rfl⟩) (pv_ro (ci := 4) (q0 := 0) (hP.sub [0, 1, 2, 3, 4, 5] rfl) hX rfl rfl) rfl rfl hl.1 rfl (lv_room (Nat.le_of_ble_eq_true rfl)) dX5_pairsAtRest_30 ⟨Nat.zero_le _, Nat.zero_le _⟩) (fun r_15 hf => ?_)
        refine lv_aload_n hx hb dX5_pairsAtRest_33 rfl (lv_at hl 2 rfl) ?_
        refine lv_aload_n hx hb dX5_pairsAtRest_34 rfl (lv_at hl 3 rfl) ?_
        refine lv_iload_n hx hb dX5_pairsAtRest_35 rfl (lv_at hl 4 rfl) ?_
        refine lv_iconst (v := 1) hx hb dX5_pairsAtRest_36 (by decide) ?_
        refine lv_iload hx hb dX5_pairsAtRest_37 (lv_at hl 1 rfl) ?_
        refine lv_isub hx hb dX5_pairsAtRest_39 ?_
        refine lv_iload hx hb dX5_pairsAtRest_40 (lv_at hl 0 rfl) ?_
        refine ya_csi (va_runV (As := [.ref q_a1, .int x2, .int (1 - (v_2 &&& 1)), .int (v_2 >>> (1 &&& 31))]) (rest := [.int r_15]) ⟨hx, hb, hml, hown, hts⟩ (c_X5_toHer l D cI cZ cO q_a0 q_a0_gains q_a0_alike q_a1 q_a1_bends q_a1_felt q_a1_paces q_a1_past q_a1_bends_yards q_a1_bends_truth q_a1_bends_notes q_a1_bends_words q_a1_bends_mud a1_kind a1_fog a1_here a1_seconds a1_crashes a1_bends_size a1_bends_truth a1_bends_notes a1_bends_mud x2 (1 - (v_2 &&& 1)) (v_2 >>> (1 &&& 31)) _ hf) (cwV 4 hts gX5_pairsAtRest_X5_toHer rfl rfl rfl (by decide +kernel) ⟨Nat.le_of_ble_eq_true rfl, Nat.le_of_ble_eq_true rfl⟩) (pv_ro (ci := 4) (q0 := 0) (hP.sub [0, 1, 2, 3, 4, 5] rfl) hX rfl rfl) rfl rfl hl.1 rfl (lv_room (Nat.le_of_ble_eq_true rfl)) dX5_pairsAtRest_42 ⟨Nat.zero_le _, Nat.zero_le _⟩) (fun r_16 hf => ?_)
        refine lv_icmp_lt (tgt := 52) hx hb dX5_pairsAtRest_45 (by decide) (fun c_17 => ?_) (fun c_17 => ?_)
        · have hf := it_t c_17 hf
          refine lv_iconst (v := 0) hx hb dX5_pairsAtRest_52 (by decide) ?_
          exact hj_53 (v_2 &&& 1) (v_2 >>> (1 &&& 31)) 0 hf ls (lv_sub hl [2, 3, 4, 5, 6, 1, 0] rfl)
        · have hf := it_f c_17 hf
          refine lv_iconst (v := 1) hx hb dX5_pairsAtRest_48 (by decide) ?_
          refine lv_goto (tgt := 53) hx hb dX5_pairsAtRest_49 (by decide) ?_
          exact hj_53 (v_2 &&& 1) (v_2 >>> (1 &&& 31)) 1 hf ls (lv_sub hl [2, 3, 4, 5, 6, 1, 0] rfl)
  exact hlp_5 1000 0 0 ls hf (lv_sub hl [2, 3, 4, 1, 0] rfl)
def bX5_costUnheard_8 (a1_bends_truth : Nat → Int32) (a1_bends_notes : Nat → Int32) (a1_bends_mud : Nat → Int32) (a1_bends_size : Int32) (a1_kind : Int32) (a1_fog : Int32) (x2 : Int32) (Q : Int32 → Prop) (k_3 : Int32 → Int32 → Prop) (v_1 : Int32) (v_2 : Int32) : Prop :=
  if a1_bends_size ≤ v_2 then (Q v_1) else (p_X6_costNoted a1_bends_truth a1_bends_notes a1_bends_mud a1_kind a1_fog v_2 (fun r_5 => p_X6_costAt a1_bends_truth a1_bends_mud a1_kind a1_fog v_2 0 (fun r_6 => k_3 (v_1 + (((10 - x2) * r_5) + (x2 * r_6))) (v_2 + 1))))
def p_X5_costUnheard (a1_bends_truth : Nat → Int32) (a1_bends_notes : Nat → Int32) (a1_bends_mud : Nat → Int32) (a1_bends_size : Int32) (a1_kind : Int32) (a1_fog : Int32) (a1_here : Int32) (x2 : Int32) (Q : Int32 → Prop) : Prop :=
  lq2 (bX5_costUnheard_8 a1_bends_truth a1_bends_notes a1_bends_mud a1_bends_size a1_kind a1_fog x2 Q) 1000 0 a1_here
def rmX5_costUnheard : Room := { frames := 3, cells := 0, slots := 0, locals := 72 }
set_option maxHeartbeats 4000000 in
set_option maxRecDepth 100000 in
theorem c_X5_costUnheard (l : Launch) (D : va_G) (cI cZ cO : ClassId) (q_a0 q_a0_gains q_a0_alike q_a1 q_a1_bends q_a1_felt q_a1_paces q_a1_past q_a1_bends_yards q_a1_bends_truth q_a1_bends_notes q_a1_bends_words q_a1_bends_mud : Nat) (a1_kind : Int32) (a1_fog : Int32) (a1_here : Int32) (a1_seconds : Int32) (a1_crashes : Int32) (a1_bends_size : Int32) (a1_bends_truth : Nat → Int32) (a1_bends_notes : Nat → Int32) (a1_bends_mud : Nat → Int32) (x2 : Int32) (Q : Int32 → Prop) (hf : p_X5_costUnheard a1_bends_truth a1_bends_notes a1_bends_mud a1_bends_size a1_kind a1_fog a1_here x2 Q) : Met l yX5_costUnheard wsX5_costUnheard rmX5_costUnheard (va_Pc [.ref q_a0, .ref q_a1, .int x2] (fun U => va_P D vwCl [(q_a0, .inr (4, [.ref q_a0_gains, .ref q_a0_alike])), (q_a1, .inr (5, [.ref q_a1_bends, .ref q_a1_felt, .ref q_a1_paces, .ref q_a1_past, .int a1_kind, .int a1_fog, .int a1_here, .int a1_seconds, .int a1_crashes])), (q_a1_bends, .inr (0, [.ref q_a1_bends_yards, .ref q_a1_bends_truth, .ref q_a1_bends_notes, .ref q_a1_bends_words, .ref q_a1_bends_mud, .int a1_bends_size])), (q_a1_bends_truth, .inl (cI, 8, .inl a1_bends_truth)), (q_a1_bends_notes, .inl (cI, 8, .inl a1_bends_notes)), (q_a1_bends_mud, .inl (cI, 8, .inl a1_bends_mud))] U.heap ∧ XK D cI cZ cO U)) (vp_Si Q) 0 0 (fun _ => False) := by
  refine Met.ofW (cc := cX5_costUnheard) (maxL := 5) (ret := (some .int)) (by decide) rfl ?_
  intro p e s m args below meth c s₁ B hml hv
  obtain ⟨rfl, hP, hX⟩ := hv
  have hK := hX.1
  have hx := B.exec
  have hb := B.bytes
  have hr := B.returns
  have hts := atoms_spec (ws := wsX5_costUnheard) B.pre
  have hown : s.vm.findClass RX5 = some m.cls := findClass_of_methodNamed B.named
  have hlocks := B.notSynchronized
  have in_X6 : ∀ w ∈ wsX60, w ∈ wsX5_costUnheard := fun _ h => List.mem_cons_of_mem _ (List.mem_append_left _ (List.mem_append_right _ h))
  have in_X0 : ∀ w ∈ wsX00, w ∈ wsX5_costUnheard := fun _ h => List.mem_cons_of_mem _ (List.mem_append_right _ h)
  have kf_30 := hts (.fieldLink RX5 30 "LeftCrest$Stage" "here" "I") (by decide +kernel)
  have kf_18 := hts (.fieldLink RX5 18 "LeftCrest$Stage" "bends" "LLeftCrest$Bends;") (by decide +kernel)
  have kf_24 := hts (.fieldLink RX5 24 "LeftCrest$Bends" "size" "I") (by decide +kernel)
  generalize hQQ : MQ below _ _ s _ _ _ = QQ
  have hl := lv_entry ([.ref q_a0, .ref q_a1, .int x2]) (n := 5) (Nat.le_of_ble_eq_true rfl)
  rw [lg_entry_eq]
  generalize (lg_sl ([.ref q_a0, .ref q_a1, .int x2]) ++ List.replicate (5 - (lg_sl ([.ref q_a0, .ref q_a1, .int x2])).length) Slot.unset).toArray = ls at hl ⊢
  have hl : lv_has ls 5 [(0, .ref q_a0), (1, .ref q_a1), (2, .int x2)] := hl
  unfold p_X5_costUnheard at hf
  refine lv_iconst (v := 0) hx hb dX5_costUnheard_0 (by decide) ?_
  refine lv_istore_n (lv' := [(3, .int 0), (0, .ref q_a0), (1, .ref q_a1), (2, .int x2)]) hx hb dX5_costUnheard_1 rfl hl (by decide) rfl (fun ls hl => ?_)
  refine lv_aload_n hx hb dX5_costUnheard_2 rfl (lv_at hl 2 rfl) ?_
  refine va_get (D := D) (ci := 5) (v := .int a1_here) (C := RX6) (T := TX6) (N := 9) hx hb hts in_X6 hown hK hP 1 rfl rfl 6 (by decide) kf_30 (fun _ h9 => h9) rfl dX5_costUnheard_3 ?_
  refine lv_istore (lv' := [(4, .int a1_here), (3, .int 0), (0, .ref q_a0), (1, .ref q_a1), (2, .int x2)]) hx hb dX5_costUnheard_6 hl (by decide) rfl (fun ls hl => ?_)
  have hlp_8 : ∀ (n_8 : Nat) (v_1 : Int32) (v_2 : Int32) (ls : Array Slot), lq2 (bX5_costUnheard_8 a1_bends_truth a1_bends_notes a1_bends_mud a1_bends_size a1_kind a1_fog x2 Q) n_8 v_1 v_2 → lv_has ls 5 [(1, .ref q_a1), (2, .int x2), (3, .int v_1), (4, .int v_2)] → W p l e (headSpec wsX5_costUnheard rmX5_costUnheard).room s m ([.ref q_a0, .ref q_a1, .int x2] : List Value).toArray below meth c s.heap [] 0 0 QQ (F0 m 8 ls []) := by
    intro n_8
    induction n_8 with
    | zero => intro v_1 v_2 ls hf; exact (lq2_0 hf).elim
    | succ n_8 ih =>
      have ih_8 := ih
      intro v_1 v_2 ls hf hl
      have hf := lq2_s hf
      unfold bX5_costUnheard_8 at hf
      refine lv_iload hx hb dX5_costUnheard_8 (lv_at hl 3 rfl) ?_
      refine lv_aload_n hx hb dX5_costUnheard_10 rfl (lv_at hl 0 rfl) ?_
      refine va_get (D := D) (ci := 5) (v := .ref q_a1_bends) (C := RX6) (T := TX6) (N := 9) hx hb hts in_X6 hown hK hP 1 rfl rfl 0 (by decide) kf_18 (fun _ h9 => h9) rfl dX5_costUnheard_11 ?_
      refine va_get (D := D) (ci := 0) (v := .int a1_bends_size) (C := RX0) (T := TX0) (N := 6) hx hb hts in_X0 hown hK hP 2 rfl rfl 5 (by decide) kf_24 (fun _ h9 => h9) rfl dX5_costUnheard_14 ?_
      refine lv_icmp_ge (tgt := 50) hx hb dX5_costUnheard_17 (by decide) (fun c_4 => ?_) (fun c_4 => ?_)
      · have hf := it_t c_4 hf
        refine lv_iload_n hx hb dX5_costUnheard_50 rfl (lv_at hl 2 rfl) ?_
        subst hQQ
        exact W.iret hx hb hr (fun t ht hW => ⟨_, rfl, hf, ht⟩) (fun _ h => absurd h List.not_mem_nil) dX5_costUnheard_51
      · have hf := it_f c_4 hf
        refine lv_iload_n hx hb dX5_costUnheard_20 rfl (lv_at hl 2 rfl) ?_
        refine lv_bipush (v := 10) hx hb dX5_costUnheard_21 (by decide) ?_
        refine lv_iload_n hx hb dX5_costUnheard_23 rfl (lv_at hl 1 rfl) ?_
        refine lv_isub hx hb dX5_costUnheard_24 ?_
        refine lv_aload_n hx hb dX5_costUnheard_25 rfl (lv_at hl 0 rfl) ?_
        refine lv_iload hx hb dX5_costUnheard_26 (lv_at hl 3 rfl) ?_
        refine ya_csi (va_runV (As := [.int v_2]) (rest := [.int (10 - x2), .int v_1]) ⟨hx, hb, hml, hown, hts⟩ (c_X6_costNoted l D cI cZ cO q_a1 q_a1_bends q_a1_felt q_a1_paces q_a1_past q_a1_bends_yards q_a1_bends_truth q_a1_bends_notes q_a1_bends_words q_a1_bends_mud a1_kind a1_fog a1_here a1_seconds a1_crashes a1_bends_size a1_bends_truth a1_bends_notes a1_bends_mud v_2 _ hf) (cwV 1 hts gX5_costUnheard_X6_costNoted rfl rfl rfl (by decide +kernel) ⟨Nat.le_of_ble_eq_true rfl, Nat.le_of_ble_eq_true rfl⟩) (pv_ro (ci := 5) (q0 := 0) (hP.sub [1, 2, 3, 4, 5] rfl) hX rfl rfl) rfl rfl hl.1 rfl (lv_room (Nat.le_of_ble_eq_true rfl)) dX5_costUnheard_28 ⟨Nat.zero_le _, Nat.zero_le _⟩) (fun r_5 hf => ?_)
        refine lv_imul hx hb dX5_costUnheard_31 ?_
        refine lv_iload_n hx hb dX5_costUnheard_32 rfl (lv_at hl 1 rfl) ?_
        refine lv_aload_n hx hb dX5_costUnheard_33 rfl (lv_at hl 0 rfl) ?_
        refine lv_iload hx hb dX5_costUnheard_34 (lv_at hl 3 rfl) ?_
        refine lv_iconst (v := 0) hx hb dX5_costUnheard_36 (by decide) ?_
        refine ya_csi (va_runV (As := [.int v_2, .int 0]) (rest := [.int x2, .int ((10 - x2) * r_5), .int v_1]) ⟨hx, hb, hml, hown, hts⟩ (c_X6_costAt l D cI cZ cO q_a1 q_a1_bends q_a1_felt q_a1_paces q_a1_past q_a1_bends_yards q_a1_bends_truth q_a1_bends_notes q_a1_bends_words q_a1_bends_mud a1_kind a1_fog a1_here a1_seconds a1_crashes a1_bends_size a1_bends_truth a1_bends_mud v_2 0 _ hf) (cwV 2 hts gX5_costUnheard_X6_costAt rfl rfl rfl (by decide +kernel) ⟨Nat.le_of_ble_eq_true rfl, Nat.le_of_ble_eq_true rfl⟩) (pv_ro (ci := 5) (q0 := 0) (hP.sub [1, 2, 3, 5] rfl) hX rfl rfl) rfl rfl hl.1 rfl (lv_room (Nat.le_of_ble_eq_true rfl)) dX5_costUnheard_37 ⟨Nat.zero_le _, Nat.zero_le _⟩) (fun r_6 hf => ?_)
        refine lv_imul hx hb dX5_costUnheard_40 ?_
        refine lv_iadd hx hb dX5_costUnheard_41 ?_
        refine lv_iadd hx hb dX5_costUnheard_42 ?_
        refine lv_istore_n (lv' := [(3, .int (v_1 + (((10 - x2) * r_5) + (x2 * r_6)))), (1, .ref q_a1), (2, .int x2), (4, .int v_2)]) hx hb dX5_costUnheard_43 rfl hl (by decide) rfl (fun ls hl => ?_)
        refine lv_iinc (v := v_2 + 1) (lv' := [(4, .int (v_2 + 1)), (3, .int (v_1 + (((10 - x2) * r_5) + (x2 * r_6)))), (1, .ref q_a1), (2, .int x2)]) hx hb dX5_costUnheard_44 hl (k := 3) rfl rfl (by decide) rfl (fun ls hl => ?_)
        refine lv_goto (tgt := 8) hx hb dX5_costUnheard_47 (by decide) ?_
        exact ih (v_1 + (((10 - x2) * r_5) + (x2 * r_6))) (v_2 + 1) ls hf (lv_sub hl [2, 3, 1, 0] rfl)
  exact hlp_8 1000 0 a1_here ls hf (lv_sub hl [3, 4, 1, 0] rfl)
def bX5_secondsOfAll_6 (a1_yards : Nat → Int32) (a1_truth : Nat → Int32) (a1_notes : Nat → Int32) (a1_mud : Nat → Int32) (a1_size : Int32) (x2 : Int32) (x3 : Int32) (Q : Int32 → Prop) (k_3 : Int32 → Int32 → Prop) (v_1 : Int32) (v_2 : Int32) : Prop :=
  if a1_size ≤ v_2 then (Q v_1) else (p_X0_holds a1_truth a1_mud v_2 (fun r_5 => vp_in v_2 8 ∧ (vp_in v_2 8 ∧ (p_X2_paceOf x2 (a1_notes v_2.toNatClampNeg) r_5 x3 (a1_mud v_2.toNatClampNeg) (fun r_6 => vp_in v_2 8 ∧ (p_X2_costOf r_6 r_5 (fun r_7 => k_3 (v_1 + ((a1_yards v_2.toNatClampNeg) + r_7)) (v_2 + 1))))))))
def p_X5_secondsOfAll (a1_yards : Nat → Int32) (a1_truth : Nat → Int32) (a1_notes : Nat → Int32) (a1_mud : Nat → Int32) (a1_size : Int32) (x2 : Int32) (x3 : Int32) (Q : Int32 → Prop) : Prop :=
  lq2 (bX5_secondsOfAll_6 a1_yards a1_truth a1_notes a1_mud a1_size x2 x3 Q) 1000 0 0
def rmX5_secondsOfAll : Room := { frames := 1, cells := 0, slots := 0, locals := 28 }
set_option maxHeartbeats 4000000 in
set_option maxRecDepth 100000 in
theorem c_X5_secondsOfAll (l : Launch) (D : va_G) (cI cZ cO : ClassId) (q_a0 q_a0_gains q_a0_alike q_a1 q_a1_yards q_a1_truth q_a1_notes q_a1_words q_a1_mud : Nat) (a1_size : Int32) (a1_yards : Nat → Int32) (a1_truth : Nat → Int32) (a1_notes : Nat → Int32) (a1_mud : Nat → Int32) (x2 : Int32) (x3 : Int32) (Q : Int32 → Prop) (hf : p_X5_secondsOfAll a1_yards a1_truth a1_notes a1_mud a1_size x2 x3 Q) : Met l yX5_secondsOfAll wsX5_secondsOfAll rmX5_secondsOfAll (va_Pc [.ref q_a0, .ref q_a1, .int x2, .int x3] (fun U => va_P D vwCl [(q_a0, .inr (4, [.ref q_a0_gains, .ref q_a0_alike])), (q_a1, .inr (0, [.ref q_a1_yards, .ref q_a1_truth, .ref q_a1_notes, .ref q_a1_words, .ref q_a1_mud, .int a1_size])), (q_a1_yards, .inl (cI, 8, .inl a1_yards)), (q_a1_truth, .inl (cI, 8, .inl a1_truth)), (q_a1_notes, .inl (cI, 8, .inl a1_notes)), (q_a1_mud, .inl (cI, 8, .inl a1_mud))] U.heap ∧ XK D cI cZ cO U)) (vp_Si Q) 0 0 (fun _ => False) := by
  refine Met.ofW (cc := cX5_secondsOfAll) (maxL := 8) (ret := (some .int)) (by decide) rfl ?_
  intro p e s m args below meth c s₁ B hml hv
  obtain ⟨rfl, hP, hX⟩ := hv
  have hK := hX.1
  have hx := B.exec
  have hb := B.bytes
  have hr := B.returns
  have hts := atoms_spec (ws := wsX5_secondsOfAll) B.pre
  have hown : s.vm.findClass RX5 = some m.cls := findClass_of_methodNamed B.named
  have hlocks := B.notSynchronized
  have in_X0 : ∀ w ∈ wsX00, w ∈ wsX5_secondsOfAll := fun _ h => List.mem_cons_of_mem _ (List.mem_append_right _ h)
  have kf_24 := hts (.fieldLink RX5 24 "LeftCrest$Bends" "size" "I") (by decide +kernel)
  have kf_51 := hts (.fieldLink RX5 51 "LeftCrest$Bends" "notes" "[I") (by decide +kernel)
  have kf_74 := hts (.fieldLink RX5 74 "LeftCrest$Bends" "mud" "[I") (by decide +kernel)
  have kf_61 := hts (.fieldLink RX5 61 "LeftCrest$Bends" "yards" "[I") (by decide +kernel)
  generalize hQQ : MQ below _ _ s _ _ _ = QQ
  have hl := lv_entry ([.ref q_a0, .ref q_a1, .int x2, .int x3]) (n := 8) (Nat.le_of_ble_eq_true rfl)
  rw [lg_entry_eq]
  generalize (lg_sl ([.ref q_a0, .ref q_a1, .int x2, .int x3]) ++ List.replicate (8 - (lg_sl ([.ref q_a0, .ref q_a1, .int x2, .int x3])).length) Slot.unset).toArray = ls at hl ⊢
  have hl : lv_has ls 8 [(0, .ref q_a0), (1, .ref q_a1), (2, .int x2), (3, .int x3)] := hl
  unfold p_X5_secondsOfAll at hf
  refine lv_iconst (v := 0) hx hb dX5_secondsOfAll_0 (by decide) ?_
  refine lv_istore (lv' := [(4, .int 0), (0, .ref q_a0), (1, .ref q_a1), (2, .int x2), (3, .int x3)]) hx hb dX5_secondsOfAll_1 hl (by decide) rfl (fun ls hl => ?_)
  refine lv_iconst (v := 0) hx hb dX5_secondsOfAll_3 (by decide) ?_
  refine lv_istore (lv' := [(5, .int 0), (4, .int 0), (0, .ref q_a0), (1, .ref q_a1), (2, .int x2), (3, .int x3)]) hx hb dX5_secondsOfAll_4 hl (by decide) rfl (fun ls hl => ?_)
  have hlp_6 : ∀ (n_6 : Nat) (v_1 : Int32) (v_2 : Int32) (ls : Array Slot), lq2 (bX5_secondsOfAll_6 a1_yards a1_truth a1_notes a1_mud a1_size x2 x3 Q) n_6 v_1 v_2 → lv_has ls 8 [(1, .ref q_a1), (2, .int x2), (3, .int x3), (4, .int v_1), (5, .int v_2)] → W p l e (headSpec wsX5_secondsOfAll rmX5_secondsOfAll).room s m ([.ref q_a0, .ref q_a1, .int x2, .int x3] : List Value).toArray below meth c s.heap [] 0 0 QQ (F0 m 6 ls []) := by
    intro n_6
    induction n_6 with
    | zero => intro v_1 v_2 ls hf; exact (lq2_0 hf).elim
    | succ n_6 ih =>
      have ih_6 := ih
      intro v_1 v_2 ls hf hl
      have hf := lq2_s hf
      unfold bX5_secondsOfAll_6 at hf
      refine lv_iload hx hb dX5_secondsOfAll_6 (lv_at hl 4 rfl) ?_
      refine lv_aload_n hx hb dX5_secondsOfAll_8 rfl (lv_at hl 0 rfl) ?_
      refine va_get (D := D) (ci := 0) (v := .int a1_size) (C := RX0) (T := TX0) (N := 6) hx hb hts in_X0 hown hK hP 1 rfl rfl 5 (by decide) kf_24 (fun _ h9 => h9) rfl dX5_secondsOfAll_9 ?_
      refine lv_icmp_ge (tgt := 72) hx hb dX5_secondsOfAll_12 (by decide) (fun c_4 => ?_) (fun c_4 => ?_)
      · have hf := it_t c_4 hf
        refine lv_iload hx hb dX5_secondsOfAll_72 (lv_at hl 3 rfl) ?_
        subst hQQ
        exact W.iret hx hb hr (fun t ht hW => ⟨_, rfl, hf, ht⟩) (fun _ h => absurd h List.not_mem_nil) dX5_secondsOfAll_74
      · have hf := it_f c_4 hf
        refine lv_aload_n hx hb dX5_secondsOfAll_15 rfl (lv_at hl 0 rfl) ?_
        refine lv_iload hx hb dX5_secondsOfAll_16 (lv_at hl 4 rfl) ?_
        refine ya_csi (va_runV (As := [.int v_2]) (rest := []) ⟨hx, hb, hml, hown, hts⟩ (c_X0_holds l D cI cZ cO q_a1 q_a1_yards q_a1_truth q_a1_notes q_a1_words q_a1_mud a1_size a1_truth a1_mud v_2 _ hf) (cwV 1 hts gX5_secondsOfAll_X0_holds rfl rfl rfl (by decide +kernel) ⟨Nat.le_of_ble_eq_true rfl, Nat.le_of_ble_eq_true rfl⟩) (pv_ro (ci := 0) (q0 := 0) (hP.sub [1, 3, 5] rfl) hX rfl rfl) rfl rfl hl.1 rfl (lv_room (Nat.le_of_ble_eq_true rfl)) dX5_secondsOfAll_18 ⟨Nat.zero_le _, Nat.zero_le _⟩) (fun r_5 hf => ?_)
        refine lv_istore (lv' := [(6, .int r_5), (1, .ref q_a1), (2, .int x2), (3, .int x3), (4, .int v_1), (5, .int v_2)]) hx hb dX5_secondsOfAll_21 hl (by decide) rfl (fun ls hl => ?_)
        refine lv_iload_n hx hb dX5_secondsOfAll_23 rfl (lv_at hl 2 rfl) ?_
        refine lv_aload_n hx hb dX5_secondsOfAll_24 rfl (lv_at hl 1 rfl) ?_
        refine va_get (D := D) (ci := 0) (v := .ref q_a1_notes) (C := RX0) (T := TX0) (N := 6) hx hb hts in_X0 hown hK hP 1 rfl rfl 2 (by decide) kf_51 (fun _ h9 => h9) rfl dX5_secondsOfAll_25 ?_
        refine lv_iload hx hb dX5_secondsOfAll_28 (lv_at hl 5 rfl) ?_
        refine va_iald hx hb hK hP 4 0 rfl rfl hf.1 dX5_secondsOfAll_30 ?_
        have hf := hf.2
        refine lv_iload hx hb dX5_secondsOfAll_31 (lv_at hl 0 rfl) ?_
        refine lv_iload_n hx hb dX5_secondsOfAll_33 rfl (lv_at hl 3 rfl) ?_
        refine lv_aload_n hx hb dX5_secondsOfAll_34 rfl (lv_at hl 1 rfl) ?_
        refine va_get (D := D) (ci := 0) (v := .ref q_a1_mud) (C := RX0) (T := TX0) (N := 6) hx hb hts in_X0 hown hK hP 1 rfl rfl 4 (by decide) kf_74 (fun _ h9 => h9) rfl dX5_secondsOfAll_35 ?_
        refine lv_iload hx hb dX5_secondsOfAll_38 (lv_at hl 5 rfl) ?_
        refine va_iald hx hb hK hP 5 0 rfl rfl hf.1 dX5_secondsOfAll_40 ?_
        have hf := hf.2
        refine ya_csi (va_runS (As := [.int x2, .int (a1_notes v_2.toNatClampNeg), .int r_5, .int x3, .int (a1_mud v_2.toNatClampNeg)]) (rest := []) ⟨hx, hb, hml, hown, hts⟩ (c_X2_paceOf l D cI cZ cO  x2 (a1_notes v_2.toNatClampNeg) r_5 x3 (a1_mud v_2.toNatClampNeg) _ hf) (va_cwS 5 hts gX5_secondsOfAll_X2_paceOf rfl rfl rfl (by decide +kernel) ⟨Nat.le_of_ble_eq_true rfl, Nat.le_of_ble_eq_true rfl⟩) (ps_ro va_P0 hX) rfl rfl hl.1 rfl (lv_room (Nat.le_of_ble_eq_true rfl)) dX5_secondsOfAll_41 ⟨Nat.zero_le _, Nat.zero_le _⟩) (fun r_6 hf => ?_)
        refine lv_istore (lv' := [(7, .int r_6), (6, .int r_5), (1, .ref q_a1), (2, .int x2), (3, .int x3), (4, .int v_1), (5, .int v_2)]) hx hb dX5_secondsOfAll_44 hl (by decide) rfl (fun ls hl => ?_)
        refine lv_iload hx hb dX5_secondsOfAll_46 (lv_at hl 5 rfl) ?_
        refine lv_aload_n hx hb dX5_secondsOfAll_48 rfl (lv_at hl 2 rfl) ?_
        refine va_get (D := D) (ci := 0) (v := .ref q_a1_yards) (C := RX0) (T := TX0) (N := 6) hx hb hts in_X0 hown hK hP 1 rfl rfl 0 (by decide) kf_61 (fun _ h9 => h9) rfl dX5_secondsOfAll_49 ?_
        refine lv_iload hx hb dX5_secondsOfAll_52 (lv_at hl 6 rfl) ?_
        refine va_iald hx hb hK hP 2 0 rfl rfl hf.1 dX5_secondsOfAll_54 ?_
        have hf := hf.2
        refine lv_iload hx hb dX5_secondsOfAll_55 (lv_at hl 0 rfl) ?_
        refine lv_iload hx hb dX5_secondsOfAll_57 (lv_at hl 1 rfl) ?_
        refine ya_csi (va_runS (As := [.int r_6, .int r_5]) (rest := [.int (a1_yards v_2.toNatClampNeg), .int v_1]) ⟨hx, hb, hml, hown, hts⟩ (c_X2_costOf l D cI cZ cO  r_6 r_5 _ hf) (va_cwS 2 hts gX5_secondsOfAll_X2_costOf rfl rfl rfl (by decide +kernel) ⟨Nat.le_of_ble_eq_true rfl, Nat.le_of_ble_eq_true rfl⟩) (ps_ro va_P0 hX) rfl rfl hl.1 rfl (lv_room (Nat.le_of_ble_eq_true rfl)) dX5_secondsOfAll_59 ⟨Nat.zero_le _, Nat.zero_le _⟩) (fun r_7 hf => ?_)
        refine lv_iadd hx hb dX5_secondsOfAll_62 ?_
        refine lv_iadd hx hb dX5_secondsOfAll_63 ?_
        refine lv_istore (lv' := [(4, .int (v_1 + ((a1_yards v_2.toNatClampNeg) + r_7))), (7, .int r_6), (6, .int r_5), (1, .ref q_a1), (2, .int x2), (3, .int x3), (5, .int v_2)]) hx hb dX5_secondsOfAll_64 hl (by decide) rfl (fun ls hl => ?_)
        refine lv_iinc (v := v_2 + 1) (lv' := [(5, .int (v_2 + 1)), (4, .int (v_1 + ((a1_yards v_2.toNatClampNeg) + r_7))), (7, .int r_6), (6, .int r_5), (1, .ref q_a1), (2, .int x2), (3, .int x3)]) hx hb dX5_secondsOfAll_66 hl (k := 6) rfl rfl (by decide) rfl (fun ls hl => ?_)
        refine lv_goto (tgt := 6) hx hb dX5_secondsOfAll_69 (by decide) ?_
        exact ih (v_1 + ((a1_yards v_2.toNatClampNeg) + r_7)) (v_2 + 1) ls hf (lv_sub hl [4, 5, 6, 1, 0] rfl)
  exact hlp_6 1000 0 0 ls hf (lv_sub hl [3, 4, 5, 1, 0] rfl)
def bX5_secondsOfRallies_10 (a1_yards : Nat → Int32) (a1_truth : Nat → Int32) (a1_notes : Nat → Int32) (a1_mud : Nat → Int32) (a1_size : Int32) (x3 : Int32) (Q : Int32 → Prop) (k_4 : Int64 → Int32 → Int32 → Prop) (v_1 : Int64) (v_2 : Int32) (v_3 : Int32) : Prop :=
  if x3 ≤ v_3 then (Q v_2) else (p_X5_secondsOfAll a1_yards a1_truth a1_notes a1_mud a1_size ((((((v_1 * 1103515245) + 12345) - ((v_1 * 1103515245) + 12345) / 2147483648 * 2147483648) / 65536) - ((((v_1 * 1103515245) + 12345) - ((v_1 * 1103515245) + 12345) / 2147483648 * 2147483648) / 65536) / 6 * 6).toInt32) ((((((v_1 * 1103515245) + 12345) - ((v_1 * 1103515245) + 12345) / 2147483648 * 2147483648) / 1048576) - ((((v_1 * 1103515245) + 12345) - ((v_1 * 1103515245) + 12345) / 2147483648 * 2147483648) / 1048576) / 10 * 10).toInt32) (fun r_6 => k_4 (((v_1 * 1103515245) + 12345) - ((v_1 * 1103515245) + 12345) / 2147483648 * 2147483648) (v_2 + r_6) (v_3 + 1)))
def p_X5_secondsOfRallies (a1_yards : Nat → Int32) (a1_truth : Nat → Int32) (a1_notes : Nat → Int32) (a1_mud : Nat → Int32) (a1_size : Int32) (x2 : Int32) (x3 : Int32) (Q : Int32 → Prop) : Prop :=
  lq3 (bX5_secondsOfRallies_10 a1_yards a1_truth a1_notes a1_mud a1_size x3 Q) 1000 x2.toInt64 0 0
def rmX5_secondsOfRallies : Room := { frames := 2, cells := 0, slots := 0, locals := 55 }
set_option maxHeartbeats 4000000 in
set_option maxRecDepth 100000 in
theorem c_X5_secondsOfRallies (l : Launch) (D : va_G) (cI cZ cO : ClassId) (q_a0 q_a0_gains q_a0_alike q_a1 q_a1_yards q_a1_truth q_a1_notes q_a1_words q_a1_mud : Nat) (a1_size : Int32) (a1_yards : Nat → Int32) (a1_truth : Nat → Int32) (a1_notes : Nat → Int32) (a1_mud : Nat → Int32) (x2 : Int32) (x3 : Int32) (Q : Int32 → Prop) (hf : p_X5_secondsOfRallies a1_yards a1_truth a1_notes a1_mud a1_size x2 x3 Q) : Met l yX5_secondsOfRallies wsX5_secondsOfRallies rmX5_secondsOfRallies (va_Pc [.ref q_a0, .ref q_a1, .int x2, .int x3] (fun U => va_P D vwCl [(q_a0, .inr (4, [.ref q_a0_gains, .ref q_a0_alike])), (q_a1, .inr (0, [.ref q_a1_yards, .ref q_a1_truth, .ref q_a1_notes, .ref q_a1_words, .ref q_a1_mud, .int a1_size])), (q_a1_yards, .inl (cI, 8, .inl a1_yards)), (q_a1_truth, .inl (cI, 8, .inl a1_truth)), (q_a1_notes, .inl (cI, 8, .inl a1_notes)), (q_a1_mud, .inl (cI, 8, .inl a1_mud))] U.heap ∧ XK D cI cZ cO U)) (vp_Si Q) 0 0 (fun _ => False) := by
  refine Met.ofW (cc := cX5_secondsOfRallies) (maxL := 8) (ret := (some .int)) (by decide) rfl ?_
  intro p e s m args below meth c s₁ B hml hv
  obtain ⟨rfl, hP, hX⟩ := hv
  have hK := hX.1
  have hx := B.exec
  have hb := B.bytes
  have hr := B.returns
  have hts := atoms_spec (ws := wsX5_secondsOfRallies) B.pre
  have hown : s.vm.findClass RX5 = some m.cls := findClass_of_methodNamed B.named
  have hlocks := B.notSynchronized
  have kc_109 := hts (.constantLong RX5 109 (1103515245)) (by decide +kernel)
  have kc_111 := hts (.constantLong RX5 111 (12345)) (by decide +kernel)
  have kc_113 := hts (.constantLong RX5 113 (2147483648)) (by decide +kernel)
  have kc_115 := hts (.constantLong RX5 115 (65536)) (by decide +kernel)
  have kc_117 := hts (.constantLong RX5 117 (6)) (by decide +kernel)
  have kc_119 := hts (.constantLong RX5 119 (1048576)) (by decide +kernel)
  have kc_121 := hts (.constantLong RX5 121 (10)) (by decide +kernel)
  generalize hQQ : MQ below _ _ s _ _ _ = QQ
  have hl := lv_entry ([.ref q_a0, .ref q_a1, .int x2, .int x3]) (n := 8) (Nat.le_of_ble_eq_true rfl)
  rw [lg_entry_eq]
  generalize (lg_sl ([.ref q_a0, .ref q_a1, .int x2, .int x3]) ++ List.replicate (8 - (lg_sl ([.ref q_a0, .ref q_a1, .int x2, .int x3])).length) Slot.unset).toArray = ls at hl ⊢
  have hl : lv_has ls 8 [(0, .ref q_a0), (1, .ref q_a1), (2, .int x2), (3, .int x3)] := hl
  unfold p_X5_secondsOfRallies at hf
  refine lv_iload_n hx hb dX5_secondsOfRallies_0 rfl (lv_at hl 2 rfl) ?_
  refine lv_i2l hx hb dX5_secondsOfRallies_1 rfl ?_
  refine lv_lstore (lv' := [(4, .long x2.toInt64), (0, .ref q_a0), (1, .ref q_a1), (2, .int x2), (3, .int x3)]) hx hb dX5_secondsOfRallies_2 hl (by decide) rfl (fun ls hl => ?_)
  refine lv_iconst (v := 0) hx hb dX5_secondsOfRallies_4 (by decide) ?_
  refine lv_istore (lv' := [(6, .int 0), (4, .long x2.toInt64), (0, .ref q_a0), (1, .ref q_a1), (2, .int x2), (3, .int x3)]) hx hb dX5_secondsOfRallies_5 hl (by decide) rfl (fun ls hl => ?_)
  refine lv_iconst (v := 0) hx hb dX5_secondsOfRallies_7 (by decide) ?_
  refine lv_istore (lv' := [(7, .int 0), (6, .int 0), (4, .long x2.toInt64), (0, .ref q_a0), (1, .ref q_a1), (2, .int x2), (3, .int x3)]) hx hb dX5_secondsOfRallies_8 hl (by decide) rfl (fun ls hl => ?_)
  have hlp_10 : ∀ (n_10 : Nat) (v_1 : Int64) (v_2 : Int32) (v_3 : Int32) (ls : Array Slot), lq3 (bX5_secondsOfRallies_10 a1_yards a1_truth a1_notes a1_mud a1_size x3 Q) n_10 v_1 v_2 v_3 → lv_has ls 8 [(0, .ref q_a0), (1, .ref q_a1), (3, .int x3), (4, .long v_1), (6, .int v_2), (7, .int v_3)] → W p l e (headSpec wsX5_secondsOfRallies rmX5_secondsOfRallies).room s m ([.ref q_a0, .ref q_a1, .int x2, .int x3] : List Value).toArray below meth c s.heap [] 0 0 QQ (F0 m 10 ls []) := by
    intro n_10
    induction n_10 with
    | zero => intro v_1 v_2 v_3 ls hf; exact (lq3_0 hf).elim
    | succ n_10 ih =>
      have ih_10 := ih
      intro v_1 v_2 v_3 ls hf hl
      have hf := lq3_s hf
      unfold bX5_secondsOfRallies_10 at hf
      refine lv_iload hx hb dX5_secondsOfRallies_10 (lv_at hl 5 rfl) ?_
      refine lv_iload_n hx hb dX5_secondsOfRallies_12 rfl (lv_at hl 2 rfl) ?_
      refine lv_icmp_ge (tgt := 70) hx hb dX5_secondsOfRallies_13 (by decide) (fun c_5 => ?_) (fun c_5 => ?_)
      · have hf := it_t c_5 hf
        refine lv_iload hx hb dX5_secondsOfRallies_70 (lv_at hl 4 rfl) ?_
        subst hQQ
        exact W.iret hx hb hr (fun t ht hW => ⟨_, rfl, hf, ht⟩) (fun _ h => absurd h List.not_mem_nil) dX5_secondsOfRallies_72
      · have hf := it_f c_5 hf
        refine lv_lload hx hb dX5_secondsOfRallies_16 (lv_at hl 3 rfl) ?_
        refine lv_ldc2 (v := 1103515245) hx hb hown kc_109 dX5_secondsOfRallies_18 ?_
        refine lv_lmul hx hb dX5_secondsOfRallies_21 ?_
        refine lv_ldc2 (v := 12345) hx hb hown kc_111 dX5_secondsOfRallies_22 ?_
        refine lv_ladd hx hb dX5_secondsOfRallies_25 ?_
        refine lv_ldc2 (v := 2147483648) hx hb hown kc_113 dX5_secondsOfRallies_26 ?_
        refine lv_lrem hx hb dX5_secondsOfRallies_29 (by decide) ?_
        refine lv_lstore (lv' := [(4, .long (((v_1 * 1103515245) + 12345) - ((v_1 * 1103515245) + 12345) / 2147483648 * 2147483648)), (0, .ref q_a0), (1, .ref q_a1), (3, .int x3), (6, .int v_2), (7, .int v_3)]) hx hb dX5_secondsOfRallies_30 hl (by decide) rfl (fun ls hl => ?_)
        refine lv_iload hx hb dX5_secondsOfRallies_32 (lv_at hl 4 rfl) ?_
        refine lv_aload_n hx hb dX5_secondsOfRallies_34 rfl (lv_at hl 1 rfl) ?_
        refine lv_aload_n hx hb dX5_secondsOfRallies_35 rfl (lv_at hl 2 rfl) ?_
        refine lv_lload hx hb dX5_secondsOfRallies_36 (lv_at hl 0 rfl) ?_
        refine lv_ldc2 (v := 65536) hx hb hown kc_115 dX5_secondsOfRallies_38 ?_
        refine lv_ldiv hx hb dX5_secondsOfRallies_41 (by decide) ?_
        refine lv_ldc2 (v := 6) hx hb hown kc_117 dX5_secondsOfRallies_42 ?_
        refine lv_lrem hx hb dX5_secondsOfRallies_45 (by decide) ?_
        refine lv_l2i hx hb dX5_secondsOfRallies_46 rfl ?_
        refine lv_lload hx hb dX5_secondsOfRallies_47 (lv_at hl 0 rfl) ?_
        refine lv_ldc2 (v := 1048576) hx hb hown kc_119 dX5_secondsOfRallies_49 ?_
        refine lv_ldiv hx hb dX5_secondsOfRallies_52 (by decide) ?_
        refine lv_ldc2 (v := 10) hx hb hown kc_121 dX5_secondsOfRallies_53 ?_
        refine lv_lrem hx hb dX5_secondsOfRallies_56 (by decide) ?_
        refine lv_l2i hx hb dX5_secondsOfRallies_57 rfl ?_
        refine ya_csi (va_runV (As := [.ref q_a1, .int ((((((v_1 * 1103515245) + 12345) - ((v_1 * 1103515245) + 12345) / 2147483648 * 2147483648) / 65536) - ((((v_1 * 1103515245) + 12345) - ((v_1 * 1103515245) + 12345) / 2147483648 * 2147483648) / 65536) / 6 * 6).toInt32), .int ((((((v_1 * 1103515245) + 12345) - ((v_1 * 1103515245) + 12345) / 2147483648 * 2147483648) / 1048576) - ((((v_1 * 1103515245) + 12345) - ((v_1 * 1103515245) + 12345) / 2147483648 * 2147483648) / 1048576) / 10 * 10).toInt32)]) (rest := [.int v_2]) ⟨hx, hb, hml, hown, hts⟩ (c_X5_secondsOfAll l D cI cZ cO q_a0 q_a0_gains q_a0_alike q_a1 q_a1_yards q_a1_truth q_a1_notes q_a1_words q_a1_mud a1_size a1_yards a1_truth a1_notes a1_mud ((((((v_1 * 1103515245) + 12345) - ((v_1 * 1103515245) + 12345) / 2147483648 * 2147483648) / 65536) - ((((v_1 * 1103515245) + 12345) - ((v_1 * 1103515245) + 12345) / 2147483648 * 2147483648) / 65536) / 6 * 6).toInt32) ((((((v_1 * 1103515245) + 12345) - ((v_1 * 1103515245) + 12345) / 2147483648 * 2147483648) / 1048576) - ((((v_1 * 1103515245) + 12345) - ((v_1 * 1103515245) + 12345) / 2147483648 * 2147483648) / 1048576) / 10 * 10).toInt32) _ hf) (cwV 3 hts gX5_secondsOfRallies_X5_secondsOfAll rfl rfl rfl (by decide +kernel) ⟨Nat.le_of_ble_eq_true rfl, Nat.le_of_ble_eq_true rfl⟩) (pv_ro (ci := 4) (q0 := 0) (hP.sub [0, 1, 2, 3, 4, 5] rfl) hX rfl rfl) rfl rfl hl.1 rfl (lv_room (Nat.le_of_ble_eq_true rfl)) dX5_secondsOfRallies_58 ⟨Nat.zero_le _, Nat.zero_le _⟩) (fun r_6 hf => ?_)
        refine lv_iadd hx hb dX5_secondsOfRallies_61 ?_
        refine lv_istore (lv' := [(6, .int (v_2 + r_6)), (4, .long (((v_1 * 1103515245) + 12345) - ((v_1 * 1103515245) + 12345) / 2147483648 * 2147483648)), (0, .ref q_a0), (1, .ref q_a1), (3, .int x3), (7, .int v_3)]) hx hb dX5_secondsOfRallies_62 hl (by decide) rfl (fun ls hl => ?_)
        refine lv_iinc (v := v_3 + 1) (lv' := [(7, .int (v_3 + 1)), (6, .int (v_2 + r_6)), (4, .long (((v_1 * 1103515245) + 12345) - ((v_1 * 1103515245) + 12345) / 2147483648 * 2147483648)), (0, .ref q_a0), (1, .ref q_a1), (3, .int x3)]) hx hb dX5_secondsOfRallies_64 hl (k := 5) rfl rfl (by decide) rfl (fun ls hl => ?_)
        refine lv_goto (tgt := 10) hx hb dX5_secondsOfRallies_67 (by decide) ?_
        exact ih (((v_1 * 1103515245) + 12345) - ((v_1 * 1103515245) + 12345) / 2147483648 * 2147483648) (v_2 + r_6) (v_3 + 1) ls hf (lv_sub hl [3, 4, 5, 2, 1, 0] rfl)
  exact hlp_10 1000 x2.toInt64 0 0 ls hf (lv_sub hl [3, 4, 6, 2, 1, 0] rfl)
def p_X6_reset (a0_bends_size : Int32) (a0_felt_size : Int32) (a0_paces_size : Int32) (a0_past_size : Int32) (a0_kind : Int32) (a0_fog : Int32) (a0_here : Int32) (a0_seconds : Int32) (a0_crashes : Int32) (x1 : Int32) (x2 : Int32) (Q : Int32 → Int32 → Int32 → Int32 → Int32 → Int32 → Int32 → Int32 → Int32 → Prop) : Prop :=
  Q 0 0 0 0 x1 x2 0 0 0
def rmX6_reset : Room := { frames := 0, cells := 0, slots := 0, locals := 0 }
set_option maxHeartbeats 4000000 in
set_option maxRecDepth 100000 in
theorem c_X6_reset (l : Launch) (D : va_G) (cI cZ cO : ClassId) (q_a0 q_a0_bends q_a0_felt q_a0_paces q_a0_past q_a0_bends_yards q_a0_bends_truth q_a0_bends_notes q_a0_bends_words q_a0_bends_mud q_a0_felt_holds q_a0_paces_rows q_a0_past_rows : Nat) (a0_kind : Int32) (a0_fog : Int32) (a0_here : Int32) (a0_seconds : Int32) (a0_crashes : Int32) (a0_bends_size : Int32) (a0_felt_size : Int32) (a0_paces_size : Int32) (a0_past_size : Int32) (sz : Nat) (x1 : Int32) (x2 : Int32) (Q : Int32 → Int32 → Int32 → Int32 → Int32 → Int32 → Int32 → Int32 → Int32 → Prop) (hf : p_X6_reset a0_bends_size a0_felt_size a0_paces_size a0_past_size a0_kind a0_fog a0_here a0_seconds a0_crashes x1 x2 Q) : Met l yX6_reset wsX6_reset rmX6_reset (va_Pc [.ref q_a0, .int x1, .int x2] (fun U => U.heap.size = sz ∧ va_P D vwCl [(q_a0, .inr (5, [.ref q_a0_bends, .ref q_a0_felt, .ref q_a0_paces, .ref q_a0_past, .int a0_kind, .int a0_fog, .int a0_here, .int a0_seconds, .int a0_crashes])), (q_a0_bends, .inr (0, [.ref q_a0_bends_yards, .ref q_a0_bends_truth, .ref q_a0_bends_notes, .ref q_a0_bends_words, .ref q_a0_bends_mud, .int a0_bends_size])), (q_a0_felt, .inr (1, [.ref q_a0_felt_holds, .int a0_felt_size])), (q_a0_paces, .inr (2, [.ref q_a0_paces_rows, .int a0_paces_size])), (q_a0_past, .inr (3, [.ref q_a0_past_rows, .int a0_past_size]))] U.heap ∧ XK D cI cZ cO U ∧ va_D (fun _ => True) [(q_a0, .inr (5, [.ref q_a0_bends, .ref q_a0_felt, .ref q_a0_paces, .ref q_a0_past, .int a0_kind, .int a0_fog, .int a0_here, .int a0_seconds, .int a0_crashes])), (q_a0_bends, .inr (0, [.ref q_a0_bends_yards, .ref q_a0_bends_truth, .ref q_a0_bends_notes, .ref q_a0_bends_words, .ref q_a0_bends_mud, .int a0_bends_size])), (q_a0_felt, .inr (1, [.ref q_a0_felt_holds, .int a0_felt_size])), (q_a0_paces, .inr (2, [.ref q_a0_paces_rows, .int a0_paces_size])), (q_a0_past, .inr (3, [.ref q_a0_past_rows, .int a0_past_size]))])) (va_Qv (fun (u : Int32 × Int32 × Int32 × Int32 × Int32 × Int32 × Int32 × Int32 × Int32) => Q u.1 u.2.1 u.2.2.1 u.2.2.2.1 u.2.2.2.2.1 u.2.2.2.2.2.1 u.2.2.2.2.2.2.1 u.2.2.2.2.2.2.2.1 u.2.2.2.2.2.2.2.2) (fun (u : Int32 × Int32 × Int32 × Int32 × Int32 × Int32 × Int32 × Int32 × Int32) t => va_P D vwCl [(q_a0, .inr (5, [.ref q_a0_bends, .ref q_a0_felt, .ref q_a0_paces, .ref q_a0_past, .int u.2.2.2.2.1, .int u.2.2.2.2.2.1, .int u.2.2.2.2.2.2.1, .int u.2.2.2.2.2.2.2.1, .int u.2.2.2.2.2.2.2.2])), (q_a0_bends, .inr (0, [.ref q_a0_bends_yards, .ref q_a0_bends_truth, .ref q_a0_bends_notes, .ref q_a0_bends_words, .ref q_a0_bends_mud, .int u.1])), (q_a0_felt, .inr (1, [.ref q_a0_felt_holds, .int u.2.1])), (q_a0_paces, .inr (2, [.ref q_a0_paces_rows, .int u.2.2.1])), (q_a0_past, .inr (3, [.ref q_a0_past_rows, .int u.2.2.2.1]))] t.heap ∧ va_D (va_A [(q_a0, .inr (5, [.ref q_a0_bends, .ref q_a0_felt, .ref q_a0_paces, .ref q_a0_past, .int a0_kind, .int a0_fog, .int a0_here, .int a0_seconds, .int a0_crashes])), (q_a0_bends, .inr (0, [.ref q_a0_bends_yards, .ref q_a0_bends_truth, .ref q_a0_bends_notes, .ref q_a0_bends_words, .ref q_a0_bends_mud, .int a0_bends_size])), (q_a0_felt, .inr (1, [.ref q_a0_felt_holds, .int a0_felt_size])), (q_a0_paces, .inr (2, [.ref q_a0_paces_rows, .int a0_paces_size])), (q_a0_past, .inr (3, [.ref q_a0_past_rows, .int a0_past_size]))] sz) [(q_a0, .inr (5, [.ref q_a0_bends, .ref q_a0_felt, .ref q_a0_paces, .ref q_a0_past, .int u.2.2.2.2.1, .int u.2.2.2.2.2.1, .int u.2.2.2.2.2.2.1, .int u.2.2.2.2.2.2.2.1, .int u.2.2.2.2.2.2.2.2])), (q_a0_bends, .inr (0, [.ref q_a0_bends_yards, .ref q_a0_bends_truth, .ref q_a0_bends_notes, .ref q_a0_bends_words, .ref q_a0_bends_mud, .int u.1])), (q_a0_felt, .inr (1, [.ref q_a0_felt_holds, .int u.2.1])), (q_a0_paces, .inr (2, [.ref q_a0_paces_rows, .int u.2.2.1])), (q_a0_past, .inr (3, [.ref q_a0_past_rows, .int u.2.2.2.1]))]) (va_A [(q_a0, .inr (5, [.ref q_a0_bends, .ref q_a0_felt, .ref q_a0_paces, .ref q_a0_past, .int a0_kind, .int a0_fog, .int a0_here, .int a0_seconds, .int a0_crashes])), (q_a0_bends, .inr (0, [.ref q_a0_bends_yards, .ref q_a0_bends_truth, .ref q_a0_bends_notes, .ref q_a0_bends_words, .ref q_a0_bends_mud, .int a0_bends_size])), (q_a0_felt, .inr (1, [.ref q_a0_felt_holds, .int a0_felt_size])), (q_a0_paces, .inr (2, [.ref q_a0_paces_rows, .int a0_paces_size])), (q_a0_past, .inr (3, [.ref q_a0_past_rows, .int a0_past_size]))] sz)) 0 0 (va_A [(q_a0, .inr (5, [.ref q_a0_bends, .ref q_a0_felt, .ref q_a0_paces, .ref q_a0_past, .int a0_kind, .int a0_fog, .int a0_here, .int a0_seconds, .int a0_crashes])), (q_a0_bends, .inr (0, [.ref q_a0_bends_yards, .ref q_a0_bends_truth, .ref q_a0_bends_notes, .ref q_a0_bends_words, .ref q_a0_bends_mud, .int a0_bends_size])), (q_a0_felt, .inr (1, [.ref q_a0_felt_holds, .int a0_felt_size])), (q_a0_paces, .inr (2, [.ref q_a0_paces_rows, .int a0_paces_size])), (q_a0_past, .inr (3, [.ref q_a0_past_rows, .int a0_past_size]))] sz) := by
  refine Met.ofW (cc := cX6_reset) (maxL := 3) (ret := none) (by decide) rfl ?_
  intro p e s m args below meth c s₁ B hml hv
  obtain ⟨rfl, hsz, hP, hX, hD0⟩ := hv
  have hK := hX.1
  have hx := B.exec
  have hb := B.bytes
  have hr := B.returns
  have hts := atoms_spec (ws := wsX6_reset) B.pre
  have hown : s.vm.findClass RX6 = some m.cls := findClass_of_methodNamed B.named
  have hlocks := B.notSynchronized
  have in_X6 : ∀ w ∈ wsX60, w ∈ wsX6_reset := fun _ h => List.mem_cons_of_mem _ (List.mem_append_left _ (List.mem_append_left _ (List.mem_append_left _ (List.mem_append_left _ (List.mem_append_right _ h)))))
  have in_X0 : ∀ w ∈ wsX00, w ∈ wsX6_reset := fun _ h => List.mem_cons_of_mem _ (List.mem_append_left _ (List.mem_append_left _ (List.mem_append_left _ (List.mem_append_right _ h))))
  have in_X1 : ∀ w ∈ wsX10, w ∈ wsX6_reset := fun _ h => List.mem_cons_of_mem _ (List.mem_append_left _ (List.mem_append_left _ (List.mem_append_right _ h)))
  have in_X3 : ∀ w ∈ wsX30, w ∈ wsX6_reset := fun _ h => List.mem_cons_of_mem _ (List.mem_append_left _ (List.mem_append_right _ h))
  have in_X4 : ∀ w ∈ wsX40, w ∈ wsX6_reset := fun _ h => List.mem_cons_of_mem _ (List.mem_append_right _ h)
  have kf_10 := hts (.fieldLink RX6 10 "LeftCrest$Stage" "bends" "LLeftCrest$Bends;") (by decide +kernel)
  have kf_53 := hts (.fieldLink RX6 53 "LeftCrest$Bends" "size" "I") (by decide +kernel)
  have kf_19 := hts (.fieldLink RX6 19 "LeftCrest$Stage" "felt" "LLeftCrest$Felt;") (by decide +kernel)
  have kf_56 := hts (.fieldLink RX6 56 "LeftCrest$Felt" "size" "I") (by decide +kernel)
  have kf_26 := hts (.fieldLink RX6 26 "LeftCrest$Stage" "paces" "LLeftCrest$Paces;") (by decide +kernel)
  have kf_57 := hts (.fieldLink RX6 57 "LeftCrest$Paces" "size" "I") (by decide +kernel)
  have kf_33 := hts (.fieldLink RX6 33 "LeftCrest$Stage" "past" "LLeftCrest$Past;") (by decide +kernel)
  have kf_58 := hts (.fieldLink RX6 58 "LeftCrest$Past" "size" "I") (by decide +kernel)
  have kf_37 := hts (.fieldLink RX6 37 "LeftCrest$Stage" "kind" "I") (by decide +kernel)
  have kf_41 := hts (.fieldLink RX6 41 "LeftCrest$Stage" "fog" "I") (by decide +kernel)
  have kf_44 := hts (.fieldLink RX6 44 "LeftCrest$Stage" "here" "I") (by decide +kernel)
  have kf_47 := hts (.fieldLink RX6 47 "LeftCrest$Stage" "seconds" "I") (by decide +kernel)
  have kf_50 := hts (.fieldLink RX6 50 "LeftCrest$Stage" "crashes" "I") (by decide +kernel)
  subst hsz
  have hD := hD0.self (sz := s.heap.size)
  generalize hAe : va_A [(q_a0, .inr (5, [.ref q_a0_bends, .ref q_a0_felt, .ref q_a0_paces, .ref q_a0_past, .int a0_kind, .int a0_fog, .int a0_here, .int a0_seconds, .int a0_crashes])), (q_a0_bends, .inr (0, [.ref q_a0_bends_yards, .ref q_a0_bends_truth, .ref q_a0_bends_notes, .ref q_a0_bends_words, .ref q_a0_bends_mud, .int a0_bends_size])), (q_a0_felt, .inr (1, [.ref q_a0_felt_holds, .int a0_felt_size])), (q_a0_paces, .inr (2, [.ref q_a0_paces_rows, .int a0_paces_size])), (q_a0_past, .inr (3, [.ref q_a0_past_rows, .int a0_past_size]))] s.heap.size = A at hD ⊢
  have hA : ∀ q : Nat, s.heap.size ≤ q → A q := fun q h => by rw [← hAe]; exact Or.inr h
  have hS : va_S A s.heap s.heap [] := va_S.rf
  have hP : va_P D vwCl [(q_a0, .inr (5, [.ref q_a0_bends, .ref q_a0_felt, .ref q_a0_paces, .ref q_a0_past, .int a0_kind, .int a0_fog, .int a0_here, .int a0_seconds, .int a0_crashes])), (q_a0_bends, .inr (0, [.ref q_a0_bends_yards, .ref q_a0_bends_truth, .ref q_a0_bends_notes, .ref q_a0_bends_words, .ref q_a0_bends_mud, .int a0_bends_size])), (q_a0_felt, .inr (1, [.ref q_a0_felt_holds, .int a0_felt_size])), (q_a0_paces, .inr (2, [.ref q_a0_paces_rows, .int a0_paces_size])), (q_a0_past, .inr (3, [.ref q_a0_past_rows, .int a0_past_size]))] s.heap := hP
  generalize hQQ : MQ below _ _ s _ _ _ = QQ
  have hl := lv_entry ([.ref q_a0, .int x1, .int x2]) (n := 3) (Nat.le_of_ble_eq_true rfl)
  rw [lg_entry_eq]
  generalize (lg_sl ([.ref q_a0, .int x1, .int x2]) ++ List.replicate (3 - (lg_sl ([.ref q_a0, .int x1, .int x2])).length) Slot.unset).toArray = ls at hl ⊢
  have hl : lv_has ls 3 [(0, .ref q_a0), (1, .int x1), (2, .int x2)] := hl
  unfold p_X6_reset at hf
  refine lv_aload_n hx hb dX6_reset_0 rfl (lv_at hl 0 rfl) ?_
  refine va_get (D := D) (ci := 5) (v := .ref q_a0_bends) (C := RX6) (T := TX6) (N := 9) hx hb hts in_X6 hown hK hP 0 rfl rfl 0 (by decide) kf_10 (fun _ h9 => h9) rfl dX6_reset_1 ?_
  refine lv_iconst (v := 0) hx hb dX6_reset_4 (by decide) ?_
  refine va_put (D := D) (ci := 0) (v := .int 0) (ty := .int) (C := RX0) (T := TX0) (N := 6) hx hb hts in_X0 tyX0 tyX0_ok nmX0 hown hK hP hD hS 1 rfl rfl 5 (by decide) kf_53 (fun _ h9 => h9) rfl (by decide +kernel) rfl rfl (Nat.le_of_ble_eq_true rfl) dX6_reset_5 (fun H locs hP hD hS => ?_)
  have hP : va_P D vwCl [(q_a0, .inr (5, [.ref q_a0_bends, .ref q_a0_felt, .ref q_a0_paces, .ref q_a0_past, .int a0_kind, .int a0_fog, .int a0_here, .int a0_seconds, .int a0_crashes])), (q_a0_bends, .inr (0, [.ref q_a0_bends_yards, .ref q_a0_bends_truth, .ref q_a0_bends_notes, .ref q_a0_bends_words, .ref q_a0_bends_mud, .int 0])), (q_a0_felt, .inr (1, [.ref q_a0_felt_holds, .int a0_felt_size])), (q_a0_paces, .inr (2, [.ref q_a0_paces_rows, .int a0_paces_size])), (q_a0_past, .inr (3, [.ref q_a0_past_rows, .int a0_past_size]))] H := hP
  have hD : va_D A [(q_a0, .inr (5, [.ref q_a0_bends, .ref q_a0_felt, .ref q_a0_paces, .ref q_a0_past, .int a0_kind, .int a0_fog, .int a0_here, .int a0_seconds, .int a0_crashes])), (q_a0_bends, .inr (0, [.ref q_a0_bends_yards, .ref q_a0_bends_truth, .ref q_a0_bends_notes, .ref q_a0_bends_words, .ref q_a0_bends_mud, .int 0])), (q_a0_felt, .inr (1, [.ref q_a0_felt_holds, .int a0_felt_size])), (q_a0_paces, .inr (2, [.ref q_a0_paces_rows, .int a0_paces_size])), (q_a0_past, .inr (3, [.ref q_a0_past_rows, .int a0_past_size]))] := hD
  refine lv_aload_n hx hb dX6_reset_8 rfl (lv_at hl 0 rfl) ?_
  refine va_get (D := D) (ci := 5) (v := .ref q_a0_felt) (C := RX6) (T := TX6) (N := 9) hx hb hts in_X6 hown hK hP 0 rfl rfl 1 (by decide) kf_19 (fun _ h9 => h9) rfl dX6_reset_9 ?_
  refine lv_iconst (v := 0) hx hb dX6_reset_12 (by decide) ?_
  refine va_put (D := D) (ci := 1) (v := .int 0) (ty := .int) (C := RX1) (T := TX1) (N := 2) hx hb hts in_X1 tyX1 tyX1_ok nmX1 hown hK hP hD hS 2 rfl rfl 1 (by decide) kf_56 (fun _ h9 => h9) rfl (by decide +kernel) rfl rfl (Nat.le_of_ble_eq_true rfl) dX6_reset_13 (fun H locs hP hD hS => ?_)
  have hP : va_P D vwCl [(q_a0, .inr (5, [.ref q_a0_bends, .ref q_a0_felt, .ref q_a0_paces, .ref q_a0_past, .int a0_kind, .int a0_fog, .int a0_here, .int a0_seconds, .int a0_crashes])), (q_a0_bends, .inr (0, [.ref q_a0_bends_yards, .ref q_a0_bends_truth, .ref q_a0_bends_notes, .ref q_a0_bends_words, .ref q_a0_bends_mud, .int 0])), (q_a0_felt, .inr (1, [.ref q_a0_felt_holds, .int 0])), (q_a0_paces, .inr (2, [.ref q_a0_paces_rows, .int a0_paces_size])), (q_a0_past, .inr (3, [.ref q_a0_past_rows, .int a0_past_size]))] H := hP
  have hD : va_D A [(q_a0, .inr (5, [.ref q_a0_bends, .ref q_a0_felt, .ref q_a0_paces, .ref q_a0_past, .int a0_kind, .int a0_fog, .int a0_here, .int a0_seconds, .int a0_crashes])), (q_a0_bends, .inr (0, [.ref q_a0_bends_yards, .ref q_a0_bends_truth, .ref q_a0_bends_notes, .ref q_a0_bends_words, .ref q_a0_bends_mud, .int 0])), (q_a0_felt, .inr (1, [.ref q_a0_felt_holds, .int 0])), (q_a0_paces, .inr (2, [.ref q_a0_paces_rows, .int a0_paces_size])), (q_a0_past, .inr (3, [.ref q_a0_past_rows, .int a0_past_size]))] := hD
  refine lv_aload_n hx hb dX6_reset_16 rfl (lv_at hl 0 rfl) ?_
  refine va_get (D := D) (ci := 5) (v := .ref q_a0_paces) (C := RX6) (T := TX6) (N := 9) hx hb hts in_X6 hown hK hP 0 rfl rfl 2 (by decide) kf_26 (fun _ h9 => h9) rfl dX6_reset_17 ?_
  refine lv_iconst (v := 0) hx hb dX6_reset_20 (by decide) ?_
  refine va_put (D := D) (ci := 2) (v := .int 0) (ty := .int) (C := RX3) (T := TX3) (N := 2) hx hb hts in_X3 tyX3 tyX3_ok nmX3 hown hK hP hD hS 3 rfl rfl 1 (by decide) kf_57 (fun _ h9 => h9) rfl (by decide +kernel) rfl rfl (Nat.le_of_ble_eq_true rfl) dX6_reset_21 (fun H locs hP hD hS => ?_)
  have hP : va_P D vwCl [(q_a0, .inr (5, [.ref q_a0_bends, .ref q_a0_felt, .ref q_a0_paces, .ref q_a0_past, .int a0_kind, .int a0_fog, .int a0_here, .int a0_seconds, .int a0_crashes])), (q_a0_bends, .inr (0, [.ref q_a0_bends_yards, .ref q_a0_bends_truth, .ref q_a0_bends_notes, .ref q_a0_bends_words, .ref q_a0_bends_mud, .int 0])), (q_a0_felt, .inr (1, [.ref q_a0_felt_holds, .int 0])), (q_a0_paces, .inr (2, [.ref q_a0_paces_rows, .int 0])), (q_a0_past, .inr (3, [.ref q_a0_past_rows, .int a0_past_size]))] H := hP
  have hD : va_D A [(q_a0, .inr (5, [.ref q_a0_bends, .ref q_a0_felt, .ref q_a0_paces, .ref q_a0_past, .int a0_kind, .int a0_fog, .int a0_here, .int a0_seconds, .int a0_crashes])), (q_a0_bends, .inr (0, [.ref q_a0_bends_yards, .ref q_a0_bends_truth, .ref q_a0_bends_notes, .ref q_a0_bends_words, .ref q_a0_bends_mud, .int 0])), (q_a0_felt, .inr (1, [.ref q_a0_felt_holds, .int 0])), (q_a0_paces, .inr (2, [.ref q_a0_paces_rows, .int 0])), (q_a0_past, .inr (3, [.ref q_a0_past_rows, .int a0_past_size]))] := hD
  refine lv_aload_n hx hb dX6_reset_24 rfl (lv_at hl 0 rfl) ?_
  refine va_get (D := D) (ci := 5) (v := .ref q_a0_past) (C := RX6) (T := TX6) (N := 9) hx hb hts in_X6 hown hK hP 0 rfl rfl 3 (by decide) kf_33 (fun _ h9 => h9) rfl dX6_reset_25 ?_
  refine lv_iconst (v := 0) hx hb dX6_reset_28 (by decide) ?_
  refine va_put (D := D) (ci := 3) (v := .int 0) (ty := .int) (C := RX4) (T := TX4) (N := 2) hx hb hts in_X4 tyX4 tyX4_ok nmX4 hown hK hP hD hS 4 rfl rfl 1 (by decide) kf_58 (fun _ h9 => h9) rfl (by decide +kernel) rfl rfl (Nat.le_of_ble_eq_true rfl) dX6_reset_29 (fun H locs hP hD hS => ?_)
  have hP : va_P D vwCl [(q_a0, .inr (5, [.ref q_a0_bends, .ref q_a0_felt, .ref q_a0_paces, .ref q_a0_past, .int a0_kind, .int a0_fog, .int a0_here, .int a0_seconds, .int a0_crashes])), (q_a0_bends, .inr (0, [.ref q_a0_bends_yards, .ref q_a0_bends_truth, .ref q_a0_bends_notes, .ref q_a0_bends_words, .ref q_a0_bends_mud, .int 0])), (q_a0_felt, .inr (1, [.ref q_a0_felt_holds, .int 0])), (q_a0_paces, .inr (2, [.ref q_a0_paces_rows, .int 0])), (q_a0_past, .inr (3, [.ref q_a0_past_rows, .int 0]))] H := hP
  have hD : va_D A [(q_a0, .inr (5, [.ref q_a0_bends, .ref q_a0_felt, .ref q_a0_paces, .ref q_a0_past, .int a0_kind, .int a0_fog, .int a0_here, .int a0_seconds, .int a0_crashes])), (q_a0_bends, .inr (0, [.ref q_a0_bends_yards, .ref q_a0_bends_truth, .ref q_a0_bends_notes, .ref q_a0_bends_words, .ref q_a0_bends_mud, .int 0])), (q_a0_felt, .inr (1, [.ref q_a0_felt_holds, .int 0])), (q_a0_paces, .inr (2, [.ref q_a0_paces_rows, .int 0])), (q_a0_past, .inr (3, [.ref q_a0_past_rows, .int 0]))] := hD
  refine lv_aload_n hx hb dX6_reset_32 rfl (lv_at hl 0 rfl) ?_
  refine lv_iload_n hx hb dX6_reset_33 rfl (lv_at hl 1 rfl) ?_
  refine va_put (D := D) (ci := 5) (v := .int x1) (ty := .int) (C := RX6) (T := TX6) (N := 9) hx hb hts in_X6 tyX6 tyX6_ok nmX6 hown hK hP hD hS 0 rfl rfl 4 (by decide) kf_37 (fun _ h9 => h9) rfl (by decide +kernel) rfl rfl (Nat.le_of_ble_eq_true rfl) dX6_reset_34 (fun H locs hP hD hS => ?_)
  have hP : va_P D vwCl [(q_a0, .inr (5, [.ref q_a0_bends, .ref q_a0_felt, .ref q_a0_paces, .ref q_a0_past, .int x1, .int a0_fog, .int a0_here, .int a0_seconds, .int a0_crashes])), (q_a0_bends, .inr (0, [.ref q_a0_bends_yards, .ref q_a0_bends_truth, .ref q_a0_bends_notes, .ref q_a0_bends_words, .ref q_a0_bends_mud, .int 0])), (q_a0_felt, .inr (1, [.ref q_a0_felt_holds, .int 0])), (q_a0_paces, .inr (2, [.ref q_a0_paces_rows, .int 0])), (q_a0_past, .inr (3, [.ref q_a0_past_rows, .int 0]))] H := hP
  have hD : va_D A [(q_a0, .inr (5, [.ref q_a0_bends, .ref q_a0_felt, .ref q_a0_paces, .ref q_a0_past, .int x1, .int a0_fog, .int a0_here, .int a0_seconds, .int a0_crashes])), (q_a0_bends, .inr (0, [.ref q_a0_bends_yards, .ref q_a0_bends_truth, .ref q_a0_bends_notes, .ref q_a0_bends_words, .ref q_a0_bends_mud, .int 0])), (q_a0_felt, .inr (1, [.ref q_a0_felt_holds, .int 0])), (q_a0_paces, .inr (2, [.ref q_a0_paces_rows, .int 0])), (q_a0_past, .inr (3, [.ref q_a0_past_rows, .int 0]))] := hD
  refine lv_aload_n hx hb dX6_reset_37 rfl (lv_at hl 0 rfl) ?_
  refine lv_iload_n hx hb dX6_reset_38 rfl (lv_at hl 2 rfl) ?_
  refine va_put (D := D) (ci := 5) (v := .int x2) (ty := .int) (C := RX6) (T := TX6) (N := 9) hx hb hts in_X6 tyX6 tyX6_ok nmX6 hown hK hP hD hS 0 rfl rfl 5 (by decide) kf_41 (fun _ h9 => h9) rfl (by decide +kernel) rfl rfl (Nat.le_of_ble_eq_true rfl) dX6_reset_39 (fun H locs hP hD hS => ?_)
  have hP : va_P D vwCl [(q_a0, .inr (5, [.ref q_a0_bends, .ref q_a0_felt, .ref q_a0_paces, .ref q_a0_past, .int x1, .int x2, .int a0_here, .int a0_seconds, .int a0_crashes])), (q_a0_bends, .inr (0, [.ref q_a0_bends_yards, .ref q_a0_bends_truth, .ref q_a0_bends_notes, .ref q_a0_bends_words, .ref q_a0_bends_mud, .int 0])), (q_a0_felt, .inr (1, [.ref q_a0_felt_holds, .int 0])), (q_a0_paces, .inr (2, [.ref q_a0_paces_rows, .int 0])), (q_a0_past, .inr (3, [.ref q_a0_past_rows, .int 0]))] H := hP
  have hD : va_D A [(q_a0, .inr (5, [.ref q_a0_bends, .ref q_a0_felt, .ref q_a0_paces, .ref q_a0_past, .int x1, .int x2, .int a0_here, .int a0_seconds, .int a0_crashes])), (q_a0_bends, .inr (0, [.ref q_a0_bends_yards, .ref q_a0_bends_truth, .ref q_a0_bends_notes, .ref q_a0_bends_words, .ref q_a0_bends_mud, .int 0])), (q_a0_felt, .inr (1, [.ref q_a0_felt_holds, .int 0])), (q_a0_paces, .inr (2, [.ref q_a0_paces_rows, .int 0])), (q_a0_past, .inr (3, [.ref q_a0_past_rows, .int 0]))] := hD
  refine lv_aload_n hx hb dX6_reset_42 rfl (lv_at hl 0 rfl) ?_
  refine lv_iconst (v := 0) hx hb dX6_reset_43 (by decide) ?_
  refine va_put (D := D) (ci := 5) (v := .int 0) (ty := .int) (C := RX6) (T := TX6) (N := 9) hx hb hts in_X6 tyX6 tyX6_ok nmX6 hown hK hP hD hS 0 rfl rfl 6 (by decide) kf_44 (fun _ h9 => h9) rfl (by decide +kernel) rfl rfl (Nat.le_of_ble_eq_true rfl) dX6_reset_44 (fun H locs hP hD hS => ?_)
  have hP : va_P D vwCl [(q_a0, .inr (5, [.ref q_a0_bends, .ref q_a0_felt, .ref q_a0_paces, .ref q_a0_past, .int x1, .int x2, .int 0, .int a0_seconds, .int a0_crashes])), (q_a0_bends, .inr (0, [.ref q_a0_bends_yards, .ref q_a0_bends_truth, .ref q_a0_bends_notes, .ref q_a0_bends_words, .ref q_a0_bends_mud, .int 0])), (q_a0_felt, .inr (1, [.ref q_a0_felt_holds, .int 0])), (q_a0_paces, .inr (2, [.ref q_a0_paces_rows, .int 0])), (q_a0_past, .inr (3, [.ref q_a0_past_rows, .int 0]))] H := hP
  have hD : va_D A [(q_a0, .inr (5, [.ref q_a0_bends, .ref q_a0_felt, .ref q_a0_paces, .ref q_a0_past, .int x1, .int x2, .int 0, .int a0_seconds, .int a0_crashes])), (q_a0_bends, .inr (0, [.ref q_a0_bends_yards, .ref q_a0_bends_truth, .ref q_a0_bends_notes, .ref q_a0_bends_words, .ref q_a0_bends_mud, .int 0])), (q_a0_felt, .inr (1, [.ref q_a0_felt_holds, .int 0])), (q_a0_paces, .inr (2, [.ref q_a0_paces_rows, .int 0])), (q_a0_past, .inr (3, [.ref q_a0_past_rows, .int 0]))] := hD
  refine lv_aload_n hx hb dX6_reset_47 rfl (lv_at hl 0 rfl) ?_
  refine lv_iconst (v := 0) hx hb dX6_reset_48 (by decide) ?_
  refine va_put (D := D) (ci := 5) (v := .int 0) (ty := .int) (C := RX6) (T := TX6) (N := 9) hx hb hts in_X6 tyX6 tyX6_ok nmX6 hown hK hP hD hS 0 rfl rfl 7 (by decide) kf_47 (fun _ h9 => h9) rfl (by decide +kernel) rfl rfl (Nat.le_of_ble_eq_true rfl) dX6_reset_49 (fun H locs hP hD hS => ?_)
  have hP : va_P D vwCl [(q_a0, .inr (5, [.ref q_a0_bends, .ref q_a0_felt, .ref q_a0_paces, .ref q_a0_past, .int x1, .int x2, .int 0, .int 0, .int a0_crashes])), (q_a0_bends, .inr (0, [.ref q_a0_bends_yards, .ref q_a0_bends_truth, .ref q_a0_bends_notes, .ref q_a0_bends_words, .ref q_a0_bends_mud, .int 0])), (q_a0_felt, .inr (1, [.ref q_a0_felt_holds, .int 0])), (q_a0_paces, .inr (2, [.ref q_a0_paces_rows, .int 0])), (q_a0_past, .inr (3, [.ref q_a0_past_rows, .int 0]))] H := hP
  have hD : va_D A [(q_a0, .inr (5, [.ref q_a0_bends, .ref q_a0_felt, .ref q_a0_paces, .ref q_a0_past, .int x1, .int x2, .int 0, .int 0, .int a0_crashes])), (q_a0_bends, .inr (0, [.ref q_a0_bends_yards, .ref q_a0_bends_truth, .ref q_a0_bends_notes, .ref q_a0_bends_words, .ref q_a0_bends_mud, .int 0])), (q_a0_felt, .inr (1, [.ref q_a0_felt_holds, .int 0])), (q_a0_paces, .inr (2, [.ref q_a0_paces_rows, .int 0])), (q_a0_past, .inr (3, [.ref q_a0_past_rows, .int 0]))] := hD
  refine lv_aload_n hx hb dX6_reset_52 rfl (lv_at hl 0 rfl) ?_
  refine lv_iconst (v := 0) hx hb dX6_reset_53 (by decide) ?_
  refine va_put (D := D) (ci := 5) (v := .int 0) (ty := .int) (C := RX6) (T := TX6) (N := 9) hx hb hts in_X6 tyX6 tyX6_ok nmX6 hown hK hP hD hS 0 rfl rfl 8 (by decide) kf_50 (fun _ h9 => h9) rfl (by decide +kernel) rfl rfl (Nat.le_of_ble_eq_true rfl) dX6_reset_54 (fun H locs hP hD hS => ?_)
  have hP : va_P D vwCl [(q_a0, .inr (5, [.ref q_a0_bends, .ref q_a0_felt, .ref q_a0_paces, .ref q_a0_past, .int x1, .int x2, .int 0, .int 0, .int 0])), (q_a0_bends, .inr (0, [.ref q_a0_bends_yards, .ref q_a0_bends_truth, .ref q_a0_bends_notes, .ref q_a0_bends_words, .ref q_a0_bends_mud, .int 0])), (q_a0_felt, .inr (1, [.ref q_a0_felt_holds, .int 0])), (q_a0_paces, .inr (2, [.ref q_a0_paces_rows, .int 0])), (q_a0_past, .inr (3, [.ref q_a0_past_rows, .int 0]))] H := hP
  have hD : va_D A [(q_a0, .inr (5, [.ref q_a0_bends, .ref q_a0_felt, .ref q_a0_paces, .ref q_a0_past, .int x1, .int x2, .int 0, .int 0, .int 0])), (q_a0_bends, .inr (0, [.ref q_a0_bends_yards, .ref q_a0_bends_truth, .ref q_a0_bends_notes, .ref q_a0_bends_words, .ref q_a0_bends_mud, .int 0])), (q_a0_felt, .inr (1, [.ref q_a0_felt_holds, .int 0])), (q_a0_paces, .inr (2, [.ref q_a0_paces_rows, .int 0])), (q_a0_past, .inr (3, [.ref q_a0_past_rows, .int 0]))] := hD
  subst hQQ
  have hP9 := hP.sub (ws' := [(q_a0, .inr (5, [.ref q_a0_bends, .ref q_a0_felt, .ref q_a0_paces, .ref q_a0_past, .int x1, .int x2, .int 0, .int 0, .int 0])), (q_a0_bends, .inr (0, [.ref q_a0_bends_yards, .ref q_a0_bends_truth, .ref q_a0_bends_notes, .ref q_a0_bends_words, .ref q_a0_bends_mud, .int 0])), (q_a0_felt, .inr (1, [.ref q_a0_felt_holds, .int 0])), (q_a0_paces, .inr (2, [.ref q_a0_paces_rows, .int 0])), (q_a0_past, .inr (3, [.ref q_a0_past_rows, .int 0]))]) [0, 1, 2, 3, 4] rfl
  have hD9 := hD.sub (ws' := [(q_a0, .inr (5, [.ref q_a0_bends, .ref q_a0_felt, .ref q_a0_paces, .ref q_a0_past, .int x1, .int x2, .int 0, .int 0, .int 0])), (q_a0_bends, .inr (0, [.ref q_a0_bends_yards, .ref q_a0_bends_truth, .ref q_a0_bends_notes, .ref q_a0_bends_words, .ref q_a0_bends_mud, .int 0])), (q_a0_felt, .inr (1, [.ref q_a0_felt_holds, .int 0])), (q_a0_paces, .inr (2, [.ref q_a0_paces_rows, .int 0])), (q_a0_past, .inr (3, [.ref q_a0_past_rows, .int 0]))]) [0, 1, 2, 3, 4] (by decide) rfl
  exact W.vret hx hb hr (fun t ht hW => ⟨⟨(0, 0, 0, 0, x1, x2, 0, 0, 0), rfl, hf, by rw [ht]; exact hP9, hD9⟩, hS.F ht⟩) hS.2.2 dX6_reset_57
def p_X6_take (a0_bends_yards : Nat → Int32) (a0_bends_truth : Nat → Int32) (a0_bends_notes : Nat → Int32) (a0_bends_words : Nat → Int32) (a0_bends_mud : Nat → Int32) (a0_bends_size : Int32) (a0_felt_holds : Nat → Int32) (a0_felt_size : Int32) (a0_paces_rows : Nat → Int32) (a0_paces_size : Int32) (a0_past_rows : Nat → Int32) (a0_past_size : Int32) (a0_kind : Int32) (a0_fog : Int32) (a0_here : Int32) (a0_seconds : Int32) (a0_crashes : Int32) (a1_bends_yards : Nat → Int32) (a1_bends_truth : Nat → Int32) (a1_bends_notes : Nat → Int32) (a1_bends_words : Nat → Int32) (a1_bends_mud : Nat → Int32) (a1_bends_size : Int32) (a1_felt_holds : Nat → Int32) (a1_felt_size : Int32) (a1_paces_rows : Nat → Int32) (a1_paces_size : Int32) (a1_past_rows : Nat → Int32) (a1_past_size : Int32) (a1_kind : Int32) (a1_fog : Int32) (a1_here : Int32) (a1_seconds : Int32) (a1_crashes : Int32) (Q : (Nat → Int32) → (Nat → Int32) → (Nat → Int32) → (Nat → Int32) → (Nat → Int32) → Int32 → (Nat → Int32) → Int32 → (Nat → Int32) → Int32 → (Nat → Int32) → Int32 → Int32 → Int32 → Int32 → Int32 → Int32 → Prop) : Prop :=
  p_X0_take a0_bends_yards a0_bends_truth a0_bends_notes a0_bends_words a0_bends_mud a0_bends_size a1_bends_yards a1_bends_truth a1_bends_notes a1_bends_words a1_bends_mud a1_bends_size (fun u_1 u_2 u_3 u_4 u_5 u_6 => p_X1_take a0_felt_holds a0_felt_size a1_felt_holds a1_felt_size (fun u_7 u_8 => p_X3_take a0_paces_rows a0_paces_size a1_paces_rows a1_paces_size (fun u_9 u_10 => p_X4_take a0_past_rows a0_past_size a1_past_rows a1_past_size (fun u_11 u_12 => Q u_1 u_2 u_3 u_4 u_5 u_6 u_7 u_8 u_9 u_10 u_11 u_12 a1_kind a1_fog a1_here a1_seconds a1_crashes))))
def rmX6_take : Room := { frames := 2, cells := 0, slots := 0, locals := 61 }
set_option maxHeartbeats 4000000 in
set_option maxRecDepth 100000 in
theorem c_X6_take (l : Launch) (D : va_G) (cI cZ cO : ClassId) (q_a0 q_a0_bends q_a0_felt q_a0_paces q_a0_past q_a0_bends_yards q_a0_bends_truth q_a0_bends_notes q_a0_bends_words q_a0_bends_mud q_a0_felt_holds q_a0_paces_rows q_a0_past_rows q_a1 q_a1_bends q_a1_felt q_a1_paces q_a1_past q_a1_bends_yards q_a1_bends_truth q_a1_bends_notes q_a1_bends_words q_a1_bends_mud q_a1_felt_holds q_a1_paces_rows q_a1_past_rows : Nat) (a0_kind : Int32) (a0_fog : Int32) (a0_here : Int32) (a0_seconds : Int32) (a0_crashes : Int32) (a0_bends_size : Int32) (a0_bends_yards : Nat → Int32) (a0_bends_truth : Nat → Int32) (a0_bends_notes : Nat → Int32) (a0_bends_words : Nat → Int32) (a0_bends_mud : Nat → Int32) (a0_felt_size : Int32) (a0_felt_holds : Nat → Int32) (a0_paces_size : Int32) (a0_paces_rows : Nat → Int32) (a0_past_size : Int32) (a0_past_rows : Nat → Int32) (a1_kind : Int32) (a1_fog : Int32) (a1_here : Int32) (a1_seconds : Int32) (a1_crashes : Int32) (a1_bends_size : Int32) (a1_bends_yards : Nat → Int32) (a1_bends_truth : Nat → Int32) (a1_bends_notes : Nat → Int32) (a1_bends_words : Nat → Int32) (a1_bends_mud : Nat → Int32) (a1_felt_size : Int32) (a1_felt_holds : Nat → Int32) (a1_paces_size : Int32) (a1_paces_rows : Nat → Int32) (a1_past_size : Int32) (a1_past_rows : Nat → Int32) (sz : Nat) (Q : (Nat → Int32) → (Nat → Int32) → (Nat → Int32) → (Nat → Int32) → (Nat → Int32) → Int32 → (Nat → Int32) → Int32 → (Nat → Int32) → Int32 → (Nat → Int32) → Int32 → Int32 → Int32 → Int32 → Int32 → Int32 → Prop) (hf : p_X6_take a0_bends_yards a0_bends_truth a0_bends_notes a0_bends_words a0_bends_mud a0_bends_size a0_felt_holds a0_felt_size a0_paces_rows a0_paces_size a0_past_rows a0_past_size a0_kind a0_fog a0_here a0_seconds a0_crashes a1_bends_yards a1_bends_truth a1_bends_notes a1_bends_words a1_bends_mud a1_bends_size a1_felt_holds a1_felt_size a1_paces_rows a1_paces_size a1_past_rows a1_past_size a1_kind a1_fog a1_here a1_seconds a1_crashes Q) : Met l yX6_take wsX6_take rmX6_take (va_Pc [.ref q_a0, .ref q_a1] (fun U => U.heap.size = sz ∧ va_P D vwCl [(q_a0, .inr (5, [.ref q_a0_bends, .ref q_a0_felt, .ref q_a0_paces, .ref q_a0_past, .int a0_kind, .int a0_fog, .int a0_here, .int a0_seconds, .int a0_crashes])), (q_a0_bends, .inr (0, [.ref q_a0_bends_yards, .ref q_a0_bends_truth, .ref q_a0_bends_notes, .ref q_a0_bends_words, .ref q_a0_bends_mud, .int a0_bends_size])), (q_a0_bends_yards, .inl (cI, 8, .inl a0_bends_yards)), (q_a0_bends_truth, .inl (cI, 8, .inl a0_bends_truth)), (q_a0_bends_notes, .inl (cI, 8, .inl a0_bends_notes)), (q_a0_bends_words, .inl (cI, 8, .inl a0_bends_words)), (q_a0_bends_mud, .inl (cI, 8, .inl a0_bends_mud)), (q_a0_felt, .inr (1, [.ref q_a0_felt_holds, .int a0_felt_size])), (q_a0_felt_holds, .inl (cI, 3, .inl a0_felt_holds)), (q_a0_paces, .inr (2, [.ref q_a0_paces_rows, .int a0_paces_size])), (q_a0_paces_rows, .inl (cI, 30, .inl a0_paces_rows)), (q_a0_past, .inr (3, [.ref q_a0_past_rows, .int a0_past_size])), (q_a0_past_rows, .inl (cI, 88, .inl a0_past_rows)), (q_a1, .inr (5, [.ref q_a1_bends, .ref q_a1_felt, .ref q_a1_paces, .ref q_a1_past, .int a1_kind, .int a1_fog, .int a1_here, .int a1_seconds, .int a1_crashes])), (q_a1_bends, .inr (0, [.ref q_a1_bends_yards, .ref q_a1_bends_truth, .ref q_a1_bends_notes, .ref q_a1_bends_words, .ref q_a1_bends_mud, .int a1_bends_size])), (q_a1_bends_yards, .inl (cI, 8, .inl a1_bends_yards)), (q_a1_bends_truth, .inl (cI, 8, .inl a1_bends_truth)), (q_a1_bends_notes, .inl (cI, 8, .inl a1_bends_notes)), (q_a1_bends_words, .inl (cI, 8, .inl a1_bends_words)), (q_a1_bends_mud, .inl (cI, 8, .inl a1_bends_mud)), (q_a1_felt, .inr (1, [.ref q_a1_felt_holds, .int a1_felt_size])), (q_a1_felt_holds, .inl (cI, 3, .inl a1_felt_holds)), (q_a1_paces, .inr (2, [.ref q_a1_paces_rows, .int a1_paces_size])), (q_a1_paces_rows, .inl (cI, 30, .inl a1_paces_rows)), (q_a1_past, .inr (3, [.ref q_a1_past_rows, .int a1_past_size])), (q_a1_past_rows, .inl (cI, 88, .inl a1_past_rows))] U.heap ∧ XK D cI cZ cO U ∧ va_D (fun _ => True) [(q_a0, .inr (5, [.ref q_a0_bends, .ref q_a0_felt, .ref q_a0_paces, .ref q_a0_past, .int a0_kind, .int a0_fog, .int a0_here, .int a0_seconds, .int a0_crashes])), (q_a0_bends, .inr (0, [.ref q_a0_bends_yards, .ref q_a0_bends_truth, .ref q_a0_bends_notes, .ref q_a0_bends_words, .ref q_a0_bends_mud, .int a0_bends_size])), (q_a0_bends_yards, .inl (cI, 8, .inl a0_bends_yards)), (q_a0_bends_truth, .inl (cI, 8, .inl a0_bends_truth)), (q_a0_bends_notes, .inl (cI, 8, .inl a0_bends_notes)), (q_a0_bends_words, .inl (cI, 8, .inl a0_bends_words)), (q_a0_bends_mud, .inl (cI, 8, .inl a0_bends_mud)), (q_a0_felt, .inr (1, [.ref q_a0_felt_holds, .int a0_felt_size])), (q_a0_felt_holds, .inl (cI, 3, .inl a0_felt_holds)), (q_a0_paces, .inr (2, [.ref q_a0_paces_rows, .int a0_paces_size])), (q_a0_paces_rows, .inl (cI, 30, .inl a0_paces_rows)), (q_a0_past, .inr (3, [.ref q_a0_past_rows, .int a0_past_size])), (q_a0_past_rows, .inl (cI, 88, .inl a0_past_rows)), (q_a1, .inr (5, [.ref q_a1_bends, .ref q_a1_felt, .ref q_a1_paces, .ref q_a1_past, .int a1_kind, .int a1_fog, .int a1_here, .int a1_seconds, .int a1_crashes])), (q_a1_bends, .inr (0, [.ref q_a1_bends_yards, .ref q_a1_bends_truth, .ref q_a1_bends_notes, .ref q_a1_bends_words, .ref q_a1_bends_mud, .int a1_bends_size])), (q_a1_bends_yards, .inl (cI, 8, .inl a1_bends_yards)), (q_a1_bends_truth, .inl (cI, 8, .inl a1_bends_truth)), (q_a1_bends_notes, .inl (cI, 8, .inl a1_bends_notes)), (q_a1_bends_words, .inl (cI, 8, .inl a1_bends_words)), (q_a1_bends_mud, .inl (cI, 8, .inl a1_bends_mud)), (q_a1_felt, .inr (1, [.ref q_a1_felt_holds, .int a1_felt_size])), (q_a1_felt_holds, .inl (cI, 3, .inl a1_felt_holds)), (q_a1_paces, .inr (2, [.ref q_a1_paces_rows, .int a1_paces_size])), (q_a1_paces_rows, .inl (cI, 30, .inl a1_paces_rows)), (q_a1_past, .inr (3, [.ref q_a1_past_rows, .int a1_past_size])), (q_a1_past_rows, .inl (cI, 88, .inl a1_past_rows))])) (va_Qv (fun (u : (Nat → Int32) × (Nat → Int32) × (Nat → Int32) × (Nat → Int32) × (Nat → Int32) × Int32 × (Nat → Int32) × Int32 × (Nat → Int32) × Int32 × (Nat → Int32) × Int32 × Int32 × Int32 × Int32 × Int32 × Int32) => Q u.1 u.2.1 u.2.2.1 u.2.2.2.1 u.2.2.2.2.1 u.2.2.2.2.2.1 u.2.2.2.2.2.2.1 u.2.2.2.2.2.2.2.1 u.2.2.2.2.2.2.2.2.1 u.2.2.2.2.2.2.2.2.2.1 u.2.2.2.2.2.2.2.2.2.2.1 u.2.2.2.2.2.2.2.2.2.2.2.1 u.2.2.2.2.2.2.2.2.2.2.2.2.1 u.2.2.2.2.2.2.2.2.2.2.2.2.2.1 u.2.2.2.2.2.2.2.2.2.2.2.2.2.2.1 u.2.2.2.2.2.2.2.2.2.2.2.2.2.2.2.1 u.2.2.2.2.2.2.2.2.2.2.2.2.2.2.2.2) (fun (u : (Nat → Int32) × (Nat → Int32) × (Nat → Int32) × (Nat → Int32) × (Nat → Int32) × Int32 × (Nat → Int32) × Int32 × (Nat → Int32) × Int32 × (Nat → Int32) × Int32 × Int32 × Int32 × Int32 × Int32 × Int32) t => va_P D vwCl [(q_a0, .inr (5, [.ref q_a0_bends, .ref q_a0_felt, .ref q_a0_paces, .ref q_a0_past, .int u.2.2.2.2.2.2.2.2.2.2.2.2.1, .int u.2.2.2.2.2.2.2.2.2.2.2.2.2.1, .int u.2.2.2.2.2.2.2.2.2.2.2.2.2.2.1, .int u.2.2.2.2.2.2.2.2.2.2.2.2.2.2.2.1, .int u.2.2.2.2.2.2.2.2.2.2.2.2.2.2.2.2])), (q_a0_bends, .inr (0, [.ref q_a0_bends_yards, .ref q_a0_bends_truth, .ref q_a0_bends_notes, .ref q_a0_bends_words, .ref q_a0_bends_mud, .int u.2.2.2.2.2.1])), (q_a0_bends_yards, .inl (cI, 8, .inl u.1)), (q_a0_bends_truth, .inl (cI, 8, .inl u.2.1)), (q_a0_bends_notes, .inl (cI, 8, .inl u.2.2.1)), (q_a0_bends_words, .inl (cI, 8, .inl u.2.2.2.1)), (q_a0_bends_mud, .inl (cI, 8, .inl u.2.2.2.2.1)), (q_a0_felt, .inr (1, [.ref q_a0_felt_holds, .int u.2.2.2.2.2.2.2.1])), (q_a0_felt_holds, .inl (cI, 3, .inl u.2.2.2.2.2.2.1)), (q_a0_paces, .inr (2, [.ref q_a0_paces_rows, .int u.2.2.2.2.2.2.2.2.2.1])), (q_a0_paces_rows, .inl (cI, 30, .inl u.2.2.2.2.2.2.2.2.1)), (q_a0_past, .inr (3, [.ref q_a0_past_rows, .int u.2.2.2.2.2.2.2.2.2.2.2.1])), (q_a0_past_rows, .inl (cI, 88, .inl u.2.2.2.2.2.2.2.2.2.2.1)), (q_a1, .inr (5, [.ref q_a1_bends, .ref q_a1_felt, .ref q_a1_paces, .ref q_a1_past, .int a1_kind, .int a1_fog, .int a1_here, .int a1_seconds, .int a1_crashes])), (q_a1_bends, .inr (0, [.ref q_a1_bends_yards, .ref q_a1_bends_truth, .ref q_a1_bends_notes, .ref q_a1_bends_words, .ref q_a1_bends_mud, .int a1_bends_size])), (q_a1_bends_yards, .inl (cI, 8, .inl a1_bends_yards)), (q_a1_bends_truth, .inl (cI, 8, .inl a1_bends_truth)), (q_a1_bends_notes, .inl (cI, 8, .inl a1_bends_notes)), (q_a1_bends_words, .inl (cI, 8, .inl a1_bends_words)), (q_a1_bends_mud, .inl (cI, 8, .inl a1_bends_mud)), (q_a1_felt, .inr (1, [.ref q_a1_felt_holds, .int a1_felt_size])), (q_a1_felt_holds, .inl (cI, 3, .inl a1_felt_holds)), (q_a1_paces, .inr (2, [.ref q_a1_paces_rows, .int a1_paces_size])), (q_a1_paces_rows, .inl (cI, 30, .inl a1_paces_rows)), (q_a1_past, .inr (3, [.ref q_a1_past_rows, .int a1_past_size])), (q_a1_past_rows, .inl (cI, 88, .inl a1_past_rows))] t.heap ∧ va_D (va_A [(q_a0, .inr (5, [.ref q_a0_bends, .ref q_a0_felt, .ref q_a0_paces, .ref q_a0_past, .int a0_kind, .int a0_fog, .int a0_here, .int a0_seconds, .int a0_crashes])), (q_a0_bends, .inr (0, [.ref q_a0_bends_yards, .ref q_a0_bends_truth, .ref q_a0_bends_notes, .ref q_a0_bends_words, .ref q_a0_bends_mud, .int a0_bends_size])), (q_a0_bends_yards, .inl (cI, 8, .inl a0_bends_yards)), (q_a0_bends_truth, .inl (cI, 8, .inl a0_bends_truth)), (q_a0_bends_notes, .inl (cI, 8, .inl a0_bends_notes)), (q_a0_bends_words, .inl (cI, 8, .inl a0_bends_words)), (q_a0_bends_mud, .inl (cI, 8, .inl a0_bends_mud)), (q_a0_felt, .inr (1, [.ref q_a0_felt_holds, .int a0_felt_size])), (q_a0_felt_holds, .inl (cI, 3, .inl a0_felt_holds)), (q_a0_paces, .inr (2, [.ref q_a0_paces_rows, .int a0_paces_size])), (q_a0_paces_rows, .inl (cI, 30, .inl a0_paces_rows)), (q_a0_past, .inr (3, [.ref q_a0_past_rows, .int a0_past_size])), (q_a0_past_rows, .inl (cI, 88, .inl a0_past_rows)), (q_a1, .inr (5, [.ref q_a1_bends, .ref q_a1_felt, .ref q_a1_paces, .ref q_a1_past, .int a1_kind, .int a1_fog, .int a1_here, .int a1_seconds, .int a1_crashes])), (q_a1_bends, .inr (0, [.ref q_a1_bends_yards, .ref q_a1_bends_truth, .ref q_a1_bends_notes, .ref q_a1_bends_words, .ref q_a1_bends_mud, .int a1_bends_size])), (q_a1_bends_yards, .inl (cI, 8, .inl a1_bends_yards)), (q_a1_bends_truth, .inl (cI, 8, .inl a1_bends_truth)), (q_a1_bends_notes, .inl (cI, 8, .inl a1_bends_notes)), (q_a1_bends_words, .inl (cI, 8, .inl a1_bends_words)), (q_a1_bends_mud, .inl (cI, 8, .inl a1_bends_mud)), (q_a1_felt, .inr (1, [.ref q_a1_felt_holds, .int a1_felt_size])), (q_a1_felt_holds, .inl (cI, 3, .inl a1_felt_holds)), (q_a1_paces, .inr (2, [.ref q_a1_paces_rows, .int a1_paces_size])), (q_a1_paces_rows, .inl (cI, 30, .inl a1_paces_rows)), (q_a1_past, .inr (3, [.ref q_a1_past_rows, .int a1_past_size])), (q_a1_past_rows, .inl (cI, 88, .inl a1_past_rows))] sz) [(q_a0, .inr (5, [.ref q_a0_bends, .ref q_a0_felt, .ref q_a0_paces, .ref q_a0_past, .int u.2.2.2.2.2.2.2.2.2.2.2.2.1, .int u.2.2.2.2.2.2.2.2.2.2.2.2.2.1, .int u.2.2.2.2.2.2.2.2.2.2.2.2.2.2.1, .int u.2.2.2.2.2.2.2.2.2.2.2.2.2.2.2.1, .int u.2.2.2.2.2.2.2.2.2.2.2.2.2.2.2.2])), (q_a0_bends, .inr (0, [.ref q_a0_bends_yards, .ref q_a0_bends_truth, .ref q_a0_bends_notes, .ref q_a0_bends_words, .ref q_a0_bends_mud, .int u.2.2.2.2.2.1])), (q_a0_bends_yards, .inl (cI, 8, .inl u.1)), (q_a0_bends_truth, .inl (cI, 8, .inl u.2.1)), (q_a0_bends_notes, .inl (cI, 8, .inl u.2.2.1)), (q_a0_bends_words, .inl (cI, 8, .inl u.2.2.2.1)), (q_a0_bends_mud, .inl (cI, 8, .inl u.2.2.2.2.1)), (q_a0_felt, .inr (1, [.ref q_a0_felt_holds, .int u.2.2.2.2.2.2.2.1])), (q_a0_felt_holds, .inl (cI, 3, .inl u.2.2.2.2.2.2.1)), (q_a0_paces, .inr (2, [.ref q_a0_paces_rows, .int u.2.2.2.2.2.2.2.2.2.1])), (q_a0_paces_rows, .inl (cI, 30, .inl u.2.2.2.2.2.2.2.2.1)), (q_a0_past, .inr (3, [.ref q_a0_past_rows, .int u.2.2.2.2.2.2.2.2.2.2.2.1])), (q_a0_past_rows, .inl (cI, 88, .inl u.2.2.2.2.2.2.2.2.2.2.1)), (q_a1, .inr (5, [.ref q_a1_bends, .ref q_a1_felt, .ref q_a1_paces, .ref q_a1_past, .int a1_kind, .int a1_fog, .int a1_here, .int a1_seconds, .int a1_crashes])), (q_a1_bends, .inr (0, [.ref q_a1_bends_yards, .ref q_a1_bends_truth, .ref q_a1_bends_notes, .ref q_a1_bends_words, .ref q_a1_bends_mud, .int a1_bends_size])), (q_a1_bends_yards, .inl (cI, 8, .inl a1_bends_yards)), (q_a1_bends_truth, .inl (cI, 8, .inl a1_bends_truth)), (q_a1_bends_notes, .inl (cI, 8, .inl a1_bends_notes)), (q_a1_bends_words, .inl (cI, 8, .inl a1_bends_words)), (q_a1_bends_mud, .inl (cI, 8, .inl a1_bends_mud)), (q_a1_felt, .inr (1, [.ref q_a1_felt_holds, .int a1_felt_size])), (q_a1_felt_holds, .inl (cI, 3, .inl a1_felt_holds)), (q_a1_paces, .inr (2, [.ref q_a1_paces_rows, .int a1_paces_size])), (q_a1_paces_rows, .inl (cI, 30, .inl a1_paces_rows)), (q_a1_past, .inr (3, [.ref q_a1_past_rows, .int a1_past_size])), (q_a1_past_rows, .inl (cI, 88, .inl a1_past_rows))]) (va_A [(q_a0, .inr (5, [.ref q_a0_bends, .ref q_a0_felt, .ref q_a0_paces, .ref q_a0_past, .int a0_kind, .int a0_fog, .int a0_here, .int a0_seconds, .int a0_crashes])), (q_a0_bends, .inr (0, [.ref q_a0_bends_yards, .ref q_a0_bends_truth, .ref q_a0_bends_notes, .ref q_a0_bends_words, .ref q_a0_bends_mud, .int a0_bends_size])), (q_a0_bends_yards, .inl (cI, 8, .inl a0_bends_yards)), (q_a0_bends_truth, .inl (cI, 8, .inl a0_bends_truth)), (q_a0_bends_notes, .inl (cI, 8, .inl a0_bends_notes)), (q_a0_bends_words, .inl (cI, 8, .inl a0_bends_words)), (q_a0_bends_mud, .inl (cI, 8, .inl a0_bends_mud)), (q_a0_felt, .inr (1, [.ref q_a0_felt_holds, .int a0_felt_size])), (q_a0_felt_holds, .inl (cI, 3, .inl a0_felt_holds)), (q_a0_paces, .inr (2, [.ref q_a0_paces_rows, .int a0_paces_size])), (q_a0_paces_rows, .inl (cI, 30, .inl a0_paces_rows)), (q_a0_past, .inr (3, [.ref q_a0_past_rows, .int a0_past_size])), (q_a0_past_rows, .inl (cI, 88, .inl a0_past_rows)), (q_a1, .inr (5, [.ref q_a1_bends, .ref q_a1_felt, .ref q_a1_paces, .ref q_a1_past, .int a1_kind, .int a1_fog, .int a1_here, .int a1_seconds, .int a1_crashes])), (q_a1_bends, .inr (0, [.ref q_a1_bends_yards, .ref q_a1_bends_truth, .ref q_a1_bends_notes, .ref q_a1_bends_words, .ref q_a1_bends_mud, .int a1_bends_size])), (q_a1_bends_yards, .inl (cI, 8, .inl a1_bends_yards)), (q_a1_bends_truth, .inl (cI, 8, .inl a1_bends_truth)), (q_a1_bends_notes, .inl (cI, 8, .inl a1_bends_notes)), (q_a1_bends_words, .inl (cI, 8, .inl a1_bends_words)), (q_a1_bends_mud, .inl (cI, 8, .inl a1_bends_mud)), (q_a1_felt, .inr (1, [.ref q_a1_felt_holds, .int a1_felt_size])), (q_a1_felt_holds, .inl (cI, 3, .inl a1_felt_holds)), (q_a1_paces, .inr (2, [.ref q_a1_paces_rows, .int a1_paces_size])), (q_a1_paces_rows, .inl (cI, 30, .inl a1_paces_rows)), (q_a1_past, .inr (3, [.ref q_a1_past_rows, .int a1_past_size])), (q_a1_past_rows, .inl (cI, 88, .inl a1_past_rows))] sz)) 0 0 (va_A [(q_a0, .inr (5, [.ref q_a0_bends, .ref q_a0_felt, .ref q_a0_paces, .ref q_a0_past, .int a0_kind, .int a0_fog, .int a0_here, .int a0_seconds, .int a0_crashes])), (q_a0_bends, .inr (0, [.ref q_a0_bends_yards, .ref q_a0_bends_truth, .ref q_a0_bends_notes, .ref q_a0_bends_words, .ref q_a0_bends_mud, .int a0_bends_size])), (q_a0_bends_yards, .inl (cI, 8, .inl a0_bends_yards)), (q_a0_bends_truth, .inl (cI, 8, .inl a0_bends_truth)), (q_a0_bends_notes, .inl (cI, 8, .inl a0_bends_notes)), (q_a0_bends_words, .inl (cI, 8, .inl a0_bends_words)), (q_a0_bends_mud, .inl (cI, 8, .inl a0_bends_mud)), (q_a0_felt, .inr (1, [.ref q_a0_felt_holds, .int a0_felt_size])), (q_a0_felt_holds, .inl (cI, 3, .inl a0_felt_holds)), (q_a0_paces, .inr (2, [.ref q_a0_paces_rows, .int a0_paces_size])), (q_a0_paces_rows, .inl (cI, 30, .inl a0_paces_rows)), (q_a0_past, .inr (3, [.ref q_a0_past_rows, .int a0_past_size])), (q_a0_past_rows, .inl (cI, 88, .inl a0_past_rows)), (q_a1, .inr (5, [.ref q_a1_bends, .ref q_a1_felt, .ref q_a1_paces, .ref q_a1_past, .int a1_kind, .int a1_fog, .int a1_here, .int a1_seconds, .int a1_crashes])), (q_a1_bends, .inr (0, [.ref q_a1_bends_yards, .ref q_a1_bends_truth, .ref q_a1_bends_notes, .ref q_a1_bends_words, .ref q_a1_bends_mud, .int a1_bends_size])), (q_a1_bends_yards, .inl (cI, 8, .inl a1_bends_yards)), (q_a1_bends_truth, .inl (cI, 8, .inl a1_bends_truth)), (q_a1_bends_notes, .inl (cI, 8, .inl a1_bends_notes)), (q_a1_bends_words, .inl (cI, 8, .inl a1_bends_words)), (q_a1_bends_mud, .inl (cI, 8, .inl a1_bends_mud)), (q_a1_felt, .inr (1, [.ref q_a1_felt_holds, .int a1_felt_size])), (q_a1_felt_holds, .inl (cI, 3, .inl a1_felt_holds)), (q_a1_paces, .inr (2, [.ref q_a1_paces_rows, .int a1_paces_size])), (q_a1_paces_rows, .inl (cI, 30, .inl a1_paces_rows)), (q_a1_past, .inr (3, [.ref q_a1_past_rows, .int a1_past_size])), (q_a1_past_rows, .inl (cI, 88, .inl a1_past_rows))] sz) := by
  refine Met.ofW (cc := cX6_take) (maxL := 2) (ret := none) (by decide) rfl ?_
  intro p e s m args below meth c s₁ B hml hv
  obtain ⟨rfl, hsz, hP, hX, hD0⟩ := hv
  have hK := hX.1
  have hx := B.exec
  have hb := B.bytes
  have hr := B.returns
  have hts := atoms_spec (ws := wsX6_take) B.pre
  have hown : s.vm.findClass RX6 = some m.cls := findClass_of_methodNamed B.named
  have hlocks := B.notSynchronized
  have in_X6 : ∀ w ∈ wsX60, w ∈ wsX6_take := fun _ h => List.mem_cons_of_mem _ (List.mem_append_left _ (List.mem_append_left _ (List.mem_append_left _ (List.mem_append_left _ (List.mem_append_right _ h)))))
  have kf_10 := hts (.fieldLink RX6 10 "LeftCrest$Stage" "bends" "LLeftCrest$Bends;") (by decide +kernel)
  have kf_19 := hts (.fieldLink RX6 19 "LeftCrest$Stage" "felt" "LLeftCrest$Felt;") (by decide +kernel)
  have kf_26 := hts (.fieldLink RX6 26 "LeftCrest$Stage" "paces" "LLeftCrest$Paces;") (by decide +kernel)
  have kf_33 := hts (.fieldLink RX6 33 "LeftCrest$Stage" "past" "LLeftCrest$Past;") (by decide +kernel)
  have kf_37 := hts (.fieldLink RX6 37 "LeftCrest$Stage" "kind" "I") (by decide +kernel)
  have kf_41 := hts (.fieldLink RX6 41 "LeftCrest$Stage" "fog" "I") (by decide +kernel)
  have kf_44 := hts (.fieldLink RX6 44 "LeftCrest$Stage" "here" "I") (by decide +kernel)
  have kf_47 := hts (.fieldLink RX6 47 "LeftCrest$Stage" "seconds" "I") (by decide +kernel)
  have kf_50 := hts (.fieldLink RX6 50 "LeftCrest$Stage" "crashes" "I") (by decide +kernel)
  subst hsz
  have hD := hD0.self (sz := s.heap.size)
  generalize hAe : va_A [(q_a0, .inr (5, [.ref q_a0_bends, .ref q_a0_felt, .ref q_a0_paces, .ref q_a0_past, .int a0_kind, .int a0_fog, .int a0_here, .int a0_seconds, .int a0_crashes])), (q_a0_bends, .inr (0, [.ref q_a0_bends_yards, .ref q_a0_bends_truth, .ref q_a0_bends_notes, .ref q_a0_bends_words, .ref q_a0_bends_mud, .int a0_bends_size])), (q_a0_bends_yards, .inl (cI, 8, .inl a0_bends_yards)), (q_a0_bends_truth, .inl (cI, 8, .inl a0_bends_truth)), (q_a0_bends_notes, .inl (cI, 8, .inl a0_bends_notes)), (q_a0_bends_words, .inl (cI, 8, .inl a0_bends_words)), (q_a0_bends_mud, .inl (cI, 8, .inl a0_bends_mud)), (q_a0_felt, .inr (1, [.ref q_a0_felt_holds, .int a0_felt_size])), (q_a0_felt_holds, .inl (cI, 3, .inl a0_felt_holds)), (q_a0_paces, .inr (2, [.ref q_a0_paces_rows, .int a0_paces_size])), (q_a0_paces_rows, .inl (cI, 30, .inl a0_paces_rows)), (q_a0_past, .inr (3, [.ref q_a0_past_rows, .int a0_past_size])), (q_a0_past_rows, .inl (cI, 88, .inl a0_past_rows)), (q_a1, .inr (5, [.ref q_a1_bends, .ref q_a1_felt, .ref q_a1_paces, .ref q_a1_past, .int a1_kind, .int a1_fog, .int a1_here, .int a1_seconds, .int a1_crashes])), (q_a1_bends, .inr (0, [.ref q_a1_bends_yards, .ref q_a1_bends_truth, .ref q_a1_bends_notes, .ref q_a1_bends_words, .ref q_a1_bends_mud, .int a1_bends_size])), (q_a1_bends_yards, .inl (cI, 8, .inl a1_bends_yards)), (q_a1_bends_truth, .inl (cI, 8, .inl a1_bends_truth)), (q_a1_bends_notes, .inl (cI, 8, .inl a1_bends_notes)), (q_a1_bends_words, .inl (cI, 8, .inl a1_bends_words)), (q_a1_bends_mud, .inl (cI, 8, .inl a1_bends_mud)), (q_a1_felt, .inr (1, [.ref q_a1_felt_holds, .int a1_felt_size])), (q_a1_felt_holds, .inl (cI, 3, .inl a1_felt_holds)), (q_a1_paces, .inr (2, [.ref q_a1_paces_rows, .int a1_paces_size])), (q_a1_paces_rows, .inl (cI, 30, .inl a1_paces_rows)), (q_a1_past, .inr (3, [.ref q_a1_past_rows, .int a1_past_size])), (q_a1_past_rows, .inl (cI, 88, .inl a1_past_rows))] s.heap.size = A at hD ⊢
  have hA : ∀ q : Nat, s.heap.size ≤ q → A q := fun q h => by rw [← hAe]; exact Or.inr h
  have hS : va_S A s.heap s.heap [] := va_S.rf
  have hP : va_P D vwCl [(q_a0, .inr (5, [.ref q_a0_bends, .ref q_a0_felt, .ref q_a0_paces, .ref q_a0_past, .int a0_kind, .int a0_fog, .int a0_here, .int a0_seconds, .int a0_crashes])), (q_a0_bends, .inr (0, [.ref q_a0_bends_yards, .ref q_a0_bends_truth, .ref q_a0_bends_notes, .ref q_a0_bends_words, .ref q_a0_bends_mud, .int a0_bends_size])), (q_a0_bends_yards, .inl (cI, 8, .inl a0_bends_yards)), (q_a0_bends_truth, .inl (cI, 8, .inl a0_bends_truth)), (q_a0_bends_notes, .inl (cI, 8, .inl a0_bends_notes)), (q_a0_bends_words, .inl (cI, 8, .inl a0_bends_words)), (q_a0_bends_mud, .inl (cI, 8, .inl a0_bends_mud)), (q_a0_felt, .inr (1, [.ref q_a0_felt_holds, .int a0_felt_size])), (q_a0_felt_holds, .inl (cI, 3, .inl a0_felt_holds)), (q_a0_paces, .inr (2, [.ref q_a0_paces_rows, .int a0_paces_size])), (q_a0_paces_rows, .inl (cI, 30, .inl a0_paces_rows)), (q_a0_past, .inr (3, [.ref q_a0_past_rows, .int a0_past_size])), (q_a0_past_rows, .inl (cI, 88, .inl a0_past_rows)), (q_a1, .inr (5, [.ref q_a1_bends, .ref q_a1_felt, .ref q_a1_paces, .ref q_a1_past, .int a1_kind, .int a1_fog, .int a1_here, .int a1_seconds, .int a1_crashes])), (q_a1_bends, .inr (0, [.ref q_a1_bends_yards, .ref q_a1_bends_truth, .ref q_a1_bends_notes, .ref q_a1_bends_words, .ref q_a1_bends_mud, .int a1_bends_size])), (q_a1_bends_yards, .inl (cI, 8, .inl a1_bends_yards)), (q_a1_bends_truth, .inl (cI, 8, .inl a1_bends_truth)), (q_a1_bends_notes, .inl (cI, 8, .inl a1_bends_notes)), (q_a1_bends_words, .inl (cI, 8, .inl a1_bends_words)), (q_a1_bends_mud, .inl (cI, 8, .inl a1_bends_mud)), (q_a1_felt, .inr (1, [.ref q_a1_felt_holds, .int a1_felt_size])), (q_a1_felt_holds, .inl (cI, 3, .inl a1_felt_holds)), (q_a1_paces, .inr (2, [.ref q_a1_paces_rows, .int a1_paces_size])), (q_a1_paces_rows, .inl (cI, 30, .inl a1_paces_rows)), (q_a1_past, .inr (3, [.ref q_a1_past_rows, .int a1_past_size])), (q_a1_past_rows, .inl (cI, 88, .inl a1_past_rows))] s.heap := hP
  generalize hQQ : MQ below _ _ s _ _ _ = QQ
  have hl := lv_entry ([.ref q_a0, .ref q_a1]) (n := 2) (Nat.le_of_ble_eq_true rfl)
  rw [lg_entry_eq]
  generalize (lg_sl ([.ref q_a0, .ref q_a1]) ++ List.replicate (2 - (lg_sl ([.ref q_a0, .ref q_a1])).length) Slot.unset).toArray = ls at hl ⊢
  have hl : lv_has ls 2 [(0, .ref q_a0), (1, .ref q_a1)] := hl
  unfold p_X6_take at hf
  refine lv_aload_n hx hb dX6_take_0 rfl (lv_at hl 0 rfl) ?_
  refine va_get (D := D) (ci := 5) (v := .ref q_a0_bends) (C := RX6) (T := TX6) (N := 9) hx hb hts in_X6 hown hK hP 0 rfl rfl 0 (by decide) kf_10 (fun _ h9 => h9) rfl dX6_take_1 ?_
  refine lv_aload_n hx hb dX6_take_4 rfl (lv_at hl 1 rfl) ?_
  refine va_get (D := D) (ci := 5) (v := .ref q_a1_bends) (C := RX6) (T := TX6) (N := 9) hx hb hts in_X6 hown hK hP 13 rfl rfl 0 (by decide) kf_10 (fun _ h9 => h9) rfl dX6_take_5 ?_
  have hPc := hP.sub (ws' := [(q_a0_bends, .inr (0, [.ref q_a0_bends_yards, .ref q_a0_bends_truth, .ref q_a0_bends_notes, .ref q_a0_bends_words, .ref q_a0_bends_mud, .int a0_bends_size])), (q_a0_bends_yards, .inl (cI, 8, .inl a0_bends_yards)), (q_a0_bends_truth, .inl (cI, 8, .inl a0_bends_truth)), (q_a0_bends_notes, .inl (cI, 8, .inl a0_bends_notes)), (q_a0_bends_words, .inl (cI, 8, .inl a0_bends_words)), (q_a0_bends_mud, .inl (cI, 8, .inl a0_bends_mud)), (q_a1_bends, .inr (0, [.ref q_a1_bends_yards, .ref q_a1_bends_truth, .ref q_a1_bends_notes, .ref q_a1_bends_words, .ref q_a1_bends_mud, .int a1_bends_size])), (q_a1_bends_yards, .inl (cI, 8, .inl a1_bends_yards)), (q_a1_bends_truth, .inl (cI, 8, .inl a1_bends_truth)), (q_a1_bends_notes, .inl (cI, 8, .inl a1_bends_notes)), (q_a1_bends_words, .inl (cI, 8, .inl a1_bends_words)), (q_a1_bends_mud, .inl (cI, 8, .inl a1_bends_mud))]) [1, 2, 3, 4, 5, 6, 14, 15, 16, 17, 18, 19] rfl
  have hDc := hD.sub (ws' := [(q_a0_bends, .inr (0, [.ref q_a0_bends_yards, .ref q_a0_bends_truth, .ref q_a0_bends_notes, .ref q_a0_bends_words, .ref q_a0_bends_mud, .int a0_bends_size])), (q_a0_bends_yards, .inl (cI, 8, .inl a0_bends_yards)), (q_a0_bends_truth, .inl (cI, 8, .inl a0_bends_truth)), (q_a0_bends_notes, .inl (cI, 8, .inl a0_bends_notes)), (q_a0_bends_words, .inl (cI, 8, .inl a0_bends_words)), (q_a0_bends_mud, .inl (cI, 8, .inl a0_bends_mud)), (q_a1_bends, .inr (0, [.ref q_a1_bends_yards, .ref q_a1_bends_truth, .ref q_a1_bends_notes, .ref q_a1_bends_words, .ref q_a1_bends_mud, .int a1_bends_size])), (q_a1_bends_yards, .inl (cI, 8, .inl a1_bends_yards)), (q_a1_bends_truth, .inl (cI, 8, .inl a1_bends_truth)), (q_a1_bends_notes, .inl (cI, 8, .inl a1_bends_notes)), (q_a1_bends_words, .inl (cI, 8, .inl a1_bends_words)), (q_a1_bends_mud, .inl (cI, 8, .inl a1_bends_mud))]) [1, 2, 3, 4, 5, 6, 14, 15, 16, 17, 18, 19] (by decide) rfl
  have hFc := va_free (wc := [(q_a0_bends, .inr (0, [.ref q_a0_bends_yards, .ref q_a0_bends_truth, .ref q_a0_bends_notes, .ref q_a0_bends_words, .ref q_a0_bends_mud, .int a0_bends_size])), (q_a0_bends_yards, .inl (cI, 8, .inl a0_bends_yards)), (q_a0_bends_truth, .inl (cI, 8, .inl a0_bends_truth)), (q_a0_bends_notes, .inl (cI, 8, .inl a0_bends_notes)), (q_a0_bends_words, .inl (cI, 8, .inl a0_bends_words)), (q_a0_bends_mud, .inl (cI, 8, .inl a0_bends_mud)), (q_a1_bends, .inr (0, [.ref q_a1_bends_yards, .ref q_a1_bends_truth, .ref q_a1_bends_notes, .ref q_a1_bends_words, .ref q_a1_bends_mud, .int a1_bends_size])), (q_a1_bends_yards, .inl (cI, 8, .inl a1_bends_yards)), (q_a1_bends_truth, .inl (cI, 8, .inl a1_bends_truth)), (q_a1_bends_notes, .inl (cI, 8, .inl a1_bends_notes)), (q_a1_bends_words, .inl (cI, 8, .inl a1_bends_words)), (q_a1_bends_mud, .inl (cI, 8, .inl a1_bends_mud))]) hD hS hA [1, 2, 3, 4, 5, 6, 14, 15, 16, 17, 18, 19] rfl
  refine va_callv (va_runV (As := [.ref q_a1_bends]) (rest := []) ⟨hx, hb, hml, hown, hts⟩ (c_X0_take l D cI cZ cO q_a0_bends q_a0_bends_yards q_a0_bends_truth q_a0_bends_notes q_a0_bends_words q_a0_bends_mud q_a1_bends q_a1_bends_yards q_a1_bends_truth q_a1_bends_notes q_a1_bends_words q_a1_bends_mud a0_bends_size a0_bends_yards a0_bends_truth a0_bends_notes a0_bends_words a0_bends_mud a1_bends_size a1_bends_yards a1_bends_truth a1_bends_notes a1_bends_words a1_bends_mud s.heap.size  _ hf) (cwV 1 hts gX6_take_X0_take rfl rfl rfl (by decide +kernel) ⟨Nat.le_of_ble_eq_true rfl, Nat.le_of_ble_eq_true rfl⟩) (pv_rw (ci := 0) (q0 := 0) hPc hDc hX rfl rfl) rfl rfl hl.1 rfl (lv_room (Nat.le_of_ble_eq_true rfl)) dX6_take_8 ⟨Nat.zero_le _, Nat.zero_le _⟩) hS (fun q _ h => hFc q h) hFc (fun u t H1 locs ht hvm hf hB hz1 hk1 hS => ?_)
  obtain ⟨u_1, u_2, u_3, u_4, u_5, u_6⟩ := u
  obtain ⟨hP1, hD1⟩ := hB
  rw [ht] at hP1
  clear hvm
  obtain ⟨hP, hD⟩ := va_join (wr := [(q_a0, .inr (5, [.ref q_a0_bends, .ref q_a0_felt, .ref q_a0_paces, .ref q_a0_past, .int a0_kind, .int a0_fog, .int a0_here, .int a0_seconds, .int a0_crashes])), (q_a0_felt, .inr (1, [.ref q_a0_felt_holds, .int a0_felt_size])), (q_a0_felt_holds, .inl (cI, 3, .inl a0_felt_holds)), (q_a0_paces, .inr (2, [.ref q_a0_paces_rows, .int a0_paces_size])), (q_a0_paces_rows, .inl (cI, 30, .inl a0_paces_rows)), (q_a0_past, .inr (3, [.ref q_a0_past_rows, .int a0_past_size])), (q_a0_past_rows, .inl (cI, 88, .inl a0_past_rows)), (q_a1, .inr (5, [.ref q_a1_bends, .ref q_a1_felt, .ref q_a1_paces, .ref q_a1_past, .int a1_kind, .int a1_fog, .int a1_here, .int a1_seconds, .int a1_crashes])), (q_a1_felt, .inr (1, [.ref q_a1_felt_holds, .int a1_felt_size])), (q_a1_felt_holds, .inl (cI, 3, .inl a1_felt_holds)), (q_a1_paces, .inr (2, [.ref q_a1_paces_rows, .int a1_paces_size])), (q_a1_paces_rows, .inl (cI, 30, .inl a1_paces_rows)), (q_a1_past, .inr (3, [.ref q_a1_past_rows, .int a1_past_size])), (q_a1_past_rows, .inl (cI, 88, .inl a1_past_rows))]) (w1 := [(q_a0_bends, .inr (0, [.ref q_a0_bends_yards, .ref q_a0_bends_truth, .ref q_a0_bends_notes, .ref q_a0_bends_words, .ref q_a0_bends_mud, .int u_6])), (q_a0_bends_yards, .inl (cI, 8, .inl u_1)), (q_a0_bends_truth, .inl (cI, 8, .inl u_2)), (q_a0_bends_notes, .inl (cI, 8, .inl u_3)), (q_a0_bends_words, .inl (cI, 8, .inl u_4)), (q_a0_bends_mud, .inl (cI, 8, .inl u_5)), (q_a1_bends, .inr (0, [.ref q_a1_bends_yards, .ref q_a1_bends_truth, .ref q_a1_bends_notes, .ref q_a1_bends_words, .ref q_a1_bends_mud, .int a1_bends_size])), (q_a1_bends_yards, .inl (cI, 8, .inl a1_bends_yards)), (q_a1_bends_truth, .inl (cI, 8, .inl a1_bends_truth)), (q_a1_bends_notes, .inl (cI, 8, .inl a1_bends_notes)), (q_a1_bends_words, .inl (cI, 8, .inl a1_bends_words)), (q_a1_bends_mud, .inl (cI, 8, .inl a1_bends_mud))]) hP hD [1, 2, 3, 4, 5, 6, 14, 15, 16, 17, 18, 19] [0, 7, 8, 9, 10, 11, 12, 13, 20, 21, 22, 23, 24, 25] rfl rfl (by decide) (by decide) hk1 hFc hP1 hD1
  clear hz1 hk1 hPc hDc hFc hP1 hD1
  generalize H1 = H at hP hS ⊢
  have hP : va_P D vwCl [(q_a0, .inr (5, [.ref q_a0_bends, .ref q_a0_felt, .ref q_a0_paces, .ref q_a0_past, .int a0_kind, .int a0_fog, .int a0_here, .int a0_seconds, .int a0_crashes])), (q_a0_felt, .inr (1, [.ref q_a0_felt_holds, .int a0_felt_size])), (q_a0_felt_holds, .inl (cI, 3, .inl a0_felt_holds)), (q_a0_paces, .inr (2, [.ref q_a0_paces_rows, .int a0_paces_size])), (q_a0_paces_rows, .inl (cI, 30, .inl a0_paces_rows)), (q_a0_past, .inr (3, [.ref q_a0_past_rows, .int a0_past_size])), (q_a0_past_rows, .inl (cI, 88, .inl a0_past_rows)), (q_a1, .inr (5, [.ref q_a1_bends, .ref q_a1_felt, .ref q_a1_paces, .ref q_a1_past, .int a1_kind, .int a1_fog, .int a1_here, .int a1_seconds, .int a1_crashes])), (q_a1_felt, .inr (1, [.ref q_a1_felt_holds, .int a1_felt_size])), (q_a1_felt_holds, .inl (cI, 3, .inl a1_felt_holds)), (q_a1_paces, .inr (2, [.ref q_a1_paces_rows, .int a1_paces_size])), (q_a1_paces_rows, .inl (cI, 30, .inl a1_paces_rows)), (q_a1_past, .inr (3, [.ref q_a1_past_rows, .int a1_past_size])), (q_a1_past_rows, .inl (cI, 88, .inl a1_past_rows)), (q_a0_bends, .inr (0, [.ref q_a0_bends_yards, .ref q_a0_bends_truth, .ref q_a0_bends_notes, .ref q_a0_bends_words, .ref q_a0_bends_mud, .int u_6])), (q_a0_bends_yards, .inl (cI, 8, .inl u_1)), (q_a0_bends_truth, .inl (cI, 8, .inl u_2)), (q_a0_bends_notes, .inl (cI, 8, .inl u_3)), (q_a0_bends_words, .inl (cI, 8, .inl u_4)), (q_a0_bends_mud, .inl (cI, 8, .inl u_5)), (q_a1_bends, .inr (0, [.ref q_a1_bends_yards, .ref q_a1_bends_truth, .ref q_a1_bends_notes, .ref q_a1_bends_words, .ref q_a1_bends_mud, .int a1_bends_size])), (q_a1_bends_yards, .inl (cI, 8, .inl a1_bends_yards)), (q_a1_bends_truth, .inl (cI, 8, .inl a1_bends_truth)), (q_a1_bends_notes, .inl (cI, 8, .inl a1_bends_notes)), (q_a1_bends_words, .inl (cI, 8, .inl a1_bends_words)), (q_a1_bends_mud, .inl (cI, 8, .inl a1_bends_mud))] H := hP
  have hD : va_D A [(q_a0, .inr (5, [.ref q_a0_bends, .ref q_a0_felt, .ref q_a0_paces, .ref q_a0_past, .int a0_kind, .int a0_fog, .int a0_here, .int a0_seconds, .int a0_crashes])), (q_a0_felt, .inr (1, [.ref q_a0_felt_holds, .int a0_felt_size])), (q_a0_felt_holds, .inl (cI, 3, .inl a0_felt_holds)), (q_a0_paces, .inr (2, [.ref q_a0_paces_rows, .int a0_paces_size])), (q_a0_paces_rows, .inl (cI, 30, .inl a0_paces_rows)), (q_a0_past, .inr (3, [.ref q_a0_past_rows, .int a0_past_size])), (q_a0_past_rows, .inl (cI, 88, .inl a0_past_rows)), (q_a1, .inr (5, [.ref q_a1_bends, .ref q_a1_felt, .ref q_a1_paces, .ref q_a1_past, .int a1_kind, .int a1_fog, .int a1_here, .int a1_seconds, .int a1_crashes])), (q_a1_felt, .inr (1, [.ref q_a1_felt_holds, .int a1_felt_size])), (q_a1_felt_holds, .inl (cI, 3, .inl a1_felt_holds)), (q_a1_paces, .inr (2, [.ref q_a1_paces_rows, .int a1_paces_size])), (q_a1_paces_rows, .inl (cI, 30, .inl a1_paces_rows)), (q_a1_past, .inr (3, [.ref q_a1_past_rows, .int a1_past_size])), (q_a1_past_rows, .inl (cI, 88, .inl a1_past_rows)), (q_a0_bends, .inr (0, [.ref q_a0_bends_yards, .ref q_a0_bends_truth, .ref q_a0_bends_notes, .ref q_a0_bends_words, .ref q_a0_bends_mud, .int u_6])), (q_a0_bends_yards, .inl (cI, 8, .inl u_1)), (q_a0_bends_truth, .inl (cI, 8, .inl u_2)), (q_a0_bends_notes, .inl (cI, 8, .inl u_3)), (q_a0_bends_words, .inl (cI, 8, .inl u_4)), (q_a0_bends_mud, .inl (cI, 8, .inl u_5)), (q_a1_bends, .inr (0, [.ref q_a1_bends_yards, .ref q_a1_bends_truth, .ref q_a1_bends_notes, .ref q_a1_bends_words, .ref q_a1_bends_mud, .int a1_bends_size])), (q_a1_bends_yards, .inl (cI, 8, .inl a1_bends_yards)), (q_a1_bends_truth, .inl (cI, 8, .inl a1_bends_truth)), (q_a1_bends_notes, .inl (cI, 8, .inl a1_bends_notes)), (q_a1_bends_words, .inl (cI, 8, .inl a1_bends_words)), (q_a1_bends_mud, .inl (cI, 8, .inl a1_bends_mud))] := hD
  refine lv_aload_n hx hb dX6_take_11 rfl (lv_at hl 0 rfl) ?_
  refine va_get (D := D) (ci := 5) (v := .ref q_a0_felt) (C := RX6) (T := TX6) (N := 9) hx hb hts in_X6 hown hK hP 0 rfl rfl 1 (by decide) kf_19 (fun _ h9 => h9) rfl dX6_take_12 ?_
  refine lv_aload_n hx hb dX6_take_15 rfl (lv_at hl 1 rfl) ?_
  refine va_get (D := D) (ci := 5) (v := .ref q_a1_felt) (C := RX6) (T := TX6) (N := 9) hx hb hts in_X6 hown hK hP 7 rfl rfl 1 (by decide) kf_19 (fun _ h9 => h9) rfl dX6_take_16 ?_
  have hPc := hP.sub (ws' := [(q_a0_felt, .inr (1, [.ref q_a0_felt_holds, .int a0_felt_size])), (q_a0_felt_holds, .inl (cI, 3, .inl a0_felt_holds)), (q_a1_felt, .inr (1, [.ref q_a1_felt_holds, .int a1_felt_size])), (q_a1_felt_holds, .inl (cI, 3, .inl a1_felt_holds))]) [1, 2, 8, 9] rfl
  have hDc := hD.sub (ws' := [(q_a0_felt, .inr (1, [.ref q_a0_felt_holds, .int a0_felt_size])), (q_a0_felt_holds, .inl (cI, 3, .inl a0_felt_holds)), (q_a1_felt, .inr (1, [.ref q_a1_felt_holds, .int a1_felt_size])), (q_a1_felt_holds, .inl (cI, 3, .inl a1_felt_holds))]) [1, 2, 8, 9] (by decide) rfl
  have hFc := va_free (wc := [(q_a0_felt, .inr (1, [.ref q_a0_felt_holds, .int a0_felt_size])), (q_a0_felt_holds, .inl (cI, 3, .inl a0_felt_holds)), (q_a1_felt, .inr (1, [.ref q_a1_felt_holds, .int a1_felt_size])), (q_a1_felt_holds, .inl (cI, 3, .inl a1_felt_holds))]) hD hS hA [1, 2, 8, 9] rfl
  refine va_callv (va_runV (As := [.ref q_a1_felt]) (rest := []) ⟨hx, hb, hml, hown, hts⟩ (c_X1_take l D cI cZ cO q_a0_felt q_a0_felt_holds q_a1_felt q_a1_felt_holds a0_felt_size a0_felt_holds a1_felt_size a1_felt_holds H.size  _ hf) (cwV 1 hts gX6_take_X1_take rfl rfl rfl (by decide +kernel) ⟨Nat.le_of_ble_eq_true rfl, Nat.le_of_ble_eq_true rfl⟩) (pv_rw (ci := 1) (q0 := 0) hPc hDc hX rfl rfl) rfl rfl hl.1 rfl (lv_room (Nat.le_of_ble_eq_true rfl)) dX6_take_19 ⟨Nat.zero_le _, Nat.zero_le _⟩) hS (fun q _ h => hFc q h) hFc (fun u t H1 locs ht hvm hf hB hz1 hk1 hS => ?_)
  obtain ⟨u_7, u_8⟩ := u
  obtain ⟨hP1, hD1⟩ := hB
  rw [ht] at hP1
  clear hvm
  obtain ⟨hP, hD⟩ := va_join (wr := [(q_a0, .inr (5, [.ref q_a0_bends, .ref q_a0_felt, .ref q_a0_paces, .ref q_a0_past, .int a0_kind, .int a0_fog, .int a0_here, .int a0_seconds, .int a0_crashes])), (q_a0_paces, .inr (2, [.ref q_a0_paces_rows, .int a0_paces_size])), (q_a0_paces_rows, .inl (cI, 30, .inl a0_paces_rows)), (q_a0_past, .inr (3, [.ref q_a0_past_rows, .int a0_past_size])), (q_a0_past_rows, .inl (cI, 88, .inl a0_past_rows)), (q_a1, .inr (5, [.ref q_a1_bends, .ref q_a1_felt, .ref q_a1_paces, .ref q_a1_past, .int a1_kind, .int a1_fog, .int a1_here, .int a1_seconds, .int a1_crashes])), (q_a1_paces, .inr (2, [.ref q_a1_paces_rows, .int a1_paces_size])), (q_a1_paces_rows, .inl (cI, 30, .inl a1_paces_rows)), (q_a1_past, .inr (3, [.ref q_a1_past_rows, .int a1_past_size])), (q_a1_past_rows, .inl (cI, 88, .inl a1_past_rows)), (q_a0_bends, .inr (0, [.ref q_a0_bends_yards, .ref q_a0_bends_truth, .ref q_a0_bends_notes, .ref q_a0_bends_words, .ref q_a0_bends_mud, .int u_6])), (q_a0_bends_yards, .inl (cI, 8, .inl u_1)), (q_a0_bends_truth, .inl (cI, 8, .inl u_2)), (q_a0_bends_notes, .inl (cI, 8, .inl u_3)), (q_a0_bends_words, .inl (cI, 8, .inl u_4)), (q_a0_bends_mud, .inl (cI, 8, .inl u_5)), (q_a1_bends, .inr (0, [.ref q_a1_bends_yards, .ref q_a1_bends_truth, .ref q_a1_bends_notes, .ref q_a1_bends_words, .ref q_a1_bends_mud, .int a1_bends_size])), (q_a1_bends_yards, .inl (cI, 8, .inl a1_bends_yards)), (q_a1_bends_truth, .inl (cI, 8, .inl a1_bends_truth)), (q_a1_bends_notes, .inl (cI, 8, .inl a1_bends_notes)), (q_a1_bends_words, .inl (cI, 8, .inl a1_bends_words)), (q_a1_bends_mud, .inl (cI, 8, .inl a1_bends_mud))]) (w1 := [(q_a0_felt, .inr (1, [.ref q_a0_felt_holds, .int u_8])), (q_a0_felt_holds, .inl (cI, 3, .inl u_7)), (q_a1_felt, .inr (1, [.ref q_a1_felt_holds, .int a1_felt_size])), (q_a1_felt_holds, .inl (cI, 3, .inl a1_felt_holds))]) hP hD [1, 2, 8, 9] [0, 3, 4, 5, 6, 7, 10, 11, 12, 13, 14, 15, 16, 17, 18, 19, 20, 21, 22, 23, 24, 25] rfl rfl (by decide) (by decide) hk1 hFc hP1 hD1
  clear hz1 hk1 hPc hDc hFc hP1 hD1
  generalize H1 = H at hP hS ⊢
  have hP : va_P D vwCl [(q_a0, .inr (5, [.ref q_a0_bends, .ref q_a0_felt, .ref q_a0_paces, .ref q_a0_past, .int a0_kind, .int a0_fog, .int a0_here, .int a0_seconds, .int a0_crashes])), (q_a0_paces, .inr (2, [.ref q_a0_paces_rows, .int a0_paces_size])), (q_a0_paces_rows, .inl (cI, 30, .inl a0_paces_rows)), (q_a0_past, .inr (3, [.ref q_a0_past_rows, .int a0_past_size])), (q_a0_past_rows, .inl (cI, 88, .inl a0_past_rows)), (q_a1, .inr (5, [.ref q_a1_bends, .ref q_a1_felt, .ref q_a1_paces, .ref q_a1_past, .int a1_kind, .int a1_fog, .int a1_here, .int a1_seconds, .int a1_crashes])), (q_a1_paces, .inr (2, [.ref q_a1_paces_rows, .int a1_paces_size])), (q_a1_paces_rows, .inl (cI, 30, .inl a1_paces_rows)), (q_a1_past, .inr (3, [.ref q_a1_past_rows, .int a1_past_size])), (q_a1_past_rows, .inl (cI, 88, .inl a1_past_rows)), (q_a0_bends, .inr (0, [.ref q_a0_bends_yards, .ref q_a0_bends_truth, .ref q_a0_bends_notes, .ref q_a0_bends_words, .ref q_a0_bends_mud, .int u_6])), (q_a0_bends_yards, .inl (cI, 8, .inl u_1)), (q_a0_bends_truth, .inl (cI, 8, .inl u_2)), (q_a0_bends_notes, .inl (cI, 8, .inl u_3)), (q_a0_bends_words, .inl (cI, 8, .inl u_4)), (q_a0_bends_mud, .inl (cI, 8, .inl u_5)), (q_a1_bends, .inr (0, [.ref q_a1_bends_yards, .ref q_a1_bends_truth, .ref q_a1_bends_notes, .ref q_a1_bends_words, .ref q_a1_bends_mud, .int a1_bends_size])), (q_a1_bends_yards, .inl (cI, 8, .inl a1_bends_yards)), (q_a1_bends_truth, .inl (cI, 8, .inl a1_bends_truth)), (q_a1_bends_notes, .inl (cI, 8, .inl a1_bends_notes)), (q_a1_bends_words, .inl (cI, 8, .inl a1_bends_words)), (q_a1_bends_mud, .inl (cI, 8, .inl a1_bends_mud)), (q_a0_felt, .inr (1, [.ref q_a0_felt_holds, .int u_8])), (q_a0_felt_holds, .inl (cI, 3, .inl u_7)), (q_a1_felt, .inr (1, [.ref q_a1_felt_holds, .int a1_felt_size])), (q_a1_felt_holds, .inl (cI, 3, .inl a1_felt_holds))] H := hP
  have hD : va_D A [(q_a0, .inr (5, [.ref q_a0_bends, .ref q_a0_felt, .ref q_a0_paces, .ref q_a0_past, .int a0_kind, .int a0_fog, .int a0_here, .int a0_seconds, .int a0_crashes])), (q_a0_paces, .inr (2, [.ref q_a0_paces_rows, .int a0_paces_size])), (q_a0_paces_rows, .inl (cI, 30, .inl a0_paces_rows)), (q_a0_past, .inr (3, [.ref q_a0_past_rows, .int a0_past_size])), (q_a0_past_rows, .inl (cI, 88, .inl a0_past_rows)), (q_a1, .inr (5, [.ref q_a1_bends, .ref q_a1_felt, .ref q_a1_paces, .ref q_a1_past, .int a1_kind, .int a1_fog, .int a1_here, .int a1_seconds, .int a1_crashes])), (q_a1_paces, .inr (2, [.ref q_a1_paces_rows, .int a1_paces_size])), (q_a1_paces_rows, .inl (cI, 30, .inl a1_paces_rows)), (q_a1_past, .inr (3, [.ref q_a1_past_rows, .int a1_past_size])), (q_a1_past_rows, .inl (cI, 88, .inl a1_past_rows)), (q_a0_bends, .inr (0, [.ref q_a0_bends_yards, .ref q_a0_bends_truth, .ref q_a0_bends_notes, .ref q_a0_bends_words, .ref q_a0_bends_mud, .int u_6])), (q_a0_bends_yards, .inl (cI, 8, .inl u_1)), (q_a0_bends_truth, .inl (cI, 8, .inl u_2)), (q_a0_bends_notes, .inl (cI, 8, .inl u_3)), (q_a0_bends_words, .inl (cI, 8, .inl u_4)), (q_a0_bends_mud, .inl (cI, 8, .inl u_5)), (q_a1_bends, .inr (0, [.ref q_a1_bends_yards, .ref q_a1_bends_truth, .ref q_a1_bends_notes, .ref q_a1_bends_words, .ref q_a1_bends_mud, .int a1_bends_size])), (q_a1_bends_yards, .inl (cI, 8, .inl a1_bends_yards)), (q_a1_bends_truth, .inl (cI, 8, .inl a1_bends_truth)), (q_a1_bends_notes, .inl (cI, 8, .inl a1_bends_notes)), (q_a1_bends_words, .inl (cI, 8, .inl a1_bends_words)), (q_a1_bends_mud, .inl (cI, 8, .inl a1_bends_mud)), (q_a0_felt, .inr (1, [.ref q_a0_felt_holds, .int u_8])), (q_a0_felt_holds, .inl (cI, 3, .inl u_7)), (q_a1_felt, .inr (1, [.ref q_a1_felt_holds, .int a1_felt_size])), (q_a1_felt_holds, .inl (cI, 3, .inl a1_felt_holds))] := hD
  refine lv_aload_n hx hb dX6_take_22 rfl (lv_at hl 0 rfl) ?_
  refine va_get (D := D) (ci := 5) (v := .ref q_a0_paces) (C := RX6) (T := TX6) (N := 9) hx hb hts in_X6 hown hK hP 0 rfl rfl 2 (by decide) kf_26 (fun _ h9 => h9) rfl dX6_take_23 ?_
  refine lv_aload_n hx hb dX6_take_26 rfl (lv_at hl 1 rfl) ?_
  refine va_get (D := D) (ci := 5) (v := .ref q_a1_paces) (C := RX6) (T := TX6) (N := 9) hx hb hts in_X6 hown hK hP 5 rfl rfl 2 (by decide) kf_26 (fun _ h9 => h9) rfl dX6_take_27 ?_
  have hPc := hP.sub (ws' := [(q_a0_paces, .inr (2, [.ref q_a0_paces_rows, .int a0_paces_size])), (q_a0_paces_rows, .inl (cI, 30, .inl a0_paces_rows)), (q_a1_paces, .inr (2, [.ref q_a1_paces_rows, .int a1_paces_size])), (q_a1_paces_rows, .inl (cI, 30, .inl a1_paces_rows))]) [1, 2, 6, 7] rfl
  have hDc := hD.sub (ws' := [(q_a0_paces, .inr (2, [.ref q_a0_paces_rows, .int a0_paces_size])), (q_a0_paces_rows, .inl (cI, 30, .inl a0_paces_rows)), (q_a1_paces, .inr (2, [.ref q_a1_paces_rows, .int a1_paces_size])), (q_a1_paces_rows, .inl (cI, 30, .inl a1_paces_rows))]) [1, 2, 6, 7] (by decide) rfl
  have hFc := va_free (wc := [(q_a0_paces, .inr (2, [.ref q_a0_paces_rows, .int a0_paces_size])), (q_a0_paces_rows, .inl (cI, 30, .inl a0_paces_rows)), (q_a1_paces, .inr (2, [.ref q_a1_paces_rows, .int a1_paces_size])), (q_a1_paces_rows, .inl (cI, 30, .inl a1_paces_rows))]) hD hS hA [1, 2, 6, 7] rfl
  refine va_callv (va_runV (As := [.ref q_a1_paces]) (rest := []) ⟨hx, hb, hml, hown, hts⟩ (c_X3_take l D cI cZ cO q_a0_paces q_a0_paces_rows q_a1_paces q_a1_paces_rows a0_paces_size a0_paces_rows a1_paces_size a1_paces_rows H.size  _ hf) (cwV 1 hts gX6_take_X3_take rfl rfl rfl (by decide +kernel) ⟨Nat.le_of_ble_eq_true rfl, Nat.le_of_ble_eq_true rfl⟩) (pv_rw (ci := 2) (q0 := 0) hPc hDc hX rfl rfl) rfl rfl hl.1 rfl (lv_room (Nat.le_of_ble_eq_true rfl)) dX6_take_30 ⟨Nat.zero_le _, Nat.zero_le _⟩) hS (fun q _ h => hFc q h) hFc (fun u t H1 locs ht hvm hf hB hz1 hk1 hS => ?_)
  obtain ⟨u_9, u_10⟩ := u
  obtain ⟨hP1, hD1⟩ := hB
  rw [ht] at hP1
  clear hvm
  obtain ⟨hP, hD⟩ := va_join (wr := [(q_a0, .inr (5, [.ref q_a0_bends, .ref q_a0_felt, .ref q_a0_paces, .ref q_a0_past, .int a0_kind, .int a0_fog, .int a0_here, .int a0_seconds, .int a0_crashes])), (q_a0_past, .inr (3, [.ref q_a0_past_rows, .int a0_past_size])), (q_a0_past_rows, .inl (cI, 88, .inl a0_past_rows)), (q_a1, .inr (5, [.ref q_a1_bends, .ref q_a1_felt, .ref q_a1_paces, .ref q_a1_past, .int a1_kind, .int a1_fog, .int a1_here, .int a1_seconds, .int a1_crashes])), (q_a1_past, .inr (3, [.ref q_a1_past_rows, .int a1_past_size])), (q_a1_past_rows, .inl (cI, 88, .inl a1_past_rows)), (q_a0_bends, .inr (0, [.ref q_a0_bends_yards, .ref q_a0_bends_truth, .ref q_a0_bends_notes, .ref q_a0_bends_words, .ref q_a0_bends_mud, .int u_6])), (q_a0_bends_yards, .inl (cI, 8, .inl u_1)), (q_a0_bends_truth, .inl (cI, 8, .inl u_2)), (q_a0_bends_notes, .inl (cI, 8, .inl u_3)), (q_a0_bends_words, .inl (cI, 8, .inl u_4)), (q_a0_bends_mud, .inl (cI, 8, .inl u_5)), (q_a1_bends, .inr (0, [.ref q_a1_bends_yards, .ref q_a1_bends_truth, .ref q_a1_bends_notes, .ref q_a1_bends_words, .ref q_a1_bends_mud, .int a1_bends_size])), (q_a1_bends_yards, .inl (cI, 8, .inl a1_bends_yards)), (q_a1_bends_truth, .inl (cI, 8, .inl a1_bends_truth)), (q_a1_bends_notes, .inl (cI, 8, .inl a1_bends_notes)), (q_a1_bends_words, .inl (cI, 8, .inl a1_bends_words)), (q_a1_bends_mud, .inl (cI, 8, .inl a1_bends_mud)), (q_a0_felt, .inr (1, [.ref q_a0_felt_holds, .int u_8])), (q_a0_felt_holds, .inl (cI, 3, .inl u_7)), (q_a1_felt, .inr (1, [.ref q_a1_felt_holds, .int a1_felt_size])), (q_a1_felt_holds, .inl (cI, 3, .inl a1_felt_holds))]) (w1 := [(q_a0_paces, .inr (2, [.ref q_a0_paces_rows, .int u_10])), (q_a0_paces_rows, .inl (cI, 30, .inl u_9)), (q_a1_paces, .inr (2, [.ref q_a1_paces_rows, .int a1_paces_size])), (q_a1_paces_rows, .inl (cI, 30, .inl a1_paces_rows))]) hP hD [1, 2, 6, 7] [0, 3, 4, 5, 8, 9, 10, 11, 12, 13, 14, 15, 16, 17, 18, 19, 20, 21, 22, 23, 24, 25] rfl rfl (by decide) (by decide) hk1 hFc hP1 hD1
  clear hz1 hk1 hPc hDc hFc hP1 hD1
  generalize H1 = H at hP hS ⊢
  have hP : va_P D vwCl [(q_a0, .inr (5, [.ref q_a0_bends, .ref q_a0_felt, .ref q_a0_paces, .ref q_a0_past, .int a0_kind, .int a0_fog, .int a0_here, .int a0_seconds, .int a0_crashes])), (q_a0_past, .inr (3, [.ref q_a0_past_rows, .int a0_past_size])), (q_a0_past_rows, .inl (cI, 88, .inl a0_past_rows)), (q_a1, .inr (5, [.ref q_a1_bends, .ref q_a1_felt, .ref q_a1_paces, .ref q_a1_past, .int a1_kind, .int a1_fog, .int a1_here, .int a1_seconds, .int a1_crashes])), (q_a1_past, .inr (3, [.ref q_a1_past_rows, .int a1_past_size])), (q_a1_past_rows, .inl (cI, 88, .inl a1_past_rows)), (q_a0_bends, .inr (0, [.ref q_a0_bends_yards, .ref q_a0_bends_truth, .ref q_a0_bends_notes, .ref q_a0_bends_words, .ref q_a0_bends_mud, .int u_6])), (q_a0_bends_yards, .inl (cI, 8, .inl u_1)), (q_a0_bends_truth, .inl (cI, 8, .inl u_2)), (q_a0_bends_notes, .inl (cI, 8, .inl u_3)), (q_a0_bends_words, .inl (cI, 8, .inl u_4)), (q_a0_bends_mud, .inl (cI, 8, .inl u_5)), (q_a1_bends, .inr (0, [.ref q_a1_bends_yards, .ref q_a1_bends_truth, .ref q_a1_bends_notes, .ref q_a1_bends_words, .ref q_a1_bends_mud, .int a1_bends_size])), (q_a1_bends_yards, .inl (cI, 8, .inl a1_bends_yards)), (q_a1_bends_truth, .inl (cI, 8, .inl a1_bends_truth)), (q_a1_bends_notes, .inl (cI, 8, .inl a1_bends_notes)), (q_a1_bends_words, .inl (cI, 8, .inl a1_bends_words)), (q_a1_bends_mud, .inl (cI, 8, .inl a1_bends_mud)), (q_a0_felt, .inr (1, [.ref q_a0_felt_holds, .int u_8])), (q_a0_felt_holds, .inl (cI, 3, .inl u_7)), (q_a1_felt, .inr (1, [.ref q_a1_felt_holds, .int a1_felt_size])), (q_a1_felt_holds, .inl (cI, 3, .inl a1_felt_holds)), (q_a0_paces, .inr (2, [.ref q_a0_paces_rows, .int u_10])), (q_a0_paces_rows, .inl (cI, 30, .inl u_9)), (q_a1_paces, .inr (2, [.ref q_a1_paces_rows, .int a1_paces_size])), (q_a1_paces_rows, .inl (cI, 30, .inl a1_paces_rows))] H := hP
  have hD : va_D A [(q_a0, .inr (5, [.ref q_a0_bends, .ref q_a0_felt, .ref q_a0_paces, .ref q_a0_past, .int a0_kind, .int a0_fog, .int a0_here, .int a0_seconds, .int a0_crashes])), (q_a0_past, .inr (3, [.ref q_a0_past_rows, .int a0_past_size])), (q_a0_past_rows, .inl (cI, 88, .inl a0_past_rows)), (q_a1, .inr (5, [.ref q_a1_bends, .ref q_a1_felt, .ref q_a1_paces, .ref q_a1_past, .int a1_kind, .int a1_fog, .int a1_here, .int a1_seconds, .int a1_crashes])), (q_a1_past, .inr (3, [.ref q_a1_past_rows, .int a1_past_size])), (q_a1_past_rows, .inl (cI, 88, .inl a1_past_rows)), (q_a0_bends, .inr (0, [.ref q_a0_bends_yards, .ref q_a0_bends_truth, .ref q_a0_bends_notes, .ref q_a0_bends_words, .ref q_a0_bends_mud, .int u_6])), (q_a0_bends_yards, .inl (cI, 8, .inl u_1)), (q_a0_bends_truth, .inl (cI, 8, .inl u_2)), (q_a0_bends_notes, .inl (cI, 8, .inl u_3)), (q_a0_bends_words, .inl (cI, 8, .inl u_4)), (q_a0_bends_mud, .inl (cI, 8, .inl u_5)), (q_a1_bends, .inr (0, [.ref q_a1_bends_yards, .ref q_a1_bends_truth, .ref q_a1_bends_notes, .ref q_a1_bends_words, .ref q_a1_bends_mud, .int a1_bends_size])), (q_a1_bends_yards, .inl (cI, 8, .inl a1_bends_yards)), (q_a1_bends_truth, .inl (cI, 8, .inl a1_bends_truth)), (q_a1_bends_notes, .inl (cI, 8, .inl a1_bends_notes)), (q_a1_bends_words, .inl (cI, 8, .inl a1_bends_words)), (q_a1_bends_mud, .inl (cI, 8, .inl a1_bends_mud)), (q_a0_felt, .inr (1, [.ref q_a0_felt_holds, .int u_8])), (q_a0_felt_holds, .inl (cI, 3, .inl u_7)), (q_a1_felt, .inr (1, [.ref q_a1_felt_holds, .int a1_felt_size])), (q_a1_felt_holds, .inl (cI, 3, .inl a1_felt_holds)), (q_a0_paces, .inr (2, [.ref q_a0_paces_rows, .int u_10])), (q_a0_paces_rows, .inl (cI, 30, .inl u_9)), (q_a1_paces, .inr (2, [.ref q_a1_paces_rows, .int a1_paces_size])), (q_a1_paces_rows, .inl (cI, 30, .inl a1_paces_rows))] := hD
  refine lv_aload_n hx hb dX6_take_33 rfl (lv_at hl 0 rfl) ?_
  refine va_get (D := D) (ci := 5) (v := .ref q_a0_past) (C := RX6) (T := TX6) (N := 9) hx hb hts in_X6 hown hK hP 0 rfl rfl 3 (by decide) kf_33 (fun _ h9 => h9) rfl dX6_take_34 ?_
  refine lv_aload_n hx hb dX6_take_37 rfl (lv_at hl 1 rfl) ?_
  refine va_get (D := D) (ci := 5) (v := .ref q_a1_past) (C := RX6) (T := TX6) (N := 9) hx hb hts in_X6 hown hK hP 3 rfl rfl 3 (by decide) kf_33 (fun _ h9 => h9) rfl dX6_take_38 ?_
  have hPc := hP.sub (ws' := [(q_a0_past, .inr (3, [.ref q_a0_past_rows, .int a0_past_size])), (q_a0_past_rows, .inl (cI, 88, .inl a0_past_rows)), (q_a1_past, .inr (3, [.ref q_a1_past_rows, .int a1_past_size])), (q_a1_past_rows, .inl (cI, 88, .inl a1_past_rows))]) [1, 2, 4, 5] rfl
  have hDc := hD.sub (ws' := [(q_a0_past, .inr (3, [.ref q_a0_past_rows, .int a0_past_size])), (q_a0_past_rows, .inl (cI, 88, .inl a0_past_rows)), (q_a1_past, .inr (3, [.ref q_a1_past_rows, .int a1_past_size])), (q_a1_past_rows, .inl (cI, 88, .inl a1_past_rows))]) [1, 2, 4, 5] (by decide) rfl
  have hFc := va_free (wc := [(q_a0_past, .inr (3, [.ref q_a0_past_rows, .int a0_past_size])), (q_a0_past_rows, .inl (cI, 88, .inl a0_past_rows)), (q_a1_past, .inr (3, [.ref q_a1_past_rows, .int a1_past_size])), (q_a1_past_rows, .inl (cI, 88, .inl a1_past_rows))]) hD hS hA [1, 2, 4, 5] rfl
  refine va_callv (va_runV (As := [.ref q_a1_past]) (rest := []) ⟨hx, hb, hml, hown, hts⟩ (c_X4_take l D cI cZ cO q_a0_past q_a0_past_rows q_a1_past q_a1_past_rows a0_past_size a0_past_rows a1_past_size a1_past_rows H.size  _ hf) (cwV 1 hts gX6_take_X4_take rfl rfl rfl (by decide +kernel) ⟨Nat.le_of_ble_eq_true rfl, Nat.le_of_ble_eq_true rfl⟩) (pv_rw (ci := 3) (q0 := 0) hPc hDc hX rfl rfl) rfl rfl hl.1 rfl (lv_room (Nat.le_of_ble_eq_true rfl)) dX6_take_41 ⟨Nat.zero_le _, Nat.zero_le _⟩) hS (fun q _ h => hFc q h) hFc (fun u t H1 locs ht hvm hf hB hz1 hk1 hS => ?_)
  obtain ⟨u_11, u_12⟩ := u
  obtain ⟨hP1, hD1⟩ := hB
  rw [ht] at hP1
  clear hvm
  obtain ⟨hP, hD⟩ := va_join (wr := [(q_a0, .inr (5, [.ref q_a0_bends, .ref q_a0_felt, .ref q_a0_paces, .ref q_a0_past, .int a0_kind, .int a0_fog, .int a0_here, .int a0_seconds, .int a0_crashes])), (q_a1, .inr (5, [.ref q_a1_bends, .ref q_a1_felt, .ref q_a1_paces, .ref q_a1_past, .int a1_kind, .int a1_fog, .int a1_here, .int a1_seconds, .int a1_crashes])), (q_a0_bends, .inr (0, [.ref q_a0_bends_yards, .ref q_a0_bends_truth, .ref q_a0_bends_notes, .ref q_a0_bends_words, .ref q_a0_bends_mud, .int u_6])), (q_a0_bends_yards, .inl (cI, 8, .inl u_1)), (q_a0_bends_truth, .inl (cI, 8, .inl u_2)), (q_a0_bends_notes, .inl (cI, 8, .inl u_3)), (q_a0_bends_words, .inl (cI, 8, .inl u_4)), (q_a0_bends_mud, .inl (cI, 8, .inl u_5)), (q_a1_bends, .inr (0, [.ref q_a1_bends_yards, .ref q_a1_bends_truth, .ref q_a1_bends_notes, .ref q_a1_bends_words, .ref q_a1_bends_mud, .int a1_bends_size])), (q_a1_bends_yards, .inl (cI, 8, .inl a1_bends_yards)), (q_a1_bends_truth, .inl (cI, 8, .inl a1_bends_truth)), (q_a1_bends_notes, .inl (cI, 8, .inl a1_bends_notes)), (q_a1_bends_words, .inl (cI, 8, .inl a1_bends_words)), (q_a1_bends_mud, .inl (cI, 8, .inl a1_bends_mud)), (q_a0_felt, .inr (1, [.ref q_a0_felt_holds, .int u_8])), (q_a0_felt_holds, .inl (cI, 3, .inl u_7)), (q_a1_felt, .inr (1, [.ref q_a1_felt_holds, .int a1_felt_size])), (q_a1_felt_holds, .inl (cI, 3, .inl a1_felt_holds)), (q_a0_paces, .inr (2, [.ref q_a0_paces_rows, .int u_10])), (q_a0_paces_rows, .inl (cI, 30, .inl u_9)), (q_a1_paces, .inr (2, [.ref q_a1_paces_rows, .int a1_paces_size])), (q_a1_paces_rows, .inl (cI, 30, .inl a1_paces_rows))]) (w1 := [(q_a0_past, .inr (3, [.ref q_a0_past_rows, .int u_12])), (q_a0_past_rows, .inl (cI, 88, .inl u_11)), (q_a1_past, .inr (3, [.ref q_a1_past_rows, .int a1_past_size])), (q_a1_past_rows, .inl (cI, 88, .inl a1_past_rows))]) hP hD [1, 2, 4, 5] [0, 3, 6, 7, 8, 9, 10, 11, 12, 13, 14, 15, 16, 17, 18, 19, 20, 21, 22, 23, 24, 25] rfl rfl (by decide) (by decide) hk1 hFc hP1 hD1
  clear hz1 hk1 hPc hDc hFc hP1 hD1
  generalize H1 = H at hP hS ⊢
  have hP : va_P D vwCl [(q_a0, .inr (5, [.ref q_a0_bends, .ref q_a0_felt, .ref q_a0_paces, .ref q_a0_past, .int a0_kind, .int a0_fog, .int a0_here, .int a0_seconds, .int a0_crashes])), (q_a1, .inr (5, [.ref q_a1_bends, .ref q_a1_felt, .ref q_a1_paces, .ref q_a1_past, .int a1_kind, .int a1_fog, .int a1_here, .int a1_seconds, .int a1_crashes])), (q_a0_bends, .inr (0, [.ref q_a0_bends_yards, .ref q_a0_bends_truth, .ref q_a0_bends_notes, .ref q_a0_bends_words, .ref q_a0_bends_mud, .int u_6])), (q_a0_bends_yards, .inl (cI, 8, .inl u_1)), (q_a0_bends_truth, .inl (cI, 8, .inl u_2)), (q_a0_bends_notes, .inl (cI, 8, .inl u_3)), (q_a0_bends_words, .inl (cI, 8, .inl u_4)), (q_a0_bends_mud, .inl (cI, 8, .inl u_5)), (q_a1_bends, .inr (0, [.ref q_a1_bends_yards, .ref q_a1_bends_truth, .ref q_a1_bends_notes, .ref q_a1_bends_words, .ref q_a1_bends_mud, .int a1_bends_size])), (q_a1_bends_yards, .inl (cI, 8, .inl a1_bends_yards)), (q_a1_bends_truth, .inl (cI, 8, .inl a1_bends_truth)), (q_a1_bends_notes, .inl (cI, 8, .inl a1_bends_notes)), (q_a1_bends_words, .inl (cI, 8, .inl a1_bends_words)), (q_a1_bends_mud, .inl (cI, 8, .inl a1_bends_mud)), (q_a0_felt, .inr (1, [.ref q_a0_felt_holds, .int u_8])), (q_a0_felt_holds, .inl (cI, 3, .inl u_7)), (q_a1_felt, .inr (1, [.ref q_a1_felt_holds, .int a1_felt_size])), (q_a1_felt_holds, .inl (cI, 3, .inl a1_felt_holds)), (q_a0_paces, .inr (2, [.ref q_a0_paces_rows, .int u_10])), (q_a0_paces_rows, .inl (cI, 30, .inl u_9)), (q_a1_paces, .inr (2, [.ref q_a1_paces_rows, .int a1_paces_size])), (q_a1_paces_rows, .inl (cI, 30, .inl a1_paces_rows)), (q_a0_past, .inr (3, [.ref q_a0_past_rows, .int u_12])), (q_a0_past_rows, .inl (cI, 88, .inl u_11)), (q_a1_past, .inr (3, [.ref q_a1_past_rows, .int a1_past_size])), (q_a1_past_rows, .inl (cI, 88, .inl a1_past_rows))] H := hP
  have hD : va_D A [(q_a0, .inr (5, [.ref q_a0_bends, .ref q_a0_felt, .ref q_a0_paces, .ref q_a0_past, .int a0_kind, .int a0_fog, .int a0_here, .int a0_seconds, .int a0_crashes])), (q_a1, .inr (5, [.ref q_a1_bends, .ref q_a1_felt, .ref q_a1_paces, .ref q_a1_past, .int a1_kind, .int a1_fog, .int a1_here, .int a1_seconds, .int a1_crashes])), (q_a0_bends, .inr (0, [.ref q_a0_bends_yards, .ref q_a0_bends_truth, .ref q_a0_bends_notes, .ref q_a0_bends_words, .ref q_a0_bends_mud, .int u_6])), (q_a0_bends_yards, .inl (cI, 8, .inl u_1)), (q_a0_bends_truth, .inl (cI, 8, .inl u_2)), (q_a0_bends_notes, .inl (cI, 8, .inl u_3)), (q_a0_bends_words, .inl (cI, 8, .inl u_4)), (q_a0_bends_mud, .inl (cI, 8, .inl u_5)), (q_a1_bends, .inr (0, [.ref q_a1_bends_yards, .ref q_a1_bends_truth, .ref q_a1_bends_notes, .ref q_a1_bends_words, .ref q_a1_bends_mud, .int a1_bends_size])), (q_a1_bends_yards, .inl (cI, 8, .inl a1_bends_yards)), (q_a1_bends_truth, .inl (cI, 8, .inl a1_bends_truth)), (q_a1_bends_notes, .inl (cI, 8, .inl a1_bends_notes)), (q_a1_bends_words, .inl (cI, 8, .inl a1_bends_words)), (q_a1_bends_mud, .inl (cI, 8, .inl a1_bends_mud)), (q_a0_felt, .inr (1, [.ref q_a0_felt_holds, .int u_8])), (q_a0_felt_holds, .inl (cI, 3, .inl u_7)), (q_a1_felt, .inr (1, [.ref q_a1_felt_holds, .int a1_felt_size])), (q_a1_felt_holds, .inl (cI, 3, .inl a1_felt_holds)), (q_a0_paces, .inr (2, [.ref q_a0_paces_rows, .int u_10])), (q_a0_paces_rows, .inl (cI, 30, .inl u_9)), (q_a1_paces, .inr (2, [.ref q_a1_paces_rows, .int a1_paces_size])), (q_a1_paces_rows, .inl (cI, 30, .inl a1_paces_rows)), (q_a0_past, .inr (3, [.ref q_a0_past_rows, .int u_12])), (q_a0_past_rows, .inl (cI, 88, .inl u_11)), (q_a1_past, .inr (3, [.ref q_a1_past_rows, .int a1_past_size])), (q_a1_past_rows, .inl (cI, 88, .inl a1_past_rows))] := hD
  refine lv_aload_n hx hb dX6_take_44 rfl (lv_at hl 0 rfl) ?_
  refine lv_aload_n hx hb dX6_take_45 rfl (lv_at hl 1 rfl) ?_
  refine va_get (D := D) (ci := 5) (v := .int a1_kind) (C := RX6) (T := TX6) (N := 9) hx hb hts in_X6 hown hK hP 1 rfl rfl 4 (by decide) kf_37 (fun _ h9 => h9) rfl dX6_take_46 ?_
  refine va_put (D := D) (ci := 5) (v := .int a1_kind) (ty := .int) (C := RX6) (T := TX6) (N := 9) hx hb hts in_X6 tyX6 tyX6_ok nmX6 hown hK hP hD hS 0 rfl rfl 4 (by decide) kf_37 (fun _ h9 => h9) rfl (by decide +kernel) rfl rfl (Nat.le_of_ble_eq_true rfl) dX6_take_49 (fun H locs hP hD hS => ?_)
  have hP : va_P D vwCl [(q_a0, .inr (5, [.ref q_a0_bends, .ref q_a0_felt, .ref q_a0_paces, .ref q_a0_past, .int a1_kind, .int a0_fog, .int a0_here, .int a0_seconds, .int a0_crashes])), (q_a1, .inr (5, [.ref q_a1_bends, .ref q_a1_felt, .ref q_a1_paces, .ref q_a1_past, .int a1_kind, .int a1_fog, .int a1_here, .int a1_seconds, .int a1_crashes])), (q_a0_bends, .inr (0, [.ref q_a0_bends_yards, .ref q_a0_bends_truth, .ref q_a0_bends_notes, .ref q_a0_bends_words, .ref q_a0_bends_mud, .int u_6])), (q_a0_bends_yards, .inl (cI, 8, .inl u_1)), (q_a0_bends_truth, .inl (cI, 8, .inl u_2)), (q_a0_bends_notes, .inl (cI, 8, .inl u_3)), (q_a0_bends_words, .inl (cI, 8, .inl u_4)), (q_a0_bends_mud, .inl (cI, 8, .inl u_5)), (q_a1_bends, .inr (0, [.ref q_a1_bends_yards, .ref q_a1_bends_truth, .ref q_a1_bends_notes, .ref q_a1_bends_words, .ref q_a1_bends_mud, .int a1_bends_size])), (q_a1_bends_yards, .inl (cI, 8, .inl a1_bends_yards)), (q_a1_bends_truth, .inl (cI, 8, .inl a1_bends_truth)), (q_a1_bends_notes, .inl (cI, 8, .inl a1_bends_notes)), (q_a1_bends_words, .inl (cI, 8, .inl a1_bends_words)), (q_a1_bends_mud, .inl (cI, 8, .inl a1_bends_mud)), (q_a0_felt, .inr (1, [.ref q_a0_felt_holds, .int u_8])), (q_a0_felt_holds, .inl (cI, 3, .inl u_7)), (q_a1_felt, .inr (1, [.ref q_a1_felt_holds, .int a1_felt_size])), (q_a1_felt_holds, .inl (cI, 3, .inl a1_felt_holds)), (q_a0_paces, .inr (2, [.ref q_a0_paces_rows, .int u_10])), (q_a0_paces_rows, .inl (cI, 30, .inl u_9)), (q_a1_paces, .inr (2, [.ref q_a1_paces_rows, .int a1_paces_size])), (q_a1_paces_rows, .inl (cI, 30, .inl a1_paces_rows)), (q_a0_past, .inr (3, [.ref q_a0_past_rows, .int u_12])), (q_a0_past_rows, .inl (cI, 88, .inl u_11)), (q_a1_past, .inr (3, [.ref q_a1_past_rows, .int a1_past_size])), (q_a1_past_rows, .inl (cI, 88, .inl a1_past_rows))] H := hP
  have hD : va_D A [(q_a0, .inr (5, [.ref q_a0_bends, .ref q_a0_felt, .ref q_a0_paces, .ref q_a0_past, .int a1_kind, .int a0_fog, .int a0_here, .int a0_seconds, .int a0_crashes])), (q_a1, .inr (5, [.ref q_a1_bends, .ref q_a1_felt, .ref q_a1_paces, .ref q_a1_past, .int a1_kind, .int a1_fog, .int a1_here, .int a1_seconds, .int a1_crashes])), (q_a0_bends, .inr (0, [.ref q_a0_bends_yards, .ref q_a0_bends_truth, .ref q_a0_bends_notes, .ref q_a0_bends_words, .ref q_a0_bends_mud, .int u_6])), (q_a0_bends_yards, .inl (cI, 8, .inl u_1)), (q_a0_bends_truth, .inl (cI, 8, .inl u_2)), (q_a0_bends_notes, .inl (cI, 8, .inl u_3)), (q_a0_bends_words, .inl (cI, 8, .inl u_4)), (q_a0_bends_mud, .inl (cI, 8, .inl u_5)), (q_a1_bends, .inr (0, [.ref q_a1_bends_yards, .ref q_a1_bends_truth, .ref q_a1_bends_notes, .ref q_a1_bends_words, .ref q_a1_bends_mud, .int a1_bends_size])), (q_a1_bends_yards, .inl (cI, 8, .inl a1_bends_yards)), (q_a1_bends_truth, .inl (cI, 8, .inl a1_bends_truth)), (q_a1_bends_notes, .inl (cI, 8, .inl a1_bends_notes)), (q_a1_bends_words, .inl (cI, 8, .inl a1_bends_words)), (q_a1_bends_mud, .inl (cI, 8, .inl a1_bends_mud)), (q_a0_felt, .inr (1, [.ref q_a0_felt_holds, .int u_8])), (q_a0_felt_holds, .inl (cI, 3, .inl u_7)), (q_a1_felt, .inr (1, [.ref q_a1_felt_holds, .int a1_felt_size])), (q_a1_felt_holds, .inl (cI, 3, .inl a1_felt_holds)), (q_a0_paces, .inr (2, [.ref q_a0_paces_rows, .int u_10])), (q_a0_paces_rows, .inl (cI, 30, .inl u_9)), (q_a1_paces, .inr (2, [.ref q_a1_paces_rows, .int a1_paces_size])), (q_a1_paces_rows, .inl (cI, 30, .inl a1_paces_rows)), (q_a0_past, .inr (3, [.ref q_a0_past_rows, .int u_12])), (q_a0_past_rows, .inl (cI, 88, .inl u_11)), (q_a1_past, .inr (3, [.ref q_a1_past_rows, .int a1_past_size])), (q_a1_past_rows, .inl (cI, 88, .inl a1_past_rows))] := hD
  refine lv_aload_n hx hb dX6_take_52 rfl (lv_at hl 0 rfl) ?_
  refine lv_aload_n hx hb dX6_take_53 rfl (lv_at hl 1 rfl) ?_
  refine va_get (D := D) (ci := 5) (v := .int a1_fog) (C := RX6) (T := TX6) (N := 9) hx hb hts in_X6 hown hK hP 1 rfl rfl 5 (by decide) kf_41 (fun _ h9 => h9) rfl dX6_take_54 ?_
  refine va_put (D := D) (ci := 5) (v := .int a1_fog) (ty := .int) (C := RX6) (T := TX6) (N := 9) hx hb hts in_X6 tyX6 tyX6_ok nmX6 hown hK hP hD hS 0 rfl rfl 5 (by decide) kf_41 (fun _ h9 => h9) rfl (by decide +kernel) rfl rfl (Nat.le_of_ble_eq_true rfl) dX6_take_57 (fun H locs hP hD hS => ?_)
  have hP : va_P D vwCl [(q_a0, .inr (5, [.ref q_a0_bends, .ref q_a0_felt, .ref q_a0_paces, .ref q_a0_past, .int a1_kind, .int a1_fog, .int a0_here, .int a0_seconds, .int a0_crashes])), (q_a1, .inr (5, [.ref q_a1_bends, .ref q_a1_felt, .ref q_a1_paces, .ref q_a1_past, .int a1_kind, .int a1_fog, .int a1_here, .int a1_seconds, .int a1_crashes])), (q_a0_bends, .inr (0, [.ref q_a0_bends_yards, .ref q_a0_bends_truth, .ref q_a0_bends_notes, .ref q_a0_bends_words, .ref q_a0_bends_mud, .int u_6])), (q_a0_bends_yards, .inl (cI, 8, .inl u_1)), (q_a0_bends_truth, .inl (cI, 8, .inl u_2)), (q_a0_bends_notes, .inl (cI, 8, .inl u_3)), (q_a0_bends_words, .inl (cI, 8, .inl u_4)), (q_a0_bends_mud, .inl (cI, 8, .inl u_5)), (q_a1_bends, .inr (0, [.ref q_a1_bends_yards, .ref q_a1_bends_truth, .ref q_a1_bends_notes, .ref q_a1_bends_words, .ref q_a1_bends_mud, .int a1_bends_size])), (q_a1_bends_yards, .inl (cI, 8, .inl a1_bends_yards)), (q_a1_bends_truth, .inl (cI, 8, .inl a1_bends_truth)), (q_a1_bends_notes, .inl (cI, 8, .inl a1_bends_notes)), (q_a1_bends_words, .inl (cI, 8, .inl a1_bends_words)), (q_a1_bends_mud, .inl (cI, 8, .inl a1_bends_mud)), (q_a0_felt, .inr (1, [.ref q_a0_felt_holds, .int u_8])), (q_a0_felt_holds, .inl (cI, 3, .inl u_7)), (q_a1_felt, .inr (1, [.ref q_a1_felt_holds, .int a1_felt_size])), (q_a1_felt_holds, .inl (cI, 3, .inl a1_felt_holds)), (q_a0_paces, .inr (2, [.ref q_a0_paces_rows, .int u_10])), (q_a0_paces_rows, .inl (cI, 30, .inl u_9)), (q_a1_paces, .inr (2, [.ref q_a1_paces_rows, .int a1_paces_size])), (q_a1_paces_rows, .inl (cI, 30, .inl a1_paces_rows)), (q_a0_past, .inr (3, [.ref q_a0_past_rows, .int u_12])), (q_a0_past_rows, .inl (cI, 88, .inl u_11)), (q_a1_past, .inr (3, [.ref q_a1_past_rows, .int a1_past_size])), (q_a1_past_rows, .inl (cI, 88, .inl a1_past_rows))] H := hP
  have hD : va_D A [(q_a0, .inr (5, [.ref q_a0_bends, .ref q_a0_felt, .ref q_a0_paces, .ref q_a0_past, .int a1_kind, .int a1_fog, .int a0_here, .int a0_seconds, .int a0_crashes])), (q_a1, .inr (5, [.ref q_a1_bends, .ref q_a1_felt, .ref q_a1_paces, .ref q_a1_past, .int a1_kind, .int a1_fog, .int a1_here, .int a1_seconds, .int a1_crashes])), (q_a0_bends, .inr (0, [.ref q_a0_bends_yards, .ref q_a0_bends_truth, .ref q_a0_bends_notes, .ref q_a0_bends_words, .ref q_a0_bends_mud, .int u_6])), (q_a0_bends_yards, .inl (cI, 8, .inl u_1)), (q_a0_bends_truth, .inl (cI, 8, .inl u_2)), (q_a0_bends_notes, .inl (cI, 8, .inl u_3)), (q_a0_bends_words, .inl (cI, 8, .inl u_4)), (q_a0_bends_mud, .inl (cI, 8, .inl u_5)), (q_a1_bends, .inr (0, [.ref q_a1_bends_yards, .ref q_a1_bends_truth, .ref q_a1_bends_notes, .ref q_a1_bends_words, .ref q_a1_bends_mud, .int a1_bends_size])), (q_a1_bends_yards, .inl (cI, 8, .inl a1_bends_yards)), (q_a1_bends_truth, .inl (cI, 8, .inl a1_bends_truth)), (q_a1_bends_notes, .inl (cI, 8, .inl a1_bends_notes)), (q_a1_bends_words, .inl (cI, 8, .inl a1_bends_words)), (q_a1_bends_mud, .inl (cI, 8, .inl a1_bends_mud)), (q_a0_felt, .inr (1, [.ref q_a0_felt_holds, .int u_8])), (q_a0_felt_holds, .inl (cI, 3, .inl u_7)), (q_a1_felt, .inr (1, [.ref q_a1_felt_holds, .int a1_felt_size])), (q_a1_felt_holds, .inl (cI, 3, .inl a1_felt_holds)), (q_a0_paces, .inr (2, [.ref q_a0_paces_rows, .int u_10])), (q_a0_paces_rows, .inl (cI, 30, .inl u_9)), (q_a1_paces, .inr (2, [.ref q_a1_paces_rows, .int a1_paces_size])), (q_a1_paces_rows, .inl (cI, 30, .inl a1_paces_rows)), (q_a0_past, .inr (3, [.ref q_a0_past_rows, .int u_12])), (q_a0_past_rows, .inl (cI, 88, .inl u_11)), (q_a1_past, .inr (3, [.ref q_a1_past_rows, .int a1_past_size])), (q_a1_past_rows, .inl (cI, 88, .inl a1_past_rows))] := hD
  refine lv_aload_n hx hb dX6_take_60 rfl (lv_at hl 0 rfl) ?_
  refine lv_aload_n hx hb dX6_take_61 rfl (lv_at hl 1 rfl) ?_
  refine va_get (D := D) (ci := 5) (v := .int a1_here) (C := RX6) (T := TX6) (N := 9) hx hb hts in_X6 hown hK hP 1 rfl rfl 6 (by decide) kf_44 (fun _ h9 => h9) rfl dX6_take_62 ?_
  refine va_put (D := D) (ci := 5) (v := .int a1_here) (ty := .int) (C := RX6) (T := TX6) (N := 9) hx hb hts in_X6 tyX6 tyX6_ok nmX6 hown hK hP hD hS 0 rfl rfl 6 (by decide) kf_44 (fun _ h9 => h9) rfl (by decide +kernel) rfl rfl (Nat.le_of_ble_eq_true rfl) dX6_take_65 (fun H locs hP hD hS => ?_)
  have hP : va_P D vwCl [(q_a0, .inr (5, [.ref q_a0_bends, .ref q_a0_felt, .ref q_a0_paces, .ref q_a0_past, .int a1_kind, .int a1_fog, .int a1_here, .int a0_seconds, .int a0_crashes])), (q_a1, .inr (5, [.ref q_a1_bends, .ref q_a1_felt, .ref q_a1_paces, .ref q_a1_past, .int a1_kind, .int a1_fog, .int a1_here, .int a1_seconds, .int a1_crashes])), (q_a0_bends, .inr (0, [.ref q_a0_bends_yards, .ref q_a0_bends_truth, .ref q_a0_bends_notes, .ref q_a0_bends_words, .ref q_a0_bends_mud, .int u_6])), (q_a0_bends_yards, .inl (cI, 8, .inl u_1)), (q_a0_bends_truth, .inl (cI, 8, .inl u_2)), (q_a0_bends_notes, .inl (cI, 8, .inl u_3)), (q_a0_bends_words, .inl (cI, 8, .inl u_4)), (q_a0_bends_mud, .inl (cI, 8, .inl u_5)), (q_a1_bends, .inr (0, [.ref q_a1_bends_yards, .ref q_a1_bends_truth, .ref q_a1_bends_notes, .ref q_a1_bends_words, .ref q_a1_bends_mud, .int a1_bends_size])), (q_a1_bends_yards, .inl (cI, 8, .inl a1_bends_yards)), (q_a1_bends_truth, .inl (cI, 8, .inl a1_bends_truth)), (q_a1_bends_notes, .inl (cI, 8, .inl a1_bends_notes)), (q_a1_bends_words, .inl (cI, 8, .inl a1_bends_words)), (q_a1_bends_mud, .inl (cI, 8, .inl a1_bends_mud)), (q_a0_felt, .inr (1, [.ref q_a0_felt_holds, .int u_8])), (q_a0_felt_holds, .inl (cI, 3, .inl u_7)), (q_a1_felt, .inr (1, [.ref q_a1_felt_holds, .int a1_felt_size])), (q_a1_felt_holds, .inl (cI, 3, .inl a1_felt_holds)), (q_a0_paces, .inr (2, [.ref q_a0_paces_rows, .int u_10])), (q_a0_paces_rows, .inl (cI, 30, .inl u_9)), (q_a1_paces, .inr (2, [.ref q_a1_paces_rows, .int a1_paces_size])), (q_a1_paces_rows, .inl (cI, 30, .inl a1_paces_rows)), (q_a0_past, .inr (3, [.ref q_a0_past_rows, .int u_12])), (q_a0_past_rows, .inl (cI, 88, .inl u_11)), (q_a1_past, .inr (3, [.ref q_a1_past_rows, .int a1_past_size])), (q_a1_past_rows, .inl (cI, 88, .inl a1_past_rows))] H := hP
  have hD : va_D A [(q_a0, .inr (5, [.ref q_a0_bends, .ref q_a0_felt, .ref q_a0_paces, .ref q_a0_past, .int a1_kind, .int a1_fog, .int a1_here, .int a0_seconds, .int a0_crashes])), (q_a1, .inr (5, [.ref q_a1_bends, .ref q_a1_felt, .ref q_a1_paces, .ref q_a1_past, .int a1_kind, .int a1_fog, .int a1_here, .int a1_seconds, .int a1_crashes])), (q_a0_bends, .inr (0, [.ref q_a0_bends_yards, .ref q_a0_bends_truth, .ref q_a0_bends_notes, .ref q_a0_bends_words, .ref q_a0_bends_mud, .int u_6])), (q_a0_bends_yards, .inl (cI, 8, .inl u_1)), (q_a0_bends_truth, .inl (cI, 8, .inl u_2)), (q_a0_bends_notes, .inl (cI, 8, .inl u_3)), (q_a0_bends_words, .inl (cI, 8, .inl u_4)), (q_a0_bends_mud, .inl (cI, 8, .inl u_5)), (q_a1_bends, .inr (0, [.ref q_a1_bends_yards, .ref q_a1_bends_truth, .ref q_a1_bends_notes, .ref q_a1_bends_words, .ref q_a1_bends_mud, .int a1_bends_size])), (q_a1_bends_yards, .inl (cI, 8, .inl a1_bends_yards)), (q_a1_bends_truth, .inl (cI, 8, .inl a1_bends_truth)), (q_a1_bends_notes, .inl (cI, 8, .inl a1_bends_notes)), (q_a1_bends_words, .inl (cI, 8, .inl a1_bends_words)), (q_a1_bends_mud, .inl (cI, 8, .inl a1_bends_mud)), (q_a0_felt, .inr (1, [.ref q_a0_felt_holds, .int u_8])), (q_a0_felt_holds, .inl (cI, 3, .inl u_7)), (q_a1_felt, .inr (1, [.ref q_a1_felt_holds, .int a1_felt_size])), (q_a1_felt_holds, .inl (cI, 3, .inl a1_felt_holds)), (q_a0_paces, .inr (2, [.ref q_a0_paces_rows, .int u_10])), (q_a0_paces_rows, .inl (cI, 30, .inl u_9)), (q_a1_paces, .inr (2, [.ref q_a1_paces_rows, .int a1_paces_size])), (q_a1_paces_rows, .inl (cI, 30, .inl a1_paces_rows)), (q_a0_past, .inr (3, [.ref q_a0_past_rows, .int u_12])), (q_a0_past_rows, .inl (cI, 88, .inl u_11)), (q_a1_past, .inr (3, [.ref q_a1_past_rows, .int a1_past_size])), (q_a1_past_rows, .inl (cI, 88, .inl a1_past_rows))] := hD
  refine lv_aload_n hx hb dX6_take_68 rfl (lv_at hl 0 rfl) ?_
  refine lv_aload_n hx hb dX6_take_69 rfl (lv_at hl 1 rfl) ?_
  refine va_get (D := D) (ci := 5) (v := .int a1_seconds) (C := RX6) (T := TX6) (N := 9) hx hb hts in_X6 hown hK hP 1 rfl rfl 7 (by decide) kf_47 (fun _ h9 => h9) rfl dX6_take_70 ?_
  refine va_put (D := D) (ci := 5) (v := .int a1_seconds) (ty := .int) (C := RX6) (T := TX6) (N := 9) hx hb hts in_X6 tyX6 tyX6_ok nmX6 hown hK hP hD hS 0 rfl rfl 7 (by decide) kf_47 (fun _ h9 => h9) rfl (by decide +kernel) rfl rfl (Nat.le_of_ble_eq_true rfl) dX6_take_73 (fun H locs hP hD hS => ?_)
  have hP : va_P D vwCl [(q_a0, .inr (5, [.ref q_a0_bends, .ref q_a0_felt, .ref q_a0_paces, .ref q_a0_past, .int a1_kind, .int a1_fog, .int a1_here, .int a1_seconds, .int a0_crashes])), (q_a1, .inr (5, [.ref q_a1_bends, .ref q_a1_felt, .ref q_a1_paces, .ref q_a1_past, .int a1_kind, .int a1_fog, .int a1_here, .int a1_seconds, .int a1_crashes])), (q_a0_bends, .inr (0, [.ref q_a0_bends_yards, .ref q_a0_bends_truth, .ref q_a0_bends_notes, .ref q_a0_bends_words, .ref q_a0_bends_mud, .int u_6])), (q_a0_bends_yards, .inl (cI, 8, .inl u_1)), (q_a0_bends_truth, .inl (cI, 8, .inl u_2)), (q_a0_bends_notes, .inl (cI, 8, .inl u_3)), (q_a0_bends_words, .inl (cI, 8, .inl u_4)), (q_a0_bends_mud, .inl (cI, 8, .inl u_5)), (q_a1_bends, .inr (0, [.ref q_a1_bends_yards, .ref q_a1_bends_truth, .ref q_a1_bends_notes, .ref q_a1_bends_words, .ref q_a1_bends_mud, .int a1_bends_size])), (q_a1_bends_yards, .inl (cI, 8, .inl a1_bends_yards)), (q_a1_bends_truth, .inl (cI, 8, .inl a1_bends_truth)), (q_a1_bends_notes, .inl (cI, 8, .inl a1_bends_notes)), (q_a1_bends_words, .inl (cI, 8, .inl a1_bends_words)), (q_a1_bends_mud, .inl (cI, 8, .inl a1_bends_mud)), (q_a0_felt, .inr (1, [.ref q_a0_felt_holds, .int u_8])), (q_a0_felt_holds, .inl (cI, 3, .inl u_7)), (q_a1_felt, .inr (1, [.ref q_a1_felt_holds, .int a1_felt_size])), (q_a1_felt_holds, .inl (cI, 3, .inl a1_felt_holds)), (q_a0_paces, .inr (2, [.ref q_a0_paces_rows, .int u_10])), (q_a0_paces_rows, .inl (cI, 30, .inl u_9)), (q_a1_paces, .inr (2, [.ref q_a1_paces_rows, .int a1_paces_size])), (q_a1_paces_rows, .inl (cI, 30, .inl a1_paces_rows)), (q_a0_past, .inr (3, [.ref q_a0_past_rows, .int u_12])), (q_a0_past_rows, .inl (cI, 88, .inl u_11)), (q_a1_past, .inr (3, [.ref q_a1_past_rows, .int a1_past_size])), (q_a1_past_rows, .inl (cI, 88, .inl a1_past_rows))] H := hP
  have hD : va_D A [(q_a0, .inr (5, [.ref q_a0_bends, .ref q_a0_felt, .ref q_a0_paces, .ref q_a0_past, .int a1_kind, .int a1_fog, .int a1_here, .int a1_seconds, .int a0_crashes])), (q_a1, .inr (5, [.ref q_a1_bends, .ref q_a1_felt, .ref q_a1_paces, .ref q_a1_past, .int a1_kind, .int a1_fog, .int a1_here, .int a1_seconds, .int a1_crashes])), (q_a0_bends, .inr (0, [.ref q_a0_bends_yards, .ref q_a0_bends_truth, .ref q_a0_bends_notes, .ref q_a0_bends_words, .ref q_a0_bends_mud, .int u_6])), (q_a0_bends_yards, .inl (cI, 8, .inl u_1)), (q_a0_bends_truth, .inl (cI, 8, .inl u_2)), (q_a0_bends_notes, .inl (cI, 8, .inl u_3)), (q_a0_bends_words, .inl (cI, 8, .inl u_4)), (q_a0_bends_mud, .inl (cI, 8, .inl u_5)), (q_a1_bends, .inr (0, [.ref q_a1_bends_yards, .ref q_a1_bends_truth, .ref q_a1_bends_notes, .ref q_a1_bends_words, .ref q_a1_bends_mud, .int a1_bends_size])), (q_a1_bends_yards, .inl (cI, 8, .inl a1_bends_yards)), (q_a1_bends_truth, .inl (cI, 8, .inl a1_bends_truth)), (q_a1_bends_notes, .inl (cI, 8, .inl a1_bends_notes)), (q_a1_bends_words, .inl (cI, 8, .inl a1_bends_words)), (q_a1_bends_mud, .inl (cI, 8, .inl a1_bends_mud)), (q_a0_felt, .inr (1, [.ref q_a0_felt_holds, .int u_8])), (q_a0_felt_holds, .inl (cI, 3, .inl u_7)), (q_a1_felt, .inr (1, [.ref q_a1_felt_holds, .int a1_felt_size])), (q_a1_felt_holds, .inl (cI, 3, .inl a1_felt_holds)), (q_a0_paces, .inr (2, [.ref q_a0_paces_rows, .int u_10])), (q_a0_paces_rows, .inl (cI, 30, .inl u_9)), (q_a1_paces, .inr (2, [.ref q_a1_paces_rows, .int a1_paces_size])), (q_a1_paces_rows, .inl (cI, 30, .inl a1_paces_rows)), (q_a0_past, .inr (3, [.ref q_a0_past_rows, .int u_12])), (q_a0_past_rows, .inl (cI, 88, .inl u_11)), (q_a1_past, .inr (3, [.ref q_a1_past_rows, .int a1_past_size])), (q_a1_past_rows, .inl (cI, 88, .inl a1_past_rows))] := hD
  refine lv_aload_n hx hb dX6_take_76 rfl (lv_at hl 0 rfl) ?_
  refine lv_aload_n hx hb dX6_take_77 rfl (lv_at hl 1 rfl) ?_
  refine va_get (D := D) (ci := 5) (v := .int a1_crashes) (C := RX6) (T := TX6) (N := 9) hx hb hts in_X6 hown hK hP 1 rfl rfl 8 (by decide) kf_50 (fun _ h9 => h9) rfl dX6_take_78 ?_
  refine va_put (D := D) (ci := 5) (v := .int a1_crashes) (ty := .int) (C := RX6) (T := TX6) (N := 9) hx hb hts in_X6 tyX6 tyX6_ok nmX6 hown hK hP hD hS 0 rfl rfl 8 (by decide) kf_50 (fun _ h9 => h9) rfl (by decide +kernel) rfl rfl (Nat.le_of_ble_eq_true rfl) dX6_take_81 (fun H locs hP hD hS => ?_)
  have hP : va_P D vwCl [(q_a0, .inr (5, [.ref q_a0_bends, .ref q_a0_felt, .ref q_a0_paces, .ref q_a0_past, .int a1_kind, .int a1_fog, .int a1_here, .int a1_seconds, .int a1_crashes])), (q_a1, .inr (5, [.ref q_a1_bends, .ref q_a1_felt, .ref q_a1_paces, .ref q_a1_past, .int a1_kind, .int a1_fog, .int a1_here, .int a1_seconds, .int a1_crashes])), (q_a0_bends, .inr (0, [.ref q_a0_bends_yards, .ref q_a0_bends_truth, .ref q_a0_bends_notes, .ref q_a0_bends_words, .ref q_a0_bends_mud, .int u_6])), (q_a0_bends_yards, .inl (cI, 8, .inl u_1)), (q_a0_bends_truth, .inl (cI, 8, .inl u_2)), (q_a0_bends_notes, .inl (cI, 8, .inl u_3)), (q_a0_bends_words, .inl (cI, 8, .inl u_4)), (q_a0_bends_mud, .inl (cI, 8, .inl u_5)), (q_a1_bends, .inr (0, [.ref q_a1_bends_yards, .ref q_a1_bends_truth, .ref q_a1_bends_notes, .ref q_a1_bends_words, .ref q_a1_bends_mud, .int a1_bends_size])), (q_a1_bends_yards, .inl (cI, 8, .inl a1_bends_yards)), (q_a1_bends_truth, .inl (cI, 8, .inl a1_bends_truth)), (q_a1_bends_notes, .inl (cI, 8, .inl a1_bends_notes)), (q_a1_bends_words, .inl (cI, 8, .inl a1_bends_words)), (q_a1_bends_mud, .inl (cI, 8, .inl a1_bends_mud)), (q_a0_felt, .inr (1, [.ref q_a0_felt_holds, .int u_8])), (q_a0_felt_holds, .inl (cI, 3, .inl u_7)), (q_a1_felt, .inr (1, [.ref q_a1_felt_holds, .int a1_felt_size])), (q_a1_felt_holds, .inl (cI, 3, .inl a1_felt_holds)), (q_a0_paces, .inr (2, [.ref q_a0_paces_rows, .int u_10])), (q_a0_paces_rows, .inl (cI, 30, .inl u_9)), (q_a1_paces, .inr (2, [.ref q_a1_paces_rows, .int a1_paces_size])), (q_a1_paces_rows, .inl (cI, 30, .inl a1_paces_rows)), (q_a0_past, .inr (3, [.ref q_a0_past_rows, .int u_12])), (q_a0_past_rows, .inl (cI, 88, .inl u_11)), (q_a1_past, .inr (3, [.ref q_a1_past_rows, .int a1_past_size])), (q_a1_past_rows, .inl (cI, 88, .inl a1_past_rows))] H := hP
  have hD : va_D A [(q_a0, .inr (5, [.ref q_a0_bends, .ref q_a0_felt, .ref q_a0_paces, .ref q_a0_past, .int a1_kind, .int a1_fog, .int a1_here, .int a1_seconds, .int a1_crashes])), (q_a1, .inr (5, [.ref q_a1_bends, .ref q_a1_felt, .ref q_a1_paces, .ref q_a1_past, .int a1_kind, .int a1_fog, .int a1_here, .int a1_seconds, .int a1_crashes])), (q_a0_bends, .inr (0, [.ref q_a0_bends_yards, .ref q_a0_bends_truth, .ref q_a0_bends_notes, .ref q_a0_bends_words, .ref q_a0_bends_mud, .int u_6])), (q_a0_bends_yards, .inl (cI, 8, .inl u_1)), (q_a0_bends_truth, .inl (cI, 8, .inl u_2)), (q_a0_bends_notes, .inl (cI, 8, .inl u_3)), (q_a0_bends_words, .inl (cI, 8, .inl u_4)), (q_a0_bends_mud, .inl (cI, 8, .inl u_5)), (q_a1_bends, .inr (0, [.ref q_a1_bends_yards, .ref q_a1_bends_truth, .ref q_a1_bends_notes, .ref q_a1_bends_words, .ref q_a1_bends_mud, .int a1_bends_size])), (q_a1_bends_yards, .inl (cI, 8, .inl a1_bends_yards)), (q_a1_bends_truth, .inl (cI, 8, .inl a1_bends_truth)), (q_a1_bends_notes, .inl (cI, 8, .inl a1_bends_notes)), (q_a1_bends_words, .inl (cI, 8, .inl a1_bends_words)), (q_a1_bends_mud, .inl (cI, 8, .inl a1_bends_mud)), (q_a0_felt, .inr (1, [.ref q_a0_felt_holds, .int u_8])), (q_a0_felt_holds, .inl (cI, 3, .inl u_7)), (q_a1_felt, .inr (1, [.ref q_a1_felt_holds, .int a1_felt_size])), (q_a1_felt_holds, .inl (cI, 3, .inl a1_felt_holds)), (q_a0_paces, .inr (2, [.ref q_a0_paces_rows, .int u_10])), (q_a0_paces_rows, .inl (cI, 30, .inl u_9)), (q_a1_paces, .inr (2, [.ref q_a1_paces_rows, .int a1_paces_size])), (q_a1_paces_rows, .inl (cI, 30, .inl a1_paces_rows)), (q_a0_past, .inr (3, [.ref q_a0_past_rows, .int u_12])), (q_a0_past_rows, .inl (cI, 88, .inl u_11)), (q_a1_past, .inr (3, [.ref q_a1_past_rows, .int a1_past_size])), (q_a1_past_rows, .inl (cI, 88, .inl a1_past_rows))] := hD
  subst hQQ
  have hP9 := hP.sub (ws' := [(q_a0, .inr (5, [.ref q_a0_bends, .ref q_a0_felt, .ref q_a0_paces, .ref q_a0_past, .int a1_kind, .int a1_fog, .int a1_here, .int a1_seconds, .int a1_crashes])), (q_a0_bends, .inr (0, [.ref q_a0_bends_yards, .ref q_a0_bends_truth, .ref q_a0_bends_notes, .ref q_a0_bends_words, .ref q_a0_bends_mud, .int u_6])), (q_a0_bends_yards, .inl (cI, 8, .inl u_1)), (q_a0_bends_truth, .inl (cI, 8, .inl u_2)), (q_a0_bends_notes, .inl (cI, 8, .inl u_3)), (q_a0_bends_words, .inl (cI, 8, .inl u_4)), (q_a0_bends_mud, .inl (cI, 8, .inl u_5)), (q_a0_felt, .inr (1, [.ref q_a0_felt_holds, .int u_8])), (q_a0_felt_holds, .inl (cI, 3, .inl u_7)), (q_a0_paces, .inr (2, [.ref q_a0_paces_rows, .int u_10])), (q_a0_paces_rows, .inl (cI, 30, .inl u_9)), (q_a0_past, .inr (3, [.ref q_a0_past_rows, .int u_12])), (q_a0_past_rows, .inl (cI, 88, .inl u_11)), (q_a1, .inr (5, [.ref q_a1_bends, .ref q_a1_felt, .ref q_a1_paces, .ref q_a1_past, .int a1_kind, .int a1_fog, .int a1_here, .int a1_seconds, .int a1_crashes])), (q_a1_bends, .inr (0, [.ref q_a1_bends_yards, .ref q_a1_bends_truth, .ref q_a1_bends_notes, .ref q_a1_bends_words, .ref q_a1_bends_mud, .int a1_bends_size])), (q_a1_bends_yards, .inl (cI, 8, .inl a1_bends_yards)), (q_a1_bends_truth, .inl (cI, 8, .inl a1_bends_truth)), (q_a1_bends_notes, .inl (cI, 8, .inl a1_bends_notes)), (q_a1_bends_words, .inl (cI, 8, .inl a1_bends_words)), (q_a1_bends_mud, .inl (cI, 8, .inl a1_bends_mud)), (q_a1_felt, .inr (1, [.ref q_a1_felt_holds, .int a1_felt_size])), (q_a1_felt_holds, .inl (cI, 3, .inl a1_felt_holds)), (q_a1_paces, .inr (2, [.ref q_a1_paces_rows, .int a1_paces_size])), (q_a1_paces_rows, .inl (cI, 30, .inl a1_paces_rows)), (q_a1_past, .inr (3, [.ref q_a1_past_rows, .int a1_past_size])), (q_a1_past_rows, .inl (cI, 88, .inl a1_past_rows))]) [0, 2, 3, 4, 5, 6, 7, 14, 15, 18, 19, 22, 23, 1, 8, 9, 10, 11, 12, 13, 16, 17, 20, 21, 24, 25] rfl
  have hD9 := hD.sub (ws' := [(q_a0, .inr (5, [.ref q_a0_bends, .ref q_a0_felt, .ref q_a0_paces, .ref q_a0_past, .int a1_kind, .int a1_fog, .int a1_here, .int a1_seconds, .int a1_crashes])), (q_a0_bends, .inr (0, [.ref q_a0_bends_yards, .ref q_a0_bends_truth, .ref q_a0_bends_notes, .ref q_a0_bends_words, .ref q_a0_bends_mud, .int u_6])), (q_a0_bends_yards, .inl (cI, 8, .inl u_1)), (q_a0_bends_truth, .inl (cI, 8, .inl u_2)), (q_a0_bends_notes, .inl (cI, 8, .inl u_3)), (q_a0_bends_words, .inl (cI, 8, .inl u_4)), (q_a0_bends_mud, .inl (cI, 8, .inl u_5)), (q_a0_felt, .inr (1, [.ref q_a0_felt_holds, .int u_8])), (q_a0_felt_holds, .inl (cI, 3, .inl u_7)), (q_a0_paces, .inr (2, [.ref q_a0_paces_rows, .int u_10])), (q_a0_paces_rows, .inl (cI, 30, .inl u_9)), (q_a0_past, .inr (3, [.ref q_a0_past_rows, .int u_12])), (q_a0_past_rows, .inl (cI, 88, .inl u_11)), (q_a1, .inr (5, [.ref q_a1_bends, .ref q_a1_felt, .ref q_a1_paces, .ref q_a1_past, .int a1_kind, .int a1_fog, .int a1_here, .int a1_seconds, .int a1_crashes])), (q_a1_bends, .inr (0, [.ref q_a1_bends_yards, .ref q_a1_bends_truth, .ref q_a1_bends_notes, .ref q_a1_bends_words, .ref q_a1_bends_mud, .int a1_bends_size])), (q_a1_bends_yards, .inl (cI, 8, .inl a1_bends_yards)), (q_a1_bends_truth, .inl (cI, 8, .inl a1_bends_truth)), (q_a1_bends_notes, .inl (cI, 8, .inl a1_bends_notes)), (q_a1_bends_words, .inl (cI, 8, .inl a1_bends_words)), (q_a1_bends_mud, .inl (cI, 8, .inl a1_bends_mud)), (q_a1_felt, .inr (1, [.ref q_a1_felt_holds, .int a1_felt_size])), (q_a1_felt_holds, .inl (cI, 3, .inl a1_felt_holds)), (q_a1_paces, .inr (2, [.ref q_a1_paces_rows, .int a1_paces_size])), (q_a1_paces_rows, .inl (cI, 30, .inl a1_paces_rows)), (q_a1_past, .inr (3, [.ref q_a1_past_rows, .int a1_past_size])), (q_a1_past_rows, .inl (cI, 88, .inl a1_past_rows))]) [0, 2, 3, 4, 5, 6, 7, 14, 15, 18, 19, 22, 23, 1, 8, 9, 10, 11, 12, 13, 16, 17, 20, 21, 24, 25] (by decide) rfl
  exact W.vret hx hb hr (fun t ht hW => ⟨⟨(u_1, u_2, u_3, u_4, u_5, u_6, u_7, u_8, u_9, u_10, u_11, u_12, a1_kind, a1_fog, a1_here, a1_seconds, a1_crashes), rfl, hf, by rw [ht]; exact hP9, hD9⟩, hS.F ht⟩) hS.2.2 dX6_take_84
def p_X6_tell (a0_kind : Int32) (a0_fog : Int32) (a0_here : Int32) (a0_seconds : Int32) (a0_crashes : Int32) (x1 : Int32) (Q : Int32 → Prop) : Prop :=
  if x1 = 0 then (Q a0_here) else (if x1 = 1 then (Q a0_seconds) else (if x1 = 2 then (Q a0_crashes) else (if x1 = 3 then (Q a0_kind) else (Q a0_fog))))
def rmX6_tell : Room := { frames := 0, cells := 0, slots := 0, locals := 0 }
set_option maxHeartbeats 4000000 in
set_option maxRecDepth 100000 in
theorem c_X6_tell (l : Launch) (D : va_G) (cI cZ cO : ClassId) (q_a0 q_a0_bends q_a0_felt q_a0_paces q_a0_past : Nat) (a0_kind : Int32) (a0_fog : Int32) (a0_here : Int32) (a0_seconds : Int32) (a0_crashes : Int32) (x1 : Int32) (Q : Int32 → Prop) (hf : p_X6_tell a0_kind a0_fog a0_here a0_seconds a0_crashes x1 Q) : Met l yX6_tell wsX6_tell rmX6_tell (va_Pc [.ref q_a0, .int x1] (fun U => va_P D vwCl [(q_a0, .inr (5, [.ref q_a0_bends, .ref q_a0_felt, .ref q_a0_paces, .ref q_a0_past, .int a0_kind, .int a0_fog, .int a0_here, .int a0_seconds, .int a0_crashes]))] U.heap ∧ XK D cI cZ cO U)) (vp_Si Q) 0 0 (fun _ => False) := by
  refine Met.ofW (cc := cX6_tell) (maxL := 2) (ret := (some .int)) (by decide) rfl ?_
  intro p e s m args below meth c s₁ B hml hv
  obtain ⟨rfl, hP, hX⟩ := hv
  have hK := hX.1
  have hx := B.exec
  have hb := B.bytes
  have hr := B.returns
  have hts := atoms_spec (ws := wsX6_tell) B.pre
  have hown : s.vm.findClass RX6 = some m.cls := findClass_of_methodNamed B.named
  have hlocks := B.notSynchronized
  have in_X6 : ∀ w ∈ wsX60, w ∈ wsX6_tell := fun _ h => List.mem_cons_of_mem _ (List.mem_append_right _ h)
  have kf_44 := hts (.fieldLink RX6 44 "LeftCrest$Stage" "here" "I") (by decide +kernel)
  have kf_47 := hts (.fieldLink RX6 47 "LeftCrest$Stage" "seconds" "I") (by decide +kernel)
  have kf_50 := hts (.fieldLink RX6 50 "LeftCrest$Stage" "crashes" "I") (by decide +kernel)
  have kf_37 := hts (.fieldLink RX6 37 "LeftCrest$Stage" "kind" "I") (by decide +kernel)
  have kf_41 := hts (.fieldLink RX6 41 "LeftCrest$Stage" "fog" "I") (by decide +kernel)
  generalize hQQ : MQ below _ _ s _ _ _ = QQ
  have hl := lv_entry ([.ref q_a0, .int x1]) (n := 2) (Nat.le_of_ble_eq_true rfl)
  rw [lg_entry_eq]
  generalize (lg_sl ([.ref q_a0, .int x1]) ++ List.replicate (2 - (lg_sl ([.ref q_a0, .int x1])).length) Slot.unset).toArray = ls at hl ⊢
  have hl : lv_has ls 2 [(0, .ref q_a0), (1, .int x1)] := hl
  unfold p_X6_tell at hf
  refine lv_iload_n hx hb dX6_tell_0 rfl (lv_at hl 1 rfl) ?_
  by_cases c_1 : x1 = 0
  · have hf := it_t c_1 hf
    refine lv_tableIn (tgt := 32) (off := 31) hx hb dX6_tell_1 (by rw [c_1]; decide) (by rw [c_1]; decide) (by rw [c_1]; rfl) (by decide) ?_
    refine lv_aload_n hx hb dX6_tell_32 rfl (lv_at hl 0 rfl) ?_
    refine va_get (D := D) (ci := 5) (v := .int a0_here) (C := RX6) (T := TX6) (N := 9) hx hb hts in_X6 hown hK hP 0 rfl rfl 6 (by decide) kf_44 (fun _ h9 => h9) rfl dX6_tell_33 ?_
    subst hQQ
    exact W.iret hx hb hr (fun t ht hW => ⟨_, rfl, hf, ht⟩) (fun _ h => absurd h List.not_mem_nil) dX6_tell_36
  have hf := it_f c_1 hf
  by_cases c_2 : x1 = 1
  · have hf := it_t c_2 hf
    refine lv_tableIn (tgt := 37) (off := 36) hx hb dX6_tell_1 (by rw [c_2]; decide) (by rw [c_2]; decide) (by rw [c_2]; rfl) (by decide) ?_
    refine lv_aload_n hx hb dX6_tell_37 rfl (lv_at hl 0 rfl) ?_
    refine va_get (D := D) (ci := 5) (v := .int a0_seconds) (C := RX6) (T := TX6) (N := 9) hx hb hts in_X6 hown hK hP 0 rfl rfl 7 (by decide) kf_47 (fun _ h9 => h9) rfl dX6_tell_38 ?_
    subst hQQ
    exact W.iret hx hb hr (fun t ht hW => ⟨_, rfl, hf, ht⟩) (fun _ h => absurd h List.not_mem_nil) dX6_tell_41
  have hf := it_f c_2 hf
  by_cases c_3 : x1 = 2
  · have hf := it_t c_3 hf
    refine lv_tableIn (tgt := 42) (off := 41) hx hb dX6_tell_1 (by rw [c_3]; decide) (by rw [c_3]; decide) (by rw [c_3]; rfl) (by decide) ?_
    refine lv_aload_n hx hb dX6_tell_42 rfl (lv_at hl 0 rfl) ?_
    refine va_get (D := D) (ci := 5) (v := .int a0_crashes) (C := RX6) (T := TX6) (N := 9) hx hb hts in_X6 hown hK hP 0 rfl rfl 8 (by decide) kf_50 (fun _ h9 => h9) rfl dX6_tell_43 ?_
    subst hQQ
    exact W.iret hx hb hr (fun t ht hW => ⟨_, rfl, hf, ht⟩) (fun _ h => absurd h List.not_mem_nil) dX6_tell_46
  have hf := it_f c_3 hf
  by_cases c_4 : x1 = 3
  · have hf := it_t c_4 hf
    refine lv_tableIn (tgt := 47) (off := 46) hx hb dX6_tell_1 (by rw [c_4]; decide) (by rw [c_4]; decide) (by rw [c_4]; rfl) (by decide) ?_
    refine lv_aload_n hx hb dX6_tell_47 rfl (lv_at hl 0 rfl) ?_
    refine va_get (D := D) (ci := 5) (v := .int a0_kind) (C := RX6) (T := TX6) (N := 9) hx hb hts in_X6 hown hK hP 0 rfl rfl 4 (by decide) kf_37 (fun _ h9 => h9) rfl dX6_tell_48 ?_
    subst hQQ
    exact W.iret hx hb hr (fun t ht hW => ⟨_, rfl, hf, ht⟩) (fun _ h => absurd h List.not_mem_nil) dX6_tell_51
  have hf := it_f c_4 hf
  have gc_1 := lv_neT (k := 0) c_1 (a := 0) (by decide)
  have gc_2 := lv_neT (k := 1) c_2 (a := 1) (by decide)
  have gc_3 := lv_neT (k := 2) c_3 (a := 2) (by decide)
  have gc_4 := lv_neT (k := 3) c_4 (a := 3) (by decide)
  refine lv_tableOut (tgt := 52) hx hb dX6_tell_1 (by omega) (by decide) ?_
  refine lv_aload_n hx hb dX6_tell_52 rfl (lv_at hl 0 rfl) ?_
  refine va_get (D := D) (ci := 5) (v := .int a0_fog) (C := RX6) (T := TX6) (N := 9) hx hb hts in_X6 hown hK hP 0 rfl rfl 5 (by decide) kf_41 (fun _ h9 => h9) rfl dX6_tell_53 ?_
  subst hQQ
  exact W.iret hx hb hr (fun t ht hW => ⟨_, rfl, hf, ht⟩) (fun _ h => absurd h List.not_mem_nil) dX6_tell_56
def p_X6_bendsLeft (a0_bends_size : Int32) (a0_here : Int32) (Q : Int32 → Prop) : Prop :=
  Q (a0_bends_size - a0_here)
def rmX6_bendsLeft : Room := { frames := 0, cells := 0, slots := 0, locals := 0 }
set_option maxHeartbeats 4000000 in
set_option maxRecDepth 100000 in
theorem c_X6_bendsLeft (l : Launch) (D : va_G) (cI cZ cO : ClassId) (q_a0 q_a0_bends q_a0_felt q_a0_paces q_a0_past q_a0_bends_yards q_a0_bends_truth q_a0_bends_notes q_a0_bends_words q_a0_bends_mud : Nat) (a0_kind : Int32) (a0_fog : Int32) (a0_here : Int32) (a0_seconds : Int32) (a0_crashes : Int32) (a0_bends_size : Int32) (Q : Int32 → Prop) (hf : p_X6_bendsLeft a0_bends_size a0_here Q) : Met l yX6_bendsLeft wsX6_bendsLeft rmX6_bendsLeft (va_Pc [.ref q_a0] (fun U => va_P D vwCl [(q_a0, .inr (5, [.ref q_a0_bends, .ref q_a0_felt, .ref q_a0_paces, .ref q_a0_past, .int a0_kind, .int a0_fog, .int a0_here, .int a0_seconds, .int a0_crashes])), (q_a0_bends, .inr (0, [.ref q_a0_bends_yards, .ref q_a0_bends_truth, .ref q_a0_bends_notes, .ref q_a0_bends_words, .ref q_a0_bends_mud, .int a0_bends_size]))] U.heap ∧ XK D cI cZ cO U)) (vp_Si Q) 0 0 (fun _ => False) := by
  refine Met.ofW (cc := cX6_bendsLeft) (maxL := 1) (ret := (some .int)) (by decide) rfl ?_
  intro p e s m args below meth c s₁ B hml hv
  obtain ⟨rfl, hP, hX⟩ := hv
  have hK := hX.1
  have hx := B.exec
  have hb := B.bytes
  have hr := B.returns
  have hts := atoms_spec (ws := wsX6_bendsLeft) B.pre
  have hown : s.vm.findClass RX6 = some m.cls := findClass_of_methodNamed B.named
  have hlocks := B.notSynchronized
  have in_X6 : ∀ w ∈ wsX60, w ∈ wsX6_bendsLeft := fun _ h => List.mem_cons_of_mem _ (List.mem_append_left _ (List.mem_append_right _ h))
  have in_X0 : ∀ w ∈ wsX00, w ∈ wsX6_bendsLeft := fun _ h => List.mem_cons_of_mem _ (List.mem_append_right _ h)
  have kf_10 := hts (.fieldLink RX6 10 "LeftCrest$Stage" "bends" "LLeftCrest$Bends;") (by decide +kernel)
  have kf_53 := hts (.fieldLink RX6 53 "LeftCrest$Bends" "size" "I") (by decide +kernel)
  have kf_44 := hts (.fieldLink RX6 44 "LeftCrest$Stage" "here" "I") (by decide +kernel)
  generalize hQQ : MQ below _ _ s _ _ _ = QQ
  have hl := lv_entry ([.ref q_a0]) (n := 1) (Nat.le_of_ble_eq_true rfl)
  rw [lg_entry_eq]
  generalize (lg_sl ([.ref q_a0]) ++ List.replicate (1 - (lg_sl ([.ref q_a0])).length) Slot.unset).toArray = ls at hl ⊢
  have hl : lv_has ls 1 [(0, .ref q_a0)] := hl
  unfold p_X6_bendsLeft at hf
  refine lv_aload_n hx hb dX6_bendsLeft_0 rfl (lv_at hl 0 rfl) ?_
  refine va_get (D := D) (ci := 5) (v := .ref q_a0_bends) (C := RX6) (T := TX6) (N := 9) hx hb hts in_X6 hown hK hP 0 rfl rfl 0 (by decide) kf_10 (fun _ h9 => h9) rfl dX6_bendsLeft_1 ?_
  refine va_get (D := D) (ci := 0) (v := .int a0_bends_size) (C := RX0) (T := TX0) (N := 6) hx hb hts in_X0 hown hK hP 1 rfl rfl 5 (by decide) kf_53 (fun _ h9 => h9) rfl dX6_bendsLeft_4 ?_
  refine lv_aload_n hx hb dX6_bendsLeft_7 rfl (lv_at hl 0 rfl) ?_
  refine va_get (D := D) (ci := 5) (v := .int a0_here) (C := RX6) (T := TX6) (N := 9) hx hb hts in_X6 hown hK hP 0 rfl rfl 6 (by decide) kf_44 (fun _ h9 => h9) rfl dX6_bendsLeft_8 ?_
  refine lv_isub hx hb dX6_bendsLeft_11 ?_
  subst hQQ
  exact W.iret hx hb hr (fun t ht hW => ⟨_, rfl, hf, ht⟩) (fun _ h => absurd h List.not_mem_nil) dX6_bendsLeft_12
def bX6_secondsFrom_4 (a0_bends_yards : Nat → Int32) (a0_bends_truth : Nat → Int32) (a0_bends_notes : Nat → Int32) (a0_bends_mud : Nat → Int32) (a0_bends_size : Int32) (a0_kind : Int32) (a0_fog : Int32) (Q : Int32 → Prop) (k_3 : Int32 → Int32 → Prop) (v_1 : Int32) (v_2 : Int32) : Prop :=
  if a0_bends_size ≤ v_2 then (Q v_1) else (vp_in v_2 8 ∧ (p_X6_costNoted a0_bends_truth a0_bends_notes a0_bends_mud a0_kind a0_fog v_2 (fun r_5 => k_3 (v_1 + ((a0_bends_yards v_2.toNatClampNeg) + r_5)) (v_2 + 1))))
def p_X6_secondsFrom (a0_bends_yards : Nat → Int32) (a0_bends_truth : Nat → Int32) (a0_bends_notes : Nat → Int32) (a0_bends_mud : Nat → Int32) (a0_bends_size : Int32) (a0_kind : Int32) (a0_fog : Int32) (x1 : Int32) (Q : Int32 → Prop) : Prop :=
  lq2 (bX6_secondsFrom_4 a0_bends_yards a0_bends_truth a0_bends_notes a0_bends_mud a0_bends_size a0_kind a0_fog Q) 1000 0 x1
def rmX6_secondsFrom : Room := { frames := 3, cells := 0, slots := 0, locals := 72 }
set_option maxHeartbeats 4000000 in
set_option maxRecDepth 100000 in
theorem c_X6_secondsFrom (l : Launch) (D : va_G) (cI cZ cO : ClassId) (q_a0 q_a0_bends q_a0_felt q_a0_paces q_a0_past q_a0_bends_yards q_a0_bends_truth q_a0_bends_notes q_a0_bends_words q_a0_bends_mud : Nat) (a0_kind : Int32) (a0_fog : Int32) (a0_here : Int32) (a0_seconds : Int32) (a0_crashes : Int32) (a0_bends_size : Int32) (a0_bends_yards : Nat → Int32) (a0_bends_truth : Nat → Int32) (a0_bends_notes : Nat → Int32) (a0_bends_mud : Nat → Int32) (x1 : Int32) (Q : Int32 → Prop) (hf : p_X6_secondsFrom a0_bends_yards a0_bends_truth a0_bends_notes a0_bends_mud a0_bends_size a0_kind a0_fog x1 Q) : Met l yX6_secondsFrom wsX6_secondsFrom rmX6_secondsFrom (va_Pc [.ref q_a0, .int x1] (fun U => va_P D vwCl [(q_a0, .inr (5, [.ref q_a0_bends, .ref q_a0_felt, .ref q_a0_paces, .ref q_a0_past, .int a0_kind, .int a0_fog, .int a0_here, .int a0_seconds, .int a0_crashes])), (q_a0_bends, .inr (0, [.ref q_a0_bends_yards, .ref q_a0_bends_truth, .ref q_a0_bends_notes, .ref q_a0_bends_words, .ref q_a0_bends_mud, .int a0_bends_size])), (q_a0_bends_yards, .inl (cI, 8, .inl a0_bends_yards)), (q_a0_bends_truth, .inl (cI, 8, .inl a0_bends_truth)), (q_a0_bends_notes, .inl (cI, 8, .inl a0_bends_notes)), (q_a0_bends_mud, .inl (cI, 8, .inl a0_bends_mud))] U.heap ∧ XK D cI cZ cO U)) (vp_Si Q) 0 0 (fun _ => False) := by
  refine Met.ofW (cc := cX6_secondsFrom) (maxL := 4) (ret := (some .int)) (by decide) rfl ?_
  intro p e s m args below meth c s₁ B hml hv
  obtain ⟨rfl, hP, hX⟩ := hv
  have hK := hX.1
  have hx := B.exec
  have hb := B.bytes
  have hr := B.returns
  have hts := atoms_spec (ws := wsX6_secondsFrom) B.pre
  have hown : s.vm.findClass RX6 = some m.cls := findClass_of_methodNamed B.named
  have hlocks := B.notSynchronized
  have in_X6 : ∀ w ∈ wsX60, w ∈ wsX6_secondsFrom := fun _ h => List.mem_cons_of_mem _ (List.mem_append_left _ (List.mem_append_right _ h))
  have in_X0 : ∀ w ∈ wsX00, w ∈ wsX6_secondsFrom := fun _ h => List.mem_cons_of_mem _ (List.mem_append_right _ h)
  have kf_10 := hts (.fieldLink RX6 10 "LeftCrest$Stage" "bends" "LLeftCrest$Bends;") (by decide +kernel)
  have kf_53 := hts (.fieldLink RX6 53 "LeftCrest$Bends" "size" "I") (by decide +kernel)
  have kf_96 := hts (.fieldLink RX6 96 "LeftCrest$Bends" "yards" "[I") (by decide +kernel)
  generalize hQQ : MQ below _ _ s _ _ _ = QQ
  have hl := lv_entry ([.ref q_a0, .int x1]) (n := 4) (Nat.le_of_ble_eq_true rfl)
  rw [lg_entry_eq]
  generalize (lg_sl ([.ref q_a0, .int x1]) ++ List.replicate (4 - (lg_sl ([.ref q_a0, .int x1])).length) Slot.unset).toArray = ls at hl ⊢
  have hl : lv_has ls 4 [(0, .ref q_a0), (1, .int x1)] := hl
  unfold p_X6_secondsFrom at hf
  refine lv_iconst (v := 0) hx hb dX6_secondsFrom_0 (by decide) ?_
  refine lv_istore_n (lv' := [(2, .int 0), (0, .ref q_a0), (1, .int x1)]) hx hb dX6_secondsFrom_1 rfl hl (by decide) rfl (fun ls hl => ?_)
  refine lv_iload_n hx hb dX6_secondsFrom_2 rfl (lv_at hl 2 rfl) ?_
  refine lv_istore_n (lv' := [(3, .int x1), (2, .int 0), (0, .ref q_a0), (1, .int x1)]) hx hb dX6_secondsFrom_3 rfl hl (by decide) rfl (fun ls hl => ?_)
  have hlp_4 : ∀ (n_4 : Nat) (v_1 : Int32) (v_2 : Int32) (ls : Array Slot), lq2 (bX6_secondsFrom_4 a0_bends_yards a0_bends_truth a0_bends_notes a0_bends_mud a0_bends_size a0_kind a0_fog Q) n_4 v_1 v_2 → lv_has ls 4 [(0, .ref q_a0), (2, .int v_1), (3, .int v_2)] → W p l e (headSpec wsX6_secondsFrom rmX6_secondsFrom).room s m ([.ref q_a0, .int x1] : List Value).toArray below meth c s.heap [] 0 0 QQ (F0 m 4 ls []) := by
    intro n_4
    induction n_4 with
    | zero => intro v_1 v_2 ls hf; exact (lq2_0 hf).elim
    | succ n_4 ih =>
      have ih_4 := ih
      intro v_1 v_2 ls hf hl
      have hf := lq2_s hf
      unfold bX6_secondsFrom_4 at hf
      refine lv_iload_n hx hb dX6_secondsFrom_4 rfl (lv_at hl 2 rfl) ?_
      refine lv_aload_n hx hb dX6_secondsFrom_5 rfl (lv_at hl 0 rfl) ?_
      refine va_get (D := D) (ci := 5) (v := .ref q_a0_bends) (C := RX6) (T := TX6) (N := 9) hx hb hts in_X6 hown hK hP 0 rfl rfl 0 (by decide) kf_10 (fun _ h9 => h9) rfl dX6_secondsFrom_6 ?_
      refine va_get (D := D) (ci := 0) (v := .int a0_bends_size) (C := RX0) (T := TX0) (N := 6) hx hb hts in_X0 hown hK hP 1 rfl rfl 5 (by decide) kf_53 (fun _ h9 => h9) rfl dX6_secondsFrom_9 ?_
      refine lv_icmp_ge (tgt := 39) hx hb dX6_secondsFrom_12 (by decide) (fun c_4 => ?_) (fun c_4 => ?_)
      · have hf := it_t c_4 hf
        refine lv_iload_n hx hb dX6_secondsFrom_39 rfl (lv_at hl 1 rfl) ?_
        subst hQQ
        exact W.iret hx hb hr (fun t ht hW => ⟨_, rfl, hf, ht⟩) (fun _ h => absurd h List.not_mem_nil) dX6_secondsFrom_40
      · have hf := it_f c_4 hf
        refine lv_iload_n hx hb dX6_secondsFrom_15 rfl (lv_at hl 1 rfl) ?_
        refine lv_aload_n hx hb dX6_secondsFrom_16 rfl (lv_at hl 0 rfl) ?_
        refine va_get (D := D) (ci := 5) (v := .ref q_a0_bends) (C := RX6) (T := TX6) (N := 9) hx hb hts in_X6 hown hK hP 0 rfl rfl 0 (by decide) kf_10 (fun _ h9 => h9) rfl dX6_secondsFrom_17 ?_
        refine va_get (D := D) (ci := 0) (v := .ref q_a0_bends_yards) (C := RX0) (T := TX0) (N := 6) hx hb hts in_X0 hown hK hP 1 rfl rfl 0 (by decide) kf_96 (fun _ h9 => h9) rfl dX6_secondsFrom_20 ?_
        refine lv_iload_n hx hb dX6_secondsFrom_23 rfl (lv_at hl 2 rfl) ?_
        refine va_iald hx hb hK hP 2 0 rfl rfl hf.1 dX6_secondsFrom_24 ?_
        have hf := hf.2
        refine lv_aload_n hx hb dX6_secondsFrom_25 rfl (lv_at hl 0 rfl) ?_
        refine lv_iload_n hx hb dX6_secondsFrom_26 rfl (lv_at hl 2 rfl) ?_
        refine ya_csi (va_runV (As := [.int v_2]) (rest := [.int (a0_bends_yards v_2.toNatClampNeg), .int v_1]) ⟨hx, hb, hml, hown, hts⟩ (c_X6_costNoted l D cI cZ cO q_a0 q_a0_bends q_a0_felt q_a0_paces q_a0_past q_a0_bends_yards q_a0_bends_truth q_a0_bends_notes q_a0_bends_words q_a0_bends_mud a0_kind a0_fog a0_here a0_seconds a0_crashes a0_bends_size a0_bends_truth a0_bends_notes a0_bends_mud v_2 _ hf) (cwV 1 hts gX6_secondsFrom_X6_costNoted rfl rfl rfl (by decide +kernel) ⟨Nat.le_of_ble_eq_true rfl, Nat.le_of_ble_eq_true rfl⟩) (pv_ro (ci := 5) (q0 := 0) (hP.sub [0, 1, 3, 4, 5] rfl) hX rfl rfl) rfl rfl hl.1 rfl (lv_room (Nat.le_of_ble_eq_true rfl)) dX6_secondsFrom_27 ⟨Nat.zero_le _, Nat.zero_le _⟩) (fun r_5 hf => ?_)
        refine lv_iadd hx hb dX6_secondsFrom_30 ?_
        refine lv_iadd hx hb dX6_secondsFrom_31 ?_
        refine lv_istore_n (lv' := [(2, .int (v_1 + ((a0_bends_yards v_2.toNatClampNeg) + r_5))), (0, .ref q_a0), (3, .int v_2)]) hx hb dX6_secondsFrom_32 rfl hl (by decide) rfl (fun ls hl => ?_)
        refine lv_iinc (v := v_2 + 1) (lv' := [(3, .int (v_2 + 1)), (2, .int (v_1 + ((a0_bends_yards v_2.toNatClampNeg) + r_5))), (0, .ref q_a0)]) hx hb dX6_secondsFrom_33 hl (k := 2) rfl rfl (by decide) rfl (fun ls hl => ?_)
        refine lv_goto (tgt := 4) hx hb dX6_secondsFrom_36 (by decide) ?_
        exact ih (v_1 + ((a0_bends_yards v_2.toNatClampNeg) + r_5)) (v_2 + 1) ls hf (lv_sub hl [2, 1, 0] rfl)
  exact hlp_4 1000 0 x1 ls hf (lv_sub hl [2, 1, 0] rfl)
def jX6_goOn_96 (a0_seconds : Int32) (Q : Int32 → Int32 → Int32 → Int32 → Prop) (w_1 : Int32) (w_2 : Int32) (v_3 : Int32) : Prop :=
  Q v_3 w_1 (a0_seconds + v_3) w_2
def jX6_goOn_62 (a0_bends_yards : Nat → Int32) (k_8 : Int32 → Int32 → Int32 → Int32 → Prop) (w_4 : Int32) (v_6 : Int32) (v_7 : Int32) (w_9 : Int32) (v_10 : Int32) : Prop :=
  vp_in w_4 8 ∧ (k_8 (w_4 + 1) w_9 (v_6 + ((a0_bends_yards w_4.toNatClampNeg) + v_10)) (v_7 + 1))
def bX6_goOn_4 (a0_bends_yards : Nat → Int32) (a0_bends_truth : Nat → Int32) (a0_bends_notes : Nat → Int32) (a0_bends_mud : Nat → Int32) (a0_bends_size : Int32) (a0_kind : Int32) (a0_fog : Int32) (a0_seconds : Int32) (x1 : Int32) (Q : Int32 → Int32 → Int32 → Int32 → Prop) (k_8 : Int32 → Int32 → Int32 → Int32 → Prop) (w_4 : Int32) (w_5 : Int32) (v_6 : Int32) (v_7 : Int32) : Prop :=
  if x1 ≤ v_7 then (jX6_goOn_96 a0_seconds Q w_4 w_5 v_6) else (if a0_bends_size ≤ w_4 then (jX6_goOn_96 a0_seconds Q w_4 w_5 v_6) else (vp_in w_4 8 ∧ (p_X6_costAt a0_bends_truth a0_bends_mud a0_kind a0_fog w_4 (a0_bends_notes w_4.toNatClampNeg) (fun r_13 => if r_13 = 60 then (jX6_goOn_62 a0_bends_yards k_8 w_4 v_6 v_7 (w_5 + 1) r_13) else (jX6_goOn_62 a0_bends_yards k_8 w_4 v_6 v_7 w_5 r_13)))))
def p_X6_goOn (a0_bends_yards : Nat → Int32) (a0_bends_truth : Nat → Int32) (a0_bends_notes : Nat → Int32) (a0_bends_mud : Nat → Int32) (a0_bends_size : Int32) (a0_kind : Int32) (a0_fog : Int32) (a0_here : Int32) (a0_seconds : Int32) (a0_crashes : Int32) (x1 : Int32) (Q : Int32 → Int32 → Int32 → Int32 → Prop) : Prop :=
  lq4 (bX6_goOn_4 a0_bends_yards a0_bends_truth a0_bends_notes a0_bends_mud a0_bends_size a0_kind a0_fog a0_seconds x1 Q) 1000 a0_here a0_crashes 0 0
def rmX6_goOn : Room := { frames := 2, cells := 0, slots := 0, locals := 51 }
set_option maxHeartbeats 4000000 in
set_option maxRecDepth 100000 in
theorem c_X6_goOn (l : Launch) (D : va_G) (cI cZ cO : ClassId) (q_a0 q_a0_bends q_a0_felt q_a0_paces q_a0_past q_a0_bends_yards q_a0_bends_truth q_a0_bends_notes q_a0_bends_words q_a0_bends_mud : Nat) (a0_kind : Int32) (a0_fog : Int32) (a0_here : Int32) (a0_seconds : Int32) (a0_crashes : Int32) (a0_bends_size : Int32) (a0_bends_yards : Nat → Int32) (a0_bends_truth : Nat → Int32) (a0_bends_notes : Nat → Int32) (a0_bends_mud : Nat → Int32) (sz : Nat) (x1 : Int32) (Q : Int32 → Int32 → Int32 → Int32 → Prop) (hf : p_X6_goOn a0_bends_yards a0_bends_truth a0_bends_notes a0_bends_mud a0_bends_size a0_kind a0_fog a0_here a0_seconds a0_crashes x1 Q) : Met l yX6_goOn wsX6_goOn rmX6_goOn (va_Pc [.ref q_a0, .int x1] (fun U => U.heap.size = sz ∧ va_P D vwCl [(q_a0, .inr (5, [.ref q_a0_bends, .ref q_a0_felt, .ref q_a0_paces, .ref q_a0_past, .int a0_kind, .int a0_fog, .int a0_here, .int a0_seconds, .int a0_crashes])), (q_a0_bends, .inr (0, [.ref q_a0_bends_yards, .ref q_a0_bends_truth, .ref q_a0_bends_notes, .ref q_a0_bends_words, .ref q_a0_bends_mud, .int a0_bends_size])), (q_a0_bends_yards, .inl (cI, 8, .inl a0_bends_yards)), (q_a0_bends_truth, .inl (cI, 8, .inl a0_bends_truth)), (q_a0_bends_notes, .inl (cI, 8, .inl a0_bends_notes)), (q_a0_bends_mud, .inl (cI, 8, .inl a0_bends_mud))] U.heap ∧ XK D cI cZ cO U ∧ va_D (fun _ => True) [(q_a0, .inr (5, [.ref q_a0_bends, .ref q_a0_felt, .ref q_a0_paces, .ref q_a0_past, .int a0_kind, .int a0_fog, .int a0_here, .int a0_seconds, .int a0_crashes])), (q_a0_bends, .inr (0, [.ref q_a0_bends_yards, .ref q_a0_bends_truth, .ref q_a0_bends_notes, .ref q_a0_bends_words, .ref q_a0_bends_mud, .int a0_bends_size])), (q_a0_bends_yards, .inl (cI, 8, .inl a0_bends_yards)), (q_a0_bends_truth, .inl (cI, 8, .inl a0_bends_truth)), (q_a0_bends_notes, .inl (cI, 8, .inl a0_bends_notes)), (q_a0_bends_mud, .inl (cI, 8, .inl a0_bends_mud))])) (va_Qi (fun r (u : Int32 × Int32 × Int32) => Q r u.1 u.2.1 u.2.2) (fun (u : Int32 × Int32 × Int32) t => va_P D vwCl [(q_a0, .inr (5, [.ref q_a0_bends, .ref q_a0_felt, .ref q_a0_paces, .ref q_a0_past, .int a0_kind, .int a0_fog, .int u.1, .int u.2.1, .int u.2.2])), (q_a0_bends, .inr (0, [.ref q_a0_bends_yards, .ref q_a0_bends_truth, .ref q_a0_bends_notes, .ref q_a0_bends_words, .ref q_a0_bends_mud, .int a0_bends_size])), (q_a0_bends_yards, .inl (cI, 8, .inl a0_bends_yards)), (q_a0_bends_truth, .inl (cI, 8, .inl a0_bends_truth)), (q_a0_bends_notes, .inl (cI, 8, .inl a0_bends_notes)), (q_a0_bends_mud, .inl (cI, 8, .inl a0_bends_mud))] t.heap ∧ va_D (va_A [(q_a0, .inr (5, [.ref q_a0_bends, .ref q_a0_felt, .ref q_a0_paces, .ref q_a0_past, .int a0_kind, .int a0_fog, .int a0_here, .int a0_seconds, .int a0_crashes])), (q_a0_bends, .inr (0, [.ref q_a0_bends_yards, .ref q_a0_bends_truth, .ref q_a0_bends_notes, .ref q_a0_bends_words, .ref q_a0_bends_mud, .int a0_bends_size])), (q_a0_bends_yards, .inl (cI, 8, .inl a0_bends_yards)), (q_a0_bends_truth, .inl (cI, 8, .inl a0_bends_truth)), (q_a0_bends_notes, .inl (cI, 8, .inl a0_bends_notes)), (q_a0_bends_mud, .inl (cI, 8, .inl a0_bends_mud))] sz) [(q_a0, .inr (5, [.ref q_a0_bends, .ref q_a0_felt, .ref q_a0_paces, .ref q_a0_past, .int a0_kind, .int a0_fog, .int u.1, .int u.2.1, .int u.2.2])), (q_a0_bends, .inr (0, [.ref q_a0_bends_yards, .ref q_a0_bends_truth, .ref q_a0_bends_notes, .ref q_a0_bends_words, .ref q_a0_bends_mud, .int a0_bends_size])), (q_a0_bends_yards, .inl (cI, 8, .inl a0_bends_yards)), (q_a0_bends_truth, .inl (cI, 8, .inl a0_bends_truth)), (q_a0_bends_notes, .inl (cI, 8, .inl a0_bends_notes)), (q_a0_bends_mud, .inl (cI, 8, .inl a0_bends_mud))]) (va_A [(q_a0, .inr (5, [.ref q_a0_bends, .ref q_a0_felt, .ref q_a0_paces, .ref q_a0_past, .int a0_kind, .int a0_fog, .int a0_here, .int a0_seconds, .int a0_crashes])), (q_a0_bends, .inr (0, [.ref q_a0_bends_yards, .ref q_a0_bends_truth, .ref q_a0_bends_notes, .ref q_a0_bends_words, .ref q_a0_bends_mud, .int a0_bends_size])), (q_a0_bends_yards, .inl (cI, 8, .inl a0_bends_yards)), (q_a0_bends_truth, .inl (cI, 8, .inl a0_bends_truth)), (q_a0_bends_notes, .inl (cI, 8, .inl a0_bends_notes)), (q_a0_bends_mud, .inl (cI, 8, .inl a0_bends_mud))] sz)) 0 0 (va_A [(q_a0, .inr (5, [.ref q_a0_bends, .ref q_a0_felt, .ref q_a0_paces, .ref q_a0_past, .int a0_kind, .int a0_fog, .int a0_here, .int a0_seconds, .int a0_crashes])), (q_a0_bends, .inr (0, [.ref q_a0_bends_yards, .ref q_a0_bends_truth, .ref q_a0_bends_notes, .ref q_a0_bends_words, .ref q_a0_bends_mud, .int a0_bends_size])), (q_a0_bends_yards, .inl (cI, 8, .inl a0_bends_yards)), (q_a0_bends_truth, .inl (cI, 8, .inl a0_bends_truth)), (q_a0_bends_notes, .inl (cI, 8, .inl a0_bends_notes)), (q_a0_bends_mud, .inl (cI, 8, .inl a0_bends_mud))] sz) := by
  refine Met.ofW (cc := cX6_goOn) (maxL := 5) (ret := (some .int)) (by decide) rfl ?_
  intro p e s m args below meth c s₁ B hml hv
  obtain ⟨rfl, hsz, hP, hX, hD0⟩ := hv
  have hK := hX.1
  have hx := B.exec
  have hb := B.bytes
  have hr := B.returns
  have hts := atoms_spec (ws := wsX6_goOn) B.pre
  have hown : s.vm.findClass RX6 = some m.cls := findClass_of_methodNamed B.named
  have hlocks := B.notSynchronized
  have in_X6 : ∀ w ∈ wsX60, w ∈ wsX6_goOn := fun _ h => List.mem_cons_of_mem _ (List.mem_append_left _ (List.mem_append_right _ h))
  have in_X0 : ∀ w ∈ wsX00, w ∈ wsX6_goOn := fun _ h => List.mem_cons_of_mem _ (List.mem_append_right _ h)
  have kf_47 := hts (.fieldLink RX6 47 "LeftCrest$Stage" "seconds" "I") (by decide +kernel)
  have kf_10 := hts (.fieldLink RX6 10 "LeftCrest$Stage" "bends" "LLeftCrest$Bends;") (by decide +kernel)
  have kf_96 := hts (.fieldLink RX6 96 "LeftCrest$Bends" "yards" "[I") (by decide +kernel)
  have kf_44 := hts (.fieldLink RX6 44 "LeftCrest$Stage" "here" "I") (by decide +kernel)
  have kf_53 := hts (.fieldLink RX6 53 "LeftCrest$Bends" "size" "I") (by decide +kernel)
  have kf_90 := hts (.fieldLink RX6 90 "LeftCrest$Bends" "notes" "[I") (by decide +kernel)
  have kf_50 := hts (.fieldLink RX6 50 "LeftCrest$Stage" "crashes" "I") (by decide +kernel)
  subst hsz
  have hD := hD0.self (sz := s.heap.size)
  generalize hAe : va_A [(q_a0, .inr (5, [.ref q_a0_bends, .ref q_a0_felt, .ref q_a0_paces, .ref q_a0_past, .int a0_kind, .int a0_fog, .int a0_here, .int a0_seconds, .int a0_crashes])), (q_a0_bends, .inr (0, [.ref q_a0_bends_yards, .ref q_a0_bends_truth, .ref q_a0_bends_notes, .ref q_a0_bends_words, .ref q_a0_bends_mud, .int a0_bends_size])), (q_a0_bends_yards, .inl (cI, 8, .inl a0_bends_yards)), (q_a0_bends_truth, .inl (cI, 8, .inl a0_bends_truth)), (q_a0_bends_notes, .inl (cI, 8, .inl a0_bends_notes)), (q_a0_bends_mud, .inl (cI, 8, .inl a0_bends_mud))] s.heap.size = A at hD ⊢
  have hA : ∀ q : Nat, s.heap.size ≤ q → A q := fun q h => by rw [← hAe]; exact Or.inr h
  have hS : va_S A s.heap s.heap [] := va_S.rf
  have hP : va_P D vwCl [(q_a0, .inr (5, [.ref q_a0_bends, .ref q_a0_felt, .ref q_a0_paces, .ref q_a0_past, .int a0_kind, .int a0_fog, .int a0_here, .int a0_seconds, .int a0_crashes])), (q_a0_bends, .inr (0, [.ref q_a0_bends_yards, .ref q_a0_bends_truth, .ref q_a0_bends_notes, .ref q_a0_bends_words, .ref q_a0_bends_mud, .int a0_bends_size])), (q_a0_bends_yards, .inl (cI, 8, .inl a0_bends_yards)), (q_a0_bends_truth, .inl (cI, 8, .inl a0_bends_truth)), (q_a0_bends_notes, .inl (cI, 8, .inl a0_bends_notes)), (q_a0_bends_mud, .inl (cI, 8, .inl a0_bends_mud))] s.heap := hP
  generalize hQQ : MQ below _ _ s _ _ _ = QQ
  have hl := lv_entry ([.ref q_a0, .int x1]) (n := 5) (Nat.le_of_ble_eq_true rfl)
  rw [lg_entry_eq]
  generalize (lg_sl ([.ref q_a0, .int x1]) ++ List.replicate (5 - (lg_sl ([.ref q_a0, .int x1])).length) Slot.unset).toArray = ls at hl ⊢
  have hl : lv_has ls 5 [(0, .ref q_a0), (1, .int x1)] := hl
  have hj_96 : ∀ (w_1 : Int32) (w_2 : Int32) (v_3 : Int32) (H : Heap) (locs : List Loc), jX6_goOn_96 a0_seconds Q w_1 w_2 v_3 → va_P D vwCl [(q_a0, .inr (5, [.ref q_a0_bends, .ref q_a0_felt, .ref q_a0_paces, .ref q_a0_past, .int a0_kind, .int a0_fog, .int w_1, .int a0_seconds, .int w_2])), (q_a0_bends, .inr (0, [.ref q_a0_bends_yards, .ref q_a0_bends_truth, .ref q_a0_bends_notes, .ref q_a0_bends_words, .ref q_a0_bends_mud, .int a0_bends_size])), (q_a0_bends_yards, .inl (cI, 8, .inl a0_bends_yards)), (q_a0_bends_truth, .inl (cI, 8, .inl a0_bends_truth)), (q_a0_bends_notes, .inl (cI, 8, .inl a0_bends_notes)), (q_a0_bends_mud, .inl (cI, 8, .inl a0_bends_mud))] H → va_D A [(q_a0, .inr (5, [.ref q_a0_bends, .ref q_a0_felt, .ref q_a0_paces, .ref q_a0_past, .int a0_kind, .int a0_fog, .int w_1, .int a0_seconds, .int w_2])), (q_a0_bends, .inr (0, [.ref q_a0_bends_yards, .ref q_a0_bends_truth, .ref q_a0_bends_notes, .ref q_a0_bends_words, .ref q_a0_bends_mud, .int a0_bends_size])), (q_a0_bends_yards, .inl (cI, 8, .inl a0_bends_yards)), (q_a0_bends_truth, .inl (cI, 8, .inl a0_bends_truth)), (q_a0_bends_notes, .inl (cI, 8, .inl a0_bends_notes)), (q_a0_bends_mud, .inl (cI, 8, .inl a0_bends_mud))] → va_S A s.heap H locs → ∀ ls : Array Slot, lv_has ls 5 [(0, .ref q_a0), (2, .int v_3)] → W p l e (headSpec wsX6_goOn rmX6_goOn).room s m ([.ref q_a0, .int x1] : List Value).toArray below meth c H locs 0 0 QQ (F0 m 96 ls []) := by
    intro w_1 w_2 v_3 H locs hf hP hD hS ls hl
    unfold jX6_goOn_96 at hf
    refine lv_aload_n hx hb dX6_goOn_96 rfl (lv_at hl 0 rfl) ?_
    refine lv_dup hx hb dX6_goOn_97 rfl ?_
    refine va_get (D := D) (ci := 5) (v := .int a0_seconds) (C := RX6) (T := TX6) (N := 9) hx hb hts in_X6 hown hK hP 0 rfl rfl 7 (by decide) kf_47 (fun _ h9 => h9) rfl dX6_goOn_98 ?_
    refine lv_iload_n hx hb dX6_goOn_101 rfl (lv_at hl 1 rfl) ?_
    refine lv_iadd hx hb dX6_goOn_102 ?_
    refine va_put (D := D) (ci := 5) (v := .int (a0_seconds + v_3)) (ty := .int) (C := RX6) (T := TX6) (N := 9) hx hb hts in_X6 tyX6 tyX6_ok nmX6 hown hK hP hD hS 0 rfl rfl 7 (by decide) kf_47 (fun _ h9 => h9) rfl (by decide +kernel) rfl rfl (Nat.le_of_ble_eq_true rfl) dX6_goOn_103 (fun H locs hP hD hS => ?_)
    have hP : va_P D vwCl [(q_a0, .inr (5, [.ref q_a0_bends, .ref q_a0_felt, .ref q_a0_paces, .ref q_a0_past, .int a0_kind, .int a0_fog, .int w_1, .int (a0_seconds + v_3), .int w_2])), (q_a0_bends, .inr (0, [.ref q_a0_bends_yards, .ref q_a0_bends_truth, .ref q_a0_bends_notes, .ref q_a0_bends_words, .ref q_a0_bends_mud, .int a0_bends_size])), (q_a0_bends_yards, .inl (cI, 8, .inl a0_bends_yards)), (q_a0_bends_truth, .inl (cI, 8, .inl a0_bends_truth)), (q_a0_bends_notes, .inl (cI, 8, .inl a0_bends_notes)), (q_a0_bends_mud, .inl (cI, 8, .inl a0_bends_mud))] H := hP
    have hD : va_D A [(q_a0, .inr (5, [.ref q_a0_bends, .ref q_a0_felt, .ref q_a0_paces, .ref q_a0_past, .int a0_kind, .int a0_fog, .int w_1, .int (a0_seconds + v_3), .int w_2])), (q_a0_bends, .inr (0, [.ref q_a0_bends_yards, .ref q_a0_bends_truth, .ref q_a0_bends_notes, .ref q_a0_bends_words, .ref q_a0_bends_mud, .int a0_bends_size])), (q_a0_bends_yards, .inl (cI, 8, .inl a0_bends_yards)), (q_a0_bends_truth, .inl (cI, 8, .inl a0_bends_truth)), (q_a0_bends_notes, .inl (cI, 8, .inl a0_bends_notes)), (q_a0_bends_mud, .inl (cI, 8, .inl a0_bends_mud))] := hD
    refine lv_iload_n hx hb dX6_goOn_106 rfl (lv_at hl 1 rfl) ?_
    subst hQQ
    have hP9 := hP.sub (ws' := [(q_a0, .inr (5, [.ref q_a0_bends, .ref q_a0_felt, .ref q_a0_paces, .ref q_a0_past, .int a0_kind, .int a0_fog, .int w_1, .int (a0_seconds + v_3), .int w_2])), (q_a0_bends, .inr (0, [.ref q_a0_bends_yards, .ref q_a0_bends_truth, .ref q_a0_bends_notes, .ref q_a0_bends_words, .ref q_a0_bends_mud, .int a0_bends_size])), (q_a0_bends_yards, .inl (cI, 8, .inl a0_bends_yards)), (q_a0_bends_truth, .inl (cI, 8, .inl a0_bends_truth)), (q_a0_bends_notes, .inl (cI, 8, .inl a0_bends_notes)), (q_a0_bends_mud, .inl (cI, 8, .inl a0_bends_mud))]) [0, 1, 2, 3, 4, 5] rfl
    have hD9 := hD.sub (ws' := [(q_a0, .inr (5, [.ref q_a0_bends, .ref q_a0_felt, .ref q_a0_paces, .ref q_a0_past, .int a0_kind, .int a0_fog, .int w_1, .int (a0_seconds + v_3), .int w_2])), (q_a0_bends, .inr (0, [.ref q_a0_bends_yards, .ref q_a0_bends_truth, .ref q_a0_bends_notes, .ref q_a0_bends_words, .ref q_a0_bends_mud, .int a0_bends_size])), (q_a0_bends_yards, .inl (cI, 8, .inl a0_bends_yards)), (q_a0_bends_truth, .inl (cI, 8, .inl a0_bends_truth)), (q_a0_bends_notes, .inl (cI, 8, .inl a0_bends_notes)), (q_a0_bends_mud, .inl (cI, 8, .inl a0_bends_mud))]) [0, 1, 2, 3, 4, 5] (by decide) rfl
    exact W.iret hx hb hr (fun t ht hW => ⟨⟨v_3, (w_1, a0_seconds + v_3, w_2), rfl, hf, by rw [ht]; exact hP9, hD9⟩, hS.F ht⟩) hS.2.2 dX6_goOn_107
  unfold p_X6_goOn at hf
  refine lv_iconst (v := 0) hx hb dX6_goOn_0 (by decide) ?_
  refine lv_istore_n (lv' := [(2, .int 0), (0, .ref q_a0), (1, .int x1)]) hx hb dX6_goOn_1 rfl hl (by decide) rfl (fun ls hl => ?_)
  refine lv_iconst (v := 0) hx hb dX6_goOn_2 (by decide) ?_
  refine lv_istore_n (lv' := [(3, .int 0), (2, .int 0), (0, .ref q_a0), (1, .int x1)]) hx hb dX6_goOn_3 rfl hl (by decide) rfl (fun ls hl => ?_)
  have hlp_4 : ∀ (n_4 : Nat) (w_4 : Int32) (w_5 : Int32) (v_6 : Int32) (v_7 : Int32) (H : Heap) (locs : List Loc) (ls : Array Slot), lq4 (bX6_goOn_4 a0_bends_yards a0_bends_truth a0_bends_notes a0_bends_mud a0_bends_size a0_kind a0_fog a0_seconds x1 Q) n_4 w_4 w_5 v_6 v_7 → va_P D vwCl [(q_a0, .inr (5, [.ref q_a0_bends, .ref q_a0_felt, .ref q_a0_paces, .ref q_a0_past, .int a0_kind, .int a0_fog, .int w_4, .int a0_seconds, .int w_5])), (q_a0_bends, .inr (0, [.ref q_a0_bends_yards, .ref q_a0_bends_truth, .ref q_a0_bends_notes, .ref q_a0_bends_words, .ref q_a0_bends_mud, .int a0_bends_size])), (q_a0_bends_yards, .inl (cI, 8, .inl a0_bends_yards)), (q_a0_bends_truth, .inl (cI, 8, .inl a0_bends_truth)), (q_a0_bends_notes, .inl (cI, 8, .inl a0_bends_notes)), (q_a0_bends_mud, .inl (cI, 8, .inl a0_bends_mud))] H → va_D A [(q_a0, .inr (5, [.ref q_a0_bends, .ref q_a0_felt, .ref q_a0_paces, .ref q_a0_past, .int a0_kind, .int a0_fog, .int w_4, .int a0_seconds, .int w_5])), (q_a0_bends, .inr (0, [.ref q_a0_bends_yards, .ref q_a0_bends_truth, .ref q_a0_bends_notes, .ref q_a0_bends_words, .ref q_a0_bends_mud, .int a0_bends_size])), (q_a0_bends_yards, .inl (cI, 8, .inl a0_bends_yards)), (q_a0_bends_truth, .inl (cI, 8, .inl a0_bends_truth)), (q_a0_bends_notes, .inl (cI, 8, .inl a0_bends_notes)), (q_a0_bends_mud, .inl (cI, 8, .inl a0_bends_mud))] → va_S A s.heap H locs → lv_has ls 5 [(0, .ref q_a0), (1, .int x1), (2, .int v_6), (3, .int v_7)] → W p l e (headSpec wsX6_goOn rmX6_goOn).room s m ([.ref q_a0, .int x1] : List Value).toArray below meth c H locs 0 0 QQ (F0 m 4 ls []) := by
    intro n_4
    induction n_4 with
    | zero => intro w_4 w_5 v_6 v_7 H locs ls hf; exact (lq4_0 hf).elim
    | succ n_4 ih =>
      have ih_4 := ih
      intro w_4 w_5 v_6 v_7 H locs ls hf hP hD hS hl
      have hj_62 : ∀ (w_9 : Int32) (v_10 : Int32) (H : Heap) (locs : List Loc), jX6_goOn_62 a0_bends_yards (lq4 (bX6_goOn_4 a0_bends_yards a0_bends_truth a0_bends_notes a0_bends_mud a0_bends_size a0_kind a0_fog a0_seconds x1 Q) n_4) w_4 v_6 v_7 w_9 v_10 → va_P D vwCl [(q_a0, .inr (5, [.ref q_a0_bends, .ref q_a0_felt, .ref q_a0_paces, .ref q_a0_past, .int a0_kind, .int a0_fog, .int w_4, .int a0_seconds, .int w_9])), (q_a0_bends, .inr (0, [.ref q_a0_bends_yards, .ref q_a0_bends_truth, .ref q_a0_bends_notes, .ref q_a0_bends_words, .ref q_a0_bends_mud, .int a0_bends_size])), (q_a0_bends_yards, .inl (cI, 8, .inl a0_bends_yards)), (q_a0_bends_truth, .inl (cI, 8, .inl a0_bends_truth)), (q_a0_bends_notes, .inl (cI, 8, .inl a0_bends_notes)), (q_a0_bends_mud, .inl (cI, 8, .inl a0_bends_mud))] H → va_D A [(q_a0, .inr (5, [.ref q_a0_bends, .ref q_a0_felt, .ref q_a0_paces, .ref q_a0_past, .int a0_kind, .int a0_fog, .int w_4, .int a0_seconds, .int w_9])), (q_a0_bends, .inr (0, [.ref q_a0_bends_yards, .ref q_a0_bends_truth, .ref q_a0_bends_notes, .ref q_a0_bends_words, .ref q_a0_bends_mud, .int a0_bends_size])), (q_a0_bends_yards, .inl (cI, 8, .inl a0_bends_yards)), (q_a0_bends_truth, .inl (cI, 8, .inl a0_bends_truth)), (q_a0_bends_notes, .inl (cI, 8, .inl a0_bends_notes)), (q_a0_bends_mud, .inl (cI, 8, .inl a0_bends_mud))] → va_S A s.heap H locs → ∀ ls : Array Slot, lv_has ls 5 [(0, .ref q_a0), (1, .int x1), (2, .int v_6), (3, .int v_7), (4, .int v_10)] → W p l e (headSpec wsX6_goOn rmX6_goOn).room s m ([.ref q_a0, .int x1] : List Value).toArray below meth c H locs 0 0 QQ (F0 m 62 ls []) := by
        intro w_9 v_10 H locs hf hP hD hS ls hl
        unfold jX6_goOn_62 at hf
        refine lv_iload_n hx hb dX6_goOn_62 rfl (lv_at hl 2 rfl) ?_
        refine lv_aload_n hx hb dX6_goOn_63 rfl (lv_at hl 0 rfl) ?_
        refine va_get (D := D) (ci := 5) (v := .ref q_a0_bends) (C := RX6) (T := TX6) (N := 9) hx hb hts in_X6 hown hK hP 0 rfl rfl 0 (by decide) kf_10 (fun _ h9 => h9) rfl dX6_goOn_64 ?_
        refine va_get (D := D) (ci := 0) (v := .ref q_a0_bends_yards) (C := RX0) (T := TX0) (N := 6) hx hb hts in_X0 hown hK hP 1 rfl rfl 0 (by decide) kf_96 (fun _ h9 => h9) rfl dX6_goOn_67 ?_
        refine lv_aload_n hx hb dX6_goOn_70 rfl (lv_at hl 0 rfl) ?_
        refine va_get (D := D) (ci := 5) (v := .int w_4) (C := RX6) (T := TX6) (N := 9) hx hb hts in_X6 hown hK hP 0 rfl rfl 6 (by decide) kf_44 (fun _ h9 => h9) rfl dX6_goOn_71 ?_
        refine va_iald hx hb hK hP 2 0 rfl rfl hf.1 dX6_goOn_74 ?_
        have hf := hf.2
        refine lv_iload hx hb dX6_goOn_75 (lv_at hl 4 rfl) ?_
        refine lv_iadd hx hb dX6_goOn_77 ?_
        refine lv_iadd hx hb dX6_goOn_78 ?_
        refine lv_istore_n (lv' := [(2, .int (v_6 + ((a0_bends_yards w_4.toNatClampNeg) + v_10))), (0, .ref q_a0), (1, .int x1), (3, .int v_7), (4, .int v_10)]) hx hb dX6_goOn_79 rfl hl (by decide) rfl (fun ls hl => ?_)
        refine lv_aload_n hx hb dX6_goOn_80 rfl (lv_at hl 1 rfl) ?_
        refine lv_dup hx hb dX6_goOn_81 rfl ?_
        refine va_get (D := D) (ci := 5) (v := .int w_4) (C := RX6) (T := TX6) (N := 9) hx hb hts in_X6 hown hK hP 0 rfl rfl 6 (by decide) kf_44 (fun _ h9 => h9) rfl dX6_goOn_82 ?_
        refine lv_iconst (v := 1) hx hb dX6_goOn_85 (by decide) ?_
        refine lv_iadd hx hb dX6_goOn_86 ?_
        refine va_put (D := D) (ci := 5) (v := .int (w_4 + 1)) (ty := .int) (C := RX6) (T := TX6) (N := 9) hx hb hts in_X6 tyX6 tyX6_ok nmX6 hown hK hP hD hS 0 rfl rfl 6 (by decide) kf_44 (fun _ h9 => h9) rfl (by decide +kernel) rfl rfl (Nat.le_of_ble_eq_true rfl) dX6_goOn_87 (fun H locs hP hD hS => ?_)
        have hP : va_P D vwCl [(q_a0, .inr (5, [.ref q_a0_bends, .ref q_a0_felt, .ref q_a0_paces, .ref q_a0_past, .int a0_kind, .int a0_fog, .int (w_4 + 1), .int a0_seconds, .int w_9])), (q_a0_bends, .inr (0, [.ref q_a0_bends_yards, .ref q_a0_bends_truth, .ref q_a0_bends_notes, .ref q_a0_bends_words, .ref q_a0_bends_mud, .int a0_bends_size])), (q_a0_bends_yards, .inl (cI, 8, .inl a0_bends_yards)), (q_a0_bends_truth, .inl (cI, 8, .inl a0_bends_truth)), (q_a0_bends_notes, .inl (cI, 8, .inl a0_bends_notes)), (q_a0_bends_mud, .inl (cI, 8, .inl a0_bends_mud))] H := hP
        have hD : va_D A [(q_a0, .inr (5, [.ref q_a0_bends, .ref q_a0_felt, .ref q_a0_paces, .ref q_a0_past, .int a0_kind, .int a0_fog, .int (w_4 + 1), .int a0_seconds, .int w_9])), (q_a0_bends, .inr (0, [.ref q_a0_bends_yards, .ref q_a0_bends_truth, .ref q_a0_bends_notes, .ref q_a0_bends_words, .ref q_a0_bends_mud, .int a0_bends_size])), (q_a0_bends_yards, .inl (cI, 8, .inl a0_bends_yards)), (q_a0_bends_truth, .inl (cI, 8, .inl a0_bends_truth)), (q_a0_bends_notes, .inl (cI, 8, .inl a0_bends_notes)), (q_a0_bends_mud, .inl (cI, 8, .inl a0_bends_mud))] := hD
        refine lv_iinc (v := v_7 + 1) (lv' := [(3, .int (v_7 + 1)), (2, .int (v_6 + ((a0_bends_yards w_4.toNatClampNeg) + v_10))), (0, .ref q_a0), (1, .int x1), (4, .int v_10)]) hx hb dX6_goOn_90 hl (k := 3) rfl rfl (by decide) rfl (fun ls hl => ?_)
        refine lv_goto (tgt := 4) hx hb dX6_goOn_93 (by decide) ?_
        exact ih (w_4 + 1) w_9 (v_6 + ((a0_bends_yards w_4.toNatClampNeg) + v_10)) (v_7 + 1) _ _ ls hf (hP.sub [0, 1, 2, 3, 4, 5] rfl) (hD.sub [0, 1, 2, 3, 4, 5] (by decide) rfl) hS (lv_sub hl [2, 3, 1, 0] rfl)
      have hf := lq4_s hf
      unfold bX6_goOn_4 at hf
      refine lv_iload_n hx hb dX6_goOn_4 rfl (lv_at hl 3 rfl) ?_
      refine lv_iload_n hx hb dX6_goOn_5 rfl (lv_at hl 1 rfl) ?_
      refine lv_icmp_ge (tgt := 96) hx hb dX6_goOn_6 (by decide) (fun c_11 => ?_) (fun c_11 => ?_)
      · have hf := it_t c_11 hf
        exact hj_96 w_4 w_5 v_6 _ _ hf (hP.sub [0, 1, 2, 3, 4, 5] rfl) (hD.sub [0, 1, 2, 3, 4, 5] (by decide) rfl) hS ls (lv_sub hl [0, 2] rfl)
      · have hf := it_f c_11 hf
        refine lv_aload_n hx hb dX6_goOn_9 rfl (lv_at hl 0 rfl) ?_
        refine va_get (D := D) (ci := 5) (v := .int w_4) (C := RX6) (T := TX6) (N := 9) hx hb hts in_X6 hown hK hP 0 rfl rfl 6 (by decide) kf_44 (fun _ h9 => h9) rfl dX6_goOn_10 ?_
        refine lv_aload_n hx hb dX6_goOn_13 rfl (lv_at hl 0 rfl) ?_
        refine va_get (D := D) (ci := 5) (v := .ref q_a0_bends) (C := RX6) (T := TX6) (N := 9) hx hb hts in_X6 hown hK hP 0 rfl rfl 0 (by decide) kf_10 (fun _ h9 => h9) rfl dX6_goOn_14 ?_
        refine va_get (D := D) (ci := 0) (v := .int a0_bends_size) (C := RX0) (T := TX0) (N := 6) hx hb hts in_X0 hown hK hP 1 rfl rfl 5 (by decide) kf_53 (fun _ h9 => h9) rfl dX6_goOn_17 ?_
        refine lv_icmp_ge (tgt := 96) hx hb dX6_goOn_20 (by decide) (fun c_12 => ?_) (fun c_12 => ?_)
        · have hf := it_t c_12 hf
          exact hj_96 w_4 w_5 v_6 _ _ hf (hP.sub [0, 1, 2, 3, 4, 5] rfl) (hD.sub [0, 1, 2, 3, 4, 5] (by decide) rfl) hS ls (lv_sub hl [0, 2] rfl)
        · have hf := it_f c_12 hf
          refine lv_aload_n hx hb dX6_goOn_23 rfl (lv_at hl 0 rfl) ?_
          refine lv_aload_n hx hb dX6_goOn_24 rfl (lv_at hl 0 rfl) ?_
          refine va_get (D := D) (ci := 5) (v := .int w_4) (C := RX6) (T := TX6) (N := 9) hx hb hts in_X6 hown hK hP 0 rfl rfl 6 (by decide) kf_44 (fun _ h9 => h9) rfl dX6_goOn_25 ?_
          refine lv_aload_n hx hb dX6_goOn_28 rfl (lv_at hl 0 rfl) ?_
          refine va_get (D := D) (ci := 5) (v := .ref q_a0_bends) (C := RX6) (T := TX6) (N := 9) hx hb hts in_X6 hown hK hP 0 rfl rfl 0 (by decide) kf_10 (fun _ h9 => h9) rfl dX6_goOn_29 ?_
          refine va_get (D := D) (ci := 0) (v := .ref q_a0_bends_notes) (C := RX0) (T := TX0) (N := 6) hx hb hts in_X0 hown hK hP 1 rfl rfl 2 (by decide) kf_90 (fun _ h9 => h9) rfl dX6_goOn_32 ?_
          refine lv_aload_n hx hb dX6_goOn_35 rfl (lv_at hl 0 rfl) ?_
          refine va_get (D := D) (ci := 5) (v := .int w_4) (C := RX6) (T := TX6) (N := 9) hx hb hts in_X6 hown hK hP 0 rfl rfl 6 (by decide) kf_44 (fun _ h9 => h9) rfl dX6_goOn_36 ?_
          refine va_iald hx hb hK hP 4 0 rfl rfl hf.1 dX6_goOn_39 ?_
          have hf := hf.2
          refine ya_csi (va_runV (As := [.int w_4, .int (a0_bends_notes w_4.toNatClampNeg)]) (rest := []) ⟨hx, hb, hml, hown, hts⟩ (c_X6_costAt l D cI cZ cO q_a0 q_a0_bends q_a0_felt q_a0_paces q_a0_past q_a0_bends_yards q_a0_bends_truth q_a0_bends_notes q_a0_bends_words q_a0_bends_mud a0_kind a0_fog w_4 a0_seconds w_5 a0_bends_size a0_bends_truth a0_bends_mud w_4 (a0_bends_notes w_4.toNatClampNeg) _ hf) (cwV 2 hts gX6_goOn_X6_costAt rfl rfl rfl (by decide +kernel) ⟨Nat.le_of_ble_eq_true rfl, Nat.le_of_ble_eq_true rfl⟩) (pv_ro (ci := 5) (q0 := 0) (hP.sub [0, 1, 3, 5] rfl) hX rfl rfl) rfl rfl hl.1 rfl (lv_room (Nat.le_of_ble_eq_true rfl)) dX6_goOn_40 ⟨Nat.zero_le _, Nat.zero_le _⟩) (fun r_13 hf => ?_)
          refine lv_istore (lv' := [(4, .int r_13), (0, .ref q_a0), (1, .int x1), (2, .int v_6), (3, .int v_7)]) hx hb dX6_goOn_43 hl (by decide) rfl (fun ls hl => ?_)
          refine lv_iload hx hb dX6_goOn_45 (lv_at hl 0 rfl) ?_
          refine lv_bipush (v := 60) hx hb dX6_goOn_47 (by decide) ?_
          refine lv_icmp_ne (tgt := 62) hx hb dX6_goOn_49 (by decide) (fun c_14 => ?_) (fun c_14 => ?_)
          · have hf := it_f c_14 hf
            exact hj_62 w_5 r_13 _ _ hf (hP.sub [0, 1, 2, 3, 4, 5] rfl) (hD.sub [0, 1, 2, 3, 4, 5] (by decide) rfl) hS ls (lv_sub hl [1, 2, 3, 4, 0] rfl)
          · have hf := it_t c_14 hf
            refine lv_aload_n hx hb dX6_goOn_52 rfl (lv_at hl 1 rfl) ?_
            refine lv_dup hx hb dX6_goOn_53 rfl ?_
            refine va_get (D := D) (ci := 5) (v := .int w_5) (C := RX6) (T := TX6) (N := 9) hx hb hts in_X6 hown hK hP 0 rfl rfl 8 (by decide) kf_50 (fun _ h9 => h9) rfl dX6_goOn_54 ?_
            refine lv_iconst (v := 1) hx hb dX6_goOn_57 (by decide) ?_
            refine lv_iadd hx hb dX6_goOn_58 ?_
            refine va_put (D := D) (ci := 5) (v := .int (w_5 + 1)) (ty := .int) (C := RX6) (T := TX6) (N := 9) hx hb hts in_X6 tyX6 tyX6_ok nmX6 hown hK hP hD hS 0 rfl rfl 8 (by decide) kf_50 (fun _ h9 => h9) rfl (by decide +kernel) rfl rfl (Nat.le_of_ble_eq_true rfl) dX6_goOn_59 (fun H locs hP hD hS => ?_)
            have hP : va_P D vwCl [(q_a0, .inr (5, [.ref q_a0_bends, .ref q_a0_felt, .ref q_a0_paces, .ref q_a0_past, .int a0_kind, .int a0_fog, .int w_4, .int a0_seconds, .int (w_5 + 1)])), (q_a0_bends, .inr (0, [.ref q_a0_bends_yards, .ref q_a0_bends_truth, .ref q_a0_bends_notes, .ref q_a0_bends_words, .ref q_a0_bends_mud, .int a0_bends_size])), (q_a0_bends_yards, .inl (cI, 8, .inl a0_bends_yards)), (q_a0_bends_truth, .inl (cI, 8, .inl a0_bends_truth)), (q_a0_bends_notes, .inl (cI, 8, .inl a0_bends_notes)), (q_a0_bends_mud, .inl (cI, 8, .inl a0_bends_mud))] H := hP
            have hD : va_D A [(q_a0, .inr (5, [.ref q_a0_bends, .ref q_a0_felt, .ref q_a0_paces, .ref q_a0_past, .int a0_kind, .int a0_fog, .int w_4, .int a0_seconds, .int (w_5 + 1)])), (q_a0_bends, .inr (0, [.ref q_a0_bends_yards, .ref q_a0_bends_truth, .ref q_a0_bends_notes, .ref q_a0_bends_words, .ref q_a0_bends_mud, .int a0_bends_size])), (q_a0_bends_yards, .inl (cI, 8, .inl a0_bends_yards)), (q_a0_bends_truth, .inl (cI, 8, .inl a0_bends_truth)), (q_a0_bends_notes, .inl (cI, 8, .inl a0_bends_notes)), (q_a0_bends_mud, .inl (cI, 8, .inl a0_bends_mud))] := hD
            exact hj_62 (w_5 + 1) r_13 _ _ hf (hP.sub [0, 1, 2, 3, 4, 5] rfl) (hD.sub [0, 1, 2, 3, 4, 5] (by decide) rfl) hS ls (lv_sub hl [1, 2, 3, 4, 0] rfl)
  exact hlp_4 1000 a0_here a0_crashes 0 0 _ _ ls hf (hP.sub [0, 1, 2, 3, 4, 5] rfl) (hD.sub [0, 1, 2, 3, 4, 5] (by decide) rfl) hS (lv_sub hl [2, 3, 1, 0] rfl)
