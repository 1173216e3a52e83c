def p_X9_takesItem (a0_bytes : Nat → Int32) (a0_bytesLong : Int32) (a0_tokenAt : Int32) (a0_tokenLong : Int32) (a0_token : Int32) (a0_value : Int32) (a0_anew : Nat → Int32) (a0_values : Nat → Int32) (Q : Int32 → Int32 → Int32 → Int32 → Int32 → (Nat → Int32) → (Nat → Int32) → Prop) : Prop :=
  p_X9_spells a0_bytes a0_tokenAt a0_tokenLong a0_token 4 98 101 110 100 0 0 (fun r_1 => if r_1 = 0 then (p_X9_spells a0_bytes a0_tokenAt a0_tokenLong a0_token 3 109 117 100 0 0 0 (fun r_3 => if r_3 = 0 then (p_X9_spells a0_bytes a0_tokenAt a0_tokenLong a0_token 5 100 114 105 118 101 0 (fun r_5 => if r_5 = 0 then (Q 0 a0_tokenAt a0_tokenLong a0_token a0_value a0_anew a0_values) else (p_X9_takesDrive a0_bytes a0_bytesLong a0_tokenAt a0_tokenLong a0_token a0_value a0_anew a0_values (fun r_7 u_8 u_9 u_10 u_11 u_12 u_13 => if r_7 = 0 then (Q 0 u_8 u_9 u_10 u_11 u_12 u_13) else (Q 1 u_8 u_9 u_10 u_11 u_12 u_13))))) else (p_X9_takesMud a0_bytes a0_bytesLong a0_tokenAt a0_tokenLong a0_token a0_value a0_anew a0_values (fun r_15 u_16 u_17 u_18 u_19 u_20 u_21 => zb r_15 ∧ Q r_15 u_16 u_17 u_18 u_19 u_20 u_21)))) else (p_X9_takesBend a0_bytes a0_bytesLong a0_tokenAt a0_tokenLong a0_token a0_value a0_anew a0_values (fun r_22 u_23 u_24 u_25 u_26 u_27 u_28 => zb r_22 ∧ Q r_22 u_23 u_24 u_25 u_26 u_27 u_28)))
def rmX9_takesItem : Room := { frames := 6, cells := 0, slots := 0, locals := 132 }
set_option maxHeartbeats 4000000 in
set_option maxRecDepth 100000 in
theorem c_X9_takesItem (l : Launch) (D : va_G) (cI cZ cO : ClassId) (q_a0 q_a0_told q_a0_kept q_a0_isKept q_a0_refused q_a0_manyBy q_a0_hers q_a0_his q_a0_hand q_a0_bytes q_a0_anew q_a0_values : Nat) (a0_above : Int64) (a0_below : Int64) (a0_bytesLong : Int32) (a0_tokenAt : Int32) (a0_tokenLong : Int32) (a0_token : Int32) (a0_value : Int32) (a0_bytes : Nat → Int32) (a0_anew : Nat → Int32) (a0_values : Nat → Int32) (sz : Nat) (Q : Int32 → Int32 → Int32 → Int32 → Int32 → (Nat → Int32) → (Nat → Int32) → Prop) (hf : p_X9_takesItem a0_bytes a0_bytesLong a0_tokenAt a0_tokenLong a0_token a0_value a0_anew a0_values Q) : Met l yX9_takesItem wsX9_takesItem rmX9_takesItem (va_Pc [.ref q_a0] (fun U => U.heap.size = sz ∧ va_P D vwCl [(q_a0, .inr (8, [.ref q_a0_told, .ref q_a0_kept, .ref q_a0_isKept, .ref q_a0_refused, .long a0_above, .long a0_below, .ref q_a0_manyBy, .ref q_a0_hers, .ref q_a0_his, .ref q_a0_hand, .ref q_a0_bytes, .int a0_bytesLong, .int a0_tokenAt, .int a0_tokenLong, .int a0_token, .int a0_value, .ref q_a0_anew, .ref q_a0_values])), (q_a0_bytes, .inl (cI, 150, .inl a0_bytes)), (q_a0_anew, .inl (cI, 75, .inl a0_anew)), (q_a0_values, .inl (cI, 4, .inl a0_values))] U.heap ∧ XK D cI cZ cO U ∧ va_D (fun _ => True) [(q_a0, .inr (8, [.ref q_a0_told, .ref q_a0_kept, .ref q_a0_isKept, .ref q_a0_refused, .long a0_above, .long a0_below, .ref q_a0_manyBy, .ref q_a0_hers, .ref q_a0_his, .ref q_a0_hand, .ref q_a0_bytes, .int a0_bytesLong, .int a0_tokenAt, .int a0_tokenLong, .int a0_token, .int a0_value, .ref q_a0_anew, .ref q_a0_values])), (q_a0_bytes, .inl (cI, 150, .inl a0_bytes)), (q_a0_anew, .inl (cI, 75, .inl a0_anew)), (q_a0_values, .inl (cI, 4, .inl a0_values))])) (va_Qi (fun r (u : Int32 × Int32 × Int32 × Int32 × (Nat → Int32) × (Nat → Int32)) => Q r u.1 u.2.1 u.2.2.1 u.2.2.2.1 u.2.2.2.2.1 u.2.2.2.2.2) (fun (u : Int32 × Int32 × Int32 × Int32 × (Nat → Int32) × (Nat → Int32)) t => va_P D vwCl [(q_a0, .inr (8, [.ref q_a0_told, .ref q_a0_kept, .ref q_a0_isKept, .ref q_a0_refused, .long a0_above, .long a0_below, .ref q_a0_manyBy, .ref q_a0_hers, .ref q_a0_his, .ref q_a0_hand, .ref q_a0_bytes, .int a0_bytesLong, .int u.1, .int u.2.1, .int u.2.2.1, .int u.2.2.2.1, .ref q_a0_anew, .ref q_a0_values])), (q_a0_bytes, .inl (cI, 150, .inl a0_bytes)), (q_a0_anew, .inl (cI, 75, .inl u.2.2.2.2.1)), (q_a0_values, .inl (cI, 4, .inl u.2.2.2.2.2))] t.heap ∧ va_D (va_A [(q_a0, .inr (8, [.ref q_a0_told, .ref q_a0_kept, .ref q_a0_isKept, .ref q_a0_refused, .long a0_above, .long a0_below, .ref q_a0_manyBy, .ref q_a0_hers, .ref q_a0_his, .ref q_a0_hand, .ref q_a0_bytes, .int a0_bytesLong, .int a0_tokenAt, .int a0_tokenLong, .int a0_token, .int a0_value, .ref q_a0_anew, .ref q_a0_values])), (q_a0_bytes, .inl (cI, 150, .inl a0_bytes)), (q_a0_anew, .inl (cI, 75, .inl a0_anew)), (q_a0_values, .inl (cI, 4, .inl a0_values))] sz) [(q_a0, .inr (8, [.ref q_a0_told, .ref q_a0_kept, .ref q_a0_isKept, .ref q_a0_refused, .long a0_above, .long a0_below, .ref q_a0_manyBy, .ref q_a0_hers, .ref q_a0_his, .ref q_a0_hand, .ref q_a0_bytes, .int a0_bytesLong, .int u.1, .int u.2.1, .int u.2.2.1, .int u.2.2.2.1, .ref q_a0_anew, .ref q_a0_values])), (q_a0_bytes, .inl (cI, 150, .inl a0_bytes)), (q_a0_anew, .inl (cI, 75, .inl u.2.2.2.2.1)), (q_a0_values, .inl (cI, 4, .inl u.2.2.2.2.2))]) (va_A [(q_a0, .inr (8, [.ref q_a0_told, .ref q_a0_kept, .ref q_a0_isKept, .ref q_a0_refused, .long a0_above, .long a0_below, .ref q_a0_manyBy, .ref q_a0_hers, .ref q_a0_his, .ref q_a0_hand, .ref q_a0_bytes, .int a0_bytesLong, .int a0_tokenAt, .int a0_tokenLong, .int a0_token, .int a0_value, .ref q_a0_anew, .ref q_a0_values])), (q_a0_bytes, .inl (cI, 150, .inl a0_bytes)), (q_a0_anew, .inl (cI, 75, .inl a0_anew)), (q_a0_values, .inl (cI, 4, .inl a0_values))] sz)) 0 0 (va_A [(q_a0, .inr (8, [.ref q_a0_told, .ref q_a0_kept, .ref q_a0_isKept, .ref q_a0_refused, .long a0_above, .long a0_below, .ref q_a0_manyBy, .ref q_a0_hers, .ref q_a0_his, .ref q_a0_hand, .ref q_a0_bytes, .int a0_bytesLong, .int a0_tokenAt, .int a0_tokenLong, .int a0_token, .int a0_value, .ref q_a0_anew, .ref q_a0_values])), (q_a0_bytes, .inl (cI, 150, .inl a0_bytes)), (q_a0_anew, .inl (cI, 75, .inl a0_anew)), (q_a0_values, .inl (cI, 4, .inl a0_values))] sz) := by
  refine Met.ofW (cc := cX9_takesItem) (maxL := 1) (ret := (some .boolean)) (by decide) rfl ?_
  intro p e s m args below meth c s₁ B hml hv
  obtain ⟨rfl, hsz, hP, hX, hD0⟩ := hv
  have hK := hX.1
  have hx := B.exec
  have hb := B.bytes
  have hr := B.returns
  have hts := atoms_spec (ws := wsX9_takesItem) B.pre
  have hown : s.vm.findClass RX9 = some m.cls := findClass_of_methodNamed B.named
  have hlocks := B.notSynchronized
  subst hsz
  have hD := hD0.self (sz := s.heap.size)
  generalize hAe : va_A [(q_a0, .inr (8, [.ref q_a0_told, .ref q_a0_kept, .ref q_a0_isKept, .ref q_a0_refused, .long a0_above, .long a0_below, .ref q_a0_manyBy, .ref q_a0_hers, .ref q_a0_his, .ref q_a0_hand, .ref q_a0_bytes, .int a0_bytesLong, .int a0_tokenAt, .int a0_tokenLong, .int a0_token, .int a0_value, .ref q_a0_anew, .ref q_a0_values])), (q_a0_bytes, .inl (cI, 150, .inl a0_bytes)), (q_a0_anew, .inl (cI, 75, .inl a0_anew)), (q_a0_values, .inl (cI, 4, .inl a0_values))] s.heap.size = A at hD ⊢
  have hA : ∀ q : Nat, s.heap.size ≤ q → A q := fun q h => by rw [← hAe]; exact Or.inr h
  have hS : va_S A s.heap s.heap [] := va_S.rf
  have hP : va_P D vwCl [(q_a0, .inr (8, [.ref q_a0_told, .ref q_a0_kept, .ref q_a0_isKept, .ref q_a0_refused, .long a0_above, .long a0_below, .ref q_a0_manyBy, .ref q_a0_hers, .ref q_a0_his, .ref q_a0_hand, .ref q_a0_bytes, .int a0_bytesLong, .int a0_tokenAt, .int a0_tokenLong, .int a0_token, .int a0_value, .ref q_a0_anew, .ref q_a0_values])), (q_a0_bytes, .inl (cI, 150, .inl a0_bytes)), (q_a0_anew, .inl (cI, 75, .inl a0_anew)), (q_a0_values, .inl (cI, 4, .inl a0_values))] s.heap := hP
  generalize hQQ : MQ below _ _ s _ _ _ = QQ
  have hl := lv_entry ([.ref q_a0]) (n := 1) (Nat.le_of_ble_eq_true rfl)
  rw [lg_entry_eq]
  generalize (lg_sl ([.ref q_a0]) ++ List.replicate (1 - (lg_sl ([.ref q_a0])).length) Slot.unset).toArray = ls at hl ⊢
  have hl : lv_has ls 1 [(0, .ref q_a0)] := hl
  unfold p_X9_takesItem at hf
  refine lv_aload_n hx hb dX9_takesItem_0 rfl (lv_at hl 0 rfl) ?_
  refine lv_iconst (v := 4) hx hb dX9_takesItem_1 (by decide) ?_
  refine lv_bipush (v := 98) hx hb dX9_takesItem_2 (by decide) ?_
  refine lv_bipush (v := 101) hx hb dX9_takesItem_4 (by decide) ?_
  refine lv_bipush (v := 110) hx hb dX9_takesItem_6 (by decide) ?_
  refine lv_bipush (v := 100) hx hb dX9_takesItem_8 (by decide) ?_
  refine lv_iconst (v := 0) hx hb dX9_takesItem_10 (by decide) ?_
  refine lv_iconst (v := 0) hx hb dX9_takesItem_11 (by decide) ?_
  refine ya_csi (va_runV (As := [.int 4, .int 98, .int 101, .int 110, .int 100, .int 0, .int 0]) (rest := []) ⟨hx, hb, hml, hown, hts⟩ (c_X9_spells l D cI cZ cO q_a0 q_a0_told q_a0_kept q_a0_isKept q_a0_refused q_a0_manyBy q_a0_hers q_a0_his q_a0_hand q_a0_bytes q_a0_anew q_a0_values a0_above a0_below a0_bytesLong a0_tokenAt a0_tokenLong a0_token a0_value a0_bytes 4 98 101 110 100 0 0 _ hf) (cwV 7 hts gX9_takesItem_X9_spells rfl rfl rfl (by decide +kernel) ⟨Nat.le_of_ble_eq_true rfl, Nat.le_of_ble_eq_true rfl⟩) (pv_ro (ci := 8) (q0 := 0) (hP.sub [0, 1] rfl) hX rfl rfl) rfl rfl hl.1 rfl (lv_room (Nat.le_of_ble_eq_true rfl)) dX9_takesItem_12 ⟨Nat.zero_le _, Nat.zero_le _⟩) (fun r_1 hf => ?_)
  refine lv_if_eq (tgt := 23) hx hb dX9_takesItem_15 (by decide) (fun c_2 => ?_) (fun c_2 => ?_)
  · have hf := it_t c_2 hf
    refine lv_aload_n hx hb dX9_takesItem_23 rfl (lv_at hl 0 rfl) ?_
    refine lv_iconst (v := 3) hx hb dX9_takesItem_24 (by decide) ?_
    refine lv_bipush (v := 109) hx hb dX9_takesItem_25 (by decide) ?_
    refine lv_bipush (v := 117) hx hb dX9_takesItem_27 (by decide) ?_
    refine lv_bipush (v := 100) hx hb dX9_takesItem_29 (by decide) ?_
    refine lv_iconst (v := 0) hx hb dX9_takesItem_31 (by decide) ?_
    refine lv_iconst (v := 0) hx hb dX9_takesItem_32 (by decide) ?_
    refine lv_iconst (v := 0) hx hb dX9_takesItem_33 (by decide) ?_
    refine ya_csi (va_runV (As := [.int 3, .int 109, .int 117, .int 100, .int 0, .int 0, .int 0]) (rest := []) ⟨hx, hb, hml, hown, hts⟩ (c_X9_spells l D cI cZ cO q_a0 q_a0_told q_a0_kept q_a0_isKept q_a0_refused q_a0_manyBy q_a0_hers q_a0_his q_a0_hand q_a0_bytes q_a0_anew q_a0_values a0_above a0_below a0_bytesLong a0_tokenAt a0_tokenLong a0_token a0_value a0_bytes 3 109 117 100 0 0 0 _ hf) (cwV 7 hts gX9_takesItem_X9_spells rfl rfl rfl (by decide +kernel) ⟨Nat.le_of_ble_eq_true rfl, Nat.le_of_ble_eq_true rfl⟩) (pv_ro (ci := 8) (q0 := 0) (hP.sub [0, 1] rfl) hX rfl rfl) rfl rfl hl.1 rfl (lv_room (Nat.le_of_ble_eq_true rfl)) dX9_takesItem_34 ⟨Nat.zero_le _, Nat.zero_le _⟩) (fun r_3 hf => ?_)
    refine lv_if_eq (tgt := 45) hx hb dX9_takesItem_37 (by decide) (fun c_4 => ?_) (fun c_4 => ?_)
    · have hf := it_t c_4 hf
      refine lv_aload_n hx hb dX9_takesItem_45 rfl (lv_at hl 0 rfl) ?_
      refine lv_iconst (v := 5) hx hb dX9_takesItem_46 (by decide) ?_
      refine lv_bipush (v := 100) hx hb dX9_takesItem_47 (by decide) ?_
      refine lv_bipush (v := 114) hx hb dX9_takesItem_49 (by decide) ?_
      refine lv_bipush (v := 105) hx hb dX9_takesItem_51 (by decide) ?_
      refine lv_bipush (v := 118) hx hb dX9_takesItem_53 (by decide) ?_
      refine lv_bipush (v := 101) hx hb dX9_takesItem_55 (by decide) ?_
      refine lv_iconst (v := 0) hx hb dX9_takesItem_57 (by decide) ?_
      refine ya_csi (va_runV (As := [.int 5, .int 100, .int 114, .int 105, .int 118, .int 101, .int 0]) (rest := []) ⟨hx, hb, hml, hown, hts⟩ (c_X9_spells l D cI cZ cO q_a0 q_a0_told q_a0_kept q_a0_isKept q_a0_refused q_a0_manyBy q_a0_hers q_a0_his q_a0_hand q_a0_bytes q_a0_anew q_a0_values a0_above a0_below a0_bytesLong a0_tokenAt a0_tokenLong a0_token a0_value a0_bytes 5 100 114 105 118 101 0 _ hf) (cwV 7 hts gX9_takesItem_X9_spells rfl rfl rfl (by decide +kernel) ⟨Nat.le_of_ble_eq_true rfl, Nat.le_of_ble_eq_true rfl⟩) (pv_ro (ci := 8) (q0 := 0) (hP.sub [0, 1] rfl) hX rfl rfl) rfl rfl hl.1 rfl (lv_room (Nat.le_of_ble_eq_true rfl)) dX9_takesItem_58 ⟨Nat.zero_le _, Nat.zero_le _⟩) (fun r_5 hf => ?_)
      refine lv_if_eq (tgt := 75) hx hb dX9_takesItem_61 (by decide) (fun c_6 => ?_) (fun c_6 => ?_)
      · have hf := it_t c_6 hf
        refine lv_iconst (v := 0) hx hb dX9_takesItem_75 (by decide) ?_
        subst hQQ
        have hP9 := hP.sub (ws' := [(q_a0, .inr (8, [.ref q_a0_told, .ref q_a0_kept, .ref q_a0_isKept, .ref q_a0_refused, .long a0_above, .long a0_below, .ref q_a0_manyBy, .ref q_a0_hers, .ref q_a0_his, .ref q_a0_hand, .ref q_a0_bytes, .int a0_bytesLong, .int a0_tokenAt, .int a0_tokenLong, .int a0_token, .int a0_value, .ref q_a0_anew, .ref q_a0_values])), (q_a0_bytes, .inl (cI, 150, .inl a0_bytes)), (q_a0_anew, .inl (cI, 75, .inl a0_anew)), (q_a0_values, .inl (cI, 4, .inl a0_values))]) [0, 1, 2, 3] rfl
        have hD9 := hD.sub (ws' := [(q_a0, .inr (8, [.ref q_a0_told, .ref q_a0_kept, .ref q_a0_isKept, .ref q_a0_refused, .long a0_above, .long a0_below, .ref q_a0_manyBy, .ref q_a0_hers, .ref q_a0_his, .ref q_a0_hand, .ref q_a0_bytes, .int a0_bytesLong, .int a0_tokenAt, .int a0_tokenLong, .int a0_token, .int a0_value, .ref q_a0_anew, .ref q_a0_values])), (q_a0_bytes, .inl (cI, 150, .inl a0_bytes)), (q_a0_anew, .inl (cI, 75, .inl a0_anew)), (q_a0_values, .inl (cI, 4, .inl a0_values))]) [0, 1, 2, 3] (by decide) rfl
        exact W.zret hx hb hr rfl (fun t ht hW => ⟨⟨0, (a0_tokenAt, a0_tokenLong, a0_token, a0_value, a0_anew, a0_values), rfl, hf, by rw [ht]; exact hP9, hD9⟩, hS.F ht⟩) hS.2.2 dX9_takesItem_76
      · have hf := it_f c_6 hf
        refine lv_aload_n hx hb dX9_takesItem_64 rfl (lv_at hl 0 rfl) ?_
        have hPc := hP.sub (ws' := [(q_a0, .inr (8, [.ref q_a0_told, .ref q_a0_kept, .ref q_a0_isKept, .ref q_a0_refused, .long a0_above, .long a0_below, .ref q_a0_manyBy, .ref q_a0_hers, .ref q_a0_his, .ref q_a0_hand, .ref q_a0_bytes, .int a0_bytesLong, .int a0_tokenAt, .int a0_tokenLong, .int a0_token, .int a0_value, .ref q_a0_anew, .ref q_a0_values])), (q_a0_bytes, .inl (cI, 150, .inl a0_bytes)), (q_a0_anew, .inl (cI, 75, .inl a0_anew)), (q_a0_values, .inl (cI, 4, .inl a0_values))]) [0, 1, 2, 3] rfl
        have hDc := hD.sub (ws' := [(q_a0, .inr (8, [.ref q_a0_told, .ref q_a0_kept, .ref q_a0_isKept, .ref q_a0_refused, .long a0_above, .long a0_below, .ref q_a0_manyBy, .ref q_a0_hers, .ref q_a0_his, .ref q_a0_hand, .ref q_a0_bytes, .int a0_bytesLong, .int a0_tokenAt, .int a0_tokenLong, .int a0_token, .int a0_value, .ref q_a0_anew, .ref q_a0_values])), (q_a0_bytes, .inl (cI, 150, .inl a0_bytes)), (q_a0_anew, .inl (cI, 75, .inl a0_anew)), (q_a0_values, .inl (cI, 4, .inl a0_values))]) [0, 1, 2, 3] (by decide) rfl
        have hFc := va_free (wc := [(q_a0, .inr (8, [.ref q_a0_told, .ref q_a0_kept, .ref q_a0_isKept, .ref q_a0_refused, .long a0_above, .long a0_below, .ref q_a0_manyBy, .ref q_a0_hers, .ref q_a0_his, .ref q_a0_hand, .ref q_a0_bytes, .int a0_bytesLong, .int a0_tokenAt, .int a0_tokenLong, .int a0_token, .int a0_value, .ref q_a0_anew, .ref q_a0_values])), (q_a0_bytes, .inl (cI, 150, .inl a0_bytes)), (q_a0_anew, .inl (cI, 75, .inl a0_anew)), (q_a0_values, .inl (cI, 4, .inl a0_values))]) hD hS hA [0, 1, 2, 3] rfl
        refine va_calli (va_runV (As := []) (rest := []) ⟨hx, hb, hml, hown, hts⟩ (c_X9_takesDrive l D cI cZ cO q_a0 q_a0_told q_a0_kept q_a0_isKept q_a0_refused q_a0_manyBy q_a0_hers q_a0_his q_a0_hand q_a0_bytes q_a0_anew q_a0_values a0_above a0_below a0_bytesLong a0_tokenAt a0_tokenLong a0_token a0_value a0_bytes a0_anew a0_values s.heap.size  _ hf) (cwV 0 hts gX9_takesItem_X9_takesDrive rfl rfl rfl (by decide +kernel) ⟨Nat.le_of_ble_eq_true rfl, Nat.le_of_ble_eq_true rfl⟩) (pv_rw (ci := 8) (q0 := 0) hPc hDc hX rfl rfl) rfl rfl hl.1 rfl (lv_room (Nat.le_of_ble_eq_true rfl)) dX9_takesItem_65 ⟨Nat.zero_le _, Nat.zero_le _⟩) hS (fun q _ h => hFc q h) hFc (fun r_7 u t H1 locs ht hvm hf hB hz1 hk1 hS => ?_)
        obtain ⟨u_8, u_9, u_10, u_11, u_12, u_13⟩ := u
        obtain ⟨hP1, hD1⟩ := hB
        rw [ht] at hP1
        clear hvm
        obtain ⟨hP, hD⟩ := va_join (wr := []) (w1 := [(q_a0, .inr (8, [.ref q_a0_told, .ref q_a0_kept, .ref q_a0_isKept, .ref q_a0_refused, .long a0_above, .long a0_below, .ref q_a0_manyBy, .ref q_a0_hers, .ref q_a0_his, .ref q_a0_hand, .ref q_a0_bytes, .int a0_bytesLong, .int u_8, .int u_9, .int u_10, .int u_11, .ref q_a0_anew, .ref q_a0_values])), (q_a0_bytes, .inl (cI, 150, .inl a0_bytes)), (q_a0_anew, .inl (cI, 75, .inl u_12)), (q_a0_values, .inl (cI, 4, .inl u_13))]) hP hD [0, 1, 2, 3] [] rfl rfl (by decide) (by decide) hk1 hFc hP1 hD1
        clear hz1 hk1 hPc hDc hFc hP1 hD1
        generalize H1 = H at hP hS ⊢
        have hP : va_P D vwCl [(q_a0, .inr (8, [.ref q_a0_told, .ref q_a0_kept, .ref q_a0_isKept, .ref q_a0_refused, .long a0_above, .long a0_below, .ref q_a0_manyBy, .ref q_a0_hers, .ref q_a0_his, .ref q_a0_hand, .ref q_a0_bytes, .int a0_bytesLong, .int u_8, .int u_9, .int u_10, .int u_11, .ref q_a0_anew, .ref q_a0_values])), (q_a0_bytes, .inl (cI, 150, .inl a0_bytes)), (q_a0_anew, .inl (cI, 75, .inl u_12)), (q_a0_values, .inl (cI, 4, .inl u_13))] H := hP
        have hD : va_D A [(q_a0, .inr (8, [.ref q_a0_told, .ref q_a0_kept, .ref q_a0_isKept, .ref q_a0_refused, .long a0_above, .long a0_below, .ref q_a0_manyBy, .ref q_a0_hers, .ref q_a0_his, .ref q_a0_hand, .ref q_a0_bytes, .int a0_bytesLong, .int u_8, .int u_9, .int u_10, .int u_11, .ref q_a0_anew, .ref q_a0_values])), (q_a0_bytes, .inl (cI, 150, .inl a0_bytes)), (q_a0_anew, .inl (cI, 75, .inl u_12)), (q_a0_values, .inl (cI, 4, .inl u_13))] := hD
        refine lv_if_eq (tgt := 75) hx hb dX9_takesItem_68 (by decide) (fun c_14 => ?_) (fun c_14 => ?_)
        · have hf := it_t c_14 hf
          refine lv_iconst (v := 0) hx hb dX9_takesItem_75 (by decide) ?_
          subst hQQ
          have hP9 := hP.sub (ws' := [(q_a0, .inr (8, [.ref q_a0_told, .ref q_a0_kept, .ref q_a0_isKept, .ref q_a0_refused, .long a0_above, .long a0_below, .ref q_a0_manyBy, .ref q_a0_hers, .ref q_a0_his, .ref q_a0_hand, .ref q_a0_bytes, .int a0_bytesLong, .int u_8, .int u_9, .int u_10, .int u_11, .ref q_a0_anew, .ref q_a0_values])), (q_a0_bytes, .inl (cI, 150, .inl a0_bytes)), (q_a0_anew, .inl (cI, 75, .inl u_12)), (q_a0_values, .inl (cI, 4, .inl u_13))]) [0, 1, 2, 3] rfl
          have hD9 := hD.sub (ws' := [(q_a0, .inr (8, [.ref q_a0_told, .ref q_a0_kept, .ref q_a0_isKept, .ref q_a0_refused, .long a0_above, .long a0_below, .ref q_a0_manyBy, .ref q_a0_hers, .ref q_a0_his, .ref q_a0_hand, .ref q_a0_bytes, .int a0_bytesLong, .int u_8, .int u_9, .int u_10, .int u_11, .ref q_a0_anew, .ref q_a0_values])), (q_a0_bytes, .inl (cI, 150, .inl a0_bytes)), (q_a0_anew, .inl (cI, 75, .inl u_12)), (q_a0_values, .inl (cI, 4, .inl u_13))]) [0, 1, 2, 3] (by decide) rfl
          exact W.zret hx hb hr rfl (fun t ht hW => ⟨⟨0, (u_8, u_9, u_10, u_11, u_12, u_13), rfl, hf, by rw [ht]; exact hP9, hD9⟩, hS.F ht⟩) hS.2.2 dX9_takesItem_76
        · have hf := it_f c_14 hf
          refine lv_iconst (v := 1) hx hb dX9_takesItem_71 (by decide) ?_
          refine lv_goto (tgt := 76) hx hb dX9_takesItem_72 (by decide) ?_
          subst hQQ
          have hP9 := hP.sub (ws' := [(q_a0, .inr (8, [.ref q_a0_told, .ref q_a0_kept, .ref q_a0_isKept, .ref q_a0_refused, .long a0_above, .long a0_below, .ref q_a0_manyBy, .ref q_a0_hers, .ref q_a0_his, .ref q_a0_hand, .ref q_a0_bytes, .int a0_bytesLong, .int u_8, .int u_9, .int u_10, .int u_11, .ref q_a0_anew, .ref q_a0_values])), (q_a0_bytes, .inl (cI, 150, .inl a0_bytes)), (q_a0_anew, .inl (cI, 75, .inl u_12)), (q_a0_values, .inl (cI, 4, .inl u_13))]) [0, 1, 2, 3] rfl
          have hD9 := hD.sub (ws' := [(q_a0, .inr (8, [.ref q_a0_told, .ref q_a0_kept, .ref q_a0_isKept, .ref q_a0_refused, .long a0_above, .long a0_below, .ref q_a0_manyBy, .ref q_a0_hers, .ref q_a0_his, .ref q_a0_hand, .ref q_a0_bytes, .int a0_bytesLong, .int u_8, .int u_9, .int u_10, .int u_11, .ref q_a0_anew, .ref q_a0_values])), (q_a0_bytes, .inl (cI, 150, .inl a0_bytes)), (q_a0_anew, .inl (cI, 75, .inl u_12)), (q_a0_values, .inl (cI, 4, .inl u_13))]) [0, 1, 2, 3] (by decide) rfl
          exact W.zret hx hb hr rfl (fun t ht hW => ⟨⟨1, (u_8, u_9, u_10, u_11, u_12, u_13), rfl, hf, by rw [ht]; exact hP9, hD9⟩, hS.F ht⟩) hS.2.2 dX9_takesItem_76
    · have hf := it_f c_4 hf
      refine lv_aload_n hx hb dX9_takesItem_40 rfl (lv_at hl 0 rfl) ?_
      have hPc := hP.sub (ws' := [(q_a0, .inr (8, [.ref q_a0_told, .ref q_a0_kept, .ref q_a0_isKept, .ref q_a0_refused, .long a0_above, .long a0_below, .ref q_a0_manyBy, .ref q_a0_hers, .ref q_a0_his, .ref q_a0_hand, .ref q_a0_bytes, .int a0_bytesLong, .int a0_tokenAt, .int a0_tokenLong, .int a0_token, .int a0_value, .ref q_a0_anew, .ref q_a0_values])), (q_a0_bytes, .inl (cI, 150, .inl a0_bytes)), (q_a0_anew, .inl (cI, 75, .inl a0_anew)), (q_a0_values, .inl (cI, 4, .inl a0_values))]) [0, 1, 2, 3] rfl
      have hDc := hD.sub (ws' := [(q_a0, .inr (8, [.ref q_a0_told, .ref q_a0_kept, .ref q_a0_isKept, .ref q_a0_refused, .long a0_above, .long a0_below, .ref q_a0_manyBy, .ref q_a0_hers, .ref q_a0_his, .ref q_a0_hand, .ref q_a0_bytes, .int a0_bytesLong, .int a0_tokenAt, .int a0_tokenLong, .int a0_token, .int a0_value, .ref q_a0_anew, .ref q_a0_values])), (q_a0_bytes, .inl (cI, 150, .inl a0_bytes)), (q_a0_anew, .inl (cI, 75, .inl a0_anew)), (q_a0_values, .inl (cI, 4, .inl a0_values))]) [0, 1, 2, 3] (by decide) rfl
      have hFc := va_free (wc := [(q_a0, .inr (8, [.ref q_a0_told, .ref q_a0_kept, .ref q_a0_isKept, .ref q_a0_refused, .long a0_above, .long a0_below, .ref q_a0_manyBy, .ref q_a0_hers, .ref q_a0_his, .ref q_a0_hand, .ref q_a0_bytes, .int a0_bytesLong, .int a0_tokenAt, .int a0_tokenLong, .int a0_token, .int a0_value, .ref q_a0_anew, .ref q_a0_values])), (q_a0_bytes, .inl (cI, 150, .inl a0_bytes)), (q_a0_anew, .inl (cI, 75, .inl a0_anew)), (q_a0_values, .inl (cI, 4, .inl a0_values))]) hD hS hA [0, 1, 2, 3] rfl
      refine va_calli (va_runV (As := []) (rest := []) ⟨hx, hb, hml, hown, hts⟩ (c_X9_takesMud l D cI cZ cO q_a0 q_a0_told q_a0_kept q_a0_isKept q_a0_refused q_a0_manyBy q_a0_hers q_a0_his q_a0_hand q_a0_bytes q_a0_anew q_a0_values a0_above a0_below a0_bytesLong a0_tokenAt a0_tokenLong a0_token a0_value a0_bytes a0_anew a0_values s.heap.size  _ hf) (cwV 0 hts gX9_takesItem_X9_takesMud rfl rfl rfl (by decide +kernel) ⟨Nat.le_of_ble_eq_true rfl, Nat.le_of_ble_eq_true rfl⟩) (pv_rw (ci := 8) (q0 := 0) hPc hDc hX rfl rfl) rfl rfl hl.1 rfl (lv_room (Nat.le_of_ble_eq_true rfl)) dX9_takesItem_41 ⟨Nat.zero_le _, Nat.zero_le _⟩) hS (fun q _ h => hFc q h) hFc (fun r_15 u t H1 locs ht hvm hf hB hz1 hk1 hS => ?_)
      obtain ⟨u_16, u_17, u_18, u_19, u_20, u_21⟩ := u
      obtain ⟨hP1, hD1⟩ := hB
      rw [ht] at hP1
      clear hvm
      obtain ⟨hP, hD⟩ := va_join (wr := []) (w1 := [(q_a0, .inr (8, [.ref q_a0_told, .ref q_a0_kept, .ref q_a0_isKept, .ref q_a0_refused, .long a0_above, .long a0_below, .ref q_a0_manyBy, .ref q_a0_hers, .ref q_a0_his, .ref q_a0_hand, .ref q_a0_bytes, .int a0_bytesLong, .int u_16, .int u_17, .int u_18, .int u_19, .ref q_a0_anew, .ref q_a0_values])), (q_a0_bytes, .inl (cI, 150, .inl a0_bytes)), (q_a0_anew, .inl (cI, 75, .inl u_20)), (q_a0_values, .inl (cI, 4, .inl u_21))]) hP hD [0, 1, 2, 3] [] rfl rfl (by decide) (by decide) hk1 hFc hP1 hD1
      clear hz1 hk1 hPc hDc hFc hP1 hD1
      generalize H1 = H at hP hS ⊢
      have hP : va_P D vwCl [(q_a0, .inr (8, [.ref q_a0_told, .ref q_a0_kept, .ref q_a0_isKept, .ref q_a0_refused, .long a0_above, .long a0_below, .ref q_a0_manyBy, .ref q_a0_hers, .ref q_a0_his, .ref q_a0_hand, .ref q_a0_bytes, .int a0_bytesLong, .int u_16, .int u_17, .int u_18, .int u_19, .ref q_a0_anew, .ref q_a0_values])), (q_a0_bytes, .inl (cI, 150, .inl a0_bytes)), (q_a0_anew, .inl (cI, 75, .inl u_20)), (q_a0_values, .inl (cI, 4, .inl u_21))] H := hP
      have hD : va_D A [(q_a0, .inr (8, [.ref q_a0_told, .ref q_a0_kept, .ref q_a0_isKept, .ref q_a0_refused, .long a0_above, .long a0_below, .ref q_a0_manyBy, .ref q_a0_hers, .ref q_a0_his, .ref q_a0_hand, .ref q_a0_bytes, .int a0_bytesLong, .int u_16, .int u_17, .int u_18, .int u_19, .ref q_a0_anew, .ref q_a0_values])), (q_a0_bytes, .inl (cI, 150, .inl a0_bytes)), (q_a0_anew, .inl (cI, 75, .inl u_20)), (q_a0_values, .inl (cI, 4, .inl u_21))] := hD
      subst hQQ
      have hz := hf.1
      have hf := hf.2
      have hP9 := hP.sub (ws' := [(q_a0, .inr (8, [.ref q_a0_told, .ref q_a0_kept, .ref q_a0_isKept, .ref q_a0_refused, .long a0_above, .long a0_below, .ref q_a0_manyBy, .ref q_a0_hers, .ref q_a0_his, .ref q_a0_hand, .ref q_a0_bytes, .int a0_bytesLong, .int u_16, .int u_17, .int u_18, .int u_19, .ref q_a0_anew, .ref q_a0_values])), (q_a0_bytes, .inl (cI, 150, .inl a0_bytes)), (q_a0_anew, .inl (cI, 75, .inl u_20)), (q_a0_values, .inl (cI, 4, .inl u_21))]) [0, 1, 2, 3] rfl
      have hD9 := hD.sub (ws' := [(q_a0, .inr (8, [.ref q_a0_told, .ref q_a0_kept, .ref q_a0_isKept, .ref q_a0_refused, .long a0_above, .long a0_below, .ref q_a0_manyBy, .ref q_a0_hers, .ref q_a0_his, .ref q_a0_hand, .ref q_a0_bytes, .int a0_bytesLong, .int u_16, .int u_17, .int u_18, .int u_19, .ref q_a0_anew, .ref q_a0_values])), (q_a0_bytes, .inl (cI, 150, .inl a0_bytes)), (q_a0_anew, .inl (cI, 75, .inl u_20)), (q_a0_values, .inl (cI, 4, .inl u_21))]) [0, 1, 2, 3] (by decide) rfl
      exact W.zret hx hb hr hz (fun t ht hW => ⟨⟨r_15, (u_16, u_17, u_18, u_19, u_20, u_21), rfl, hf, by rw [ht]; exact hP9, hD9⟩, hS.F ht⟩) hS.2.2 dX9_takesItem_44
  · have hf := it_f c_2 hf
    refine lv_aload_n hx hb dX9_takesItem_18 rfl (lv_at hl 0 rfl) ?_
    have hPc := hP.sub (ws' := [(q_a0, .inr (8, [.ref q_a0_told, .ref q_a0_kept, .ref q_a0_isKept, .ref q_a0_refused, .long a0_above, .long a0_below, .ref q_a0_manyBy, .ref q_a0_hers, .ref q_a0_his, .ref q_a0_hand, .ref q_a0_bytes, .int a0_bytesLong, .int a0_tokenAt, .int a0_tokenLong, .int a0_token, .int a0_value, .ref q_a0_anew, .ref q_a0_values])), (q_a0_bytes, .inl (cI, 150, .inl a0_bytes)), (q_a0_anew, .inl (cI, 75, .inl a0_anew)), (q_a0_values, .inl (cI, 4, .inl a0_values))]) [0, 1, 2, 3] rfl
    have hDc := hD.sub (ws' := [(q_a0, .inr (8, [.ref q_a0_told, .ref q_a0_kept, .ref q_a0_isKept, .ref q_a0_refused, .long a0_above, .long a0_below, .ref q_a0_manyBy, .ref q_a0_hers, .ref q_a0_his, .ref q_a0_hand, .ref q_a0_bytes, .int a0_bytesLong, .int a0_tokenAt, .int a0_tokenLong, .int a0_token, .int a0_value, .ref q_a0_anew, .ref q_a0_values])), (q_a0_bytes, .inl (cI, 150, .inl a0_bytes)), (q_a0_anew, .inl (cI, 75, .inl a0_anew)), (q_a0_values, .inl (cI, 4, .inl a0_values))]) [0, 1, 2, 3] (by decide) rfl
    have hFc := va_free (wc := [(q_a0, .inr (8, [.ref q_a0_told, .ref q_a0_kept, .ref q_a0_isKept, .ref q_a0_refused, .long a0_above, .long a0_below, .ref q_a0_manyBy, .ref q_a0_hers, .ref q_a0_his, .ref q_a0_hand, .ref q_a0_bytes, .int a0_bytesLong, .int a0_tokenAt, .int a0_tokenLong, .int a0_token, .int a0_value, .ref q_a0_anew, .ref q_a0_values])), (q_a0_bytes, .inl (cI, 150, .inl a0_bytes)), (q_a0_anew, .inl (cI, 75, .inl a0_anew)), (q_a0_values, .inl (cI, 4, .inl a0_values))]) hD hS hA [0, 1, 2, 3] rfl
    refine va_calli (va_runV (As := []) (rest := []) ⟨hx, hb, hml, hown, hts⟩ (c_X9_takesBend l D cI cZ cO q_a0 q_a0_told q_a0_kept q_a0_isKept q_a0_refused q_a0_manyBy q_a0_hers q_a0_his q_a0_hand q_a0_bytes q_a0_anew q_a0_values a0_above a0_below a0_bytesLong a0_tokenAt a0_tokenLong a0_token a0_value a0_bytes a0_anew a0_values s.heap.size  _ hf) (cwV 0 hts gX9_takesItem_X9_takesBend rfl rfl rfl (by decide +kernel) ⟨Nat.le_of_ble_eq_true rfl, Nat.le_of_ble_eq_true rfl⟩) (pv_rw (ci := 8) (q0 := 0) hPc hDc hX rfl rfl) rfl rfl hl.1 rfl (lv_room (Nat.le_of_ble_eq_true rfl)) dX9_takesItem_19 ⟨Nat.zero_le _, Nat.zero_le _⟩) hS (fun q _ h => hFc q h) hFc (fun r_22 u t H1 locs ht hvm hf hB hz1 hk1 hS => ?_)
    obtain ⟨u_23, u_24, u_25, u_26, u_27, u_28⟩ := u
    obtain ⟨hP1, hD1⟩ := hB
    rw [ht] at hP1
    clear hvm
    obtain ⟨hP, hD⟩ := va_join (wr := []) (w1 := [(q_a0, .inr (8, [.ref q_a0_told, .ref q_a0_kept, .ref q_a0_isKept, .ref q_a0_refused, .long a0_above, .long a0_below, .ref q_a0_manyBy, .ref q_a0_hers, .ref q_a0_his, .ref q_a0_hand, .ref q_a0_bytes, .int a0_bytesLong, .int u_23, .int u_24, .int u_25, .int u_26, .ref q_a0_anew, .ref q_a0_values])), (q_a0_bytes, .inl (cI, 150, .inl a0_bytes)), (q_a0_anew, .inl (cI, 75, .inl u_27)), (q_a0_values, .inl (cI, 4, .inl u_28))]) hP hD [0, 1, 2, 3] [] rfl rfl (by decide) (by decide) hk1 hFc hP1 hD1
    clear hz1 hk1 hPc hDc hFc hP1 hD1
    generalize H1 = H at hP hS ⊢
    have hP : va_P D vwCl [(q_a0, .inr (8, [.ref q_a0_told, .ref q_a0_kept, .ref q_a0_isKept, .ref q_a0_refused, .long a0_above, .long a0_below, .ref q_a0_manyBy, .ref q_a0_hers, .ref q_a0_his, .ref q_a0_hand, .ref q_a0_bytes, .int a0_bytesLong, .int u_23, .int u_24, .int u_25, .int u_26, .ref q_a0_anew, .ref q_a0_values])), (q_a0_bytes, .inl (cI, 150, .inl a0_bytes)), (q_a0_anew, .inl (cI, 75, .inl u_27)), (q_a0_values, .inl (cI, 4, .inl u_28))] H := hP
    have hD : va_D A [(q_a0, .inr (8, [.ref q_a0_told, .ref q_a0_kept, .ref q_a0_isKept, .ref q_a0_refused, .long a0_above, .long a0_below, .ref q_a0_manyBy, .ref q_a0_hers, .ref q_a0_his, .ref q_a0_hand, .ref q_a0_bytes, .int a0_bytesLong, .int u_23, .int u_24, .int u_25, .int u_26, .ref q_a0_anew, .ref q_a0_values])), (q_a0_bytes, .inl (cI, 150, .inl a0_bytes)), (q_a0_anew, .inl (cI, 75, .inl u_27)), (q_a0_values, .inl (cI, 4, .inl u_28))] := hD
    subst hQQ
    have hz := hf.1
    have hf := hf.2
    have hP9 := hP.sub (ws' := [(q_a0, .inr (8, [.ref q_a0_told, .ref q_a0_kept, .ref q_a0_isKept, .ref q_a0_refused, .long a0_above, .long a0_below, .ref q_a0_manyBy, .ref q_a0_hers, .ref q_a0_his, .ref q_a0_hand, .ref q_a0_bytes, .int a0_bytesLong, .int u_23, .int u_24, .int u_25, .int u_26, .ref q_a0_anew, .ref q_a0_values])), (q_a0_bytes, .inl (cI, 150, .inl a0_bytes)), (q_a0_anew, .inl (cI, 75, .inl u_27)), (q_a0_values, .inl (cI, 4, .inl u_28))]) [0, 1, 2, 3] rfl
    have hD9 := hD.sub (ws' := [(q_a0, .inr (8, [.ref q_a0_told, .ref q_a0_kept, .ref q_a0_isKept, .ref q_a0_refused, .long a0_above, .long a0_below, .ref q_a0_manyBy, .ref q_a0_hers, .ref q_a0_his, .ref q_a0_hand, .ref q_a0_bytes, .int a0_bytesLong, .int u_23, .int u_24, .int u_25, .int u_26, .ref q_a0_anew, .ref q_a0_values])), (q_a0_bytes, .inl (cI, 150, .inl a0_bytes)), (q_a0_anew, .inl (cI, 75, .inl u_27)), (q_a0_values, .inl (cI, 4, .inl u_28))]) [0, 1, 2, 3] (by decide) rfl
    exact W.zret hx hb hr hz (fun t ht hW => ⟨⟨r_22, (u_23, u_24, u_25, u_26, u_27, u_28), rfl, hf, by rw [ht]; exact hP9, hD9⟩, hS.F ht⟩) hS.2.2 dX9_takesItem_22
def bX9_read_68 (Q : Int32 → (Nat → Int32) → Int32 → Int32 → Int32 → Int32 → (Nat → Int32) → (Nat → Int32) → Prop) (w_1 : Int32) (w_2 : Int32) (w_3 : Int32) (w_4 : Int32) (w_5 : Nat → Int32) (w_6 : Nat → Int32) (v_7 : Int32) (k_10 : (Nat → Int32) → Int32 → Prop) (w_8 : Nat → Int32) (v_9 : Int32) : Prop :=
  if 75 ≤ v_9 then (Q v_7 w_8 w_1 w_2 w_3 w_4 w_5 w_6) else (vp_in v_9 75 ∧ (vp_in v_9 163 ∧ (k_10 (upd w_8 (v_9.toNatClampNeg) (w_5 v_9.toNatClampNeg)) (v_9 + 1))))
def jX9_read_66 (a0_told : Nat → Int32) (Q : Int32 → (Nat → Int32) → Int32 → Int32 → Int32 → Int32 → (Nat → Int32) → (Nat → Int32) → Prop) (w_1 : Int32) (w_2 : Int32) (w_3 : Int32) (w_4 : Int32) (w_5 : Nat → Int32) (w_6 : Nat → Int32) (v_7 : Int32) : Prop :=
  lq2 (bX9_read_68 Q w_1 w_2 w_3 w_4 w_5 w_6 v_7) 1000 a0_told 0
def jX9_read_48 (a0_told : Nat → Int32) (Q : Int32 → (Nat → Int32) → Int32 → Int32 → Int32 → Int32 → (Nat → Int32) → (Nat → Int32) → Prop) (w_12 : Int32) (w_13 : Int32) (w_14 : Int32) (w_15 : Int32) (w_16 : Nat → Int32) (w_17 : Nat → Int32) : Prop :=
  Q ((-10) - w_12) a0_told w_12 w_13 w_14 w_15 w_16 w_17
def bX9_read_26 (a0_told : Nat → Int32) (a0_bytes : Nat → Int32) (a0_bytesLong : Int32) (Q : Int32 → (Nat → Int32) → Int32 → Int32 → Int32 → Int32 → (Nat → Int32) → (Nat → Int32) → Prop) (k_41 : Int32 → Int32 → Int32 → Int32 → (Nat → Int32) → (Nat → Int32) → Int32 → Prop) (w_34 : Int32) (w_35 : Int32) (w_36 : Int32) (w_37 : Int32) (w_38 : Nat → Int32) (w_39 : Nat → Int32) (v_40 : Int32) : Prop :=
  if w_36 = 0 then (jX9_read_66 a0_told Q w_34 w_35 w_36 w_37 w_38 w_39 v_40) else (p_X9_takesItem a0_bytes a0_bytesLong w_34 w_35 w_36 w_37 w_38 w_39 (fun r_43 u_44 u_45 u_46 u_47 u_48 u_49 => if r_43 = 0 then (jX9_read_48 a0_told Q u_44 u_45 u_46 u_47 u_48 u_49) else (if u_46 = 3 then (p_X9_goBehind a0_bytes a0_bytesLong u_44 u_45 u_46 u_47 (fun u_52 u_53 u_54 u_55 => k_41 u_52 u_53 u_54 u_55 u_48 u_49 (v_40 + 1))) else (jX9_read_48 a0_told Q u_44 u_45 u_46 u_47 u_48 u_49))))
def p_X9_read (a0_told : Nat → Int32) (a0_bytes : Nat → Int32) (a0_bytesLong : Int32) (a0_tokenAt : Int32) (a0_tokenLong : Int32) (a0_token : Int32) (a0_value : Int32) (a0_anew : Nat → Int32) (a0_values : Nat → Int32) (Q : Int32 → (Nat → Int32) → Int32 → Int32 → Int32 → Int32 → (Nat → Int32) → (Nat → Int32) → Prop) : Prop :=
  p_X9_lookAt a0_bytes a0_bytesLong a0_tokenAt a0_tokenLong a0_token a0_value 0 (fun u_18 u_19 u_20 u_21 => p_X9_takesRoad a0_bytes a0_bytesLong u_18 u_19 u_20 u_21 a0_anew a0_values (fun r_22 u_23 u_24 u_25 u_26 u_27 u_28 => if r_22 = 0 then (Q ((-10) - u_23) a0_told u_23 u_24 u_25 u_26 u_27 u_28) else (p_X9_goBehind a0_bytes a0_bytesLong u_23 u_24 u_25 u_26 (fun u_30 u_31 u_32 u_33 => lq7 (bX9_read_26 a0_told a0_bytes a0_bytesLong Q) 1000 u_30 u_31 u_32 u_33 u_27 u_28 1))))
def rmX9_read : Room := { frames := 7, cells := 0, slots := 0, locals := 152 }
set_option maxHeartbeats 4000000 in
set_option maxRecDepth 100000 in
theorem c_X9_read (l : Launch) (D : va_G) (cI cZ cO : ClassId) (q_a0 q_a0_told q_a0_kept q_a0_isKept q_a0_refused q_a0_manyBy q_a0_hers q_a0_his q_a0_hand q_a0_bytes q_a0_anew q_a0_values : Nat) (a0_above : Int64) (a0_below : Int64) (a0_bytesLong : Int32) (a0_tokenAt : Int32) (a0_tokenLong : Int32) (a0_token : Int32) (a0_value : Int32) (a0_told : Nat → Int32) (a0_bytes : Nat → Int32) (a0_anew : Nat → Int32) (a0_values : Nat → Int32) (sz : Nat) (Q : Int32 → (Nat → Int32) → Int32 → Int32 → Int32 → Int32 → (Nat → Int32) → (Nat → Int32) → Prop) (hf : p_X9_read a0_told a0_bytes a0_bytesLong a0_tokenAt a0_tokenLong a0_token a0_value a0_anew a0_values Q) : Met l yX9_read wsX9_read rmX9_read (va_Pc [.ref q_a0] (fun U => U.heap.size = sz ∧ va_P D vwCl [(q_a0, .inr (8, [.ref q_a0_told, .ref q_a0_kept, .ref q_a0_isKept, .ref q_a0_refused, .long a0_above, .long a0_below, .ref q_a0_manyBy, .ref q_a0_hers, .ref q_a0_his, .ref q_a0_hand, .ref q_a0_bytes, .int a0_bytesLong, .int a0_tokenAt, .int a0_tokenLong, .int a0_token, .int a0_value, .ref q_a0_anew, .ref q_a0_values])), (q_a0_told, .inl (cI, 163, .inl a0_told)), (q_a0_bytes, .inl (cI, 150, .inl a0_bytes)), (q_a0_anew, .inl (cI, 75, .inl a0_anew)), (q_a0_values, .inl (cI, 4, .inl a0_values))] U.heap ∧ XK D cI cZ cO U ∧ va_D (fun _ => True) [(q_a0, .inr (8, [.ref q_a0_told, .ref q_a0_kept, .ref q_a0_isKept, .ref q_a0_refused, .long a0_above, .long a0_below, .ref q_a0_manyBy, .ref q_a0_hers, .ref q_a0_his, .ref q_a0_hand, .ref q_a0_bytes, .int a0_bytesLong, .int a0_tokenAt, .int a0_tokenLong, .int a0_token, .int a0_value, .ref q_a0_anew, .ref q_a0_values])), (q_a0_told, .inl (cI, 163, .inl a0_told)), (q_a0_bytes, .inl (cI, 150, .inl a0_bytes)), (q_a0_anew, .inl (cI, 75, .inl a0_anew)), (q_a0_values, .inl (cI, 4, .inl a0_values))])) (va_Qi (fun r (u : (Nat → Int32) × Int32 × Int32 × Int32 × Int32 × (Nat → Int32) × (Nat → Int32)) => Q r u.1 u.2.1 u.2.2.1 u.2.2.2.1 u.2.2.2.2.1 u.2.2.2.2.2.1 u.2.2.2.2.2.2) (fun (u : (Nat → Int32) × Int32 × Int32 × Int32 × Int32 × (Nat → Int32) × (Nat → Int32)) t => va_P D vwCl [(q_a0, .inr (8, [.ref q_a0_told, .ref q_a0_kept, .ref q_a0_isKept, .ref q_a0_refused, .long a0_above, .long a0_below, .ref q_a0_manyBy, .ref q_a0_hers, .ref q_a0_his, .ref q_a0_hand, .ref q_a0_bytes, .int a0_bytesLong, .int u.2.1, .int u.2.2.1, .int u.2.2.2.1, .int u.2.2.2.2.1, .ref q_a0_anew, .ref q_a0_values])), (q_a0_told, .inl (cI, 163, .inl u.1)), (q_a0_bytes, .inl (cI, 150, .inl a0_bytes)), (q_a0_anew, .inl (cI, 75, .inl u.2.2.2.2.2.1)), (q_a0_values, .inl (cI, 4, .inl u.2.2.2.2.2.2))] t.heap ∧ va_D (va_A [(q_a0, .inr (8, [.ref q_a0_told, .ref q_a0_kept, .ref q_a0_isKept, .ref q_a0_refused, .long a0_above, .long a0_below, .ref q_a0_manyBy, .ref q_a0_hers, .ref q_a0_his, .ref q_a0_hand, .ref q_a0_bytes, .int a0_bytesLong, .int a0_tokenAt, .int a0_tokenLong, .int a0_token, .int a0_value, .ref q_a0_anew, .ref q_a0_values])), (q_a0_told, .inl (cI, 163, .inl a0_told)), (q_a0_bytes, .inl (cI, 150, .inl a0_bytes)), (q_a0_anew, .inl (cI, 75, .inl a0_anew)), (q_a0_values, .inl (cI, 4, .inl a0_values))] sz) [(q_a0, .inr (8, [.ref q_a0_told, .ref q_a0_kept, .ref q_a0_isKept, .ref q_a0_refused, .long a0_above, .long a0_below, .ref q_a0_manyBy, .ref q_a0_hers, .ref q_a0_his, .ref q_a0_hand, .ref q_a0_bytes, .int a0_bytesLong, .int u.2.1, .int u.2.2.1, .int u.2.2.2.1, .int u.2.2.2.2.1, .ref q_a0_anew, .ref q_a0_values])), (q_a0_told, .inl (cI, 163, .inl u.1)), (q_a0_bytes, .inl (cI, 150, .inl a0_bytes)), (q_a0_anew, .inl (cI, 75, .inl u.2.2.2.2.2.1)), (q_a0_values, .inl (cI, 4, .inl u.2.2.2.2.2.2))]) (va_A [(q_a0, .inr (8, [.ref q_a0_told, .ref q_a0_kept, .ref q_a0_isKept, .ref q_a0_refused, .long a0_above, .long a0_below, .ref q_a0_manyBy, .ref q_a0_hers, .ref q_a0_his, .ref q_a0_hand, .ref q_a0_bytes, .int a0_bytesLong, .int a0_tokenAt, .int a0_tokenLong, .int a0_token, .int a0_value, .ref q_a0_anew, .ref q_a0_values])), (q_a0_told, .inl (cI, 163, .inl a0_told)), (q_a0_bytes, .inl (cI, 150, .inl a0_bytes)), (q_a0_anew, .inl (cI, 75, .inl a0_anew)), (q_a0_values, .inl (cI, 4, .inl a0_values))] sz)) 0 0 (va_A [(q_a0, .inr (8, [.ref q_a0_told, .ref q_a0_kept, .ref q_a0_isKept, .ref q_a0_refused, .long a0_above, .long a0_below, .ref q_a0_manyBy, .ref q_a0_hers, .ref q_a0_his, .ref q_a0_hand, .ref q_a0_bytes, .int a0_bytesLong, .int a0_tokenAt, .int a0_tokenLong, .int a0_token, .int a0_value, .ref q_a0_anew, .ref q_a0_values])), (q_a0_told, .inl (cI, 163, .inl a0_told)), (q_a0_bytes, .inl (cI, 150, .inl a0_bytes)), (q_a0_anew, .inl (cI, 75, .inl a0_anew)), (q_a0_values, .inl (cI, 4, .inl a0_values))] sz) := by
  refine Met.ofW (cc := cX9_read) (maxL := 3) (ret := (some .int)) (by decide) rfl ?_
  intro p e s m args below meth c s₁ B hml hv
  obtain ⟨rfl, hsz, hP, hX, hD0⟩ := hv
  have hK := hX.1
  have hx := B.exec
  have hb := B.bytes
  have hr := B.returns
  have hts := atoms_spec (ws := wsX9_read) B.pre
  have hown : s.vm.findClass RX9 = some m.cls := findClass_of_methodNamed B.named
  have hlocks := B.notSynchronized
  have in_X9 : ∀ w ∈ wsX90, w ∈ wsX9_read := fun _ h => List.mem_cons_of_mem _ (List.mem_append_right _ h)
  have kf_7 := hts (.fieldLink RX9 7 "LeftCrestModel" "told" "[I") (by decide +kernel)
  have kf_42 := hts (.fieldLink RX9 42 "LeftCrestModel" "anew" "[I") (by decide +kernel)
  have kf_195 := hts (.fieldLink RX9 195 "LeftCrestModel" "tokenAt" "I") (by decide +kernel)
  have kf_201 := hts (.fieldLink RX9 201 "LeftCrestModel" "token" "I") (by decide +kernel)
  subst hsz
  have hD := hD0.self (sz := s.heap.size)
  generalize hAe : va_A [(q_a0, .inr (8, [.ref q_a0_told, .ref q_a0_kept, .ref q_a0_isKept, .ref q_a0_refused, .long a0_above, .long a0_below, .ref q_a0_manyBy, .ref q_a0_hers, .ref q_a0_his, .ref q_a0_hand, .ref q_a0_bytes, .int a0_bytesLong, .int a0_tokenAt, .int a0_tokenLong, .int a0_token, .int a0_value, .ref q_a0_anew, .ref q_a0_values])), (q_a0_told, .inl (cI, 163, .inl a0_told)), (q_a0_bytes, .inl (cI, 150, .inl a0_bytes)), (q_a0_anew, .inl (cI, 75, .inl a0_anew)), (q_a0_values, .inl (cI, 4, .inl a0_values))] s.heap.size = A at hD ⊢
  have hA : ∀ q : Nat, s.heap.size ≤ q → A q := fun q h => by rw [← hAe]; exact Or.inr h
  have hS : va_S A s.heap s.heap [] := va_S.rf
  have hP : va_P D vwCl [(q_a0, .inr (8, [.ref q_a0_told, .ref q_a0_kept, .ref q_a0_isKept, .ref q_a0_refused, .long a0_above, .long a0_below, .ref q_a0_manyBy, .ref q_a0_hers, .ref q_a0_his, .ref q_a0_hand, .ref q_a0_bytes, .int a0_bytesLong, .int a0_tokenAt, .int a0_tokenLong, .int a0_token, .int a0_value, .ref q_a0_anew, .ref q_a0_values])), (q_a0_told, .inl (cI, 163, .inl a0_told)), (q_a0_bytes, .inl (cI, 150, .inl a0_bytes)), (q_a0_anew, .inl (cI, 75, .inl a0_anew)), (q_a0_values, .inl (cI, 4, .inl a0_values))] s.heap := hP
  generalize hQQ : MQ below _ _ s _ _ _ = QQ
  have hl := lv_entry ([.ref q_a0]) (n := 3) (Nat.le_of_ble_eq_true rfl)
  rw [lg_entry_eq]
  generalize (lg_sl ([.ref q_a0]) ++ List.replicate (3 - (lg_sl ([.ref q_a0])).length) Slot.unset).toArray = ls at hl ⊢
  have hl : lv_has ls 3 [(0, .ref q_a0)] := hl
  have hj_66 : ∀ (w_1 : Int32) (w_2 : Int32) (w_3 : Int32) (w_4 : Int32) (w_5 : Nat → Int32) (w_6 : Nat → Int32) (v_7 : Int32) (H : Heap) (locs : List Loc), jX9_read_66 a0_told Q w_1 w_2 w_3 w_4 w_5 w_6 v_7 → va_P D vwCl [(q_a0, .inr (8, [.ref q_a0_told, .ref q_a0_kept, .ref q_a0_isKept, .ref q_a0_refused, .long a0_above, .long a0_below, .ref q_a0_manyBy, .ref q_a0_hers, .ref q_a0_his, .ref q_a0_hand, .ref q_a0_bytes, .int a0_bytesLong, .int w_1, .int w_2, .int w_3, .int w_4, .ref q_a0_anew, .ref q_a0_values])), (q_a0_told, .inl (cI, 163, .inl a0_told)), (q_a0_bytes, .inl (cI, 150, .inl a0_bytes)), (q_a0_anew, .inl (cI, 75, .inl w_5)), (q_a0_values, .inl (cI, 4, .inl w_6))] H → va_D A [(q_a0, .inr (8, [.ref q_a0_told, .ref q_a0_kept, .ref q_a0_isKept, .ref q_a0_refused, .long a0_above, .long a0_below, .ref q_a0_manyBy, .ref q_a0_hers, .ref q_a0_his, .ref q_a0_hand, .ref q_a0_bytes, .int a0_bytesLong, .int w_1, .int w_2, .int w_3, .int w_4, .ref q_a0_anew, .ref q_a0_values])), (q_a0_told, .inl (cI, 163, .inl a0_told)), (q_a0_bytes, .inl (cI, 150, .inl a0_bytes)), (q_a0_anew, .inl (cI, 75, .inl w_5)), (q_a0_values, .inl (cI, 4, .inl w_6))] → va_S A s.heap H locs → ∀ ls : Array Slot, lv_has ls 3 [(0, .ref q_a0), (1, .int v_7)] → W p l e (headSpec wsX9_read rmX9_read).room s m ([.ref q_a0] : List Value).toArray below meth c H locs 0 0 QQ (F0 m 66 ls []) := by
    intro w_1 w_2 w_3 w_4 w_5 w_6 v_7 H locs hf hP hD hS ls hl
    unfold jX9_read_66 at hf
    refine lv_iconst (v := 0) hx hb dX9_read_66 (by decide) ?_
    refine lv_istore_n (lv' := [(2, .int 0), (0, .ref q_a0), (1, .int v_7)]) hx hb dX9_read_67 rfl hl (by decide) rfl (fun ls hl => ?_)
    have hlp_68 : ∀ (n_68 : Nat) (w_8 : Nat → Int32) (v_9 : Int32) (H : Heap) (locs : List Loc) (ls : Array Slot), lq2 (bX9_read_68 Q w_1 w_2 w_3 w_4 w_5 w_6 v_7) n_68 w_8 v_9 → va_P D vwCl [(q_a0, .inr (8, [.ref q_a0_told, .ref q_a0_kept, .ref q_a0_isKept, .ref q_a0_refused, .long a0_above, .long a0_below, .ref q_a0_manyBy, .ref q_a0_hers, .ref q_a0_his, .ref q_a0_hand, .ref q_a0_bytes, .int a0_bytesLong, .int w_1, .int w_2, .int w_3, .int w_4, .ref q_a0_anew, .ref q_a0_values])), (q_a0_told, .inl (cI, 163, .inl w_8)), (q_a0_bytes, .inl (cI, 150, .inl a0_bytes)), (q_a0_anew, .inl (cI, 75, .inl w_5)), (q_a0_values, .inl (cI, 4, .inl w_6))] H → va_D A [(q_a0, .inr (8, [.ref q_a0_told, .ref q_a0_kept, .ref q_a0_isKept, .ref q_a0_refused, .long a0_above, .long a0_below, .ref q_a0_manyBy, .ref q_a0_hers, .ref q_a0_his, .ref q_a0_hand, .ref q_a0_bytes, .int a0_bytesLong, .int w_1, .int w_2, .int w_3, .int w_4, .ref q_a0_anew, .ref q_a0_values])), (q_a0_told, .inl (cI, 163, .inl w_8)), (q_a0_bytes, .inl (cI, 150, .inl a0_bytes)), (q_a0_anew, .inl (cI, 75, .inl w_5)), (q_a0_values, .inl (cI, 4, .inl w_6))] → va_S A s.heap H locs → lv_has ls 3 [(0, .ref q_a0), (1, .int v_7), (2, .int v_9)] → W p l e (headSpec wsX9_read rmX9_read).room s m ([.ref q_a0] : List Value).toArray below meth c H locs 0 0 QQ (F0 m 68 ls []) := by
      intro n_68
      induction n_68 with
      | zero => intro w_8 v_9 H locs ls hf; exact (lq2_0 hf).elim
      | succ n_68 ih =>
        have ih_68 := ih
        intro w_8 v_9 H locs ls hf hP hD hS hl
        have hf := lq2_s hf
        unfold bX9_read_68 at hf
        refine lv_iload_n hx hb dX9_read_68 rfl (lv_at hl 2 rfl) ?_
        refine lv_bipush (v := 75) hx hb dX9_read_69 (by decide) ?_
        refine lv_icmp_ge (tgt := 92) hx hb dX9_read_71 (by decide) (fun c_11 => ?_) (fun c_11 => ?_)
        · have hf := it_t c_11 hf
          refine lv_iload_n hx hb dX9_read_92 rfl (lv_at hl 1 rfl) ?_
          subst hQQ
          have hP9 := hP.sub (ws' := [(q_a0, .inr (8, [.ref q_a0_told, .ref q_a0_kept, .ref q_a0_isKept, .ref q_a0_refused, .long a0_above, .long a0_below, .ref q_a0_manyBy, .ref q_a0_hers, .ref q_a0_his, .ref q_a0_hand, .ref q_a0_bytes, .int a0_bytesLong, .int w_1, .int w_2, .int w_3, .int w_4, .ref q_a0_anew, .ref q_a0_values])), (q_a0_told, .inl (cI, 163, .inl w_8)), (q_a0_bytes, .inl (cI, 150, .inl a0_bytes)), (q_a0_anew, .inl (cI, 75, .inl w_5)), (q_a0_values, .inl (cI, 4, .inl w_6))]) [0, 1, 2, 3, 4] rfl
          have hD9 := hD.sub (ws' := [(q_a0, .inr (8, [.ref q_a0_told, .ref q_a0_kept, .ref q_a0_isKept, .ref q_a0_refused, .long a0_above, .long a0_below, .ref q_a0_manyBy, .ref q_a0_hers, .ref q_a0_his, .ref q_a0_hand, .ref q_a0_bytes, .int a0_bytesLong, .int w_1, .int w_2, .int w_3, .int w_4, .ref q_a0_anew, .ref q_a0_values])), (q_a0_told, .inl (cI, 163, .inl w_8)), (q_a0_bytes, .inl (cI, 150, .inl a0_bytes)), (q_a0_anew, .inl (cI, 75, .inl w_5)), (q_a0_values, .inl (cI, 4, .inl w_6))]) [0, 1, 2, 3, 4] (by decide) rfl
          exact W.iret hx hb hr (fun t ht hW => ⟨⟨v_7, (w_8, w_1, w_2, w_3, w_4, w_5, w_6), rfl, hf, by rw [ht]; exact hP9, hD9⟩, hS.F ht⟩) hS.2.2 dX9_read_93
        · have hf := it_f c_11 hf
          refine lv_aload_n hx hb dX9_read_74 rfl (lv_at hl 0 rfl) ?_
          refine va_get (D := D) (ci := 8) (v := .ref q_a0_told) (C := RX9) (T := TX9) (N := 18) hx hb hts in_X9 hown hK hP 0 rfl rfl 0 (by decide) kf_7 (fun _ h9 => h9) rfl dX9_read_75 ?_
          refine lv_iload_n hx hb dX9_read_78 rfl (lv_at hl 2 rfl) ?_
          refine lv_aload_n hx hb dX9_read_79 rfl (lv_at hl 0 rfl) ?_
          refine va_get (D := D) (ci := 8) (v := .ref q_a0_anew) (C := RX9) (T := TX9) (N := 18) hx hb hts in_X9 hown hK hP 0 rfl rfl 16 (by decide) kf_42 (fun _ h9 => h9) rfl dX9_read_80 ?_
          refine lv_iload_n hx hb dX9_read_83 rfl (lv_at hl 2 rfl) ?_
          refine va_iald hx hb hK hP 3 0 rfl rfl hf.1 dX9_read_84 ?_
          have hf := hf.2
          refine va_iast hx hb hK hP hD hS 1 0 rfl rfl hf.1 dX9_read_85 (fun H locs hP hD hS => ?_)
          have hP : va_P D vwCl [(q_a0, .inr (8, [.ref q_a0_told, .ref q_a0_kept, .ref q_a0_isKept, .ref q_a0_refused, .long a0_above, .long a0_below, .ref q_a0_manyBy, .ref q_a0_hers, .ref q_a0_his, .ref q_a0_hand, .ref q_a0_bytes, .int a0_bytesLong, .int w_1, .int w_2, .int w_3, .int w_4, .ref q_a0_anew, .ref q_a0_values])), (q_a0_told, .inl (cI, 163, .inl (upd w_8 (v_9.toNatClampNeg) (w_5 v_9.toNatClampNeg)))), (q_a0_bytes, .inl (cI, 150, .inl a0_bytes)), (q_a0_anew, .inl (cI, 75, .inl w_5)), (q_a0_values, .inl (cI, 4, .inl w_6))] H := hP
          have hD : va_D A [(q_a0, .inr (8, [.ref q_a0_told, .ref q_a0_kept, .ref q_a0_isKept, .ref q_a0_refused, .long a0_above, .long a0_below, .ref q_a0_manyBy, .ref q_a0_hers, .ref q_a0_his, .ref q_a0_hand, .ref q_a0_bytes, .int a0_bytesLong, .int w_1, .int w_2, .int w_3, .int w_4, .ref q_a0_anew, .ref q_a0_values])), (q_a0_told, .inl (cI, 163, .inl (upd w_8 (v_9.toNatClampNeg) (w_5 v_9.toNatClampNeg)))), (q_a0_bytes, .inl (cI, 150, .inl a0_bytes)), (q_a0_anew, .inl (cI, 75, .inl w_5)), (q_a0_values, .inl (cI, 4, .inl w_6))] := hD
          have hf := hf.2
          refine lv_iinc (v := v_9 + 1) (lv' := [(2, .int (v_9 + 1)), (0, .ref q_a0), (1, .int v_7)]) hx hb dX9_read_86 hl (k := 2) rfl rfl (by decide) rfl (fun ls hl => ?_)
          refine lv_goto (tgt := 68) hx hb dX9_read_89 (by decide) ?_
          exact ih (upd w_8 (v_9.toNatClampNeg) (w_5 v_9.toNatClampNeg)) (v_9 + 1) _ _ ls hf (hP.sub [0, 1, 2, 3, 4] rfl) (hD.sub [0, 1, 2, 3, 4] (by decide) rfl) hS (lv_sub hl [1, 2, 0] rfl)
    exact hlp_68 1000 a0_told 0 _ _ ls hf (hP.sub [0, 1, 2, 3, 4] rfl) (hD.sub [0, 1, 2, 3, 4] (by decide) rfl) hS (lv_sub hl [1, 2, 0] rfl)
  have hj_48 : ∀ (w_12 : Int32) (w_13 : Int32) (w_14 : Int32) (w_15 : Int32) (w_16 : Nat → Int32) (w_17 : Nat → Int32) (H : Heap) (locs : List Loc), jX9_read_48 a0_told Q w_12 w_13 w_14 w_15 w_16 w_17 → va_P D vwCl [(q_a0, .inr (8, [.ref q_a0_told, .ref q_a0_kept, .ref q_a0_isKept, .ref q_a0_refused, .long a0_above, .long a0_below, .ref q_a0_manyBy, .ref q_a0_hers, .ref q_a0_his, .ref q_a0_hand, .ref q_a0_bytes, .int a0_bytesLong, .int w_12, .int w_13, .int w_14, .int w_15, .ref q_a0_anew, .ref q_a0_values])), (q_a0_told, .inl (cI, 163, .inl a0_told)), (q_a0_bytes, .inl (cI, 150, .inl a0_bytes)), (q_a0_anew, .inl (cI, 75, .inl w_16)), (q_a0_values, .inl (cI, 4, .inl w_17))] H → va_D A [(q_a0, .inr (8, [.ref q_a0_told, .ref q_a0_kept, .ref q_a0_isKept, .ref q_a0_refused, .long a0_above, .long a0_below, .ref q_a0_manyBy, .ref q_a0_hers, .ref q_a0_his, .ref q_a0_hand, .ref q_a0_bytes, .int a0_bytesLong, .int w_12, .int w_13, .int w_14, .int w_15, .ref q_a0_anew, .ref q_a0_values])), (q_a0_told, .inl (cI, 163, .inl a0_told)), (q_a0_bytes, .inl (cI, 150, .inl a0_bytes)), (q_a0_anew, .inl (cI, 75, .inl w_16)), (q_a0_values, .inl (cI, 4, .inl w_17))] → va_S A s.heap H locs → ∀ ls : Array Slot, lv_has ls 3 [(0, .ref q_a0)] → W p l e (headSpec wsX9_read rmX9_read).room s m ([.ref q_a0] : List Value).toArray below meth c H locs 0 0 QQ (F0 m 48 ls []) := by
    intro w_12 w_13 w_14 w_15 w_16 w_17 H locs hf hP hD hS ls hl
    unfold jX9_read_48 at hf
    refine lv_bipush (v := (-10)) hx hb dX9_read_48 (by decide) ?_
    refine lv_aload_n hx hb dX9_read_50 rfl (lv_at hl 0 rfl) ?_
    refine va_get (D := D) (ci := 8) (v := .int w_12) (C := RX9) (T := TX9) (N := 18) hx hb hts in_X9 hown hK hP 0 rfl rfl 12 (by decide) kf_195 (fun _ h9 => h9) rfl dX9_read_51 ?_
    refine lv_isub hx hb dX9_read_54 ?_
    subst hQQ
    have hP9 := hP.sub (ws' := [(q_a0, .inr (8, [.ref q_a0_told, .ref q_a0_kept, .ref q_a0_isKept, .ref q_a0_refused, .long a0_above, .long a0_below, .ref q_a0_manyBy, .ref q_a0_hers, .ref q_a0_his, .ref q_a0_hand, .ref q_a0_bytes, .int a0_bytesLong, .int w_12, .int w_13, .int w_14, .int w_15, .ref q_a0_anew, .ref q_a0_values])), (q_a0_told, .inl (cI, 163, .inl a0_told)), (q_a0_bytes, .inl (cI, 150, .inl a0_bytes)), (q_a0_anew, .inl (cI, 75, .inl w_16)), (q_a0_values, .inl (cI, 4, .inl w_17))]) [0, 1, 2, 3, 4] rfl
    have hD9 := hD.sub (ws' := [(q_a0, .inr (8, [.ref q_a0_told, .ref q_a0_kept, .ref q_a0_isKept, .ref q_a0_refused, .long a0_above, .long a0_below, .ref q_a0_manyBy, .ref q_a0_hers, .ref q_a0_his, .ref q_a0_hand, .ref q_a0_bytes, .int a0_bytesLong, .int w_12, .int w_13, .int w_14, .int w_15, .ref q_a0_anew, .ref q_a0_values])), (q_a0_told, .inl (cI, 163, .inl a0_told)), (q_a0_bytes, .inl (cI, 150, .inl a0_bytes)), (q_a0_anew, .inl (cI, 75, .inl w_16)), (q_a0_values, .inl (cI, 4, .inl w_17))]) [0, 1, 2, 3, 4] (by decide) rfl
    exact W.iret hx hb hr (fun t ht hW => ⟨⟨((-10) - w_12), (a0_told, w_12, w_13, w_14, w_15, w_16, w_17), rfl, hf, by rw [ht]; exact hP9, hD9⟩, hS.F ht⟩) hS.2.2 dX9_read_55
  unfold p_X9_read at hf
  refine lv_aload_n hx hb dX9_read_0 rfl (lv_at hl 0 rfl) ?_
  refine lv_iconst (v := 0) hx hb dX9_read_1 (by decide) ?_
  have hPc := hP.sub (ws' := [(q_a0, .inr (8, [.ref q_a0_told, .ref q_a0_kept, .ref q_a0_isKept, .ref q_a0_refused, .long a0_above, .long a0_below, .ref q_a0_manyBy, .ref q_a0_hers, .ref q_a0_his, .ref q_a0_hand, .ref q_a0_bytes, .int a0_bytesLong, .int a0_tokenAt, .int a0_tokenLong, .int a0_token, .int a0_value, .ref q_a0_anew, .ref q_a0_values])), (q_a0_bytes, .inl (cI, 150, .inl a0_bytes))]) [0, 2] rfl
  have hDc := hD.sub (ws' := [(q_a0, .inr (8, [.ref q_a0_told, .ref q_a0_kept, .ref q_a0_isKept, .ref q_a0_refused, .long a0_above, .long a0_below, .ref q_a0_manyBy, .ref q_a0_hers, .ref q_a0_his, .ref q_a0_hand, .ref q_a0_bytes, .int a0_bytesLong, .int a0_tokenAt, .int a0_tokenLong, .int a0_token, .int a0_value, .ref q_a0_anew, .ref q_a0_values])), (q_a0_bytes, .inl (cI, 150, .inl a0_bytes))]) [0, 2] (by decide) rfl
  have hFc := va_free (wc := [(q_a0, .inr (8, [.ref q_a0_told, .ref q_a0_kept, .ref q_a0_isKept, .ref q_a0_refused, .long a0_above, .long a0_below, .ref q_a0_manyBy, .ref q_a0_hers, .ref q_a0_his, .ref q_a0_hand, .ref q_a0_bytes, .int a0_bytesLong, .int a0_tokenAt, .int a0_tokenLong, .int a0_token, .int a0_value, .ref q_a0_anew, .ref q_a0_values])), (q_a0_bytes, .inl (cI, 150, .inl a0_bytes))]) hD hS hA [0, 2] rfl
  refine va_callv (va_runV (As := [.int 0]) (rest := []) ⟨hx, hb, hml, hown, hts⟩ (c_X9_lookAt l D cI cZ cO q_a0 q_a0_told q_a0_kept q_a0_isKept q_a0_refused q_a0_manyBy q_a0_hers q_a0_his q_a0_hand q_a0_bytes q_a0_anew q_a0_values a0_above a0_below a0_bytesLong a0_tokenAt a0_tokenLong a0_token a0_value a0_bytes s.heap.size 0 _ hf) (cwV 1 hts gX9_read_X9_lookAt rfl rfl rfl (by decide +kernel) ⟨Nat.le_of_ble_eq_true rfl, Nat.le_of_ble_eq_true rfl⟩) (pv_rw (ci := 8) (q0 := 0) hPc hDc hX rfl rfl) rfl rfl hl.1 rfl (lv_room (Nat.le_of_ble_eq_true rfl)) dX9_read_2 ⟨Nat.zero_le _, Nat.zero_le _⟩) hS (fun q _ h => hFc q h) hFc (fun u t H1 locs ht hvm hf hB hz1 hk1 hS => ?_)
  obtain ⟨u_18, u_19, u_20, u_21⟩ := u
  obtain ⟨hP1, hD1⟩ := hB
  rw [ht] at hP1
  clear hvm
  obtain ⟨hP, hD⟩ := va_join (wr := [(q_a0_told, .inl (cI, 163, .inl a0_told)), (q_a0_anew, .inl (cI, 75, .inl a0_anew)), (q_a0_values, .inl (cI, 4, .inl a0_values))]) (w1 := [(q_a0, .inr (8, [.ref q_a0_told, .ref q_a0_kept, .ref q_a0_isKept, .ref q_a0_refused, .long a0_above, .long a0_below, .ref q_a0_manyBy, .ref q_a0_hers, .ref q_a0_his, .ref q_a0_hand, .ref q_a0_bytes, .int a0_bytesLong, .int u_18, .int u_19, .int u_20, .int u_21, .ref q_a0_anew, .ref q_a0_values])), (q_a0_bytes, .inl (cI, 150, .inl a0_bytes))]) hP hD [0, 2] [1, 3, 4] rfl rfl (by decide) (by decide) hk1 hFc hP1 hD1
  clear hz1 hk1 hPc hDc hFc hP1 hD1
  generalize H1 = H at hP hS ⊢
  have hP : va_P D vwCl [(q_a0_told, .inl (cI, 163, .inl a0_told)), (q_a0_anew, .inl (cI, 75, .inl a0_anew)), (q_a0_values, .inl (cI, 4, .inl a0_values)), (q_a0, .inr (8, [.ref q_a0_told, .ref q_a0_kept, .ref q_a0_isKept, .ref q_a0_refused, .long a0_above, .long a0_below, .ref q_a0_manyBy, .ref q_a0_hers, .ref q_a0_his, .ref q_a0_hand, .ref q_a0_bytes, .int a0_bytesLong, .int u_18, .int u_19, .int u_20, .int u_21, .ref q_a0_anew, .ref q_a0_values])), (q_a0_bytes, .inl (cI, 150, .inl a0_bytes))] H := hP
  have hD : va_D A [(q_a0_told, .inl (cI, 163, .inl a0_told)), (q_a0_anew, .inl (cI, 75, .inl a0_anew)), (q_a0_values, .inl (cI, 4, .inl a0_values)), (q_a0, .inr (8, [.ref q_a0_told, .ref q_a0_kept, .ref q_a0_isKept, .ref q_a0_refused, .long a0_above, .long a0_below, .ref q_a0_manyBy, .ref q_a0_hers, .ref q_a0_his, .ref q_a0_hand, .ref q_a0_bytes, .int a0_bytesLong, .int u_18, .int u_19, .int u_20, .int u_21, .ref q_a0_anew, .ref q_a0_values])), (q_a0_bytes, .inl (cI, 150, .inl a0_bytes))] := hD
  refine lv_aload_n hx hb dX9_read_5 rfl (lv_at hl 0 rfl) ?_
  have hPc := hP.sub (ws' := [(q_a0, .inr (8, [.ref q_a0_told, .ref q_a0_kept, .ref q_a0_isKept, .ref q_a0_refused, .long a0_above, .long a0_below, .ref q_a0_manyBy, .ref q_a0_hers, .ref q_a0_his, .ref q_a0_hand, .ref q_a0_bytes, .int a0_bytesLong, .int u_18, .int u_19, .int u_20, .int u_21, .ref q_a0_anew, .ref q_a0_values])), (q_a0_bytes, .inl (cI, 150, .inl a0_bytes)), (q_a0_anew, .inl (cI, 75, .inl a0_anew)), (q_a0_values, .inl (cI, 4, .inl a0_values))]) [3, 4, 1, 2] rfl
  have hDc := hD.sub (ws' := [(q_a0, .inr (8, [.ref q_a0_told, .ref q_a0_kept, .ref q_a0_isKept, .ref q_a0_refused, .long a0_above, .long a0_below, .ref q_a0_manyBy, .ref q_a0_hers, .ref q_a0_his, .ref q_a0_hand, .ref q_a0_bytes, .int a0_bytesLong, .int u_18, .int u_19, .int u_20, .int u_21, .ref q_a0_anew, .ref q_a0_values])), (q_a0_bytes, .inl (cI, 150, .inl a0_bytes)), (q_a0_anew, .inl (cI, 75, .inl a0_anew)), (q_a0_values, .inl (cI, 4, .inl a0_values))]) [3, 4, 1, 2] (by decide) rfl
  have hFc := va_free (wc := [(q_a0, .inr (8, [.ref q_a0_told, .ref q_a0_kept, .ref q_a0_isKept, .ref q_a0_refused, .long a0_above, .long a0_below, .ref q_a0_manyBy, .ref q_a0_hers, .ref q_a0_his, .ref q_a0_hand, .ref q_a0_bytes, .int a0_bytesLong, .int u_18, .int u_19, .int u_20, .int u_21, .ref q_a0_anew, .ref q_a0_values])), (q_a0_bytes, .inl (cI, 150, .inl a0_bytes)), (q_a0_anew, .inl (cI, 75, .inl a0_anew)), (q_a0_values, .inl (cI, 4, .inl a0_values))]) hD hS hA [3, 4, 1, 2] rfl
  refine va_calli (va_runV (As := []) (rest := []) ⟨hx, hb, hml, hown, hts⟩ (c_X9_takesRoad l D cI cZ cO q_a0 q_a0_told q_a0_kept q_a0_isKept q_a0_refused q_a0_manyBy q_a0_hers q_a0_his q_a0_hand q_a0_bytes q_a0_anew q_a0_values a0_above a0_below a0_bytesLong u_18 u_19 u_20 u_21 a0_bytes a0_anew a0_values H.size  _ hf) (cwV 0 hts gX9_read_X9_takesRoad rfl rfl rfl (by decide +kernel) ⟨Nat.le_of_ble_eq_true rfl, Nat.le_of_ble_eq_true rfl⟩) (pv_rw (ci := 8) (q0 := 0) hPc hDc hX rfl rfl) rfl rfl hl.1 rfl (lv_room (Nat.le_of_ble_eq_true rfl)) dX9_read_6 ⟨Nat.zero_le _, Nat.zero_le _⟩) hS (fun q _ h => hFc q h) hFc (fun r_22 u t H1 locs ht hvm hf hB hz1 hk1 hS => ?_)
  obtain ⟨u_23, u_24, u_25, u_26, u_27, u_28⟩ := u
  obtain ⟨hP1, hD1⟩ := hB
  rw [ht] at hP1
  clear hvm
  obtain ⟨hP, hD⟩ := va_join (wr := [(q_a0_told, .inl (cI, 163, .inl a0_told))]) (w1 := [(q_a0, .inr (8, [.ref q_a0_told, .ref q_a0_kept, .ref q_a0_isKept, .ref q_a0_refused, .long a0_above, .long a0_below, .ref q_a0_manyBy, .ref q_a0_hers, .ref q_a0_his, .ref q_a0_hand, .ref q_a0_bytes, .int a0_bytesLong, .int u_23, .int u_24, .int u_25, .int u_26, .ref q_a0_anew, .ref q_a0_values])), (q_a0_bytes, .inl (cI, 150, .inl a0_bytes)), (q_a0_anew, .inl (cI, 75, .inl u_27)), (q_a0_values, .inl (cI, 4, .inl u_28))]) hP hD [3, 4, 1, 2] [0] rfl rfl (by decide) (by decide) hk1 hFc hP1 hD1
  clear hz1 hk1 hPc hDc hFc hP1 hD1
  generalize H1 = H at hP hS ⊢
  have hP : va_P D vwCl [(q_a0_told, .inl (cI, 163, .inl a0_told)), (q_a0, .inr (8, [.ref q_a0_told, .ref q_a0_kept, .ref q_a0_isKept, .ref q_a0_refused, .long a0_above, .long a0_below, .ref q_a0_manyBy, .ref q_a0_hers, .ref q_a0_his, .ref q_a0_hand, .ref q_a0_bytes, .int a0_bytesLong, .int u_23, .int u_24, .int u_25, .int u_26, .ref q_a0_anew, .ref q_a0_values])), (q_a0_bytes, .inl (cI, 150, .inl a0_bytes)), (q_a0_anew, .inl (cI, 75, .inl u_27)), (q_a0_values, .inl (cI, 4, .inl u_28))] H := hP
  have hD : va_D A [(q_a0_told, .inl (cI, 163, .inl a0_told)), (q_a0, .inr (8, [.ref q_a0_told, .ref q_a0_kept, .ref q_a0_isKept, .ref q_a0_refused, .long a0_above, .long a0_below, .ref q_a0_manyBy, .ref q_a0_hers, .ref q_a0_his, .ref q_a0_hand, .ref q_a0_bytes, .int a0_bytesLong, .int u_23, .int u_24, .int u_25, .int u_26, .ref q_a0_anew, .ref q_a0_values])), (q_a0_bytes, .inl (cI, 150, .inl a0_bytes)), (q_a0_anew, .inl (cI, 75, .inl u_27)), (q_a0_values, .inl (cI, 4, .inl u_28))] := hD
  refine lv_if_ne (tgt := 20) hx hb dX9_read_9 (by decide) (fun c_29 => ?_) (fun c_29 => ?_)
  · have hf := it_f c_29 hf
    refine lv_aload_n hx hb dX9_read_20 rfl (lv_at hl 0 rfl) ?_
    have hPc := hP.sub (ws' := [(q_a0, .inr (8, [.ref q_a0_told, .ref q_a0_kept, .ref q_a0_isKept, .ref q_a0_refused, .long a0_above, .long a0_below, .ref q_a0_manyBy, .ref q_a0_hers, .ref q_a0_his, .ref q_a0_hand, .ref q_a0_bytes, .int a0_bytesLong, .int u_23, .int u_24, .int u_25, .int u_26, .ref q_a0_anew, .ref q_a0_values])), (q_a0_bytes, .inl (cI, 150, .inl a0_bytes))]) [1, 2] rfl
    have hDc := hD.sub (ws' := [(q_a0, .inr (8, [.ref q_a0_told, .ref q_a0_kept, .ref q_a0_isKept, .ref q_a0_refused, .long a0_above, .long a0_below, .ref q_a0_manyBy, .ref q_a0_hers, .ref q_a0_his, .ref q_a0_hand, .ref q_a0_bytes, .int a0_bytesLong, .int u_23, .int u_24, .int u_25, .int u_26, .ref q_a0_anew, .ref q_a0_values])), (q_a0_bytes, .inl (cI, 150, .inl a0_bytes))]) [1, 2] (by decide) rfl
    have hFc := va_free (wc := [(q_a0, .inr (8, [.ref q_a0_told, .ref q_a0_kept, .ref q_a0_isKept, .ref q_a0_refused, .long a0_above, .long a0_below, .ref q_a0_manyBy, .ref q_a0_hers, .ref q_a0_his, .ref q_a0_hand, .ref q_a0_bytes, .int a0_bytesLong, .int u_23, .int u_24, .int u_25, .int u_26, .ref q_a0_anew, .ref q_a0_values])), (q_a0_bytes, .inl (cI, 150, .inl a0_bytes))]) hD hS hA [1, 2] rfl
    refine va_callv (va_runV (As := []) (rest := []) ⟨hx, hb, hml, hown, hts⟩ (c_X9_goBehind l D cI cZ cO q_a0 q_a0_told q_a0_kept q_a0_isKept q_a0_refused q_a0_manyBy q_a0_hers q_a0_his q_a0_hand q_a0_bytes q_a0_anew q_a0_values a0_above a0_below a0_bytesLong u_23 u_24 u_25 u_26 a0_bytes H.size  _ hf) (cwV 0 hts gX9_read_X9_goBehind rfl rfl rfl (by decide +kernel) ⟨Nat.le_of_ble_eq_true rfl, Nat.le_of_ble_eq_true rfl⟩) (pv_rw (ci := 8) (q0 := 0) hPc hDc hX rfl rfl) rfl rfl hl.1 rfl (lv_room (Nat.le_of_ble_eq_true rfl)) dX9_read_21 ⟨Nat.zero_le _, Nat.zero_le _⟩) hS (fun q _ h => hFc q h) hFc (fun u t H1 locs ht hvm hf hB hz1 hk1 hS => ?_)
    obtain ⟨u_30, u_31, u_32, u_33⟩ := u
    obtain ⟨hP1, hD1⟩ := hB
    rw [ht] at hP1
    clear hvm
    obtain ⟨hP, hD⟩ := va_join (wr := [(q_a0_told, .inl (cI, 163, .inl a0_told)), (q_a0_anew, .inl (cI, 75, .inl u_27)), (q_a0_values, .inl (cI, 4, .inl u_28))]) (w1 := [(q_a0, .inr (8, [.ref q_a0_told, .ref q_a0_kept, .ref q_a0_isKept, .ref q_a0_refused, .long a0_above, .long a0_below, .ref q_a0_manyBy, .ref q_a0_hers, .ref q_a0_his, .ref q_a0_hand, .ref q_a0_bytes, .int a0_bytesLong, .int u_30, .int u_31, .int u_32, .int u_33, .ref q_a0_anew, .ref q_a0_values])), (q_a0_bytes, .inl (cI, 150, .inl a0_bytes))]) hP hD [1, 2] [0, 3, 4] rfl rfl (by decide) (by decide) hk1 hFc hP1 hD1
    clear hz1 hk1 hPc hDc hFc hP1 hD1
    generalize H1 = H at hP hS ⊢
    have hP : va_P D vwCl [(q_a0_told, .inl (cI, 163, .inl a0_told)), (q_a0_anew, .inl (cI, 75, .inl u_27)), (q_a0_values, .inl (cI, 4, .inl u_28)), (q_a0, .inr (8, [.ref q_a0_told, .ref q_a0_kept, .ref q_a0_isKept, .ref q_a0_refused, .long a0_above, .long a0_below, .ref q_a0_manyBy, .ref q_a0_hers, .ref q_a0_his, .ref q_a0_hand, .ref q_a0_bytes, .int a0_bytesLong, .int u_30, .int u_31, .int u_32, .int u_33, .ref q_a0_anew, .ref q_a0_values])), (q_a0_bytes, .inl (cI, 150, .inl a0_bytes))] H := hP
    have hD : va_D A [(q_a0_told, .inl (cI, 163, .inl a0_told)), (q_a0_anew, .inl (cI, 75, .inl u_27)), (q_a0_values, .inl (cI, 4, .inl u_28)), (q_a0, .inr (8, [.ref q_a0_told, .ref q_a0_kept, .ref q_a0_isKept, .ref q_a0_refused, .long a0_above, .long a0_below, .ref q_a0_manyBy, .ref q_a0_hers, .ref q_a0_his, .ref q_a0_hand, .ref q_a0_bytes, .int a0_bytesLong, .int u_30, .int u_31, .int u_32, .int u_33, .ref q_a0_anew, .ref q_a0_values])), (q_a0_bytes, .inl (cI, 150, .inl a0_bytes))] := hD
    refine lv_iconst (v := 1) hx hb dX9_read_24 (by decide) ?_
    refine lv_istore_n (lv' := [(1, .int 1), (0, .ref q_a0)]) hx hb dX9_read_25 rfl hl (by decide) rfl (fun ls hl => ?_)
    have hlp_26 : ∀ (n_26 : Nat) (w_34 : Int32) (w_35 : Int32) (w_36 : Int32) (w_37 : Int32) (w_38 : Nat → Int32) (w_39 : Nat → Int32) (v_40 : Int32) (H : Heap) (locs : List Loc) (ls : Array Slot), lq7 (bX9_read_26 a0_told a0_bytes a0_bytesLong Q) n_26 w_34 w_35 w_36 w_37 w_38 w_39 v_40 → va_P D vwCl [(q_a0, .inr (8, [.ref q_a0_told, .ref q_a0_kept, .ref q_a0_isKept, .ref q_a0_refused, .long a0_above, .long a0_below, .ref q_a0_manyBy, .ref q_a0_hers, .ref q_a0_his, .ref q_a0_hand, .ref q_a0_bytes, .int a0_bytesLong, .int w_34, .int w_35, .int w_36, .int w_37, .ref q_a0_anew, .ref q_a0_values])), (q_a0_told, .inl (cI, 163, .inl a0_told)), (q_a0_bytes, .inl (cI, 150, .inl a0_bytes)), (q_a0_anew, .inl (cI, 75, .inl w_38)), (q_a0_values, .inl (cI, 4, .inl w_39))] H → va_D A [(q_a0, .inr (8, [.ref q_a0_told, .ref q_a0_kept, .ref q_a0_isKept, .ref q_a0_refused, .long a0_above, .long a0_below, .ref q_a0_manyBy, .ref q_a0_hers, .ref q_a0_his, .ref q_a0_hand, .ref q_a0_bytes, .int a0_bytesLong, .int w_34, .int w_35, .int w_36, .int w_37, .ref q_a0_anew, .ref q_a0_values])), (q_a0_told, .inl (cI, 163, .inl a0_told)), (q_a0_bytes, .inl (cI, 150, .inl a0_bytes)), (q_a0_anew, .inl (cI, 75, .inl w_38)), (q_a0_values, .inl (cI, 4, .inl w_39))] → va_S A s.heap H locs → lv_has ls 3 [(0, .ref q_a0), (1, .int v_40)] → W p l e (headSpec wsX9_read rmX9_read).room s m ([.ref q_a0] : List Value).toArray below meth c H locs 0 0 QQ (F0 m 26 ls []) := by
      intro n_26
      induction n_26 with
      | zero => intro w_34 w_35 w_36 w_37 w_38 w_39 v_40 H locs ls hf; exact (lq7_0 hf).elim
      | succ n_26 ih =>
        have ih_26 := ih
        intro w_34 w_35 w_36 w_37 w_38 w_39 v_40 H locs ls hf hP hD hS hl
        have hf := lq7_s hf
        unfold bX9_read_26 at hf
        refine lv_aload_n hx hb dX9_read_26 rfl (lv_at hl 0 rfl) ?_
        refine va_get (D := D) (ci := 8) (v := .int w_36) (C := RX9) (T := TX9) (N := 18) hx hb hts in_X9 hown hK hP 0 rfl rfl 14 (by decide) kf_201 (fun _ h9 => h9) rfl dX9_read_27 ?_
        refine lv_if_eq (tgt := 66) hx hb dX9_read_30 (by decide) (fun c_42 => ?_) (fun c_42 => ?_)
        · have hf := it_t c_42 hf
          exact hj_66 w_34 w_35 w_36 w_37 w_38 w_39 v_40 _ _ hf (hP.sub [0, 1, 2, 3, 4] rfl) (hD.sub [0, 1, 2, 3, 4] (by decide) rfl) hS ls (lv_sub hl [0, 1] rfl)
        · have hf := it_f c_42 hf
          refine lv_aload_n hx hb dX9_read_33 rfl (lv_at hl 0 rfl) ?_
          have hPc := hP.sub (ws' := [(q_a0, .inr (8, [.ref q_a0_told, .ref q_a0_kept, .ref q_a0_isKept, .ref q_a0_refused, .long a0_above, .long a0_below, .ref q_a0_manyBy, .ref q_a0_hers, .ref q_a0_his, .ref q_a0_hand, .ref q_a0_bytes, .int a0_bytesLong, .int w_34, .int w_35, .int w_36, .int w_37, .ref q_a0_anew, .ref q_a0_values])), (q_a0_bytes, .inl (cI, 150, .inl a0_bytes)), (q_a0_anew, .inl (cI, 75, .inl w_38)), (q_a0_values, .inl (cI, 4, .inl w_39))]) [0, 2, 3, 4] rfl
          have hDc := hD.sub (ws' := [(q_a0, .inr (8, [.ref q_a0_told, .ref q_a0_kept, .ref q_a0_isKept, .ref q_a0_refused, .long a0_above, .long a0_below, .ref q_a0_manyBy, .ref q_a0_hers, .ref q_a0_his, .ref q_a0_hand, .ref q_a0_bytes, .int a0_bytesLong, .int w_34, .int w_35, .int w_36, .int w_37, .ref q_a0_anew, .ref q_a0_values])), (q_a0_bytes, .inl (cI, 150, .inl a0_bytes)), (q_a0_anew, .inl (cI, 75, .inl w_38)), (q_a0_values, .inl (cI, 4, .inl w_39))]) [0, 2, 3, 4] (by decide) rfl
          have hFc := va_free (wc := [(q_a0, .inr (8, [.ref q_a0_told, .ref q_a0_kept, .ref q_a0_isKept, .ref q_a0_refused, .long a0_above, .long a0_below, .ref q_a0_manyBy, .ref q_a0_hers, .ref q_a0_his, .ref q_a0_hand, .ref q_a0_bytes, .int a0_bytesLong, .int w_34, .int w_35, .int w_36, .int w_37, .ref q_a0_anew, .ref q_a0_values])), (q_a0_bytes, .inl (cI, 150, .inl a0_bytes)), (q_a0_anew, .inl (cI, 75, .inl w_38)), (q_a0_values, .inl (cI, 4, .inl w_39))]) hD hS hA [0, 2, 3, 4] rfl
          refine va_calli (va_runV (As := []) (rest := []) ⟨hx, hb, hml, hown, hts⟩ (c_X9_takesItem l D cI cZ cO q_a0 q_a0_told q_a0_kept q_a0_isKept q_a0_refused q_a0_manyBy q_a0_hers q_a0_his q_a0_hand q_a0_bytes q_a0_anew q_a0_values a0_above a0_below a0_bytesLong w_34 w_35 w_36 w_37 a0_bytes w_38 w_39 H.size  _ hf) (cwV 0 hts gX9_read_X9_takesItem rfl rfl rfl (by decide +kernel) ⟨Nat.le_of_ble_eq_true rfl, Nat.le_of_ble_eq_true rfl⟩) (pv_rw (ci := 8) (q0 := 0) hPc hDc hX rfl rfl) rfl rfl hl.1 rfl (lv_room (Nat.le_of_ble_eq_true rfl)) dX9_read_34 ⟨Nat.zero_le _, Nat.zero_le _⟩) hS (fun q _ h => hFc q h) hFc (fun r_43 u t H1 locs ht hvm hf hB hz1 hk1 hS => ?_)
          obtain ⟨u_44, u_45, u_46, u_47, u_48, u_49⟩ := u
          obtain ⟨hP1, hD1⟩ := hB
          rw [ht] at hP1
          clear hvm
          obtain ⟨hP, hD⟩ := va_join (wr := [(q_a0_told, .inl (cI, 163, .inl a0_told))]) (w1 := [(q_a0, .inr (8, [.ref q_a0_told, .ref q_a0_kept, .ref q_a0_isKept, .ref q_a0_refused, .long a0_above, .long a0_below, .ref q_a0_manyBy, .ref q_a0_hers, .ref q_a0_his, .ref q_a0_hand, .ref q_a0_bytes, .int a0_bytesLong, .int u_44, .int u_45, .int u_46, .int u_47, .ref q_a0_anew, .ref q_a0_values])), (q_a0_bytes, .inl (cI, 150, .inl a0_bytes)), (q_a0_anew, .inl (cI, 75, .inl u_48)), (q_a0_values, .inl (cI, 4, .inl u_49))]) hP hD [0, 2, 3, 4] [1] rfl rfl (by decide) (by decide) hk1 hFc hP1 hD1
          clear hz1 hk1 hPc hDc hFc hP1 hD1
          generalize H1 = H at hP hS ⊢
          have hP : va_P D vwCl [(q_a0_told, .inl (cI, 163, .inl a0_told)), (q_a0, .inr (8, [.ref q_a0_told, .ref q_a0_kept, .ref q_a0_isKept, .ref q_a0_refused, .long a0_above, .long a0_below, .ref q_a0_manyBy, .ref q_a0_hers, .ref q_a0_his, .ref q_a0_hand, .ref q_a0_bytes, .int a0_bytesLong, .int u_44, .int u_45, .int u_46, .int u_47, .ref q_a0_anew, .ref q_a0_values])), (q_a0_bytes, .inl (cI, 150, .inl a0_bytes)), (q_a0_anew, .inl (cI, 75, .inl u_48)), (q_a0_values, .inl (cI, 4, .inl u_49))] H := hP
          have hD : va_D A [(q_a0_told, .inl (cI, 163, .inl a0_told)), (q_a0, .inr (8, [.ref q_a0_told, .ref q_a0_kept, .ref q_a0_isKept, .ref q_a0_refused, .long a0_above, .long a0_below, .ref q_a0_manyBy, .ref q_a0_hers, .ref q_a0_his, .ref q_a0_hand, .ref q_a0_bytes, .int a0_bytesLong, .int u_44, .int u_45, .int u_46, .int u_47, .ref q_a0_anew, .ref q_a0_values])), (q_a0_bytes, .inl (cI, 150, .inl a0_bytes)), (q_a0_anew, .inl (cI, 75, .inl u_48)), (q_a0_values, .inl (cI, 4, .inl u_49))] := hD
          refine lv_if_eq (tgt := 48) hx hb dX9_read_37 (by decide) (fun c_50 => ?_) (fun c_50 => ?_)
          · have hf := it_t c_50 hf
            exact hj_48 u_44 u_45 u_46 u_47 u_48 u_49 _ _ hf (hP.sub [1, 0, 2, 3, 4] rfl) (hD.sub [1, 0, 2, 3, 4] (by decide) rfl) hS ls (lv_sub hl [0] rfl)
          · have hf := it_f c_50 hf
            refine lv_aload_n hx hb dX9_read_40 rfl (lv_at hl 0 rfl) ?_
            refine va_get (D := D) (ci := 8) (v := .int u_46) (C := RX9) (T := TX9) (N := 18) hx hb hts in_X9 hown hK hP 1 rfl rfl 14 (by decide) kf_201 (fun _ h9 => h9) rfl dX9_read_41 ?_
            refine lv_iconst (v := 3) hx hb dX9_read_44 (by decide) ?_
            refine lv_icmp_eq (tgt := 56) hx hb dX9_read_45 (by decide) (fun c_51 => ?_) (fun c_51 => ?_)
            · have hf := it_t c_51 hf
              refine lv_aload_n hx hb dX9_read_56 rfl (lv_at hl 0 rfl) ?_
              have hPc := hP.sub (ws' := [(q_a0, .inr (8, [.ref q_a0_told, .ref q_a0_kept, .ref q_a0_isKept, .ref q_a0_refused, .long a0_above, .long a0_below, .ref q_a0_manyBy, .ref q_a0_hers, .ref q_a0_his, .ref q_a0_hand, .ref q_a0_bytes, .int a0_bytesLong, .int u_44, .int u_45, .int u_46, .int u_47, .ref q_a0_anew, .ref q_a0_values])), (q_a0_bytes, .inl (cI, 150, .inl a0_bytes))]) [1, 2] rfl
              have hDc := hD.sub (ws' := [(q_a0, .inr (8, [.ref q_a0_told, .ref q_a0_kept, .ref q_a0_isKept, .ref q_a0_refused, .long a0_above, .long a0_below, .ref q_a0_manyBy, .ref q_a0_hers, .ref q_a0_his, .ref q_a0_hand, .ref q_a0_bytes, .int a0_bytesLong, .int u_44, .int u_45, .int u_46, .int u_47, .ref q_a0_anew, .ref q_a0_values])), (q_a0_bytes, .inl (cI, 150, .inl a0_bytes))]) [1, 2] (by decide) rfl
              have hFc := va_free (wc := [(q_a0, .inr (8, [.ref q_a0_told, .ref q_a0_kept, .ref q_a0_isKept, .ref q_a0_refused, .long a0_above, .long a0_below, .ref q_a0_manyBy, .ref q_a0_hers, .ref q_a0_his, .ref q_a0_hand, .ref q_a0_bytes, .int a0_bytesLong, .int u_44, .int u_45, .int u_46, .int u_47, .ref q_a0_anew, .ref q_a0_values])), (q_a0_bytes, .inl (cI, 150, .inl a0_bytes))]) hD hS hA [1, 2] rfl
              refine va_callv (va_runV (As := []) (rest := []) ⟨hx, hb, hml, hown, hts⟩ (c_X9_goBehind l D cI cZ cO q_a0 q_a0_told q_a0_kept q_a0_isKept q_a0_refused q_a0_manyBy q_a0_hers q_a0_his q_a0_hand q_a0_bytes q_a0_anew q_a0_values a0_above a0_below a0_bytesLong u_44 u_45 u_46 u_47 a0_bytes H.size  _ hf) (cwV 0 hts gX9_read_X9_goBehind rfl rfl rfl (by decide +kernel) ⟨Nat.le_of_ble_eq_true rfl, Nat.le_of_ble_eq_true rfl⟩) (pv_rw (ci := 8) (q0 := 0) hPc hDc hX rfl rfl) rfl rfl hl.1 rfl (lv_room (Nat.le_of_ble_eq_true rfl)) dX9_read_57 ⟨Nat.zero_le _, Nat.zero_le _⟩) hS (fun q _ h => hFc q h) hFc (fun u t H1 locs ht hvm hf hB hz1 hk1 hS => ?_)
              obtain ⟨u_52, u_53, u_54, u_55⟩ := u
              obtain ⟨hP1, hD1⟩ := hB
              rw [ht] at hP1
              clear hvm
              obtain ⟨hP, hD⟩ := va_join (wr := [(q_a0_told, .inl (cI, 163, .inl a0_told)), (q_a0_anew, .inl (cI, 75, .inl u_48)), (q_a0_values, .inl (cI, 4, .inl u_49))]) (w1 := [(q_a0, .inr (8, [.ref q_a0_told, .ref q_a0_kept, .ref q_a0_isKept, .ref q_a0_refused, .long a0_above, .long a0_below, .ref q_a0_manyBy, .ref q_a0_hers, .ref q_a0_his, .ref q_a0_hand, .ref q_a0_bytes, .int a0_bytesLong, .int u_52, .int u_53, .int u_54, .int u_55, .ref q_a0_anew, .ref q_a0_values])), (q_a0_bytes, .inl (cI, 150, .inl a0_bytes))]) hP hD [1, 2] [0, 3, 4] rfl rfl (by decide) (by decide) hk1 hFc hP1 hD1
              clear hz1 hk1 hPc hDc hFc hP1 hD1
              generalize H1 = H at hP hS ⊢
              have hP : va_P D vwCl [(q_a0_told, .inl (cI, 163, .inl a0_told)), (q_a0_anew, .inl (cI, 75, .inl u_48)), (q_a0_values, .inl (cI, 4, .inl u_49)), (q_a0, .inr (8, [.ref q_a0_told, .ref q_a0_kept, .ref q_a0_isKept, .ref q_a0_refused, .long a0_above, .long a0_below, .ref q_a0_manyBy, .ref q_a0_hers, .ref q_a0_his, .ref q_a0_hand, .ref q_a0_bytes, .int a0_bytesLong, .int u_52, .int u_53, .int u_54, .int u_55, .ref q_a0_anew, .ref q_a0_values])), (q_a0_bytes, .inl (cI, 150, .inl a0_bytes))] H := hP
              have hD : va_D A [(q_a0_told, .inl (cI, 163, .inl a0_told)), (q_a0_anew, .inl (cI, 75, .inl u_48)), (q_a0_values, .inl (cI, 4, .inl u_49)), (q_a0, .inr (8, [.ref q_a0_told, .ref q_a0_kept, .ref q_a0_isKept, .ref q_a0_refused, .long a0_above, .long a0_below, .ref q_a0_manyBy, .ref q_a0_hers, .ref q_a0_his, .ref q_a0_hand, .ref q_a0_bytes, .int a0_bytesLong, .int u_52, .int u_53, .int u_54, .int u_55, .ref q_a0_anew, .ref q_a0_values])), (q_a0_bytes, .inl (cI, 150, .inl a0_bytes))] := hD
              refine lv_iinc (v := v_40 + 1) (lv' := [(1, .int (v_40 + 1)), (0, .ref q_a0)]) hx hb dX9_read_60 hl (k := 1) rfl rfl (by decide) rfl (fun ls hl => ?_)
              refine lv_goto (tgt := 26) hx hb dX9_read_63 (by decide) ?_
              exact ih u_52 u_53 u_54 u_55 u_48 u_49 (v_40 + 1) _ _ ls hf (hP.sub [3, 0, 4, 1, 2] rfl) (hD.sub [3, 0, 4, 1, 2] (by decide) rfl) hS (lv_sub hl [1, 0] rfl)
            · have hf := it_f c_51 hf
              exact hj_48 u_44 u_45 u_46 u_47 u_48 u_49 _ _ hf (hP.sub [1, 0, 2, 3, 4] rfl) (hD.sub [1, 0, 2, 3, 4] (by decide) rfl) hS ls (lv_sub hl [0] rfl)
    exact hlp_26 1000 u_30 u_31 u_32 u_33 u_27 u_28 1 _ _ ls hf (hP.sub [3, 0, 4, 1, 2] rfl) (hD.sub [3, 0, 4, 1, 2] (by decide) rfl) hS (lv_sub hl [1, 0] rfl)
  · have hf := it_t c_29 hf
    refine lv_bipush (v := (-10)) hx hb dX9_read_12 (by decide) ?_
    refine lv_aload_n hx hb dX9_read_14 rfl (lv_at hl 0 rfl) ?_
    refine va_get (D := D) (ci := 8) (v := .int u_23) (C := RX9) (T := TX9) (N := 18) hx hb hts in_X9 hown hK hP 1 rfl rfl 12 (by decide) kf_195 (fun _ h9 => h9) rfl dX9_read_15 ?_
    refine lv_isub hx hb dX9_read_18 ?_
    subst hQQ
    have hP9 := hP.sub (ws' := [(q_a0, .inr (8, [.ref q_a0_told, .ref q_a0_kept, .ref q_a0_isKept, .ref q_a0_refused, .long a0_above, .long a0_below, .ref q_a0_manyBy, .ref q_a0_hers, .ref q_a0_his, .ref q_a0_hand, .ref q_a0_bytes, .int a0_bytesLong, .int u_23, .int u_24, .int u_25, .int u_26, .ref q_a0_anew, .ref q_a0_values])), (q_a0_told, .inl (cI, 163, .inl a0_told)), (q_a0_bytes, .inl (cI, 150, .inl a0_bytes)), (q_a0_anew, .inl (cI, 75, .inl u_27)), (q_a0_values, .inl (cI, 4, .inl u_28))]) [1, 0, 2, 3, 4] rfl
    have hD9 := hD.sub (ws' := [(q_a0, .inr (8, [.ref q_a0_told, .ref q_a0_kept, .ref q_a0_isKept, .ref q_a0_refused, .long a0_above, .long a0_below, .ref q_a0_manyBy, .ref q_a0_hers, .ref q_a0_his, .ref q_a0_hand, .ref q_a0_bytes, .int a0_bytesLong, .int u_23, .int u_24, .int u_25, .int u_26, .ref q_a0_anew, .ref q_a0_values])), (q_a0_told, .inl (cI, 163, .inl a0_told)), (q_a0_bytes, .inl (cI, 150, .inl a0_bytes)), (q_a0_anew, .inl (cI, 75, .inl u_27)), (q_a0_values, .inl (cI, 4, .inl u_28))]) [1, 0, 2, 3, 4] (by decide) rfl
    exact W.iret hx hb hr (fun t ht hW => ⟨⟨((-10) - u_23), (a0_told, u_23, u_24, u_25, u_26, u_27, u_28), rfl, hf, by rw [ht]; exact hP9, hD9⟩, hS.F ht⟩) hS.2.2 dX9_read_19
def p_X9_part (a0_refused : Nat → Int32) (a0_above : Int64) (a0_below : Int64) (x1 : Int32) (Q : Int64 → (Nat → Int32) → Prop) : Prop :=
  if x1 = 0 then (Q a0_above a0_refused) else (if x1 = 1 then (Q a0_below a0_refused) else (p_X9_bad a0_refused (-2) (fun r_3 u_4 => Q r_3.toInt64 u_4)))
def rmX9_part : Room := { frames := 1, cells := 0, slots := 0, locals := 21 }
set_option maxHeartbeats 4000000 in
set_option maxRecDepth 100000 in
theorem c_X9_part (l : Launch) (D : va_G) (cI cZ cO : ClassId) (q_a0 q_a0_told q_a0_kept q_a0_isKept q_a0_refused q_a0_manyBy q_a0_hers q_a0_his q_a0_hand q_a0_bytes q_a0_anew q_a0_values : Nat) (a0_above : Int64) (a0_below : Int64) (a0_bytesLong : Int32) (a0_tokenAt : Int32) (a0_tokenLong : Int32) (a0_token : Int32) (a0_value : Int32) (a0_refused : Nat → Int32) (sz : Nat) (x1 : Int32) (Q : Int64 → (Nat → Int32) → Prop) (hf : p_X9_part a0_refused a0_above a0_below x1 Q) : Met l yX9_part wsX9_part rmX9_part (va_Pc [.ref q_a0, .int x1] (fun U => U.heap.size = sz ∧ va_P D vwCl [(q_a0, .inr (8, [.ref q_a0_told, .ref q_a0_kept, .ref q_a0_isKept, .ref q_a0_refused, .long a0_above, .long a0_below, .ref q_a0_manyBy, .ref q_a0_hers, .ref q_a0_his, .ref q_a0_hand, .ref q_a0_bytes, .int a0_bytesLong, .int a0_tokenAt, .int a0_tokenLong, .int a0_token, .int a0_value, .ref q_a0_anew, .ref q_a0_values])), (q_a0_refused, .inl (cI, 3, .inl a0_refused))] U.heap ∧ XK D cI cZ cO U ∧ va_D (fun _ => True) [(q_a0, .inr (8, [.ref q_a0_told, .ref q_a0_kept, .ref q_a0_isKept, .ref q_a0_refused, .long a0_above, .long a0_below, .ref q_a0_manyBy, .ref q_a0_hers, .ref q_a0_his, .ref q_a0_hand, .ref q_a0_bytes, .int a0_bytesLong, .int a0_tokenAt, .int a0_tokenLong, .int a0_token, .int a0_value, .ref q_a0_anew, .ref q_a0_values])), (q_a0_refused, .inl (cI, 3, .inl a0_refused))])) (va_Ql (fun r (u : (Nat → Int32)) => Q r u) (fun (u : (Nat → Int32)) t => va_P D vwCl [(q_a0, .inr (8, [.ref q_a0_told, .ref q_a0_kept, .ref q_a0_isKept, .ref q_a0_refused, .long a0_above, .long a0_below, .ref q_a0_manyBy, .ref q_a0_hers, .ref q_a0_his, .ref q_a0_hand, .ref q_a0_bytes, .int a0_bytesLong, .int a0_tokenAt, .int a0_tokenLong, .int a0_token, .int a0_value, .ref q_a0_anew, .ref q_a0_values])), (q_a0_refused, .inl (cI, 3, .inl u))] t.heap ∧ va_D (va_A [(q_a0, .inr (8, [.ref q_a0_told, .ref q_a0_kept, .ref q_a0_isKept, .ref q_a0_refused, .long a0_above, .long a0_below, .ref q_a0_manyBy, .ref q_a0_hers, .ref q_a0_his, .ref q_a0_hand, .ref q_a0_bytes, .int a0_bytesLong, .int a0_tokenAt, .int a0_tokenLong, .int a0_token, .int a0_value, .ref q_a0_anew, .ref q_a0_values])), (q_a0_refused, .inl (cI, 3, .inl a0_refused))] sz) [(q_a0, .inr (8, [.ref q_a0_told, .ref q_a0_kept, .ref q_a0_isKept, .ref q_a0_refused, .long a0_above, .long a0_below, .ref q_a0_manyBy, .ref q_a0_hers, .ref q_a0_his, .ref q_a0_hand, .ref q_a0_bytes, .int a0_bytesLong, .int a0_tokenAt, .int a0_tokenLong, .int a0_token, .int a0_value, .ref q_a0_anew, .ref q_a0_values])), (q_a0_refused, .inl (cI, 3, .inl u))]) (va_A [(q_a0, .inr (8, [.ref q_a0_told, .ref q_a0_kept, .ref q_a0_isKept, .ref q_a0_refused, .long a0_above, .long a0_below, .ref q_a0_manyBy, .ref q_a0_hers, .ref q_a0_his, .ref q_a0_hand, .ref q_a0_bytes, .int a0_bytesLong, .int a0_tokenAt, .int a0_tokenLong, .int a0_token, .int a0_value, .ref q_a0_anew, .ref q_a0_values])), (q_a0_refused, .inl (cI, 3, .inl a0_refused))] sz)) 0 0 (va_A [(q_a0, .inr (8, [.ref q_a0_told, .ref q_a0_kept, .ref q_a0_isKept, .ref q_a0_refused, .long a0_above, .long a0_below, .ref q_a0_manyBy, .ref q_a0_hers, .ref q_a0_his, .ref q_a0_hand, .ref q_a0_bytes, .int a0_bytesLong, .int a0_tokenAt, .int a0_tokenLong, .int a0_token, .int a0_value, .ref q_a0_anew, .ref q_a0_values])), (q_a0_refused, .inl (cI, 3, .inl a0_refused))] sz) := by
  refine Met.ofW (cc := cX9_part) (maxL := 2) (ret := (some .long)) (by decide) rfl ?_
  intro p e s m args below meth c s₁ B hml hv
  obtain ⟨rfl, hsz, hP, hX, hD0⟩ := hv
  have hK := hX.1
  have hx := B.exec
  have hb := B.bytes
  have hr := B.returns
  have hts := atoms_spec (ws := wsX9_part) B.pre
  have hown : s.vm.findClass RX9 = some m.cls := findClass_of_methodNamed B.named
  have hlocks := B.notSynchronized
  have in_X9 : ∀ w ∈ wsX90, w ∈ wsX9_part := fun _ h => List.mem_cons_of_mem _ (List.mem_append_right _ h)
  have kf_23 := hts (.fieldLink RX9 23 "LeftCrestModel" "below" "J") (by decide +kernel)
  have kf_158 := hts (.fieldLink RX9 158 "LeftCrestModel" "above" "J") (by decide +kernel)
  subst hsz
  have hD := hD0.self (sz := s.heap.size)
  generalize hAe : va_A [(q_a0, .inr (8, [.ref q_a0_told, .ref q_a0_kept, .ref q_a0_isKept, .ref q_a0_refused, .long a0_above, .long a0_below, .ref q_a0_manyBy, .ref q_a0_hers, .ref q_a0_his, .ref q_a0_hand, .ref q_a0_bytes, .int a0_bytesLong, .int a0_tokenAt, .int a0_tokenLong, .int a0_token, .int a0_value, .ref q_a0_anew, .ref q_a0_values])), (q_a0_refused, .inl (cI, 3, .inl a0_refused))] s.heap.size = A at hD ⊢
  have hA : ∀ q : Nat, s.heap.size ≤ q → A q := fun q h => by rw [← hAe]; exact Or.inr h
  have hS : va_S A s.heap s.heap [] := va_S.rf
  have hP : va_P D vwCl [(q_a0, .inr (8, [.ref q_a0_told, .ref q_a0_kept, .ref q_a0_isKept, .ref q_a0_refused, .long a0_above, .long a0_below, .ref q_a0_manyBy, .ref q_a0_hers, .ref q_a0_his, .ref q_a0_hand, .ref q_a0_bytes, .int a0_bytesLong, .int a0_tokenAt, .int a0_tokenLong, .int a0_token, .int a0_value, .ref q_a0_anew, .ref q_a0_values])), (q_a0_refused, .inl (cI, 3, .inl a0_refused))] s.heap := hP
  generalize hQQ : MQ below _ _ s _ _ _ = QQ
  have hl := lv_entry ([.ref q_a0, .int x1]) (n := 2) (Nat.le_of_ble_eq_true rfl)
  rw [lg_entry_eq]
  generalize (lg_sl ([.ref q_a0, .int x1]) ++ List.replicate (2 - (lg_sl ([.ref q_a0, .int x1])).length) Slot.unset).toArray = ls at hl ⊢
  have hl : lv_has ls 2 [(0, .ref q_a0), (1, .int x1)] := hl
  unfold p_X9_part at hf
  refine lv_iload_n hx hb dX9_part_0 rfl (lv_at hl 1 rfl) ?_
  refine lv_if_ne (tgt := 11) hx hb dX9_part_1 (by decide) (fun c_1 => ?_) (fun c_1 => ?_)
  · have hf := it_f c_1 hf
    refine lv_iload_n hx hb dX9_part_11 rfl (lv_at hl 1 rfl) ?_
    refine lv_iconst (v := 1) hx hb dX9_part_12 (by decide) ?_
    refine lv_icmp_ne (tgt := 23) hx hb dX9_part_13 (by decide) (fun c_2 => ?_) (fun c_2 => ?_)
    · have hf := it_f c_2 hf
      refine lv_aload_n hx hb dX9_part_23 rfl (lv_at hl 0 rfl) ?_
      refine lv_bipush (v := (-2)) hx hb dX9_part_24 (by decide) ?_
      have hPc := hP.sub (ws' := [(q_a0, .inr (8, [.ref q_a0_told, .ref q_a0_kept, .ref q_a0_isKept, .ref q_a0_refused, .long a0_above, .long a0_below, .ref q_a0_manyBy, .ref q_a0_hers, .ref q_a0_his, .ref q_a0_hand, .ref q_a0_bytes, .int a0_bytesLong, .int a0_tokenAt, .int a0_tokenLong, .int a0_token, .int a0_value, .ref q_a0_anew, .ref q_a0_values])), (q_a0_refused, .inl (cI, 3, .inl a0_refused))]) [0, 1] rfl
      have hDc := hD.sub (ws' := [(q_a0, .inr (8, [.ref q_a0_told, .ref q_a0_kept, .ref q_a0_isKept, .ref q_a0_refused, .long a0_above, .long a0_below, .ref q_a0_manyBy, .ref q_a0_hers, .ref q_a0_his, .ref q_a0_hand, .ref q_a0_bytes, .int a0_bytesLong, .int a0_tokenAt, .int a0_tokenLong, .int a0_token, .int a0_value, .ref q_a0_anew, .ref q_a0_values])), (q_a0_refused, .inl (cI, 3, .inl a0_refused))]) [0, 1] (by decide) rfl
      have hFc := va_free (wc := [(q_a0, .inr (8, [.ref q_a0_told, .ref q_a0_kept, .ref q_a0_isKept, .ref q_a0_refused, .long a0_above, .long a0_below, .ref q_a0_manyBy, .ref q_a0_hers, .ref q_a0_his, .ref q_a0_hand, .ref q_a0_bytes, .int a0_bytesLong, .int a0_tokenAt, .int a0_tokenLong, .int a0_token, .int a0_value, .ref q_a0_anew, .ref q_a0_values])), (q_a0_refused, .inl (cI, 3, .inl a0_refused))]) hD hS hA [0, 1] rfl
      refine va_calli (va_runV (As := [.int (-2)]) (rest := []) ⟨hx, hb, hml, hown, hts⟩ (c_X9_bad l D cI cZ cO q_a0 q_a0_told q_a0_kept q_a0_isKept q_a0_refused q_a0_manyBy q_a0_hers q_a0_his q_a0_hand q_a0_bytes q_a0_anew q_a0_values a0_above a0_below a0_bytesLong a0_tokenAt a0_tokenLong a0_token a0_value a0_refused s.heap.size (-2) _ hf) (cwV 1 hts gX9_part_X9_bad rfl rfl rfl (by decide +kernel) ⟨Nat.le_of_ble_eq_true rfl, Nat.le_of_ble_eq_true rfl⟩) (pv_rw (ci := 8) (q0 := 0) hPc hDc hX rfl rfl) rfl rfl hl.1 rfl (lv_room (Nat.le_of_ble_eq_true rfl)) dX9_part_26 ⟨Nat.zero_le _, Nat.zero_le _⟩) hS (fun q _ h => hFc q h) hFc (fun r_3 u t H1 locs ht hvm hf hB hz1 hk1 hS => ?_)
      obtain ⟨u_4, rfl⟩ : ∃ z, z = u := ⟨_, rfl⟩
      obtain ⟨hP1, hD1⟩ := hB
      rw [ht] at hP1
      clear hvm
      obtain ⟨hP, hD⟩ := va_join (wr := []) (w1 := [(q_a0, .inr (8, [.ref q_a0_told, .ref q_a0_kept, .ref q_a0_isKept, .ref q_a0_refused, .long a0_above, .long a0_below, .ref q_a0_manyBy, .ref q_a0_hers, .ref q_a0_his, .ref q_a0_hand, .ref q_a0_bytes, .int a0_bytesLong, .int a0_tokenAt, .int a0_tokenLong, .int a0_token, .int a0_value, .ref q_a0_anew, .ref q_a0_values])), (q_a0_refused, .inl (cI, 3, .inl u_4))]) hP hD [0, 1] [] rfl rfl (by decide) (by decide) hk1 hFc hP1 hD1
      clear hz1 hk1 hPc hDc hFc hP1 hD1
      generalize H1 = H at hP hS ⊢
      have hP : va_P D vwCl [(q_a0, .inr (8, [.ref q_a0_told, .ref q_a0_kept, .ref q_a0_isKept, .ref q_a0_refused, .long a0_above, .long a0_below, .ref q_a0_manyBy, .ref q_a0_hers, .ref q_a0_his, .ref q_a0_hand, .ref q_a0_bytes, .int a0_bytesLong, .int a0_tokenAt, .int a0_tokenLong, .int a0_token, .int a0_value, .ref q_a0_anew, .ref q_a0_values])), (q_a0_refused, .inl (cI, 3, .inl u_4))] H := hP
      have hD : va_D A [(q_a0, .inr (8, [.ref q_a0_told, .ref q_a0_kept, .ref q_a0_isKept, .ref q_a0_refused, .long a0_above, .long a0_below, .ref q_a0_manyBy, .ref q_a0_hers, .ref q_a0_his, .ref q_a0_hand, .ref q_a0_bytes, .int a0_bytesLong, .int a0_tokenAt, .int a0_tokenLong, .int a0_token, .int a0_value, .ref q_a0_anew, .ref q_a0_values])), (q_a0_refused, .inl (cI, 3, .inl u_4))] := hD
      refine lv_i2l hx hb dX9_part_29 rfl ?_
      subst hQQ
      have hP9 := hP.sub (ws' := [(q_a0, .inr (8, [.ref q_a0_told, .ref q_a0_kept, .ref q_a0_isKept, .ref q_a0_refused, .long a0_above, .long a0_below, .ref q_a0_manyBy, .ref q_a0_hers, .ref q_a0_his, .ref q_a0_hand, .ref q_a0_bytes, .int a0_bytesLong, .int a0_tokenAt, .int a0_tokenLong, .int a0_token, .int a0_value, .ref q_a0_anew, .ref q_a0_values])), (q_a0_refused, .inl (cI, 3, .inl u_4))]) [0, 1] rfl
      have hD9 := hD.sub (ws' := [(q_a0, .inr (8, [.ref q_a0_told, .ref q_a0_kept, .ref q_a0_isKept, .ref q_a0_refused, .long a0_above, .long a0_below, .ref q_a0_manyBy, .ref q_a0_hers, .ref q_a0_his, .ref q_a0_hand, .ref q_a0_bytes, .int a0_bytesLong, .int a0_tokenAt, .int a0_tokenLong, .int a0_token, .int a0_value, .ref q_a0_anew, .ref q_a0_values])), (q_a0_refused, .inl (cI, 3, .inl u_4))]) [0, 1] (by decide) rfl
      exact W.lret hx hb hr (fun t ht hW => ⟨⟨r_3.toInt64, u_4, rfl, hf, by rw [ht]; exact hP9, hD9⟩, hS.F ht⟩) hS.2.2 dX9_part_30
    · have hf := it_t c_2 hf
      refine lv_aload_n hx hb dX9_part_16 rfl (lv_at hl 0 rfl) ?_
      refine va_get (D := D) (ci := 8) (v := .long a0_below) (C := RX9) (T := TX9) (N := 18) hx hb hts in_X9 hown hK hP 0 rfl rfl 5 (by decide) kf_23 (fun _ h9 => h9) rfl dX9_part_17 ?_
      refine lv_goto (tgt := 30) hx hb dX9_part_20 (by decide) ?_
      subst hQQ
      have hP9 := hP.sub (ws' := [(q_a0, .inr (8, [.ref q_a0_told, .ref q_a0_kept, .ref q_a0_isKept, .ref q_a0_refused, .long a0_above, .long a0_below, .ref q_a0_manyBy, .ref q_a0_hers, .ref q_a0_his, .ref q_a0_hand, .ref q_a0_bytes, .int a0_bytesLong, .int a0_tokenAt, .int a0_tokenLong, .int a0_token, .int a0_value, .ref q_a0_anew, .ref q_a0_values])), (q_a0_refused, .inl (cI, 3, .inl a0_refused))]) [0, 1] rfl
      have hD9 := hD.sub (ws' := [(q_a0, .inr (8, [.ref q_a0_told, .ref q_a0_kept, .ref q_a0_isKept, .ref q_a0_refused, .long a0_above, .long a0_below, .ref q_a0_manyBy, .ref q_a0_hers, .ref q_a0_his, .ref q_a0_hand, .ref q_a0_bytes, .int a0_bytesLong, .int a0_tokenAt, .int a0_tokenLong, .int a0_token, .int a0_value, .ref q_a0_anew, .ref q_a0_values])), (q_a0_refused, .inl (cI, 3, .inl a0_refused))]) [0, 1] (by decide) rfl
      exact W.lret hx hb hr (fun t ht hW => ⟨⟨a0_below, a0_refused, rfl, hf, by rw [ht]; exact hP9, hD9⟩, hS.F ht⟩) hS.2.2 dX9_part_30
  · have hf := it_t c_1 hf
    refine lv_aload_n hx hb dX9_part_4 rfl (lv_at hl 0 rfl) ?_
    refine va_get (D := D) (ci := 8) (v := .long a0_above) (C := RX9) (T := TX9) (N := 18) hx hb hts in_X9 hown hK hP 0 rfl rfl 4 (by decide) kf_158 (fun _ h9 => h9) rfl dX9_part_5 ?_
    refine lv_goto (tgt := 30) hx hb dX9_part_8 (by decide) ?_
    subst hQQ
    have hP9 := hP.sub (ws' := [(q_a0, .inr (8, [.ref q_a0_told, .ref q_a0_kept, .ref q_a0_isKept, .ref q_a0_refused, .long a0_above, .long a0_below, .ref q_a0_manyBy, .ref q_a0_hers, .ref q_a0_his, .ref q_a0_hand, .ref q_a0_bytes, .int a0_bytesLong, .int a0_tokenAt, .int a0_tokenLong, .int a0_token, .int a0_value, .ref q_a0_anew, .ref q_a0_values])), (q_a0_refused, .inl (cI, 3, .inl a0_refused))]) [0, 1] rfl
    have hD9 := hD.sub (ws' := [(q_a0, .inr (8, [.ref q_a0_told, .ref q_a0_kept, .ref q_a0_isKept, .ref q_a0_refused, .long a0_above, .long a0_below, .ref q_a0_manyBy, .ref q_a0_hers, .ref q_a0_his, .ref q_a0_hand, .ref q_a0_bytes, .int a0_bytesLong, .int a0_tokenAt, .int a0_tokenLong, .int a0_token, .int a0_value, .ref q_a0_anew, .ref q_a0_values])), (q_a0_refused, .inl (cI, 3, .inl a0_refused))]) [0, 1] (by decide) rfl
    exact W.lret hx hb hr (fun t ht hW => ⟨⟨a0_above, a0_refused, rfl, hf, by rw [ht]; exact hP9, hD9⟩, hS.F ht⟩) hS.2.2 dX9_part_30
def jX9_image_50 (a0_isKept : Nat → Int32) (a0_refused : Nat → Int32) (x1 : Int32) (Q : Int32 → (Nat → Int32) → (Nat → Int32) → (Nat → Int32) → Prop) (w_1 : Nat → Int32) : Prop :=
  vp_in x1 2 ∧ (Q 1 w_1 (upd a0_isKept (x1.toNatClampNeg) (vp_nar .boolean 1)) a0_refused)
def bX9_image_19 (a0_told : Nat → Int32) (a0_isKept : Nat → Int32) (a0_refused : Nat → Int32) (x1 : Int32) (Q : Int32 → (Nat → Int32) → (Nat → Int32) → (Nat → Int32) → Prop) (k_6 : (Nat → Int32) → Int32 → Prop) (w_4 : Nat → Int32) (v_5 : Int32) : Prop :=
  if 163 ≤ v_5 then (jX9_image_50 a0_isKept a0_refused x1 Q w_4) else (vp_in v_5 163 ∧ (vp_in ((163 * x1) + v_5) 326 ∧ (k_6 (upd w_4 (((163 * x1) + v_5).toNatClampNeg) (a0_told v_5.toNatClampNeg)) (v_5 + 1))))
def p_X9_image (a0_told : Nat → Int32) (a0_kept : Nat → Int32) (a0_isKept : Nat → Int32) (a0_refused : Nat → Int32) (x1 : Int32) (Q : Int32 → (Nat → Int32) → (Nat → Int32) → (Nat → Int32) → Prop) : Prop :=
  p_X9_in x1.toInt64 0 1 (fun r_2 => if r_2 = 0 then (p_X9_bad a0_refused (-2) (fun r_8 u_9 => Q r_8 a0_kept a0_isKept u_9)) else (lq2 (bX9_image_19 a0_told a0_isKept a0_refused x1 Q) 1000 a0_kept 0))
def rmX9_image : Room := { frames := 1, cells := 0, slots := 0, locals := 25 }
set_option maxHeartbeats 4000000 in
set_option maxRecDepth 100000 in
theorem c_X9_image (l : Launch) (D : va_G) (cI cZ cO : ClassId) (q_a0 q_a0_told q_a0_kept q_a0_isKept q_a0_refused q_a0_manyBy q_a0_hers q_a0_his q_a0_hand q_a0_bytes q_a0_anew q_a0_values : Nat) (a0_above : Int64) (a0_below : Int64) (a0_bytesLong : Int32) (a0_tokenAt : Int32) (a0_tokenLong : Int32) (a0_token : Int32) (a0_value : Int32) (a0_told : Nat → Int32) (a0_kept : Nat → Int32) (a0_isKept : Nat → Int32) (a0_refused : Nat → Int32) (sz : Nat) (x1 : Int32) (Q : Int32 → (Nat → Int32) → (Nat → Int32) → (Nat → Int32) → Prop) (hf : p_X9_image a0_told a0_kept a0_isKept a0_refused x1 Q) : Met l yX9_image wsX9_image rmX9_image (va_Pc [.ref q_a0, .int x1] (fun U => U.heap.size = sz ∧ va_P D vwCl [(q_a0, .inr (8, [.ref q_a0_told, .ref q_a0_kept, .ref q_a0_isKept, .ref q_a0_refused, .long a0_above, .long a0_below, .ref q_a0_manyBy, .ref q_a0_hers, .ref q_a0_his, .ref q_a0_hand, .ref q_a0_bytes, .int a0_bytesLong, .int a0_tokenAt, .int a0_tokenLong, .int a0_token, .int a0_value, .ref q_a0_anew, .ref q_a0_values])), (q_a0_told, .inl (cI, 163, .inl a0_told)), (q_a0_kept, .inl (cI, 326, .inl a0_kept)), (q_a0_isKept, .inl (cZ, 2, .inl a0_isKept)), (q_a0_refused, .inl (cI, 3, .inl a0_refused))] U.heap ∧ XK D cI cZ cO U ∧ va_D (fun _ => True) [(q_a0, .inr (8, [.ref q_a0_told, .ref q_a0_kept, .ref q_a0_isKept, .ref q_a0_refused, .long a0_above, .long a0_below, .ref q_a0_manyBy, .ref q_a0_hers, .ref q_a0_his, .ref q_a0_hand, .ref q_a0_bytes, .int a0_bytesLong, .int a0_tokenAt, .int a0_tokenLong, .int a0_token, .int a0_value, .ref q_a0_anew, .ref q_a0_values])), (q_a0_told, .inl (cI, 163, .inl a0_told)), (q_a0_kept, .inl (cI, 326, .inl a0_kept)), (q_a0_isKept, .inl (cZ, 2, .inl a0_isKept)), (q_a0_refused, .inl (cI, 3, .inl a0_refused))])) (va_Qi (fun r (u : (Nat → Int32) × (Nat → Int32) × (Nat → Int32)) => Q r u.1 u.2.1 u.2.2) (fun (u : (Nat → Int32) × (Nat → Int32) × (Nat → Int32)) t => va_P D vwCl [(q_a0, .inr (8, [.ref q_a0_told, .ref q_a0_kept, .ref q_a0_isKept, .ref q_a0_refused, .long a0_above, .long a0_below, .ref q_a0_manyBy, .ref q_a0_hers, .ref q_a0_his, .ref q_a0_hand, .ref q_a0_bytes, .int a0_bytesLong, .int a0_tokenAt, .int a0_tokenLong, .int a0_token, .int a0_value, .ref q_a0_anew, .ref q_a0_values])), (q_a0_told, .inl (cI, 163, .inl a0_told)), (q_a0_kept, .inl (cI, 326, .inl u.1)), (q_a0_isKept, .inl (cZ, 2, .inl u.2.1)), (q_a0_refused, .inl (cI, 3, .inl u.2.2))] t.heap ∧ va_D (va_A [(q_a0, .inr (8, [.ref q_a0_told, .ref q_a0_kept, .ref q_a0_isKept, .ref q_a0_refused, .long a0_above, .long a0_below, .ref q_a0_manyBy, .ref q_a0_hers, .ref q_a0_his, .ref q_a0_hand, .ref q_a0_bytes, .int a0_bytesLong, .int a0_tokenAt, .int a0_tokenLong, .int a0_token, .int a0_value, .ref q_a0_anew, .ref q_a0_values])), (q_a0_told, .inl (cI, 163, .inl a0_told)), (q_a0_kept, .inl (cI, 326, .inl a0_kept)), (q_a0_isKept, .inl (cZ, 2, .inl a0_isKept)), (q_a0_refused, .inl (cI, 3, .inl a0_refused))] sz) [(q_a0, .inr (8, [.ref q_a0_told, .ref q_a0_kept, .ref q_a0_isKept, .ref q_a0_refused, .long a0_above, .long a0_below, .ref q_a0_manyBy, .ref q_a0_hers, .ref q_a0_his, .ref q_a0_hand, .ref q_a0_bytes, .int a0_bytesLong, .int a0_tokenAt, .int a0_tokenLong, .int a0_token, .int a0_value, .ref q_a0_anew, .ref q_a0_values])), (q_a0_told, .inl (cI, 163, .inl a0_told)), (q_a0_kept, .inl (cI, 326, .inl u.1)), (q_a0_isKept, .inl (cZ, 2, .inl u.2.1)), (q_a0_refused, .inl (cI, 3, .inl u.2.2))]) (va_A [(q_a0, .inr (8, [.ref q_a0_told, .ref q_a0_kept, .ref q_a0_isKept, .ref q_a0_refused, .long a0_above, .long a0_below, .ref q_a0_manyBy, .ref q_a0_hers, .ref q_a0_his, .ref q_a0_hand, .ref q_a0_bytes, .int a0_bytesLong, .int a0_tokenAt, .int a0_tokenLong, .int a0_token, .int a0_value, .ref q_a0_anew, .ref q_a0_values])), (q_a0_told, .inl (cI, 163, .inl a0_told)), (q_a0_kept, .inl (cI, 326, .inl a0_kept)), (q_a0_isKept, .inl (cZ, 2, .inl a0_isKept)), (q_a0_refused, .inl (cI, 3, .inl a0_refused))] sz)) 0 0 (va_A [(q_a0, .inr (8, [.ref q_a0_told, .ref q_a0_kept, .ref q_a0_isKept, .ref q_a0_refused, .long a0_above, .long a0_below, .ref q_a0_manyBy, .ref q_a0_hers, .ref q_a0_his, .ref q_a0_hand, .ref q_a0_bytes, .int a0_bytesLong, .int a0_tokenAt, .int a0_tokenLong, .int a0_token, .int a0_value, .ref q_a0_anew, .ref q_a0_values])), (q_a0_told, .inl (cI, 163, .inl a0_told)), (q_a0_kept, .inl (cI, 326, .inl a0_kept)), (q_a0_isKept, .inl (cZ, 2, .inl a0_isKept)), (q_a0_refused, .inl (cI, 3, .inl a0_refused))] sz) := by
  refine Met.ofW (cc := cX9_image) (maxL := 3) (ret := (some .int)) (by decide) rfl ?_
  intro p e s m args below meth c s₁ B hml hv
  obtain ⟨rfl, hsz, hP, hX, hD0⟩ := hv
  have hK := hX.1
  have hx := B.exec
  have hb := B.bytes
  have hr := B.returns
  have hts := atoms_spec (ws := wsX9_image) B.pre
  have hown : s.vm.findClass RX9 = some m.cls := findClass_of_methodNamed B.named
  have hlocks := B.notSynchronized
  have in_X9 : ∀ w ∈ wsX90, w ∈ wsX9_image := fun _ h => List.mem_cons_of_mem _ (List.mem_append_right _ h)
  have kf_16 := hts (.fieldLink RX9 16 "LeftCrestModel" "isKept" "[Z") (by decide +kernel)
  have kf_13 := hts (.fieldLink RX9 13 "LeftCrestModel" "kept" "[I") (by decide +kernel)
  have kf_7 := hts (.fieldLink RX9 7 "LeftCrestModel" "told" "[I") (by decide +kernel)
  subst hsz
  have hD := hD0.self (sz := s.heap.size)
  generalize hAe : va_A [(q_a0, .inr (8, [.ref q_a0_told, .ref q_a0_kept, .ref q_a0_isKept, .ref q_a0_refused, .long a0_above, .long a0_below, .ref q_a0_manyBy, .ref q_a0_hers, .ref q_a0_his, .ref q_a0_hand, .ref q_a0_bytes, .int a0_bytesLong, .int a0_tokenAt, .int a0_tokenLong, .int a0_token, .int a0_value, .ref q_a0_anew, .ref q_a0_values])), (q_a0_told, .inl (cI, 163, .inl a0_told)), (q_a0_kept, .inl (cI, 326, .inl a0_kept)), (q_a0_isKept, .inl (cZ, 2, .inl a0_isKept)), (q_a0_refused, .inl (cI, 3, .inl a0_refused))] s.heap.size = A at hD ⊢
  have hA : ∀ q : Nat, s.heap.size ≤ q → A q := fun q h => by rw [← hAe]; exact Or.inr h
  have hS : va_S A s.heap s.heap [] := va_S.rf
  have hP : va_P D vwCl [(q_a0, .inr (8, [.ref q_a0_told, .ref q_a0_kept, .ref q_a0_isKept, .ref q_a0_refused, .long a0_above, .long a0_below, .ref q_a0_manyBy, .ref q_a0_hers, .ref q_a0_his, .ref q_a0_hand, .ref q_a0_bytes, .int a0_bytesLong, .int a0_tokenAt, .int a0_tokenLong, .int a0_token, .int a0_value, .ref q_a0_anew, .ref q_a0_values])), (q_a0_told, .inl (cI, 163, .inl a0_told)), (q_a0_kept, .inl (cI, 326, .inl a0_kept)), (q_a0_isKept, .inl (cZ, 2, .inl a0_isKept)), (q_a0_refused, .inl (cI, 3, .inl a0_refused))] s.heap := hP
  generalize hQQ : MQ below _ _ s _ _ _ = QQ
  have hl := lv_entry ([.ref q_a0, .int x1]) (n := 3) (Nat.le_of_ble_eq_true rfl)
  rw [lg_entry_eq]
  generalize (lg_sl ([.ref q_a0, .int x1]) ++ List.replicate (3 - (lg_sl ([.ref q_a0, .int x1])).length) Slot.unset).toArray = ls at hl ⊢
  have hl : lv_has ls 3 [(0, .ref q_a0), (1, .int x1)] := hl
  have hj_50 : ∀ (w_1 : Nat → Int32) (H : Heap) (locs : List Loc), jX9_image_50 a0_isKept a0_refused x1 Q w_1 → va_P D vwCl [(q_a0, .inr (8, [.ref q_a0_told, .ref q_a0_kept, .ref q_a0_isKept, .ref q_a0_refused, .long a0_above, .long a0_below, .ref q_a0_manyBy, .ref q_a0_hers, .ref q_a0_his, .ref q_a0_hand, .ref q_a0_bytes, .int a0_bytesLong, .int a0_tokenAt, .int a0_tokenLong, .int a0_token, .int a0_value, .ref q_a0_anew, .ref q_a0_values])), (q_a0_told, .inl (cI, 163, .inl a0_told)), (q_a0_kept, .inl (cI, 326, .inl w_1)), (q_a0_isKept, .inl (cZ, 2, .inl a0_isKept)), (q_a0_refused, .inl (cI, 3, .inl a0_refused))] H → va_D A [(q_a0, .inr (8, [.ref q_a0_told, .ref q_a0_kept, .ref q_a0_isKept, .ref q_a0_refused, .long a0_above, .long a0_below, .ref q_a0_manyBy, .ref q_a0_hers, .ref q_a0_his, .ref q_a0_hand, .ref q_a0_bytes, .int a0_bytesLong, .int a0_tokenAt, .int a0_tokenLong, .int a0_token, .int a0_value, .ref q_a0_anew, .ref q_a0_values])), (q_a0_told, .inl (cI, 163, .inl a0_told)), (q_a0_kept, .inl (cI, 326, .inl w_1)), (q_a0_isKept, .inl (cZ, 2, .inl a0_isKept)), (q_a0_refused, .inl (cI, 3, .inl a0_refused))] → va_S A s.heap H locs → ∀ ls : Array Slot, lv_has ls 3 [(0, .ref q_a0), (1, .int x1)] → W p l e (headSpec wsX9_image rmX9_image).room s m ([.ref q_a0, .int x1] : List Value).toArray below meth c H locs 0 0 QQ (F0 m 50 ls []) := by
    intro w_1 H locs hf hP hD hS ls hl
    unfold jX9_image_50 at hf
    refine lv_aload_n hx hb dX9_image_50 rfl (lv_at hl 0 rfl) ?_
    refine va_get (D := D) (ci := 8) (v := .ref q_a0_isKept) (C := RX9) (T := TX9) (N := 18) hx hb hts in_X9 hown hK hP 0 rfl rfl 2 (by decide) kf_16 (fun _ h9 => h9) rfl dX9_image_51 ?_
    refine lv_iload_n hx hb dX9_image_54 rfl (lv_at hl 1 rfl) ?_
    refine lv_iconst (v := 1) hx hb dX9_image_55 (by decide) ?_
    refine va_zast hx hb hK hP hD hS 3 1 rfl rfl hf.1 dX9_image_56 (fun H locs hP hD hS => ?_)
    have hP : va_P D vwCl [(q_a0, .inr (8, [.ref q_a0_told, .ref q_a0_kept, .ref q_a0_isKept, .ref q_a0_refused, .long a0_above, .long a0_below, .ref q_a0_manyBy, .ref q_a0_hers, .ref q_a0_his, .ref q_a0_hand, .ref q_a0_bytes, .int a0_bytesLong, .int a0_tokenAt, .int a0_tokenLong, .int a0_token, .int a0_value, .ref q_a0_anew, .ref q_a0_values])), (q_a0_told, .inl (cI, 163, .inl a0_told)), (q_a0_kept, .inl (cI, 326, .inl w_1)), (q_a0_isKept, .inl (cZ, 2, .inl (upd a0_isKept (x1.toNatClampNeg) (vp_nar .boolean 1)))), (q_a0_refused, .inl (cI, 3, .inl a0_refused))] H := hP
    have hD : va_D A [(q_a0, .inr (8, [.ref q_a0_told, .ref q_a0_kept, .ref q_a0_isKept, .ref q_a0_refused, .long a0_above, .long a0_below, .ref q_a0_manyBy, .ref q_a0_hers, .ref q_a0_his, .ref q_a0_hand, .ref q_a0_bytes, .int a0_bytesLong, .int a0_tokenAt, .int a0_tokenLong, .int a0_token, .int a0_value, .ref q_a0_anew, .ref q_a0_values])), (q_a0_told, .inl (cI, 163, .inl a0_told)), (q_a0_kept, .inl (cI, 326, .inl w_1)), (q_a0_isKept, .inl (cZ, 2, .inl (upd a0_isKept (x1.toNatClampNeg) (vp_nar .boolean 1)))), (q_a0_refused, .inl (cI, 3, .inl a0_refused))] := hD
    have hf := hf.2
    refine lv_iconst (v := 1) hx hb dX9_image_57 (by decide) ?_
    subst hQQ
    have hP9 := hP.sub (ws' := [(q_a0, .inr (8, [.ref q_a0_told, .ref q_a0_kept, .ref q_a0_isKept, .ref q_a0_refused, .long a0_above, .long a0_below, .ref q_a0_manyBy, .ref q_a0_hers, .ref q_a0_his, .ref q_a0_hand, .ref q_a0_bytes, .int a0_bytesLong, .int a0_tokenAt, .int a0_tokenLong, .int a0_token, .int a0_value, .ref q_a0_anew, .ref q_a0_values])), (q_a0_told, .inl (cI, 163, .inl a0_told)), (q_a0_kept, .inl (cI, 326, .inl w_1)), (q_a0_isKept, .inl (cZ, 2, .inl (upd a0_isKept (x1.toNatClampNeg) (vp_nar .boolean 1)))), (q_a0_refused, .inl (cI, 3, .inl a0_refused))]) [0, 1, 2, 3, 4] rfl
    have hD9 := hD.sub (ws' := [(q_a0, .inr (8, [.ref q_a0_told, .ref q_a0_kept, .ref q_a0_isKept, .ref q_a0_refused, .long a0_above, .long a0_below, .ref q_a0_manyBy, .ref q_a0_hers, .ref q_a0_his, .ref q_a0_hand, .ref q_a0_bytes, .int a0_bytesLong, .int a0_tokenAt, .int a0_tokenLong, .int a0_token, .int a0_value, .ref q_a0_anew, .ref q_a0_values])), (q_a0_told, .inl (cI, 163, .inl a0_told)), (q_a0_kept, .inl (cI, 326, .inl w_1)), (q_a0_isKept, .inl (cZ, 2, .inl (upd a0_isKept (x1.toNatClampNeg) (vp_nar .boolean 1)))), (q_a0_refused, .inl (cI, 3, .inl a0_refused))]) [0, 1, 2, 3, 4] (by decide) rfl
    exact W.iret hx hb hr (fun t ht hW => ⟨⟨1, (w_1, upd a0_isKept (x1.toNatClampNeg) (vp_nar .boolean 1), a0_refused), rfl, hf, by rw [ht]; exact hP9, hD9⟩, hS.F ht⟩) hS.2.2 dX9_image_58
  unfold p_X9_image at hf
  refine lv_iload_n hx hb dX9_image_0 rfl (lv_at hl 1 rfl) ?_
  refine lv_i2l hx hb dX9_image_1 rfl ?_
  refine lv_lconst (v := 0) hx hb dX9_image_2 (by decide) ?_
  refine lv_lconst (v := 1) hx hb dX9_image_3 (by decide) ?_
  refine ya_csi (va_runS (As := [.long x1.toInt64, .long 0, .long 1]) (rest := []) ⟨hx, hb, hml, hown, hts⟩ (c_X9_in l D cI cZ cO  x1.toInt64 0 1 _ hf) (va_cwS 3 hts gX9_image_X9_in rfl rfl rfl (by decide +kernel) ⟨Nat.le_of_ble_eq_true rfl, Nat.le_of_ble_eq_true rfl⟩) (ps_ro va_P0 hX) rfl rfl hl.1 rfl (lv_room (Nat.le_of_ble_eq_true rfl)) dX9_image_4 ⟨Nat.zero_le _, Nat.zero_le _⟩) (fun r_2 hf => ?_)
  refine lv_if_ne (tgt := 17) hx hb dX9_image_7 (by decide) (fun c_3 => ?_) (fun c_3 => ?_)
  · have hf := it_f c_3 hf
    refine lv_iconst (v := 0) hx hb dX9_image_17 (by decide) ?_
    refine lv_istore_n (lv' := [(2, .int 0), (0, .ref q_a0), (1, .int x1)]) hx hb dX9_image_18 rfl hl (by decide) rfl (fun ls hl => ?_)
    have hlp_19 : ∀ (n_19 : Nat) (w_4 : Nat → Int32) (v_5 : Int32) (H : Heap) (locs : List Loc) (ls : Array Slot), lq2 (bX9_image_19 a0_told a0_isKept a0_refused x1 Q) n_19 w_4 v_5 → va_P D vwCl [(q_a0, .inr (8, [.ref q_a0_told, .ref q_a0_kept, .ref q_a0_isKept, .ref q_a0_refused, .long a0_above, .long a0_below, .ref q_a0_manyBy, .ref q_a0_hers, .ref q_a0_his, .ref q_a0_hand, .ref q_a0_bytes, .int a0_bytesLong, .int a0_tokenAt, .int a0_tokenLong, .int a0_token, .int a0_value, .ref q_a0_anew, .ref q_a0_values])), (q_a0_told, .inl (cI, 163, .inl a0_told)), (q_a0_kept, .inl (cI, 326, .inl w_4)), (q_a0_isKept, .inl (cZ, 2, .inl a0_isKept)), (q_a0_refused, .inl (cI, 3, .inl a0_refused))] H → va_D A [(q_a0, .inr (8, [.ref q_a0_told, .ref q_a0_kept, .ref q_a0_isKept, .ref q_a0_refused, .long a0_above, .long a0_below, .ref q_a0_manyBy, .ref q_a0_hers, .ref q_a0_his, .ref q_a0_hand, .ref q_a0_bytes, .int a0_bytesLong, .int a0_tokenAt, .int a0_tokenLong, .int a0_token, .int a0_value, .ref q_a0_anew, .ref q_a0_values])), (q_a0_told, .inl (cI, 163, .inl a0_told)), (q_a0_kept, .inl (cI, 326, .inl w_4)), (q_a0_isKept, .inl (cZ, 2, .inl a0_isKept)), (q_a0_refused, .inl (cI, 3, .inl a0_refused))] → va_S A s.heap H locs → lv_has ls 3 [(0, .ref q_a0), (1, .int x1), (2, .int v_5)] → W p l e (headSpec wsX9_image rmX9_image).room s m ([.ref q_a0, .int x1] : List Value).toArray below meth c H locs 0 0 QQ (F0 m 19 ls []) := by
      intro n_19
      induction n_19 with
      | zero => intro w_4 v_5 H locs ls hf; exact (lq2_0 hf).elim
      | succ n_19 ih =>
        have ih_19 := ih
        intro w_4 v_5 H locs ls hf hP hD hS hl
        have hf := lq2_s hf
        unfold bX9_image_19 at hf
        refine lv_iload_n hx hb dX9_image_19 rfl (lv_at hl 2 rfl) ?_
        refine lv_sipush (v := 163) hx hb dX9_image_20 (by decide) ?_
        refine lv_icmp_ge (tgt := 50) hx hb dX9_image_23 (by decide) (fun c_7 => ?_) (fun c_7 => ?_)
        · have hf := it_t c_7 hf
          exact hj_50 w_4 _ _ hf (hP.sub [0, 1, 2, 3, 4] rfl) (hD.sub [0, 1, 2, 3, 4] (by decide) rfl) hS ls (lv_sub hl [0, 1] rfl)
        · have hf := it_f c_7 hf
          refine lv_aload_n hx hb dX9_image_26 rfl (lv_at hl 0 rfl) ?_
          refine va_get (D := D) (ci := 8) (v := .ref q_a0_kept) (C := RX9) (T := TX9) (N := 18) hx hb hts in_X9 hown hK hP 0 rfl rfl 1 (by decide) kf_13 (fun _ h9 => h9) rfl dX9_image_27 ?_
          refine lv_sipush (v := 163) hx hb dX9_image_30 (by decide) ?_
          refine lv_iload_n hx hb dX9_image_33 rfl (lv_at hl 1 rfl) ?_
          refine lv_imul hx hb dX9_image_34 ?_
          refine lv_iload_n hx hb dX9_image_35 rfl (lv_at hl 2 rfl) ?_
          refine lv_iadd hx hb dX9_image_36 ?_
          refine lv_aload_n hx hb dX9_image_37 rfl (lv_at hl 0 rfl) ?_
          refine va_get (D := D) (ci := 8) (v := .ref q_a0_told) (C := RX9) (T := TX9) (N := 18) hx hb hts in_X9 hown hK hP 0 rfl rfl 0 (by decide) kf_7 (fun _ h9 => h9) rfl dX9_image_38 ?_
          refine lv_iload_n hx hb dX9_image_41 rfl (lv_at hl 2 rfl) ?_
          refine va_iald hx hb hK hP 1 0 rfl rfl hf.1 dX9_image_42 ?_
          have hf := hf.2
          refine va_iast hx hb hK hP hD hS 2 0 rfl rfl hf.1 dX9_image_43 (fun H locs hP hD hS => ?_)
          have hP : va_P D vwCl [(q_a0, .inr (8, [.ref q_a0_told, .ref q_a0_kept, .ref q_a0_isKept, .ref q_a0_refused, .long a0_above, .long a0_below, .ref q_a0_manyBy, .ref q_a0_hers, .ref q_a0_his, .ref q_a0_hand, .ref q_a0_bytes, .int a0_bytesLong, .int a0_tokenAt, .int a0_tokenLong, .int a0_token, .int a0_value, .ref q_a0_anew, .ref q_a0_values])), (q_a0_told, .inl (cI, 163, .inl a0_told)), (q_a0_kept, .inl (cI, 326, .inl (upd w_4 (((163 * x1) + v_5).toNatClampNeg) (a0_told v_5.toNatClampNeg)))), (q_a0_isKept, .inl (cZ, 2, .inl a0_isKept)), (q_a0_refused, .inl (cI, 3, .inl a0_refused))] H := hP
          have hD : va_D A [(q_a0, .inr (8, [.ref q_a0_told, .ref q_a0_kept, .ref q_a0_isKept, .ref q_a0_refused, .long a0_above, .long a0_below, .ref q_a0_manyBy, .ref q_a0_hers, .ref q_a0_his, .ref q_a0_hand, .ref q_a0_bytes, .int a0_bytesLong, .int a0_tokenAt, .int a0_tokenLong, .int a0_token, .int a0_value, .ref q_a0_anew, .ref q_a0_values])), (q_a0_told, .inl (cI, 163, .inl a0_told)), (q_a0_kept, .inl (cI, 326, .inl (upd w_4 (((163 * x1) + v_5).toNatClampNeg) (a0_told v_5.toNatClampNeg)))), (q_a0_isKept, .inl (cZ, 2, .inl a0_isKept)), (q_a0_refused, .inl (cI, 3, .inl a0_refused))] := hD
          have hf := hf.2
          refine lv_iinc (v := v_5 + 1) (lv' := [(2, .int (v_5 + 1)), (0, .ref q_a0), (1, .int x1)]) hx hb dX9_image_44 hl (k := 2) rfl rfl (by decide) rfl (fun ls hl => ?_)
          refine lv_goto (tgt := 19) hx hb dX9_image_47 (by decide) ?_
          exact ih (upd w_4 (((163 * x1) + v_5).toNatClampNeg) (a0_told v_5.toNatClampNeg)) (v_5 + 1) _ _ ls hf (hP.sub [0, 1, 2, 3, 4] rfl) (hD.sub [0, 1, 2, 3, 4] (by decide) rfl) hS (lv_sub hl [1, 2, 0] rfl)
    exact hlp_19 1000 a0_kept 0 _ _ ls hf (hP.sub [0, 1, 2, 3, 4] rfl) (hD.sub [0, 1, 2, 3, 4] (by decide) rfl) hS (lv_sub hl [1, 2, 0] rfl)
  · have hf := it_t c_3 hf
    refine lv_aload_n hx hb dX9_image_10 rfl (lv_at hl 0 rfl) ?_
    refine lv_bipush (v := (-2)) hx hb dX9_image_11 (by decide) ?_
    have hPc := hP.sub (ws' := [(q_a0, .inr (8, [.ref q_a0_told, .ref q_a0_kept, .ref q_a0_isKept, .ref q_a0_refused, .long a0_above, .long a0_below, .ref q_a0_manyBy, .ref q_a0_hers, .ref q_a0_his, .ref q_a0_hand, .ref q_a0_bytes, .int a0_bytesLong, .int a0_tokenAt, .int a0_tokenLong, .int a0_token, .int a0_value, .ref q_a0_anew, .ref q_a0_values])), (q_a0_refused, .inl (cI, 3, .inl a0_refused))]) [0, 4] rfl
    have hDc := hD.sub (ws' := [(q_a0, .inr (8, [.ref q_a0_told, .ref q_a0_kept, .ref q_a0_isKept, .ref q_a0_refused, .long a0_above, .long a0_below, .ref q_a0_manyBy, .ref q_a0_hers, .ref q_a0_his, .ref q_a0_hand, .ref q_a0_bytes, .int a0_bytesLong, .int a0_tokenAt, .int a0_tokenLong, .int a0_token, .int a0_value, .ref q_a0_anew, .ref q_a0_values])), (q_a0_refused, .inl (cI, 3, .inl a0_refused))]) [0, 4] (by decide) rfl
    have hFc := va_free (wc := [(q_a0, .inr (8, [.ref q_a0_told, .ref q_a0_kept, .ref q_a0_isKept, .ref q_a0_refused, .long a0_above, .long a0_below, .ref q_a0_manyBy, .ref q_a0_hers, .ref q_a0_his, .ref q_a0_hand, .ref q_a0_bytes, .int a0_bytesLong, .int a0_tokenAt, .int a0_tokenLong, .int a0_token, .int a0_value, .ref q_a0_anew, .ref q_a0_values])), (q_a0_refused, .inl (cI, 3, .inl a0_refused))]) hD hS hA [0, 4] rfl
    refine va_calli (va_runV (As := [.int (-2)]) (rest := []) ⟨hx, hb, hml, hown, hts⟩ (c_X9_bad l D cI cZ cO q_a0 q_a0_told q_a0_kept q_a0_isKept q_a0_refused q_a0_manyBy q_a0_hers q_a0_his q_a0_hand q_a0_bytes q_a0_anew q_a0_values a0_above a0_below a0_bytesLong a0_tokenAt a0_tokenLong a0_token a0_value a0_refused s.heap.size (-2) _ hf) (cwV 1 hts gX9_image_X9_bad rfl rfl rfl (by decide +kernel) ⟨Nat.le_of_ble_eq_true rfl, Nat.le_of_ble_eq_true rfl⟩) (pv_rw (ci := 8) (q0 := 0) hPc hDc hX rfl rfl) rfl rfl hl.1 rfl (lv_room (Nat.le_of_ble_eq_true rfl)) dX9_image_13 ⟨Nat.zero_le _, Nat.zero_le _⟩) hS (fun q _ h => hFc q h) hFc (fun r_8 u t H1 locs ht hvm hf hB hz1 hk1 hS => ?_)
    obtain ⟨u_9, rfl⟩ : ∃ z, z = u := ⟨_, rfl⟩
    obtain ⟨hP1, hD1⟩ := hB
    rw [ht] at hP1
    clear hvm
    obtain ⟨hP, hD⟩ := va_join (wr := [(q_a0_told, .inl (cI, 163, .inl a0_told)), (q_a0_kept, .inl (cI, 326, .inl a0_kept)), (q_a0_isKept, .inl (cZ, 2, .inl a0_isKept))]) (w1 := [(q_a0, .inr (8, [.ref q_a0_told, .ref q_a0_kept, .ref q_a0_isKept, .ref q_a0_refused, .long a0_above, .long a0_below, .ref q_a0_manyBy, .ref q_a0_hers, .ref q_a0_his, .ref q_a0_hand, .ref q_a0_bytes, .int a0_bytesLong, .int a0_tokenAt, .int a0_tokenLong, .int a0_token, .int a0_value, .ref q_a0_anew, .ref q_a0_values])), (q_a0_refused, .inl (cI, 3, .inl u_9))]) hP hD [0, 4] [1, 2, 3] rfl rfl (by decide) (by decide) hk1 hFc hP1 hD1
    clear hz1 hk1 hPc hDc hFc hP1 hD1
    generalize H1 = H at hP hS ⊢
    have hP : va_P D vwCl [(q_a0_told, .inl (cI, 163, .inl a0_told)), (q_a0_kept, .inl (cI, 326, .inl a0_kept)), (q_a0_isKept, .inl (cZ, 2, .inl a0_isKept)), (q_a0, .inr (8, [.ref q_a0_told, .ref q_a0_kept, .ref q_a0_isKept, .ref q_a0_refused, .long a0_above, .long a0_below, .ref q_a0_manyBy, .ref q_a0_hers, .ref q_a0_his, .ref q_a0_hand, .ref q_a0_bytes, .int a0_bytesLong, .int a0_tokenAt, .int a0_tokenLong, .int a0_token, .int a0_value, .ref q_a0_anew, .ref q_a0_values])), (q_a0_refused, .inl (cI, 3, .inl u_9))] H := hP
    have hD : va_D A [(q_a0_told, .inl (cI, 163, .inl a0_told)), (q_a0_kept, .inl (cI, 326, .inl a0_kept)), (q_a0_isKept, .inl (cZ, 2, .inl a0_isKept)), (q_a0, .inr (8, [.ref q_a0_told, .ref q_a0_kept, .ref q_a0_isKept, .ref q_a0_refused, .long a0_above, .long a0_below, .ref q_a0_manyBy, .ref q_a0_hers, .ref q_a0_his, .ref q_a0_hand, .ref q_a0_bytes, .int a0_bytesLong, .int a0_tokenAt, .int a0_tokenLong, .int a0_token, .int a0_value, .ref q_a0_anew, .ref q_a0_values])), (q_a0_refused, .inl (cI, 3, .inl u_9))] := hD
    subst hQQ
    have hP9 := hP.sub (ws' := [(q_a0, .inr (8, [.ref q_a0_told, .ref q_a0_kept, .ref q_a0_isKept, .ref q_a0_refused, .long a0_above, .long a0_below, .ref q_a0_manyBy, .ref q_a0_hers, .ref q_a0_his, .ref q_a0_hand, .ref q_a0_bytes, .int a0_bytesLong, .int a0_tokenAt, .int a0_tokenLong, .int a0_token, .int a0_value, .ref q_a0_anew, .ref q_a0_values])), (q_a0_told, .inl (cI, 163, .inl a0_told)), (q_a0_kept, .inl (cI, 326, .inl a0_kept)), (q_a0_isKept, .inl (cZ, 2, .inl a0_isKept)), (q_a0_refused, .inl (cI, 3, .inl u_9))]) [3, 0, 1, 2, 4] rfl
    have hD9 := hD.sub (ws' := [(q_a0, .inr (8, [.ref q_a0_told, .ref q_a0_kept, .ref q_a0_isKept, .ref q_a0_refused, .long a0_above, .long a0_below, .ref q_a0_manyBy, .ref q_a0_hers, .ref q_a0_his, .ref q_a0_hand, .ref q_a0_bytes, .int a0_bytesLong, .int a0_tokenAt, .int a0_tokenLong, .int a0_token, .int a0_value, .ref q_a0_anew, .ref q_a0_values])), (q_a0_told, .inl (cI, 163, .inl a0_told)), (q_a0_kept, .inl (cI, 326, .inl a0_kept)), (q_a0_isKept, .inl (cZ, 2, .inl a0_isKept)), (q_a0_refused, .inl (cI, 3, .inl u_9))]) [3, 0, 1, 2, 4] (by decide) rfl
    exact W.iret hx hb hr (fun t ht hW => ⟨⟨r_8, (a0_kept, a0_isKept, u_9), rfl, hf, by rw [ht]; exact hP9, hD9⟩, hS.F ht⟩) hS.2.2 dX9_image_16
def bX9_from_33 (a0_kept : Nat → Int32) (a0_refused : Nat → Int32) (x1 : Int32) (Q : Int32 → (Nat → Int32) → (Nat → Int32) → Prop) (k_6 : (Nat → Int32) → Int32 → Prop) (w_4 : Nat → Int32) (v_5 : Int32) : Prop :=
  if 163 ≤ v_5 then (Q 1 w_4 a0_refused) else (vp_in ((163 * x1) + v_5) 326 ∧ (vp_in v_5 163 ∧ (k_6 (upd w_4 (v_5.toNatClampNeg) (a0_kept ((163 * x1) + v_5).toNatClampNeg)) (v_5 + 1))))
def p_X9_from (a0_told : Nat → Int32) (a0_kept : Nat → Int32) (a0_isKept : Nat → Int32) (a0_refused : Nat → Int32) (x1 : Int32) (Q : Int32 → (Nat → Int32) → (Nat → Int32) → Prop) : Prop :=
  p_X9_in x1.toInt64 0 1 (fun r_1 => if r_1 = 0 then (p_X9_bad a0_refused (-2) (fun r_10 u_11 => Q r_10 a0_told u_11)) else (vp_in x1 2 ∧ (if (a0_isKept x1.toNatClampNeg) = 0 then (p_X9_no a0_refused (fun r_8 u_9 => Q r_8 a0_told u_9)) else (lq2 (bX9_from_33 a0_kept a0_refused x1 Q) 1000 a0_told 0))))
def rmX9_from : Room := { frames := 1, cells := 0, slots := 0, locals := 25 }
set_option maxHeartbeats 4000000 in
set_option maxRecDepth 100000 in
theorem c_X9_from (l : Launch) (D : va_G) (cI cZ cO : ClassId) (q_a0 q_a0_told q_a0_kept q_a0_isKept q_a0_refused q_a0_manyBy q_a0_hers q_a0_his q_a0_hand q_a0_bytes q_a0_anew q_a0_values : Nat) (a0_above : Int64) (a0_below : Int64) (a0_bytesLong : Int32) (a0_tokenAt : Int32) (a0_tokenLong : Int32) (a0_token : Int32) (a0_value : Int32) (a0_told : Nat → Int32) (a0_kept : Nat → Int32) (a0_isKept : Nat → Int32) (a0_refused : Nat → Int32) (sz : Nat) (x1 : Int32) (Q : Int32 → (Nat → Int32) → (Nat → Int32) → Prop) (hf : p_X9_from a0_told a0_kept a0_isKept a0_refused x1 Q) : Met l yX9_from wsX9_from rmX9_from (va_Pc [.ref q_a0, .int x1] (fun U => U.heap.size = sz ∧ va_P D vwCl [(q_a0, .inr (8, [.ref q_a0_told, .ref q_a0_kept, .ref q_a0_isKept, .ref q_a0_refused, .long a0_above, .long a0_below, .ref q_a0_manyBy, .ref q_a0_hers, .ref q_a0_his, .ref q_a0_hand, .ref q_a0_bytes, .int a0_bytesLong, .int a0_tokenAt, .int a0_tokenLong, .int a0_token, .int a0_value, .ref q_a0_anew, .ref q_a0_values])), (q_a0_told, .inl (cI, 163, .inl a0_told)), (q_a0_kept, .inl (cI, 326, .inl a0_kept)), (q_a0_isKept, .inl (cZ, 2, .inl a0_isKept)), (q_a0_refused, .inl (cI, 3, .inl a0_refused))] U.heap ∧ XK D cI cZ cO U ∧ va_D (fun _ => True) [(q_a0, .inr (8, [.ref q_a0_told, .ref q_a0_kept, .ref q_a0_isKept, .ref q_a0_refused, .long a0_above, .long a0_below, .ref q_a0_manyBy, .ref q_a0_hers, .ref q_a0_his, .ref q_a0_hand, .ref q_a0_bytes, .int a0_bytesLong, .int a0_tokenAt, .int a0_tokenLong, .int a0_token, .int a0_value, .ref q_a0_anew, .ref q_a0_values])), (q_a0_told, .inl (cI, 163, .inl a0_told)), (q_a0_kept, .inl (cI, 326, .inl a0_kept)), (q_a0_isKept, .inl (cZ, 2, .inl a0_isKept)), (q_a0_refused, .inl (cI, 3, .inl a0_refused))])) (va_Qi (fun r (u : (Nat → Int32) × (Nat → Int32)) => Q r u.1 u.2) (fun (u : (Nat → Int32) × (Nat → Int32)) t => va_P D vwCl [(q_a0, .inr (8, [.ref q_a0_told, .ref q_a0_kept, .ref q_a0_isKept, .ref q_a0_refused, .long a0_above, .long a0_below, .ref q_a0_manyBy, .ref q_a0_hers, .ref q_a0_his, .ref q_a0_hand, .ref q_a0_bytes, .int a0_bytesLong, .int a0_tokenAt, .int a0_tokenLong, .int a0_token, .int a0_value, .ref q_a0_anew, .ref q_a0_values])), (q_a0_told, .inl (cI, 163, .inl u.1)), (q_a0_kept, .inl (cI, 326, .inl a0_kept)), (q_a0_isKept, .inl (cZ, 2, .inl a0_isKept)), (q_a0_refused, .inl (cI, 3, .inl u.2))] t.heap ∧ va_D (va_A [(q_a0, .inr (8, [.ref q_a0_told, .ref q_a0_kept, .ref q_a0_isKept, .ref q_a0_refused, .long a0_above, .long a0_below, .ref q_a0_manyBy, .ref q_a0_hers, .ref q_a0_his, .ref q_a0_hand, .ref q_a0_bytes, .int a0_bytesLong, .int a0_tokenAt, .int a0_tokenLong, .int a0_token, .int a0_value, .ref q_a0_anew, .ref q_a0_values])), (q_a0_told, .inl (cI, 163, .inl a0_told)), (q_a0_kept, .inl (cI, 326, .inl a0_kept)), (q_a0_isKept, .inl (cZ, 2, .inl a0_isKept)), (q_a0_refused, .inl (cI, 3, .inl a0_refused))] sz) [(q_a0, .inr (8, [.ref q_a0_told, .ref q_a0_kept, .ref q_a0_isKept, .ref q_a0_refused, .long a0_above, .long a0_below, .ref q_a0_manyBy, .ref q_a0_hers, .ref q_a0_his, .ref q_a0_hand, .ref q_a0_bytes, .int a0_bytesLong, .int a0_tokenAt, .int a0_tokenLong, .int a0_token, .int a0_value, .ref q_a0_anew, .ref q_a0_values])), (q_a0_told, .inl (cI, 163, .inl u.1)), (q_a0_kept, .inl (cI, 326, .inl a0_kept)), (q_a0_isKept, .inl (cZ, 2, .inl a0_isKept)), (q_a0_refused, .inl (cI, 3, .inl u.2))]) (va_A [(q_a0, .inr (8, [.ref q_a0_told, .ref q_a0_kept, .ref q_a0_isKept, .ref q_a0_refused, .long a0_above, .long a0_below, .ref q_a0_manyBy, .ref q_a0_hers, .ref q_a0_his, .ref q_a0_hand, .ref q_a0_bytes, .int a0_bytesLong, .int a0_tokenAt, .int a0_tokenLong, .int a0_token, .int a0_value, .ref q_a0_anew, .ref q_a0_values])), (q_a0_told, .inl (cI, 163, .inl a0_told)), (q_a0_kept, .inl (cI, 326, .inl a0_kept)), (q_a0_isKept, .inl (cZ, 2, .inl a0_isKept)), (q_a0_refused, .inl (cI, 3, .inl a0_refused))] sz)) 0 0 (va_A [(q_a0, .inr (8, [.ref q_a0_told, .ref q_a0_kept, .ref q_a0_isKept, .ref q_a0_refused, .long a0_above, .long a0_below, .ref q_a0_manyBy, .ref q_a0_hers, .ref q_a0_his, .ref q_a0_hand, .ref q_a0_bytes, .int a0_bytesLong, .int a0_tokenAt, .int a0_tokenLong, .int a0_token, .int a0_value, .ref q_a0_anew, .ref q_a0_values])), (q_a0_told, .inl (cI, 163, .inl a0_told)), (q_a0_kept, .inl (cI, 326, .inl a0_kept)), (q_a0_isKept, .inl (cZ, 2, .inl a0_isKept)), (q_a0_refused, .inl (cI, 3, .inl a0_refused))] sz) := by
  refine Met.ofW (cc := cX9_from) (maxL := 3) (ret := (some .int)) (by decide) rfl ?_
  intro p e s m args below meth c s₁ B hml hv
  obtain ⟨rfl, hsz, hP, hX, hD0⟩ := hv
  have hK := hX.1
  have hx := B.exec
  have hb := B.bytes
  have hr := B.returns
  have hts := atoms_spec (ws := wsX9_from) B.pre
  have hown : s.vm.findClass RX9 = some m.cls := findClass_of_methodNamed B.named
  have hlocks := B.notSynchronized
  have in_X9 : ∀ w ∈ wsX90, w ∈ wsX9_from := fun _ h => List.mem_cons_of_mem _ (List.mem_append_right _ h)
  have kf_16 := hts (.fieldLink RX9 16 "LeftCrestModel" "isKept" "[Z") (by decide +kernel)
  have kf_7 := hts (.fieldLink RX9 7 "LeftCrestModel" "told" "[I") (by decide +kernel)
  have kf_13 := hts (.fieldLink RX9 13 "LeftCrestModel" "kept" "[I") (by decide +kernel)
  subst hsz
  have hD := hD0.self (sz := s.heap.size)
  generalize hAe : va_A [(q_a0, .inr (8, [.ref q_a0_told, .ref q_a0_kept, .ref q_a0_isKept, .ref q_a0_refused, .long a0_above, .long a0_below, .ref q_a0_manyBy, .ref q_a0_hers, .ref q_a0_his, .ref q_a0_hand, .ref q_a0_bytes, .int a0_bytesLong, .int a0_tokenAt, .int a0_tokenLong, .int a0_token, .int a0_value, .ref q_a0_anew, .ref q_a0_values])), (q_a0_told, .inl (cI, 163, .inl a0_told)), (q_a0_kept, .inl (cI, 326, .inl a0_kept)), (q_a0_isKept, .inl (cZ, 2, .inl a0_isKept)), (q_a0_refused, .inl (cI, 3, .inl a0_refused))] s.heap.size = A at hD ⊢
  have hA : ∀ q : Nat, s.heap.size ≤ q → A q := fun q h => by rw [← hAe]; exact Or.inr h
  have hS : va_S A s.heap s.heap [] := va_S.rf
  have hP : va_P D vwCl [(q_a0, .inr (8, [.ref q_a0_told, .ref q_a0_kept, .ref q_a0_isKept, .ref q_a0_refused, .long a0_above, .long a0_below, .ref q_a0_manyBy, .ref q_a0_hers, .ref q_a0_his, .ref q_a0_hand, .ref q_a0_bytes, .int a0_bytesLong, .int a0_tokenAt, .int a0_tokenLong, .int a0_token, .int a0_value, .ref q_a0_anew, .ref q_a0_values])), (q_a0_told, .inl (cI, 163, .inl a0_told)), (q_a0_kept, .inl (cI, 326, .inl a0_kept)), (q_a0_isKept, .inl (cZ, 2, .inl a0_isKept)), (q_a0_refused, .inl (cI, 3, .inl a0_refused))] s.heap := hP
  generalize hQQ : MQ below _ _ s _ _ _ = QQ
  have hl := lv_entry ([.ref q_a0, .int x1]) (n := 3) (Nat.le_of_ble_eq_true rfl)
  rw [lg_entry_eq]
  generalize (lg_sl ([.ref q_a0, .int x1]) ++ List.replicate (3 - (lg_sl ([.ref q_a0, .int x1])).length) Slot.unset).toArray = ls at hl ⊢
  have hl : lv_has ls 3 [(0, .ref q_a0), (1, .int x1)] := hl
  unfold p_X9_from at hf
  refine lv_iload_n hx hb dX9_from_0 rfl (lv_at hl 1 rfl) ?_
  refine lv_i2l hx hb dX9_from_1 rfl ?_
  refine lv_lconst (v := 0) hx hb dX9_from_2 (by decide) ?_
  refine lv_lconst (v := 1) hx hb dX9_from_3 (by decide) ?_
  refine ya_csi (va_runS (As := [.long x1.toInt64, .long 0, .long 1]) (rest := []) ⟨hx, hb, hml, hown, hts⟩ (c_X9_in l D cI cZ cO  x1.toInt64 0 1 _ hf) (va_cwS 3 hts gX9_from_X9_in rfl rfl rfl (by decide +kernel) ⟨Nat.le_of_ble_eq_true rfl, Nat.le_of_ble_eq_true rfl⟩) (ps_ro va_P0 hX) rfl rfl hl.1 rfl (lv_room (Nat.le_of_ble_eq_true rfl)) dX9_from_4 ⟨Nat.zero_le _, Nat.zero_le _⟩) (fun r_1 hf => ?_)
  refine lv_if_ne (tgt := 17) hx hb dX9_from_7 (by decide) (fun c_2 => ?_) (fun c_2 => ?_)
  · have hf := it_f c_2 hf
    refine lv_aload_n hx hb dX9_from_17 rfl (lv_at hl 0 rfl) ?_
    refine va_get (D := D) (ci := 8) (v := .ref q_a0_isKept) (C := RX9) (T := TX9) (N := 18) hx hb hts in_X9 hown hK hP 0 rfl rfl 2 (by decide) kf_16 (fun _ h9 => h9) rfl dX9_from_18 ?_
    refine lv_iload_n hx hb dX9_from_21 rfl (lv_at hl 1 rfl) ?_
    refine va_zald hx hb hK hP 3 1 rfl rfl hf.1 dX9_from_22 ?_
    have hf := hf.2
    refine lv_if_ne (tgt := 31) hx hb dX9_from_23 (by decide) (fun c_3 => ?_) (fun c_3 => ?_)
    · have hf := it_f c_3 hf
      refine lv_iconst (v := 0) hx hb dX9_from_31 (by decide) ?_
      refine lv_istore_n (lv' := [(2, .int 0), (0, .ref q_a0), (1, .int x1)]) hx hb dX9_from_32 rfl hl (by decide) rfl (fun ls hl => ?_)
      have hlp_33 : ∀ (n_33 : Nat) (w_4 : Nat → Int32) (v_5 : Int32) (H : Heap) (locs : List Loc) (ls : Array Slot), lq2 (bX9_from_33 a0_kept a0_refused x1 Q) n_33 w_4 v_5 → va_P D vwCl [(q_a0, .inr (8, [.ref q_a0_told, .ref q_a0_kept, .ref q_a0_isKept, .ref q_a0_refused, .long a0_above, .long a0_below, .ref q_a0_manyBy, .ref q_a0_hers, .ref q_a0_his, .ref q_a0_hand, .ref q_a0_bytes, .int a0_bytesLong, .int a0_tokenAt, .int a0_tokenLong, .int a0_token, .int a0_value, .ref q_a0_anew, .ref q_a0_values])), (q_a0_told, .inl (cI, 163, .inl w_4)), (q_a0_kept, .inl (cI, 326, .inl a0_kept)), (q_a0_isKept, .inl (cZ, 2, .inl a0_isKept)), (q_a0_refused, .inl (cI, 3, .inl a0_refused))] H → va_D A [(q_a0, .inr (8, [.ref q_a0_told, .ref q_a0_kept, .ref q_a0_isKept, .ref q_a0_refused, .long a0_above, .long a0_below, .ref q_a0_manyBy, .ref q_a0_hers, .ref q_a0_his, .ref q_a0_hand, .ref q_a0_bytes, .int a0_bytesLong, .int a0_tokenAt, .int a0_tokenLong, .int a0_token, .int a0_value, .ref q_a0_anew, .ref q_a0_values])), (q_a0_told, .inl (cI, 163, .inl w_4)), (q_a0_kept, .inl (cI, 326, .inl a0_kept)), (q_a0_isKept, .inl (cZ, 2, .inl a0_isKept)), (q_a0_refused, .inl (cI, 3, .inl a0_refused))] → va_S A s.heap H locs → lv_has ls 3 [(0, .ref q_a0), (1, .int x1), (2, .int v_5)] → W p l e (headSpec wsX9_from rmX9_from).room s m ([.ref q_a0, .int x1] : List Value).toArray below meth c H locs 0 0 QQ (F0 m 33 ls []) := by
        intro n_33
        induction n_33 with
        | zero => intro w_4 v_5 H locs ls hf; exact (lq2_0 hf).elim
        | succ n_33 ih =>
          have ih_33 := ih
          intro w_4 v_5 H locs ls hf hP hD hS hl
          have hf := lq2_s hf
          unfold bX9_from_33 at hf
          refine lv_iload_n hx hb dX9_from_33 rfl (lv_at hl 2 rfl) ?_
          refine lv_sipush (v := 163) hx hb dX9_from_34 (by decide) ?_
          refine lv_icmp_ge (tgt := 64) hx hb dX9_from_37 (by decide) (fun c_7 => ?_) (fun c_7 => ?_)
          · have hf := it_t c_7 hf
            refine lv_iconst (v := 1) hx hb dX9_from_64 (by decide) ?_
            subst hQQ
            have hP9 := hP.sub (ws' := [(q_a0, .inr (8, [.ref q_a0_told, .ref q_a0_kept, .ref q_a0_isKept, .ref q_a0_refused, .long a0_above, .long a0_below, .ref q_a0_manyBy, .ref q_a0_hers, .ref q_a0_his, .ref q_a0_hand, .ref q_a0_bytes, .int a0_bytesLong, .int a0_tokenAt, .int a0_tokenLong, .int a0_token, .int a0_value, .ref q_a0_anew, .ref q_a0_values])), (q_a0_told, .inl (cI, 163, .inl w_4)), (q_a0_kept, .inl (cI, 326, .inl a0_kept)), (q_a0_isKept, .inl (cZ, 2, .inl a0_isKept)), (q_a0_refused, .inl (cI, 3, .inl a0_refused))]) [0, 1, 2, 3, 4] rfl
            have hD9 := hD.sub (ws' := [(q_a0, .inr (8, [.ref q_a0_told, .ref q_a0_kept, .ref q_a0_isKept, .ref q_a0_refused, .long a0_above, .long a0_below, .ref q_a0_manyBy, .ref q_a0_hers, .ref q_a0_his, .ref q_a0_hand, .ref q_a0_bytes, .int a0_bytesLong, .int a0_tokenAt, .int a0_tokenLong, .int a0_token, .int a0_value, .ref q_a0_anew, .ref q_a0_values])), (q_a0_told, .inl (cI, 163, .inl w_4)), (q_a0_kept, .inl (cI, 326, .inl a0_kept)), (q_a0_isKept, .inl (cZ, 2, .inl a0_isKept)), (q_a0_refused, .inl (cI, 3, .inl a0_refused))]) [0, 1, 2, 3, 4] (by decide) rfl
            exact W.iret hx hb hr (fun t ht hW => ⟨⟨1, (w_4, a0_refused), rfl, hf, by rw [ht]; exact hP9, hD9⟩, hS.F ht⟩) hS.2.2 dX9_from_65
          · have hf := it_f c_7 hf
            refine lv_aload_n hx hb dX9_from_40 rfl (lv_at hl 0 rfl) ?_
            refine va_get (D := D) (ci := 8) (v := .ref q_a0_told) (C := RX9) (T := TX9) (N := 18) hx hb hts in_X9 hown hK hP 0 rfl rfl 0 (by decide) kf_7 (fun _ h9 => h9) rfl dX9_from_41 ?_
            refine lv_iload_n hx hb dX9_from_44 rfl (lv_at hl 2 rfl) ?_
            refine lv_aload_n hx hb dX9_from_45 rfl (lv_at hl 0 rfl) ?_
            refine va_get (D := D) (ci := 8) (v := .ref q_a0_kept) (C := RX9) (T := TX9) (N := 18) hx hb hts in_X9 hown hK hP 0 rfl rfl 1 (by decide) kf_13 (fun _ h9 => h9) rfl dX9_from_46 ?_
            refine lv_sipush (v := 163) hx hb dX9_from_49 (by decide) ?_
            refine lv_iload_n hx hb dX9_from_52 rfl (lv_at hl 1 rfl) ?_
            refine lv_imul hx hb dX9_from_53 ?_
            refine lv_iload_n hx hb dX9_from_54 rfl (lv_at hl 2 rfl) ?_
            refine lv_iadd hx hb dX9_from_55 ?_
            refine va_iald hx hb hK hP 2 0 rfl rfl hf.1 dX9_from_56 ?_
            have hf := hf.2
            refine va_iast hx hb hK hP hD hS 1 0 rfl rfl hf.1 dX9_from_57 (fun H locs hP hD hS => ?_)
            have hP : va_P D vwCl [(q_a0, .inr (8, [.ref q_a0_told, .ref q_a0_kept, .ref q_a0_isKept, .ref q_a0_refused, .long a0_above, .long a0_below, .ref q_a0_manyBy, .ref q_a0_hers, .ref q_a0_his, .ref q_a0_hand, .ref q_a0_bytes, .int a0_bytesLong, .int a0_tokenAt, .int a0_tokenLong, .int a0_token, .int a0_value, .ref q_a0_anew, .ref q_a0_values])), (q_a0_told, .inl (cI, 163, .inl (upd w_4 (v_5.toNatClampNeg) (a0_kept ((163 * x1) + v_5).toNatClampNeg)))), (q_a0_kept, .inl (cI, 326, .inl a0_kept)), (q_a0_isKept, .inl (cZ, 2, .inl a0_isKept)), (q_a0_refused, .inl (cI, 3, .inl a0_refused))] H := hP
            have hD : va_D A [(q_a0, .inr (8, [.ref q_a0_told, .ref q_a0_kept, .ref q_a0_isKept, .ref q_a0_refused, .long a0_above, .long a0_below, .ref q_a0_manyBy, .ref q_a0_hers, .ref q_a0_his, .ref q_a0_hand, .ref q_a0_bytes, .int a0_bytesLong, .int a0_tokenAt, .int a0_tokenLong, .int a0_token, .int a0_value, .ref q_a0_anew, .ref q_a0_values])), (q_a0_told, .inl (cI, 163, .inl (upd w_4 (v_5.toNatClampNeg) (a0_kept ((163 * x1) + v_5).toNatClampNeg)))), (q_a0_kept, .inl (cI, 326, .inl a0_kept)), (q_a0_isKept, .inl (cZ, 2, .inl a0_isKept)), (q_a0_refused, .inl (cI, 3, .inl a0_refused))] := hD
            have hf := hf.2
            refine lv_iinc (v := v_5 + 1) (lv' := [(2, .int (v_5 + 1)), (0, .ref q_a0), (1, .int x1)]) hx hb dX9_from_58 hl (k := 2) rfl rfl (by decide) rfl (fun ls hl => ?_)
            refine lv_goto (tgt := 33) hx hb dX9_from_61 (by decide) ?_
            exact ih (upd w_4 (v_5.toNatClampNeg) (a0_kept ((163 * x1) + v_5).toNatClampNeg)) (v_5 + 1) _ _ ls hf (hP.sub [0, 1, 2, 3, 4] rfl) (hD.sub [0, 1, 2, 3, 4] (by decide) rfl) hS (lv_sub hl [1, 2, 0] rfl)
      exact hlp_33 1000 a0_told 0 _ _ ls hf (hP.sub [0, 1, 2, 3, 4] rfl) (hD.sub [0, 1, 2, 3, 4] (by decide) rfl) hS (lv_sub hl [1, 2, 0] rfl)
    · have hf := it_t c_3 hf
      refine lv_aload_n hx hb dX9_from_26 rfl (lv_at hl 0 rfl) ?_
      have hPc := hP.sub (ws' := [(q_a0, .inr (8, [.ref q_a0_told, .ref q_a0_kept, .ref q_a0_isKept, .ref q_a0_refused, .long a0_above, .long a0_below, .ref q_a0_manyBy, .ref q_a0_hers, .ref q_a0_his, .ref q_a0_hand, .ref q_a0_bytes, .int a0_bytesLong, .int a0_tokenAt, .int a0_tokenLong, .int a0_token, .int a0_value, .ref q_a0_anew, .ref q_a0_values])), (q_a0_refused, .inl (cI, 3, .inl a0_refused))]) [0, 4] rfl
      have hDc := hD.sub (ws' := [(q_a0, .inr (8, [.ref q_a0_told, .ref q_a0_kept, .ref q_a0_isKept, .ref q_a0_refused, .long a0_above, .long a0_below, .ref q_a0_manyBy, .ref q_a0_hers, .ref q_a0_his, .ref q_a0_hand, .ref q_a0_bytes, .int a0_bytesLong, .int a0_tokenAt, .int a0_tokenLong, .int a0_token, .int a0_value, .ref q_a0_anew, .ref q_a0_values])), (q_a0_refused, .inl (cI, 3, .inl a0_refused))]) [0, 4] (by decide) rfl
      have hFc := va_free (wc := [(q_a0, .inr (8, [.ref q_a0_told, .ref q_a0_kept, .ref q_a0_isKept, .ref q_a0_refused, .long a0_above, .long a0_below, .ref q_a0_manyBy, .ref q_a0_hers, .ref q_a0_his, .ref q_a0_hand, .ref q_a0_bytes, .int a0_bytesLong, .int a0_tokenAt, .int a0_tokenLong, .int a0_token, .int a0_value, .ref q_a0_anew, .ref q_a0_values])), (q_a0_refused, .inl (cI, 3, .inl a0_refused))]) hD hS hA [0, 4] rfl
      refine va_calli (va_runV (As := []) (rest := []) ⟨hx, hb, hml, hown, hts⟩ (c_X9_no l D cI cZ cO q_a0 q_a0_told q_a0_kept q_a0_isKept q_a0_refused q_a0_manyBy q_a0_hers q_a0_his q_a0_hand q_a0_bytes q_a0_anew q_a0_values a0_above a0_below a0_bytesLong a0_tokenAt a0_tokenLong a0_token a0_value a0_refused s.heap.size  _ hf) (cwV 0 hts gX9_from_X9_no rfl rfl rfl (by decide +kernel) ⟨Nat.le_of_ble_eq_true rfl, Nat.le_of_ble_eq_true rfl⟩) (pv_rw (ci := 8) (q0 := 0) hPc hDc hX rfl rfl) rfl rfl hl.1 rfl (lv_room (Nat.le_of_ble_eq_true rfl)) dX9_from_27 ⟨Nat.zero_le _, Nat.zero_le _⟩) hS (fun q _ h => hFc q h) hFc (fun r_8 u t H1 locs ht hvm hf hB hz1 hk1 hS => ?_)
      obtain ⟨u_9, rfl⟩ : ∃ z, z = u := ⟨_, rfl⟩
      obtain ⟨hP1, hD1⟩ := hB
      rw [ht] at hP1
      clear hvm
      obtain ⟨hP, hD⟩ := va_join (wr := [(q_a0_told, .inl (cI, 163, .inl a0_told)), (q_a0_kept, .inl (cI, 326, .inl a0_kept)), (q_a0_isKept, .inl (cZ, 2, .inl a0_isKept))]) (w1 := [(q_a0, .inr (8, [.ref q_a0_told, .ref q_a0_kept, .ref q_a0_isKept, .ref q_a0_refused, .long a0_above, .long a0_below, .ref q_a0_manyBy, .ref q_a0_hers, .ref q_a0_his, .ref q_a0_hand, .ref q_a0_bytes, .int a0_bytesLong, .int a0_tokenAt, .int a0_tokenLong, .int a0_token, .int a0_value, .ref q_a0_anew, .ref q_a0_values])), (q_a0_refused, .inl (cI, 3, .inl u_9))]) hP hD [0, 4] [1, 2, 3] rfl rfl (by decide) (by decide) hk1 hFc hP1 hD1
      clear hz1 hk1 hPc hDc hFc hP1 hD1
      generalize H1 = H at hP hS ⊢
      have hP : va_P D vwCl [(q_a0_told, .inl (cI, 163, .inl a0_told)), (q_a0_kept, .inl (cI, 326, .inl a0_kept)), (q_a0_isKept, .inl (cZ, 2, .inl a0_isKept)), (q_a0, .inr (8, [.ref q_a0_told, .ref q_a0_kept, .ref q_a0_isKept, .ref q_a0_refused, .long a0_above, .long a0_below, .ref q_a0_manyBy, .ref q_a0_hers, .ref q_a0_his, .ref q_a0_hand, .ref q_a0_bytes, .int a0_bytesLong, .int a0_tokenAt, .int a0_tokenLong, .int a0_token, .int a0_value, .ref q_a0_anew, .ref q_a0_values])), (q_a0_refused, .inl (cI, 3, .inl u_9))] H := hP
      have hD : va_D A [(q_a0_told, .inl (cI, 163, .inl a0_told)), (q_a0_kept, .inl (cI, 326, .inl a0_kept)), (q_a0_isKept, .inl (cZ, 2, .inl a0_isKept)), (q_a0, .inr (8, [.ref q_a0_told, .ref q_a0_kept, .ref q_a0_isKept, .ref q_a0_refused, .long a0_above, .long a0_below, .ref q_a0_manyBy, .ref q_a0_hers, .ref q_a0_his, .ref q_a0_hand, .ref q_a0_bytes, .int a0_bytesLong, .int a0_tokenAt, .int a0_tokenLong, .int a0_token, .int a0_value, .ref q_a0_anew, .ref q_a0_values])), (q_a0_refused, .inl (cI, 3, .inl u_9))] := hD
      subst hQQ
      have hP9 := hP.sub (ws' := [(q_a0, .inr (8, [.ref q_a0_told, .ref q_a0_kept, .ref q_a0_isKept, .ref q_a0_refused, .long a0_above, .long a0_below, .ref q_a0_manyBy, .ref q_a0_hers, .ref q_a0_his, .ref q_a0_hand, .ref q_a0_bytes, .int a0_bytesLong, .int a0_tokenAt, .int a0_tokenLong, .int a0_token, .int a0_value, .ref q_a0_anew, .ref q_a0_values])), (q_a0_told, .inl (cI, 163, .inl a0_told)), (q_a0_kept, .inl (cI, 326, .inl a0_kept)), (q_a0_isKept, .inl (cZ, 2, .inl a0_isKept)), (q_a0_refused, .inl (cI, 3, .inl u_9))]) [3, 0, 1, 2, 4] rfl
      have hD9 := hD.sub (ws' := [(q_a0, .inr (8, [.ref q_a0_told, .ref q_a0_kept, .ref q_a0_isKept, .ref q_a0_refused, .long a0_above, .long a0_below, .ref q_a0_manyBy, .ref q_a0_hers, .ref q_a0_his, .ref q_a0_hand, .ref q_a0_bytes, .int a0_bytesLong, .int a0_tokenAt, .int a0_tokenLong, .int a0_token, .int a0_value, .ref q_a0_anew, .ref q_a0_values])), (q_a0_told, .inl (cI, 163, .inl a0_told)), (q_a0_kept, .inl (cI, 326, .inl a0_kept)), (q_a0_isKept, .inl (cZ, 2, .inl a0_isKept)), (q_a0_refused, .inl (cI, 3, .inl u_9))]) [3, 0, 1, 2, 4] (by decide) rfl
      exact W.iret hx hb hr (fun t ht hW => ⟨⟨r_8, (a0_told, u_9), rfl, hf, by rw [ht]; exact hP9, hD9⟩, hS.F ht⟩) hS.2.2 dX9_from_30
  · have hf := it_t c_2 hf
    refine lv_aload_n hx hb dX9_from_10 rfl (lv_at hl 0 rfl) ?_
    refine lv_bipush (v := (-2)) hx hb dX9_from_11 (by decide) ?_
    have hPc := hP.sub (ws' := [(q_a0, .inr (8, [.ref q_a0_told, .ref q_a0_kept, .ref q_a0_isKept, .ref q_a0_refused, .long a0_above, .long a0_below, .ref q_a0_manyBy, .ref q_a0_hers, .ref q_a0_his, .ref q_a0_hand, .ref q_a0_bytes, .int a0_bytesLong, .int a0_tokenAt, .int a0_tokenLong, .int a0_token, .int a0_value, .ref q_a0_anew, .ref q_a0_values])), (q_a0_refused, .inl (cI, 3, .inl a0_refused))]) [0, 4] rfl
    have hDc := hD.sub (ws' := [(q_a0, .inr (8, [.ref q_a0_told, .ref q_a0_kept, .ref q_a0_isKept, .ref q_a0_refused, .long a0_above, .long a0_below, .ref q_a0_manyBy, .ref q_a0_hers, .ref q_a0_his, .ref q_a0_hand, .ref q_a0_bytes, .int a0_bytesLong, .int a0_tokenAt, .int a0_tokenLong, .int a0_token, .int a0_value, .ref q_a0_anew, .ref q_a0_values])), (q_a0_refused, .inl (cI, 3, .inl a0_refused))]) [0, 4] (by decide) rfl
    have hFc := va_free (wc := [(q_a0, .inr (8, [.ref q_a0_told, .ref q_a0_kept, .ref q_a0_isKept, .ref q_a0_refused, .long a0_above, .long a0_below, .ref q_a0_manyBy, .ref q_a0_hers, .ref q_a0_his, .ref q_a0_hand, .ref q_a0_bytes, .int a0_bytesLong, .int a0_tokenAt, .int a0_tokenLong, .int a0_token, .int a0_value, .ref q_a0_anew, .ref q_a0_values])), (q_a0_refused, .inl (cI, 3, .inl a0_refused))]) hD hS hA [0, 4] rfl
    refine va_calli (va_runV (As := [.int (-2)]) (rest := []) ⟨hx, hb, hml, hown, hts⟩ (c_X9_bad l D cI cZ cO q_a0 q_a0_told q_a0_kept q_a0_isKept q_a0_refused q_a0_manyBy q_a0_hers q_a0_his q_a0_hand q_a0_bytes q_a0_anew q_a0_values a0_above a0_below a0_bytesLong a0_tokenAt a0_tokenLong a0_token a0_value a0_refused s.heap.size (-2) _ hf) (cwV 1 hts gX9_from_X9_bad rfl rfl rfl (by decide +kernel) ⟨Nat.le_of_ble_eq_true rfl, Nat.le_of_ble_eq_true rfl⟩) (pv_rw (ci := 8) (q0 := 0) hPc hDc hX rfl rfl) rfl rfl hl.1 rfl (lv_room (Nat.le_of_ble_eq_true rfl)) dX9_from_13 ⟨Nat.zero_le _, Nat.zero_le _⟩) hS (fun q _ h => hFc q h) hFc (fun r_10 u t H1 locs ht hvm hf hB hz1 hk1 hS => ?_)
    obtain ⟨u_11, rfl⟩ : ∃ z, z = u := ⟨_, rfl⟩
    obtain ⟨hP1, hD1⟩ := hB
    rw [ht] at hP1
    clear hvm
    obtain ⟨hP, hD⟩ := va_join (wr := [(q_a0_told, .inl (cI, 163, .inl a0_told)), (q_a0_kept, .inl (cI, 326, .inl a0_kept)), (q_a0_isKept, .inl (cZ, 2, .inl a0_isKept))]) (w1 := [(q_a0, .inr (8, [.ref q_a0_told, .ref q_a0_kept, .ref q_a0_isKept, .ref q_a0_refused, .long a0_above, .long a0_below, .ref q_a0_manyBy, .ref q_a0_hers, .ref q_a0_his, .ref q_a0_hand, .ref q_a0_bytes, .int a0_bytesLong, .int a0_tokenAt, .int a0_tokenLong, .int a0_token, .int a0_value, .ref q_a0_anew, .ref q_a0_values])), (q_a0_refused, .inl (cI, 3, .inl u_11))]) hP hD [0, 4] [1, 2, 3] rfl rfl (by decide) (by decide) hk1 hFc hP1 hD1
    clear hz1 hk1 hPc hDc hFc hP1 hD1
    generalize H1 = H at hP hS ⊢
    have hP : va_P D vwCl [(q_a0_told, .inl (cI, 163, .inl a0_told)), (q_a0_kept, .inl (cI, 326, .inl a0_kept)), (q_a0_isKept, .inl (cZ, 2, .inl a0_isKept)), (q_a0, .inr (8, [.ref q_a0_told, .ref q_a0_kept, .ref q_a0_isKept, .ref q_a0_refused, .long a0_above, .long a0_below, .ref q_a0_manyBy, .ref q_a0_hers, .ref q_a0_his, .ref q_a0_hand, .ref q_a0_bytes, .int a0_bytesLong, .int a0_tokenAt, .int a0_tokenLong, .int a0_token, .int a0_value, .ref q_a0_anew, .ref q_a0_values])), (q_a0_refused, .inl (cI, 3, .inl u_11))] H := hP
    have hD : va_D A [(q_a0_told, .inl (cI, 163, .inl a0_told)), (q_a0_kept, .inl (cI, 326, .inl a0_kept)), (q_a0_isKept, .inl (cZ, 2, .inl a0_isKept)), (q_a0, .inr (8, [.ref q_a0_told, .ref q_a0_kept, .ref q_a0_isKept, .ref q_a0_refused, .long a0_above, .long a0_below, .ref q_a0_manyBy, .ref q_a0_hers, .ref q_a0_his, .ref q_a0_hand, .ref q_a0_bytes, .int a0_bytesLong, .int a0_tokenAt, .int a0_tokenLong, .int a0_token, .int a0_value, .ref q_a0_anew, .ref q_a0_values])), (q_a0_refused, .inl (cI, 3, .inl u_11))] := hD
    subst hQQ
    have hP9 := hP.sub (ws' := [(q_a0, .inr (8, [.ref q_a0_told, .ref q_a0_kept, .ref q_a0_isKept, .ref q_a0_refused, .long a0_above, .long a0_below, .ref q_a0_manyBy, .ref q_a0_hers, .ref q_a0_his, .ref q_a0_hand, .ref q_a0_bytes, .int a0_bytesLong, .int a0_tokenAt, .int a0_tokenLong, .int a0_token, .int a0_value, .ref q_a0_anew, .ref q_a0_values])), (q_a0_told, .inl (cI, 163, .inl a0_told)), (q_a0_kept, .inl (cI, 326, .inl a0_kept)), (q_a0_isKept, .inl (cZ, 2, .inl a0_isKept)), (q_a0_refused, .inl (cI, 3, .inl u_11))]) [3, 0, 1, 2, 4] rfl
    have hD9 := hD.sub (ws' := [(q_a0, .inr (8, [.ref q_a0_told, .ref q_a0_kept, .ref q_a0_isKept, .ref q_a0_refused, .long a0_above, .long a0_below, .ref q_a0_manyBy, .ref q_a0_hers, .ref q_a0_his, .ref q_a0_hand, .ref q_a0_bytes, .int a0_bytesLong, .int a0_tokenAt, .int a0_tokenLong, .int a0_token, .int a0_value, .ref q_a0_anew, .ref q_a0_values])), (q_a0_told, .inl (cI, 163, .inl a0_told)), (q_a0_kept, .inl (cI, 326, .inl a0_kept)), (q_a0_isKept, .inl (cZ, 2, .inl a0_isKept)), (q_a0_refused, .inl (cI, 3, .inl u_11))]) [3, 0, 1, 2, 4] (by decide) rfl
    exact W.iret hx hb hr (fun t ht hW => ⟨⟨r_10, (a0_told, u_11), rfl, hf, by rw [ht]; exact hP9, hD9⟩, hS.F ht⟩) hS.2.2 dX9_from_16
def p_X9_status (a0_refused : Nat → Int32) (x1 : Int32) (Q : Int32 → (Nat → Int32) → Prop) : Prop :=
  p_X9_in x1.toInt64 0 2 (fun r_1 => if r_1 = 0 then (p_X9_bad a0_refused (-1) (fun r_3 u_4 => Q r_3 u_4)) else (vp_in x1 3 ∧ (Q (a0_refused x1.toNatClampNeg) a0_refused)))
def rmX9_status : Room := { frames := 1, cells := 0, slots := 0, locals := 25 }
set_option maxHeartbeats 4000000 in
set_option maxRecDepth 100000 in
theorem c_X9_status (l : Launch) (D : va_G) (cI cZ cO : ClassId) (q_a0 q_a0_told q_a0_kept q_a0_isKept q_a0_refused q_a0_manyBy q_a0_hers q_a0_his q_a0_hand q_a0_bytes q_a0_anew q_a0_values : Nat) (a0_above : Int64) (a0_below : Int64) (a0_bytesLong : Int32) (a0_tokenAt : Int32) (a0_tokenLong : Int32) (a0_token : Int32) (a0_value : Int32) (a0_refused : Nat → Int32) (sz : Nat) (x1 : Int32) (Q : Int32 → (Nat → Int32) → Prop) (hf : p_X9_status a0_refused x1 Q) : Met l yX9_status wsX9_status rmX9_status (va_Pc [.ref q_a0, .int x1] (fun U => U.heap.size = sz ∧ va_P D vwCl [(q_a0, .inr (8, [.ref q_a0_told, .ref q_a0_kept, .ref q_a0_isKept, .ref q_a0_refused, .long a0_above, .long a0_below, .ref q_a0_manyBy, .ref q_a0_hers, .ref q_a0_his, .ref q_a0_hand, .ref q_a0_bytes, .int a0_bytesLong, .int a0_tokenAt, .int a0_tokenLong, .int a0_token, .int a0_value, .ref q_a0_anew, .ref q_a0_values])), (q_a0_refused, .inl (cI, 3, .inl a0_refused))] U.heap ∧ XK D cI cZ cO U ∧ va_D (fun _ => True) [(q_a0, .inr (8, [.ref q_a0_told, .ref q_a0_kept, .ref q_a0_isKept, .ref q_a0_refused, .long a0_above, .long a0_below, .ref q_a0_manyBy, .ref q_a0_hers, .ref q_a0_his, .ref q_a0_hand, .ref q_a0_bytes, .int a0_bytesLong, .int a0_tokenAt, .int a0_tokenLong, .int a0_token, .int a0_value, .ref q_a0_anew, .ref q_a0_values])), (q_a0_refused, .inl (cI, 3, .inl a0_refused))])) (va_Qi (fun r (u : (Nat → Int32)) => Q r u) (fun (u : (Nat → Int32)) t => va_P D vwCl [(q_a0, .inr (8, [.ref q_a0_told, .ref q_a0_kept, .ref q_a0_isKept, .ref q_a0_refused, .long a0_above, .long a0_below, .ref q_a0_manyBy, .ref q_a0_hers, .ref q_a0_his, .ref q_a0_hand, .ref q_a0_bytes, .int a0_bytesLong, .int a0_tokenAt, .int a0_tokenLong, .int a0_token, .int a0_value, .ref q_a0_anew, .ref q_a0_values])), (q_a0_refused, .inl (cI, 3, .inl u))] t.heap ∧ va_D (va_A [(q_a0, .inr (8, [.ref q_a0_told, .ref q_a0_kept, .ref q_a0_isKept, .ref q_a0_refused, .long a0_above, .long a0_below, .ref q_a0_manyBy, .ref q_a0_hers, .ref q_a0_his, .ref q_a0_hand, .ref q_a0_bytes, .int a0_bytesLong, .int a0_tokenAt, .int a0_tokenLong, .int a0_token, .int a0_value, .ref q_a0_anew, .ref q_a0_values])), (q_a0_refused, .inl (cI, 3, .inl a0_refused))] sz) [(q_a0, .inr (8, [.ref q_a0_told, .ref q_a0_kept, .ref q_a0_isKept, .ref q_a0_refused, .long a0_above, .long a0_below, .ref q_a0_manyBy, .ref q_a0_hers, .ref q_a0_his, .ref q_a0_hand, .ref q_a0_bytes, .int a0_bytesLong, .int a0_tokenAt, .int a0_tokenLong, .int a0_token, .int a0_value, .ref q_a0_anew, .ref q_a0_values])), (q_a0_refused, .inl (cI, 3, .inl u))]) (va_A [(q_a0, .inr (8, [.ref q_a0_told, .ref q_a0_kept, .ref q_a0_isKept, .ref q_a0_refused, .long a0_above, .long a0_below, .ref q_a0_manyBy, .ref q_a0_hers, .ref q_a0_his, .ref q_a0_hand, .ref q_a0_bytes, .int a0_bytesLong, .int a0_tokenAt, .int a0_tokenLong, .int a0_token, .int a0_value, .ref q_a0_anew, .ref q_a0_values])), (q_a0_refused, .inl (cI, 3, .inl a0_refused))] sz)) 0 0 (va_A [(q_a0, .inr (8, [.ref q_a0_told, .ref q_a0_kept, .ref q_a0_isKept, .ref q_a0_refused, .long a0_above, .long a0_below, .ref q_a0_manyBy, .ref q_a0_hers, .ref q_a0_his, .ref q_a0_hand, .ref q_a0_bytes, .int a0_bytesLong, .int a0_tokenAt, .int a0_tokenLong, .int a0_token, .int a0_value, .ref q_a0_anew, .ref q_a0_values])), (q_a0_refused, .inl (cI, 3, .inl a0_refused))] sz) := by
  refine Met.ofW (cc := cX9_status) (maxL := 2) (ret := (some .int)) (by decide) rfl ?_
  intro p e s m args below meth c s₁ B hml hv
  obtain ⟨rfl, hsz, hP, hX, hD0⟩ := hv
  have hK := hX.1
  have hx := B.exec
  have hb := B.bytes
  have hr := B.returns
  have hts := atoms_spec (ws := wsX9_status) B.pre
  have hown : s.vm.findClass RX9 = some m.cls := findClass_of_methodNamed B.named
  have hlocks := B.notSynchronized
  have in_X9 : ∀ w ∈ wsX90, w ∈ wsX9_status := fun _ h => List.mem_cons_of_mem _ (List.mem_append_right _ h)
  have kc_244 := hts (.constantLong RX9 244 (2)) (by decide +kernel)
  have kf_20 := hts (.fieldLink RX9 20 "LeftCrestModel" "refused" "[I") (by decide +kernel)
  subst hsz
  have hD := hD0.self (sz := s.heap.size)
  generalize hAe : va_A [(q_a0, .inr (8, [.ref q_a0_told, .ref q_a0_kept, .ref q_a0_isKept, .ref q_a0_refused, .long a0_above, .long a0_below, .ref q_a0_manyBy, .ref q_a0_hers, .ref q_a0_his, .ref q_a0_hand, .ref q_a0_bytes, .int a0_bytesLong, .int a0_tokenAt, .int a0_tokenLong, .int a0_token, .int a0_value, .ref q_a0_anew, .ref q_a0_values])), (q_a0_refused, .inl (cI, 3, .inl a0_refused))] s.heap.size = A at hD ⊢
  have hA : ∀ q : Nat, s.heap.size ≤ q → A q := fun q h => by rw [← hAe]; exact Or.inr h
  have hS : va_S A s.heap s.heap [] := va_S.rf
  have hP : va_P D vwCl [(q_a0, .inr (8, [.ref q_a0_told, .ref q_a0_kept, .ref q_a0_isKept, .ref q_a0_refused, .long a0_above, .long a0_below, .ref q_a0_manyBy, .ref q_a0_hers, .ref q_a0_his, .ref q_a0_hand, .ref q_a0_bytes, .int a0_bytesLong, .int a0_tokenAt, .int a0_tokenLong, .int a0_token, .int a0_value, .ref q_a0_anew, .ref q_a0_values])), (q_a0_refused, .inl (cI, 3, .inl a0_refused))] s.heap := hP
  generalize hQQ : MQ below _ _ s _ _ _ = QQ
  have hl := lv_entry ([.ref q_a0, .int x1]) (n := 2) (Nat.le_of_ble_eq_true rfl)
  rw [lg_entry_eq]
  generalize (lg_sl ([.ref q_a0, .int x1]) ++ List.replicate (2 - (lg_sl ([.ref q_a0, .int x1])).length) Slot.unset).toArray = ls at hl ⊢
  have hl : lv_has ls 2 [(0, .ref q_a0), (1, .int x1)] := hl
  unfold p_X9_status at hf
  refine lv_iload_n hx hb dX9_status_0 rfl (lv_at hl 1 rfl) ?_
  refine lv_i2l hx hb dX9_status_1 rfl ?_
  refine lv_lconst (v := 0) hx hb dX9_status_2 (by decide) ?_
  refine lv_ldc2 (v := 2) hx hb hown kc_244 dX9_status_3 ?_
  refine ya_csi (va_runS (As := [.long x1.toInt64, .long 0, .long 2]) (rest := []) ⟨hx, hb, hml, hown, hts⟩ (c_X9_in l D cI cZ cO  x1.toInt64 0 2 _ hf) (va_cwS 3 hts gX9_status_X9_in rfl rfl rfl (by decide +kernel) ⟨Nat.le_of_ble_eq_true rfl, Nat.le_of_ble_eq_true rfl⟩) (ps_ro va_P0 hX) rfl rfl hl.1 rfl (lv_room (Nat.le_of_ble_eq_true rfl)) dX9_status_6 ⟨Nat.zero_le _, Nat.zero_le _⟩) (fun r_1 hf => ?_)
  refine lv_if_eq (tgt := 21) hx hb dX9_status_9 (by decide) (fun c_2 => ?_) (fun c_2 => ?_)
  · have hf := it_t c_2 hf
    refine lv_aload_n hx hb dX9_status_21 rfl (lv_at hl 0 rfl) ?_
    refine lv_iconst (v := (-1)) hx hb dX9_status_22 (by decide) ?_
    have hPc := hP.sub (ws' := [(q_a0, .inr (8, [.ref q_a0_told, .ref q_a0_kept, .ref q_a0_isKept, .ref q_a0_refused, .long a0_above, .long a0_below, .ref q_a0_manyBy, .ref q_a0_hers, .ref q_a0_his, .ref q_a0_hand, .ref q_a0_bytes, .int a0_bytesLong, .int a0_tokenAt, .int a0_tokenLong, .int a0_token, .int a0_value, .ref q_a0_anew, .ref q_a0_values])), (q_a0_refused, .inl (cI, 3, .inl a0_refused))]) [0, 1] rfl
    have hDc := hD.sub (ws' := [(q_a0, .inr (8, [.ref q_a0_told, .ref q_a0_kept, .ref q_a0_isKept, .ref q_a0_refused, .long a0_above, .long a0_below, .ref q_a0_manyBy, .ref q_a0_hers, .ref q_a0_his, .ref q_a0_hand, .ref q_a0_bytes, .int a0_bytesLong, .int a0_tokenAt, .int a0_tokenLong, .int a0_token, .int a0_value, .ref q_a0_anew, .ref q_a0_values])), (q_a0_refused, .inl (cI, 3, .inl a0_refused))]) [0, 1] (by decide) rfl
    have hFc := va_free (wc := [(q_a0, .inr (8, [.ref q_a0_told, .ref q_a0_kept, .ref q_a0_isKept, .ref q_a0_refused, .long a0_above, .long a0_below, .ref q_a0_manyBy, .ref q_a0_hers, .ref q_a0_his, .ref q_a0_hand, .ref q_a0_bytes, .int a0_bytesLong, .int a0_tokenAt, .int a0_tokenLong, .int a0_token, .int a0_value, .ref q_a0_anew, .ref q_a0_values])), (q_a0_refused, .inl (cI, 3, .inl a0_refused))]) hD hS hA [0, 1] rfl
    refine va_calli (va_runV (As := [.int (-1)]) (rest := []) ⟨hx, hb, hml, hown, hts⟩ (c_X9_bad l D cI cZ cO q_a0 q_a0_told q_a0_kept q_a0_isKept q_a0_refused q_a0_manyBy q_a0_hers q_a0_his q_a0_hand q_a0_bytes q_a0_anew q_a0_values a0_above a0_below a0_bytesLong a0_tokenAt a0_tokenLong a0_token a0_value a0_refused s.heap.size (-1) _ hf) (cwV 1 hts gX9_status_X9_bad rfl rfl rfl (by decide +kernel) ⟨Nat.le_of_ble_eq_true rfl, Nat.le_of_ble_eq_true rfl⟩) (pv_rw (ci := 8) (q0 := 0) hPc hDc hX rfl rfl) rfl rfl hl.1 rfl (lv_room (Nat.le_of_ble_eq_true rfl)) dX9_status_23 ⟨Nat.zero_le _, Nat.zero_le _⟩) hS (fun q _ h => hFc q h) hFc (fun r_3 u t H1 locs ht hvm hf hB hz1 hk1 hS => ?_)
    obtain ⟨u_4, rfl⟩ : ∃ z, z = u := ⟨_, rfl⟩
    obtain ⟨hP1, hD1⟩ := hB
    rw [ht] at hP1
    clear hvm
    obtain ⟨hP, hD⟩ := va_join (wr := []) (w1 := [(q_a0, .inr (8, [.ref q_a0_told, .ref q_a0_kept, .ref q_a0_isKept, .ref q_a0_refused, .long a0_above, .long a0_below, .ref q_a0_manyBy, .ref q_a0_hers, .ref q_a0_his, .ref q_a0_hand, .ref q_a0_bytes, .int a0_bytesLong, .int a0_tokenAt, .int a0_tokenLong, .int a0_token, .int a0_value, .ref q_a0_anew, .ref q_a0_values])), (q_a0_refused, .inl (cI, 3, .inl u_4))]) hP hD [0, 1] [] rfl rfl (by decide) (by decide) hk1 hFc hP1 hD1
    clear hz1 hk1 hPc hDc hFc hP1 hD1
    generalize H1 = H at hP hS ⊢
    have hP : va_P D vwCl [(q_a0, .inr (8, [.ref q_a0_told, .ref q_a0_kept, .ref q_a0_isKept, .ref q_a0_refused, .long a0_above, .long a0_below, .ref q_a0_manyBy, .ref q_a0_hers, .ref q_a0_his, .ref q_a0_hand, .ref q_a0_bytes, .int a0_bytesLong, .int a0_tokenAt, .int a0_tokenLong, .int a0_token, .int a0_value, .ref q_a0_anew, .ref q_a0_values])), (q_a0_refused, .inl (cI, 3, .inl u_4))] H := hP
    have hD : va_D A [(q_a0, .inr (8, [.ref q_a0_told, .ref q_a0_kept, .ref q_a0_isKept, .ref q_a0_refused, .long a0_above, .long a0_below, .ref q_a0_manyBy, .ref q_a0_hers, .ref q_a0_his, .ref q_a0_hand, .ref q_a0_bytes, .int a0_bytesLong, .int a0_tokenAt, .int a0_tokenLong, .int a0_token, .int a0_value, .ref q_a0_anew, .ref q_a0_values])), (q_a0_refused, .inl (cI, 3, .inl u_4))] := hD
    subst hQQ
    have hP9 := hP.sub (ws' := [(q_a0, .inr (8, [.ref q_a0_told, .ref q_a0_kept, .ref q_a0_isKept, .ref q_a0_refused, .long a0_above, .long a0_below, .ref q_a0_manyBy, .ref q_a0_hers, .ref q_a0_his, .ref q_a0_hand, .ref q_a0_bytes, .int a0_bytesLong, .int a0_tokenAt, .int a0_tokenLong, .int a0_token, .int a0_value, .ref q_a0_anew, .ref q_a0_values])), (q_a0_refused, .inl (cI, 3, .inl u_4))]) [0, 1] rfl
    have hD9 := hD.sub (ws' := [(q_a0, .inr (8, [.ref q_a0_told, .ref q_a0_kept, .ref q_a0_isKept, .ref q_a0_refused, .long a0_above, .long a0_below, .ref q_a0_manyBy, .ref q_a0_hers, .ref q_a0_his, .ref q_a0_hand, .ref q_a0_bytes, .int a0_bytesLong, .int a0_tokenAt, .int a0_tokenLong, .int a0_token, .int a0_value, .ref q_a0_anew, .ref q_a0_values])), (q_a0_refused, .inl (cI, 3, .inl u_4))]) [0, 1] (by decide) rfl
    exact W.iret hx hb hr (fun t ht hW => ⟨⟨r_3, u_4, rfl, hf, by rw [ht]; exact hP9, hD9⟩, hS.F ht⟩) hS.2.2 dX9_status_26
  · have hf := it_f c_2 hf
    refine lv_aload_n hx hb dX9_status_12 rfl (lv_at hl 0 rfl) ?_
    refine va_get (D := D) (ci := 8) (v := .ref q_a0_refused) (C := RX9) (T := TX9) (N := 18) hx hb hts in_X9 hown hK hP 0 rfl rfl 3 (by decide) kf_20 (fun _ h9 => h9) rfl dX9_status_13 ?_
    refine lv_iload_n hx hb dX9_status_16 rfl (lv_at hl 1 rfl) ?_
    refine va_iald hx hb hK hP 1 0 rfl rfl hf.1 dX9_status_17 ?_
    have hf := hf.2
    refine lv_goto (tgt := 26) hx hb dX9_status_18 (by decide) ?_
    subst hQQ
    have hP9 := hP.sub (ws' := [(q_a0, .inr (8, [.ref q_a0_told, .ref q_a0_kept, .ref q_a0_isKept, .ref q_a0_refused, .long a0_above, .long a0_below, .ref q_a0_manyBy, .ref q_a0_hers, .ref q_a0_his, .ref q_a0_hand, .ref q_a0_bytes, .int a0_bytesLong, .int a0_tokenAt, .int a0_tokenLong, .int a0_token, .int a0_value, .ref q_a0_anew, .ref q_a0_values])), (q_a0_refused, .inl (cI, 3, .inl a0_refused))]) [0, 1] rfl
    have hD9 := hD.sub (ws' := [(q_a0, .inr (8, [.ref q_a0_told, .ref q_a0_kept, .ref q_a0_isKept, .ref q_a0_refused, .long a0_above, .long a0_below, .ref q_a0_manyBy, .ref q_a0_hers, .ref q_a0_his, .ref q_a0_hand, .ref q_a0_bytes, .int a0_bytesLong, .int a0_tokenAt, .int a0_tokenLong, .int a0_token, .int a0_value, .ref q_a0_anew, .ref q_a0_values])), (q_a0_refused, .inl (cI, 3, .inl a0_refused))]) [0, 1] (by decide) rfl
    exact W.iret hx hb hr (fun t ht hW => ⟨⟨(a0_refused x1.toNatClampNeg), a0_refused, rfl, hf, by rw [ht]; exact hP9, hD9⟩, hS.F ht⟩) hS.2.2 dX9_status_26
def bX9_manyNotes_4 (a0_told : Nat → Int32) (Q : Int32 → Prop) (k_3 : Int32 → Int32 → Prop) (v_1 : Int32) (v_2 : Int32) : Prop :=
  p_X9_many a0_told (fun r_4 => if r_4 ≤ v_2 then (Q v_1) else (p_X9_noteOf a0_told v_2 (fun r_6 => if r_6 ≤ 0 then (k_3 (v_1 + 0) (v_2 + 1)) else (k_3 (v_1 + 1) (v_2 + 1)))))
def p_X9_manyNotes (a0_told : Nat → Int32) (Q : Int32 → Prop) : Prop :=
  lq2 (bX9_manyNotes_4 a0_told Q) 1000 0 0
def rmX9_manyNotes : Room := { frames := 1, cells := 0, slots := 0, locals := 21 }
set_option maxHeartbeats 4000000 in
set_option maxRecDepth 100000 in
theorem c_X9_manyNotes (l : Launch) (D : va_G) (cI cZ cO : ClassId) (q_a0 q_a0_told q_a0_kept q_a0_isKept q_a0_refused q_a0_manyBy q_a0_hers q_a0_his q_a0_hand q_a0_bytes q_a0_anew q_a0_values : Nat) (a0_above : Int64) (a0_below : Int64) (a0_bytesLong : Int32) (a0_tokenAt : Int32) (a0_tokenLong : Int32) (a0_token : Int32) (a0_value : Int32) (a0_told : Nat → Int32) (Q : Int32 → Prop) (hf : p_X9_manyNotes a0_told Q) : Met l yX9_manyNotes wsX9_manyNotes rmX9_manyNotes (va_Pc [.ref q_a0] (fun U => va_P D vwCl [(q_a0, .inr (8, [.ref q_a0_told, .ref q_a0_kept, .ref q_a0_isKept, .ref q_a0_refused, .long a0_above, .long a0_below, .ref q_a0_manyBy, .ref q_a0_hers, .ref q_a0_his, .ref q_a0_hand, .ref q_a0_bytes, .int a0_bytesLong, .int a0_tokenAt, .int a0_tokenLong, .int a0_token, .int a0_value, .ref q_a0_anew, .ref q_a0_values])), (q_a0_told, .inl (cI, 163, .inl a0_told))] U.heap ∧ XK D cI cZ cO U)) (vp_Si Q) 0 0 (fun _ => False) := by
  refine Met.ofW (cc := cX9_manyNotes) (maxL := 3) (ret := (some .int)) (by decide) rfl ?_
  intro p e s m args below meth c s₁ B hml hv
  obtain ⟨rfl, hP, hX⟩ := hv
  have hK := hX.1
  have hx := B.exec
  have hb := B.bytes
  have hr := B.returns
  have hts := atoms_spec (ws := wsX9_manyNotes) B.pre
  have hown : s.vm.findClass RX9 = some m.cls := findClass_of_methodNamed B.named
  have hlocks := B.notSynchronized
  generalize hQQ : MQ below _ _ s _ _ _ = QQ
  have hl := lv_entry ([.ref q_a0]) (n := 3) (Nat.le_of_ble_eq_true rfl)
  rw [lg_entry_eq]
  generalize (lg_sl ([.ref q_a0]) ++ List.replicate (3 - (lg_sl ([.ref q_a0])).length) Slot.unset).toArray = ls at hl ⊢
  have hl : lv_has ls 3 [(0, .ref q_a0)] := hl
  unfold p_X9_manyNotes at hf
  refine lv_iconst (v := 0) hx hb dX9_manyNotes_0 (by decide) ?_
  refine lv_istore_n (lv' := [(1, .int 0), (0, .ref q_a0)]) hx hb dX9_manyNotes_1 rfl hl (by decide) rfl (fun ls hl => ?_)
  refine lv_iconst (v := 0) hx hb dX9_manyNotes_2 (by decide) ?_
  refine lv_istore_n (lv' := [(2, .int 0), (1, .int 0), (0, .ref q_a0)]) hx hb dX9_manyNotes_3 rfl hl (by decide) rfl (fun ls hl => ?_)
  have hlp_4 : ∀ (n_4 : Nat) (v_1 : Int32) (v_2 : Int32) (ls : Array Slot), lq2 (bX9_manyNotes_4 a0_told Q) n_4 v_1 v_2 → lv_has ls 3 [(0, .ref q_a0), (1, .int v_1), (2, .int v_2)] → W p l e (headSpec wsX9_manyNotes rmX9_manyNotes).room s m ([.ref q_a0] : List Value).toArray below meth c s.heap [] 0 0 QQ (F0 m 4 ls []) := by
    intro n_4
    induction n_4 with
    | zero => intro v_1 v_2 ls hf; exact (lq2_0 hf).elim
    | succ n_4 ih =>
      have ih_4 := ih
      intro v_1 v_2 ls hf hl
      have hf := lq2_s hf
      unfold bX9_manyNotes_4 at hf
      refine lv_iload_n hx hb dX9_manyNotes_4 rfl (lv_at hl 2 rfl) ?_
      refine lv_aload_n hx hb dX9_manyNotes_5 rfl (lv_at hl 0 rfl) ?_
      refine ya_csi (va_runV (As := []) (rest := [.int v_2]) ⟨hx, hb, hml, hown, hts⟩ (c_X9_many l D cI cZ cO q_a0 q_a0_told q_a0_kept q_a0_isKept q_a0_refused q_a0_manyBy q_a0_hers q_a0_his q_a0_hand q_a0_bytes q_a0_anew q_a0_values a0_above a0_below a0_bytesLong a0_tokenAt a0_tokenLong a0_token a0_value a0_told  _ hf) (cwV 0 hts gX9_manyNotes_X9_many rfl rfl rfl (by decide +kernel) ⟨Nat.le_of_ble_eq_true rfl, Nat.le_of_ble_eq_true rfl⟩) (pv_ro (ci := 8) (q0 := 0) (hP.sub [0, 1] rfl) hX rfl rfl) rfl rfl hl.1 rfl (lv_room (Nat.le_of_ble_eq_true rfl)) dX9_manyNotes_6 ⟨Nat.zero_le _, Nat.zero_le _⟩) (fun r_4 hf => ?_)
      refine lv_icmp_ge (tgt := 34) hx hb dX9_manyNotes_9 (by decide) (fun c_5 => ?_) (fun c_5 => ?_)
      · have hf := it_t c_5 hf
        refine lv_iload_n hx hb dX9_manyNotes_34 rfl (lv_at hl 1 rfl) ?_
        subst hQQ
        exact W.iret hx hb hr (fun t ht hW => ⟨_, rfl, hf, ht⟩) (fun _ h => absurd h List.not_mem_nil) dX9_manyNotes_35
      · have hf := it_f c_5 hf
        refine lv_iload_n hx hb dX9_manyNotes_12 rfl (lv_at hl 1 rfl) ?_
        refine lv_aload_n hx hb dX9_manyNotes_13 rfl (lv_at hl 0 rfl) ?_
        refine lv_iload_n hx hb dX9_manyNotes_14 rfl (lv_at hl 2 rfl) ?_
        refine ya_csi (va_runV (As := [.int v_2]) (rest := [.int v_1]) ⟨hx, hb, hml, hown, hts⟩ (c_X9_noteOf l D cI cZ cO q_a0 q_a0_told q_a0_kept q_a0_isKept q_a0_refused q_a0_manyBy q_a0_hers q_a0_his q_a0_hand q_a0_bytes q_a0_anew q_a0_values a0_above a0_below a0_bytesLong a0_tokenAt a0_tokenLong a0_token a0_value a0_told v_2 _ hf) (cwV 1 hts gX9_manyNotes_X9_noteOf rfl rfl rfl (by decide +kernel) ⟨Nat.le_of_ble_eq_true rfl, Nat.le_of_ble_eq_true rfl⟩) (pv_ro (ci := 8) (q0 := 0) (hP.sub [0, 1] rfl) hX rfl rfl) rfl rfl hl.1 rfl (lv_room (Nat.le_of_ble_eq_true rfl)) dX9_manyNotes_15 ⟨Nat.zero_le _, Nat.zero_le _⟩) (fun r_6 hf => ?_)
        refine lv_if_le (tgt := 25) hx hb dX9_manyNotes_18 (by decide) (fun c_7 => ?_) (fun c_7 => ?_)
        · have hf := it_t c_7 hf
          refine lv_iconst (v := 0) hx hb dX9_manyNotes_25 (by decide) ?_
          refine lv_iadd hx hb dX9_manyNotes_26 ?_
          refine lv_istore_n (lv' := [(1, .int (v_1 + 0)), (0, .ref q_a0), (2, .int v_2)]) hx hb dX9_manyNotes_27 rfl hl (by decide) rfl (fun ls hl => ?_)
          refine lv_iinc (v := v_2 + 1) (lv' := [(2, .int (v_2 + 1)), (1, .int (v_1 + 0)), (0, .ref q_a0)]) hx hb dX9_manyNotes_28 hl (k := 2) rfl rfl (by decide) rfl (fun ls hl => ?_)
          refine lv_goto (tgt := 4) hx hb dX9_manyNotes_31 (by decide) ?_
          exact ih (v_1 + 0) (v_2 + 1) ls hf (lv_sub hl [2, 1, 0] rfl)
        · have hf := it_f c_7 hf
          refine lv_iconst (v := 1) hx hb dX9_manyNotes_21 (by decide) ?_
          refine lv_goto (tgt := 26) hx hb dX9_manyNotes_22 (by decide) ?_
          refine lv_iadd hx hb dX9_manyNotes_26 ?_
          refine lv_istore_n (lv' := [(1, .int (v_1 + 1)), (0, .ref q_a0), (2, .int v_2)]) hx hb dX9_manyNotes_27 rfl hl (by decide) rfl (fun ls hl => ?_)
          refine lv_iinc (v := v_2 + 1) (lv' := [(2, .int (v_2 + 1)), (1, .int (v_1 + 1)), (0, .ref q_a0)]) hx hb dX9_manyNotes_28 hl (k := 2) rfl rfl (by decide) rfl (fun ls hl => ?_)
          refine lv_goto (tgt := 4) hx hb dX9_manyNotes_31 (by decide) ?_
          exact ih (v_1 + 1) (v_2 + 1) ls hf (lv_sub hl [2, 1, 0] rfl)
  exact hlp_4 1000 0 0 ls hf (lv_sub hl [2, 1, 0] rfl)
def p_X9_counted (a0_told : Nat → Int32) (a0_bytesLong : Int32) (x1 : Int32) (Q : Int32 → Prop) : Prop :=
  if x1 = 0 then (p_X9_many a0_told (fun r_2 => Q r_2)) else (if x1 = 1 then (p_X9_manyNotes a0_told (fun r_4 => Q r_4)) else (if x1 = 2 then (p_X9_bits (a0_told (17 : Int32).toNatClampNeg) (fun r_6 => Q r_6)) else (if x1 = 3 then (Q (a0_told (1 : Int32).toNatClampNeg)) else (if x1 = 4 then (Q (a0_told (2 : Int32).toNatClampNeg)) else (if x1 = 5 then (Q (a0_told (3 : Int32).toNatClampNeg)) else (Q a0_bytesLong))))))
def rmX9_counted : Room := { frames := 2, cells := 0, slots := 0, locals := 43 }
set_option maxHeartbeats 4000000 in
set_option maxRecDepth 100000 in
theorem c_X9_counted (l : Launch) (D : va_G) (cI cZ cO : ClassId) (q_a0 q_a0_told q_a0_kept q_a0_isKept q_a0_refused q_a0_manyBy q_a0_hers q_a0_his q_a0_hand q_a0_bytes q_a0_anew q_a0_values : Nat) (a0_above : Int64) (a0_below : Int64) (a0_bytesLong : Int32) (a0_tokenAt : Int32) (a0_tokenLong : Int32) (a0_token : Int32) (a0_value : Int32) (a0_told : Nat → Int32) (x1 : Int32) (Q : Int32 → Prop) (hf : p_X9_counted a0_told a0_bytesLong x1 Q) : Met l yX9_counted wsX9_counted rmX9_counted (va_Pc [.ref q_a0, .int x1] (fun U => va_P D vwCl [(q_a0, .inr (8, [.ref q_a0_told, .ref q_a0_kept, .ref q_a0_isKept, .ref q_a0_refused, .long a0_above, .long a0_below, .ref q_a0_manyBy, .ref q_a0_hers, .ref q_a0_his, .ref q_a0_hand, .ref q_a0_bytes, .int a0_bytesLong, .int a0_tokenAt, .int a0_tokenLong, .int a0_token, .int a0_value, .ref q_a0_anew, .ref q_a0_values])), (q_a0_told, .inl (cI, 163, .inl a0_told))] U.heap ∧ XK D cI cZ cO U)) (vp_Si Q) 0 0 (fun _ => False) := by
  refine Met.ofW (cc := cX9_counted) (maxL := 2) (ret := (some .int)) (by decide) rfl ?_
  intro p e s m args below meth c s₁ B hml hv
  obtain ⟨rfl, hP, hX⟩ := hv
  have hK := hX.1
  have hx := B.exec
  have hb := B.bytes
  have hr := B.returns
  have hts := atoms_spec (ws := wsX9_counted) B.pre
  have hown : s.vm.findClass RX9 = some m.cls := findClass_of_methodNamed B.named
  have hlocks := B.notSynchronized
  have in_X9 : ∀ w ∈ wsX90, w ∈ wsX9_counted := fun _ h => List.mem_cons_of_mem _ (List.mem_append_right _ h)
  have kf_7 := hts (.fieldLink RX9 7 "LeftCrestModel" "told" "[I") (by decide +kernel)
  have kf_183 := hts (.fieldLink RX9 183 "LeftCrestModel" "bytesLong" "I") (by decide +kernel)
  generalize hQQ : MQ below _ _ s _ _ _ = QQ
  have hl := lv_entry ([.ref q_a0, .int x1]) (n := 2) (Nat.le_of_ble_eq_true rfl)
  rw [lg_entry_eq]
  generalize (lg_sl ([.ref q_a0, .int x1]) ++ List.replicate (2 - (lg_sl ([.ref q_a0, .int x1])).length) Slot.unset).toArray = ls at hl ⊢
  have hl : lv_has ls 2 [(0, .ref q_a0), (1, .int x1)] := hl
  unfold p_X9_counted at hf
  refine lv_iload_n hx hb dX9_counted_0 rfl (lv_at hl 1 rfl) ?_
  by_cases c_1 : x1 = 0
  · have hf := it_t c_1 hf
    refine lv_tableIn (tgt := 40) (off := 39) hx hb dX9_counted_1 (by rw [c_1]; decide) (by rw [c_1]; decide) (by rw [c_1]; rfl) (by decide) ?_
    refine lv_aload_n hx hb dX9_counted_40 rfl (lv_at hl 0 rfl) ?_
    refine ya_csi (va_runV (As := []) (rest := []) ⟨hx, hb, hml, hown, hts⟩ (c_X9_many l D cI cZ cO q_a0 q_a0_told q_a0_kept q_a0_isKept q_a0_refused q_a0_manyBy q_a0_hers q_a0_his q_a0_hand q_a0_bytes q_a0_anew q_a0_values a0_above a0_below a0_bytesLong a0_tokenAt a0_tokenLong a0_token a0_value a0_told  _ hf) (cwV 0 hts gX9_counted_X9_many rfl rfl rfl (by decide +kernel) ⟨Nat.le_of_ble_eq_true rfl, Nat.le_of_ble_eq_true rfl⟩) (pv_ro (ci := 8) (q0 := 0) (hP.sub [0, 1] rfl) hX rfl rfl) rfl rfl hl.1 rfl (lv_room (Nat.le_of_ble_eq_true rfl)) dX9_counted_41 ⟨Nat.zero_le _, Nat.zero_le _⟩) (fun r_2 hf => ?_)
    subst hQQ
    exact W.iret hx hb hr (fun t ht hW => ⟨_, rfl, hf, ht⟩) (fun _ h => absurd h List.not_mem_nil) dX9_counted_44
  have hf := it_f c_1 hf
  by_cases c_3 : x1 = 1
  · have hf := it_t c_3 hf
    refine lv_tableIn (tgt := 45) (off := 44) hx hb dX9_counted_1 (by rw [c_3]; decide) (by rw [c_3]; decide) (by rw [c_3]; rfl) (by decide) ?_
    refine lv_aload_n hx hb dX9_counted_45 rfl (lv_at hl 0 rfl) ?_
    refine ya_csi (va_runV (As := []) (rest := []) ⟨hx, hb, hml, hown, hts⟩ (c_X9_manyNotes l D cI cZ cO q_a0 q_a0_told q_a0_kept q_a0_isKept q_a0_refused q_a0_manyBy q_a0_hers q_a0_his q_a0_hand q_a0_bytes q_a0_anew q_a0_values a0_above a0_below a0_bytesLong a0_tokenAt a0_tokenLong a0_token a0_value a0_told  _ hf) (cwV 0 hts gX9_counted_X9_manyNotes rfl rfl rfl (by decide +kernel) ⟨Nat.le_of_ble_eq_true rfl, Nat.le_of_ble_eq_true rfl⟩) (pv_ro (ci := 8) (q0 := 0) (hP.sub [0, 1] rfl) hX rfl rfl) rfl rfl hl.1 rfl (lv_room (Nat.le_of_ble_eq_true rfl)) dX9_counted_46 ⟨Nat.zero_le _, Nat.zero_le _⟩) (fun r_4 hf => ?_)
    subst hQQ
    exact W.iret hx hb hr (fun t ht hW => ⟨_, rfl, hf, ht⟩) (fun _ h => absurd h List.not_mem_nil) dX9_counted_49
  have hf := it_f c_3 hf
  by_cases c_5 : x1 = 2
  · have hf := it_t c_5 hf
    refine lv_tableIn (tgt := 50) (off := 49) hx hb dX9_counted_1 (by rw [c_5]; decide) (by rw [c_5]; decide) (by rw [c_5]; rfl) (by decide) ?_
    refine lv_aload_n hx hb dX9_counted_50 rfl (lv_at hl 0 rfl) ?_
    refine va_get (D := D) (ci := 8) (v := .ref q_a0_told) (C := RX9) (T := TX9) (N := 18) hx hb hts in_X9 hown hK hP 0 rfl rfl 0 (by decide) kf_7 (fun _ h9 => h9) rfl dX9_counted_51 ?_
    refine lv_bipush (v := 17) hx hb dX9_counted_54 (by decide) ?_
    refine va_iald hx hb hK hP 1 0 rfl rfl (by unfold vp_in; decide) dX9_counted_56 ?_
    refine ya_csi (va_runS (As := [.int (a0_told (17 : Int32).toNatClampNeg)]) (rest := []) ⟨hx, hb, hml, hown, hts⟩ (c_X9_bits l D cI cZ cO  (a0_told (17 : Int32).toNatClampNeg) _ hf) (va_cwS 1 hts gX9_counted_X9_bits rfl rfl rfl (by decide +kernel) ⟨Nat.le_of_ble_eq_true rfl, Nat.le_of_ble_eq_true rfl⟩) (ps_ro va_P0 hX) rfl rfl hl.1 rfl (lv_room (Nat.le_of_ble_eq_true rfl)) dX9_counted_57 ⟨Nat.zero_le _, Nat.zero_le _⟩) (fun r_6 hf => ?_)
    subst hQQ
    exact W.iret hx hb hr (fun t ht hW => ⟨_, rfl, hf, ht⟩) (fun _ h => absurd h List.not_mem_nil) dX9_counted_60
  have hf := it_f c_5 hf
  by_cases c_7 : x1 = 3
  · have hf := it_t c_7 hf
    refine lv_tableIn (tgt := 61) (off := 60) hx hb dX9_counted_1 (by rw [c_7]; decide) (by rw [c_7]; decide) (by rw [c_7]; rfl) (by decide) ?_
    refine lv_aload_n hx hb dX9_counted_61 rfl (lv_at hl 0 rfl) ?_
    refine va_get (D := D) (ci := 8) (v := .ref q_a0_told) (C := RX9) (T := TX9) (N := 18) hx hb hts in_X9 hown hK hP 0 rfl rfl 0 (by decide) kf_7 (fun _ h9 => h9) rfl dX9_counted_62 ?_
    refine lv_iconst (v := 1) hx hb dX9_counted_65 (by decide) ?_
    refine va_iald hx hb hK hP 1 0 rfl rfl (by unfold vp_in; decide) dX9_counted_66 ?_
    subst hQQ
    exact W.iret hx hb hr (fun t ht hW => ⟨_, rfl, hf, ht⟩) (fun _ h => absurd h List.not_mem_nil) dX9_counted_67
  have hf := it_f c_7 hf
  by_cases c_8 : x1 = 4
  · have hf := it_t c_8 hf
    refine lv_tableIn (tgt := 68) (off := 67) hx hb dX9_counted_1 (by rw [c_8]; decide) (by rw [c_8]; decide) (by rw [c_8]; rfl) (by decide) ?_
    refine lv_aload_n hx hb dX9_counted_68 rfl (lv_at hl 0 rfl) ?_
    refine va_get (D := D) (ci := 8) (v := .ref q_a0_told) (C := RX9) (T := TX9) (N := 18) hx hb hts in_X9 hown hK hP 0 rfl rfl 0 (by decide) kf_7 (fun _ h9 => h9) rfl dX9_counted_69 ?_
    refine lv_iconst (v := 2) hx hb dX9_counted_72 (by decide) ?_
    refine va_iald hx hb hK hP 1 0 rfl rfl (by unfold vp_in; decide) dX9_counted_73 ?_
    subst hQQ
    exact W.iret hx hb hr (fun t ht hW => ⟨_, rfl, hf, ht⟩) (fun _ h => absurd h List.not_mem_nil) dX9_counted_74
  have hf := it_f c_8 hf
  by_cases c_9 : x1 = 5
  · have hf := it_t c_9 hf
    refine lv_tableIn (tgt := 75) (off := 74) hx hb dX9_counted_1 (by rw [c_9]; decide) (by rw [c_9]; decide) (by rw [c_9]; rfl) (by decide) ?_
    refine lv_aload_n hx hb dX9_counted_75 rfl (lv_at hl 0 rfl) ?_
    refine va_get (D := D) (ci := 8) (v := .ref q_a0_told) (C := RX9) (T := TX9) (N := 18) hx hb hts in_X9 hown hK hP 0 rfl rfl 0 (by decide) kf_7 (fun _ h9 => h9) rfl dX9_counted_76 ?_
    refine lv_iconst (v := 3) hx hb dX9_counted_79 (by decide) ?_
    refine va_iald hx hb hK hP 1 0 rfl rfl (by unfold vp_in; decide) dX9_counted_80 ?_
    subst hQQ
    exact W.iret hx hb hr (fun t ht hW => ⟨_, rfl, hf, ht⟩) (fun _ h => absurd h List.not_mem_nil) dX9_counted_81
  have hf := it_f c_9 hf
  have gc_1 := lv_neT (k := 0) c_1 (a := 0) (by decide)
  have gc_3 := lv_neT (k := 1) c_3 (a := 1) (by decide)
  have gc_5 := lv_neT (k := 2) c_5 (a := 2) (by decide)
  have gc_7 := lv_neT (k := 3) c_7 (a := 3) (by decide)
  have gc_8 := lv_neT (k := 4) c_8 (a := 4) (by decide)
  have gc_9 := lv_neT (k := 5) c_9 (a := 5) (by decide)
  refine lv_tableOut (tgt := 82) hx hb dX9_counted_1 (by omega) (by decide) ?_
  refine lv_aload_n hx hb dX9_counted_82 rfl (lv_at hl 0 rfl) ?_
  refine va_get (D := D) (ci := 8) (v := .int a0_bytesLong) (C := RX9) (T := TX9) (N := 18) hx hb hts in_X9 hown hK hP 0 rfl rfl 11 (by decide) kf_183 (fun _ h9 => h9) rfl dX9_counted_83 ?_
  subst hQQ
  exact W.iret hx hb hr (fun t ht hW => ⟨_, rfl, hf, ht⟩) (fun _ h => absurd h List.not_mem_nil) dX9_counted_86
def p_X9_count (a0_told : Nat → Int32) (a0_refused : Nat → Int32) (a0_bytesLong : Int32) (x1 : Int32) (Q : Int32 → (Nat → Int32) → Prop) : Prop :=
  p_X9_in x1.toInt64 0 6 (fun r_1 => if r_1 = 0 then (p_X9_bad a0_refused (-2) (fun r_3 u_4 => Q r_3 u_4)) else (p_X9_counted a0_told a0_bytesLong x1 (fun r_5 => Q r_5 a0_refused)))
def rmX9_count : Room := { frames := 3, cells := 0, slots := 0, locals := 64 }
set_option maxHeartbeats 4000000 in
set_option maxRecDepth 100000 in
theorem c_X9_count (l : Launch) (D : va_G) (cI cZ cO : ClassId) (q_a0 q_a0_told q_a0_kept q_a0_isKept q_a0_refused q_a0_manyBy q_a0_hers q_a0_his q_a0_hand q_a0_bytes q_a0_anew q_a0_values : Nat) (a0_above : Int64) (a0_below : Int64) (a0_bytesLong : Int32) (a0_tokenAt : Int32) (a0_tokenLong : Int32) (a0_token : Int32) (a0_value : Int32) (a0_told : Nat → Int32) (a0_refused : Nat → Int32) (sz : Nat) (x1 : Int32) (Q : Int32 → (Nat → Int32) → Prop) (hf : p_X9_count a0_told a0_refused a0_bytesLong x1 Q) : Met l yX9_count wsX9_count rmX9_count (va_Pc [.ref q_a0, .int x1] (fun U => U.heap.size = sz ∧ va_P D vwCl [(q_a0, .inr (8, [.ref q_a0_told, .ref q_a0_kept, .ref q_a0_isKept, .ref q_a0_refused, .long a0_above, .long a0_below, .ref q_a0_manyBy, .ref q_a0_hers, .ref q_a0_his, .ref q_a0_hand, .ref q_a0_bytes, .int a0_bytesLong, .int a0_tokenAt, .int a0_tokenLong, .int a0_token, .int a0_value, .ref q_a0_anew, .ref q_a0_values])), (q_a0_told, .inl (cI, 163, .inl a0_told)), (q_a0_refused, .inl (cI, 3, .inl a0_refused))] U.heap ∧ XK D cI cZ cO U ∧ va_D (fun _ => True) [(q_a0, .inr (8, [.ref q_a0_told, .ref q_a0_kept, .ref q_a0_isKept, .ref q_a0_refused, .long a0_above, .long a0_below, .ref q_a0_manyBy, .ref q_a0_hers, .ref q_a0_his, .ref q_a0_hand, .ref q_a0_bytes, .int a0_bytesLong, .int a0_tokenAt, .int a0_tokenLong, .int a0_token, .int a0_value, .ref q_a0_anew, .ref q_a0_values])), (q_a0_told, .inl (cI, 163, .inl a0_told)), (q_a0_refused, .inl (cI, 3, .inl a0_refused))])) (va_Qi (fun r (u : (Nat → Int32)) => Q r u) (fun (u : (Nat → Int32)) t => va_P D vwCl [(q_a0, .inr (8, [.ref q_a0_told, .ref q_a0_kept, .ref q_a0_isKept, .ref q_a0_refused, .long a0_above, .long a0_below, .ref q_a0_manyBy, .ref q_a0_hers, .ref q_a0_his, .ref q_a0_hand, .ref q_a0_bytes, .int a0_bytesLong, .int a0_tokenAt, .int a0_tokenLong, .int a0_token, .int a0_value, .ref q_a0_anew, .ref q_a0_values])), (q_a0_told, .inl (cI, 163, .inl a0_told)), (q_a0_refused, .inl (cI, 3, .inl u))] t.heap ∧ va_D (va_A [(q_a0, .inr (8, [.ref q_a0_told, .ref q_a0_kept, .ref q_a0_isKept, .ref q_a0_refused, .long a0_above, .long a0_below, .ref q_a0_manyBy, .ref q_a0_hers, .ref q_a0_his, .ref q_a0_hand, .ref q_a0_bytes, .int a0_bytesLong, .int a0_tokenAt, .int a0_tokenLong, .int a0_token, .int a0_value, .ref q_a0_anew, .ref q_a0_values])), (q_a0_told, .inl (cI, 163, .inl a0_told)), (q_a0_refused, .inl (cI, 3, .inl a0_refused))] sz) [(q_a0, .inr (8, [.ref q_a0_told, .ref q_a0_kept, .ref q_a0_isKept, .ref q_a0_refused, .long a0_above, .long a0_below, .ref q_a0_manyBy, .ref q_a0_hers, .ref q_a0_his, .ref q_a0_hand, .ref q_a0_bytes, .int a0_bytesLong, .int a0_tokenAt, .int a0_tokenLong, .int a0_token, .int a0_value, .ref q_a0_anew, .ref q_a0_values])), (q_a0_told, .inl (cI, 163, .inl a0_told)), (q_a0_refused, .inl (cI, 3, .inl u))]) (va_A [(q_a0, .inr (8, [.ref q_a0_told, .ref q_a0_kept, .ref q_a0_isKept, .ref q_a0_refused, .long a0_above, .long a0_below, .ref q_a0_manyBy, .ref q_a0_hers, .ref q_a0_his, .ref q_a0_hand, .ref q_a0_bytes, .int a0_bytesLong, .int a0_tokenAt, .int a0_tokenLong, .int a0_token, .int a0_value, .ref q_a0_anew, .ref q_a0_values])), (q_a0_told, .inl (cI, 163, .inl a0_told)), (q_a0_refused, .inl (cI, 3, .inl a0_refused))] sz)) 0 0 (va_A [(q_a0, .inr (8, [.ref q_a0_told, .ref q_a0_kept, .ref q_a0_isKept, .ref q_a0_refused, .long a0_above, .long a0_below, .ref q_a0_manyBy, .ref q_a0_hers, .ref q_a0_his, .ref q_a0_hand, .ref q_a0_bytes, .int a0_bytesLong, .int a0_tokenAt, .int a0_tokenLong, .int a0_token, .int a0_value, .ref q_a0_anew, .ref q_a0_values])), (q_a0_told, .inl (cI, 163, .inl a0_told)), (q_a0_refused, .inl (cI, 3, .inl a0_refused))] sz) := by
  refine Met.ofW (cc := cX9_count) (maxL := 2) (ret := (some .int)) (by decide) rfl ?_
  intro p e s m args below meth c s₁ B hml hv
  obtain ⟨rfl, hsz, hP, hX, hD0⟩ := hv
  have hK := hX.1
  have hx := B.exec
  have hb := B.bytes
  have hr := B.returns
  have hts := atoms_spec (ws := wsX9_count) B.pre
  have hown : s.vm.findClass RX9 = some m.cls := findClass_of_methodNamed B.named
  have hlocks := B.notSynchronized
  have kc_62 := hts (.constantLong RX9 62 (6)) (by decide +kernel)
  subst hsz
  have hD := hD0.self (sz := s.heap.size)
  generalize hAe : va_A [(q_a0, .inr (8, [.ref q_a0_told, .ref q_a0_kept, .ref q_a0_isKept, .ref q_a0_refused, .long a0_above, .long a0_below, .ref q_a0_manyBy, .ref q_a0_hers, .ref q_a0_his, .ref q_a0_hand, .ref q_a0_bytes, .int a0_bytesLong, .int a0_tokenAt, .int a0_tokenLong, .int a0_token, .int a0_value, .ref q_a0_anew, .ref q_a0_values])), (q_a0_told, .inl (cI, 163, .inl a0_told)), (q_a0_refused, .inl (cI, 3, .inl a0_refused))] s.heap.size = A at hD ⊢
  have hA : ∀ q : Nat, s.heap.size ≤ q → A q := fun q h => by rw [← hAe]; exact Or.inr h
  have hS : va_S A s.heap s.heap [] := va_S.rf
  have hP : va_P D vwCl [(q_a0, .inr (8, [.ref q_a0_told, .ref q_a0_kept, .ref q_a0_isKept, .ref q_a0_refused, .long a0_above, .long a0_below, .ref q_a0_manyBy, .ref q_a0_hers, .ref q_a0_his, .ref q_a0_hand, .ref q_a0_bytes, .int a0_bytesLong, .int a0_tokenAt, .int a0_tokenLong, .int a0_token, .int a0_value, .ref q_a0_anew, .ref q_a0_values])), (q_a0_told, .inl (cI, 163, .inl a0_told)), (q_a0_refused, .inl (cI, 3, .inl a0_refused))] s.heap := hP
  generalize hQQ : MQ below _ _ s _ _ _ = QQ
  have hl := lv_entry ([.ref q_a0, .int x1]) (n := 2) (Nat.le_of_ble_eq_true rfl)
  rw [lg_entry_eq]
  generalize (lg_sl ([.ref q_a0, .int x1]) ++ List.replicate (2 - (lg_sl ([.ref q_a0, .int x1])).length) Slot.unset).toArray = ls at hl ⊢
  have hl : lv_has ls 2 [(0, .ref q_a0), (1, .int x1)] := hl
  unfold p_X9_count at hf
  refine lv_iload_n hx hb dX9_count_0 rfl (lv_at hl 1 rfl) ?_
  refine lv_i2l hx hb dX9_count_1 rfl ?_
  refine lv_lconst (v := 0) hx hb dX9_count_2 (by decide) ?_
  refine lv_ldc2 (v := 6) hx hb hown kc_62 dX9_count_3 ?_
  refine ya_csi (va_runS (As := [.long x1.toInt64, .long 0, .long 6]) (rest := []) ⟨hx, hb, hml, hown, hts⟩ (c_X9_in l D cI cZ cO  x1.toInt64 0 6 _ hf) (va_cwS 3 hts gX9_count_X9_in rfl rfl rfl (by decide +kernel) ⟨Nat.le_of_ble_eq_true rfl, Nat.le_of_ble_eq_true rfl⟩) (ps_ro va_P0 hX) rfl rfl hl.1 rfl (lv_room (Nat.le_of_ble_eq_true rfl)) dX9_count_6 ⟨Nat.zero_le _, Nat.zero_le _⟩) (fun r_1 hf => ?_)
  refine lv_if_eq (tgt := 20) hx hb dX9_count_9 (by decide) (fun c_2 => ?_) (fun c_2 => ?_)
  · have hf := it_t c_2 hf
    refine lv_aload_n hx hb dX9_count_20 rfl (lv_at hl 0 rfl) ?_
    refine lv_bipush (v := (-2)) hx hb dX9_count_21 (by decide) ?_
    have hPc := hP.sub (ws' := [(q_a0, .inr (8, [.ref q_a0_told, .ref q_a0_kept, .ref q_a0_isKept, .ref q_a0_refused, .long a0_above, .long a0_below, .ref q_a0_manyBy, .ref q_a0_hers, .ref q_a0_his, .ref q_a0_hand, .ref q_a0_bytes, .int a0_bytesLong, .int a0_tokenAt, .int a0_tokenLong, .int a0_token, .int a0_value, .ref q_a0_anew, .ref q_a0_values])), (q_a0_refused, .inl (cI, 3, .inl a0_refused))]) [0, 2] rfl
    have hDc := hD.sub (ws' := [(q_a0, .inr (8, [.ref q_a0_told, .ref q_a0_kept, .ref q_a0_isKept, .ref q_a0_refused, .long a0_above, .long a0_below, .ref q_a0_manyBy, .ref q_a0_hers, .ref q_a0_his, .ref q_a0_hand, .ref q_a0_bytes, .int a0_bytesLong, .int a0_tokenAt, .int a0_tokenLong, .int a0_token, .int a0_value, .ref q_a0_anew, .ref q_a0_values])), (q_a0_refused, .inl (cI, 3, .inl a0_refused))]) [0, 2] (by decide) rfl
    have hFc := va_free (wc := [(q_a0, .inr (8, [.ref q_a0_told, .ref q_a0_kept, .ref q_a0_isKept, .ref q_a0_refused, .long a0_above, .long a0_below, .ref q_a0_manyBy, .ref q_a0_hers, .ref q_a0_his, .ref q_a0_hand, .ref q_a0_bytes, .int a0_bytesLong, .int a0_tokenAt, .int a0_tokenLong, .int a0_token, .int a0_value, .ref q_a0_anew, .ref q_a0_values])), (q_a0_refused, .inl (cI, 3, .inl a0_refused))]) hD hS hA [0, 2] rfl
    refine va_calli (va_runV (As := [.int (-2)]) (rest := []) ⟨hx, hb, hml, hown, hts⟩ (c_X9_bad l D cI cZ cO q_a0 q_a0_told q_a0_kept q_a0_isKept q_a0_refused q_a0_manyBy q_a0_hers q_a0_his q_a0_hand q_a0_bytes q_a0_anew q_a0_values a0_above a0_below a0_bytesLong a0_tokenAt a0_tokenLong a0_token a0_value a0_refused s.heap.size (-2) _ hf) (cwV 1 hts gX9_count_X9_bad rfl rfl rfl (by decide +kernel) ⟨Nat.le_of_ble_eq_true rfl, Nat.le_of_ble_eq_true rfl⟩) (pv_rw (ci := 8) (q0 := 0) hPc hDc hX rfl rfl) rfl rfl hl.1 rfl (lv_room (Nat.le_of_ble_eq_true rfl)) dX9_count_23 ⟨Nat.zero_le _, Nat.zero_le _⟩) hS (fun q _ h => hFc q h) hFc (fun r_3 u t H1 locs ht hvm hf hB hz1 hk1 hS => ?_)
    obtain ⟨u_4, rfl⟩ : ∃ z, z = u := ⟨_, rfl⟩
    obtain ⟨hP1, hD1⟩ := hB
    rw [ht] at hP1
    clear hvm
    obtain ⟨hP, hD⟩ := va_join (wr := [(q_a0_told, .inl (cI, 163, .inl a0_told))]) (w1 := [(q_a0, .inr (8, [.ref q_a0_told, .ref q_a0_kept, .ref q_a0_isKept, .ref q_a0_refused, .long a0_above, .long a0_below, .ref q_a0_manyBy, .ref q_a0_hers, .ref q_a0_his, .ref q_a0_hand, .ref q_a0_bytes, .int a0_bytesLong, .int a0_tokenAt, .int a0_tokenLong, .int a0_token, .int a0_value, .ref q_a0_anew, .ref q_a0_values])), (q_a0_refused, .inl (cI, 3, .inl u_4))]) hP hD [0, 2] [1] rfl rfl (by decide) (by decide) hk1 hFc hP1 hD1
    clear hz1 hk1 hPc hDc hFc hP1 hD1
    generalize H1 = H at hP hS ⊢
    have hP : va_P D vwCl [(q_a0_told, .inl (cI, 163, .inl a0_told)), (q_a0, .inr (8, [.ref q_a0_told, .ref q_a0_kept, .ref q_a0_isKept, .ref q_a0_refused, .long a0_above, .long a0_below, .ref q_a0_manyBy, .ref q_a0_hers, .ref q_a0_his, .ref q_a0_hand, .ref q_a0_bytes, .int a0_bytesLong, .int a0_tokenAt, .int a0_tokenLong, .int a0_token, .int a0_value, .ref q_a0_anew, .ref q_a0_values])), (q_a0_refused, .inl (cI, 3, .inl u_4))] H := hP
    have hD : va_D A [(q_a0_told, .inl (cI, 163, .inl a0_told)), (q_a0, .inr (8, [.ref q_a0_told, .ref q_a0_kept, .ref q_a0_isKept, .ref q_a0_refused, .long a0_above, .long a0_below, .ref q_a0_manyBy, .ref q_a0_hers, .ref q_a0_his, .ref q_a0_hand, .ref q_a0_bytes, .int a0_bytesLong, .int a0_tokenAt, .int a0_tokenLong, .int a0_token, .int a0_value, .ref q_a0_anew, .ref q_a0_values])), (q_a0_refused, .inl (cI, 3, .inl u_4))] := hD
    subst hQQ
    have hP9 := hP.sub (ws' := [(q_a0, .inr (8, [.ref q_a0_told, .ref q_a0_kept, .ref q_a0_isKept, .ref q_a0_refused, .long a0_above, .long a0_below, .ref q_a0_manyBy, .ref q_a0_hers, .ref q_a0_his, .ref q_a0_hand, .ref q_a0_bytes, .int a0_bytesLong, .int a0_tokenAt, .int a0_tokenLong, .int a0_token, .int a0_value, .ref q_a0_anew, .ref q_a0_values])), (q_a0_told, .inl (cI, 163, .inl a0_told)), (q_a0_refused, .inl (cI, 3, .inl u_4))]) [1, 0, 2] rfl
    have hD9 := hD.sub (ws' := [(q_a0, .inr (8, [.ref q_a0_told, .ref q_a0_kept, .ref q_a0_isKept, .ref q_a0_refused, .long a0_above, .long a0_below, .ref q_a0_manyBy, .ref q_a0_hers, .ref q_a0_his, .ref q_a0_hand, .ref q_a0_bytes, .int a0_bytesLong, .int a0_tokenAt, .int a0_tokenLong, .int a0_token, .int a0_value, .ref q_a0_anew, .ref q_a0_values])), (q_a0_told, .inl (cI, 163, .inl a0_told)), (q_a0_refused, .inl (cI, 3, .inl u_4))]) [1, 0, 2] (by decide) rfl
    exact W.iret hx hb hr (fun t ht hW => ⟨⟨r_3, u_4, rfl, hf, by rw [ht]; exact hP9, hD9⟩, hS.F ht⟩) hS.2.2 dX9_count_26
  · have hf := it_f c_2 hf
    refine lv_aload_n hx hb dX9_count_12 rfl (lv_at hl 0 rfl) ?_
    refine lv_iload_n hx hb dX9_count_13 rfl (lv_at hl 1 rfl) ?_
    refine ya_csi (va_runV (As := [.int x1]) (rest := []) ⟨hx, hb, hml, hown, hts⟩ (c_X9_counted l D cI cZ cO q_a0 q_a0_told q_a0_kept q_a0_isKept q_a0_refused q_a0_manyBy q_a0_hers q_a0_his q_a0_hand q_a0_bytes q_a0_anew q_a0_values a0_above a0_below a0_bytesLong a0_tokenAt a0_tokenLong a0_token a0_value a0_told x1 _ hf) (cwV 1 hts gX9_count_X9_counted rfl rfl rfl (by decide +kernel) ⟨Nat.le_of_ble_eq_true rfl, Nat.le_of_ble_eq_true rfl⟩) (pv_ro (ci := 8) (q0 := 0) (hP.sub [0, 1] rfl) hX rfl rfl) rfl rfl hl.1 rfl (lv_room (Nat.le_of_ble_eq_true rfl)) dX9_count_14 ⟨Nat.zero_le _, Nat.zero_le _⟩) (fun r_5 hf => ?_)
    refine lv_goto (tgt := 26) hx hb dX9_count_17 (by decide) ?_
    subst hQQ
    have hP9 := hP.sub (ws' := [(q_a0, .inr (8, [.ref q_a0_told, .ref q_a0_kept, .ref q_a0_isKept, .ref q_a0_refused, .long a0_above, .long a0_below, .ref q_a0_manyBy, .ref q_a0_hers, .ref q_a0_his, .ref q_a0_hand, .ref q_a0_bytes, .int a0_bytesLong, .int a0_tokenAt, .int a0_tokenLong, .int a0_token, .int a0_value, .ref q_a0_anew, .ref q_a0_values])), (q_a0_told, .inl (cI, 163, .inl a0_told)), (q_a0_refused, .inl (cI, 3, .inl a0_refused))]) [0, 1, 2] rfl
    have hD9 := hD.sub (ws' := [(q_a0, .inr (8, [.ref q_a0_told, .ref q_a0_kept, .ref q_a0_isKept, .ref q_a0_refused, .long a0_above, .long a0_below, .ref q_a0_manyBy, .ref q_a0_hers, .ref q_a0_his, .ref q_a0_hand, .ref q_a0_bytes, .int a0_bytesLong, .int a0_tokenAt, .int a0_tokenLong, .int a0_token, .int a0_value, .ref q_a0_anew, .ref q_a0_values])), (q_a0_told, .inl (cI, 163, .inl a0_told)), (q_a0_refused, .inl (cI, 3, .inl a0_refused))]) [0, 1, 2] (by decide) rfl
    exact W.iret hx hb hr (fun t ht hW => ⟨⟨r_5, a0_refused, rfl, hf, by rw [ht]; exact hP9, hD9⟩, hS.F ht⟩) hS.2.2 dX9_count_26
def bX9_sums_6 (a0_told : Nat → Int32) (x3 : Int32) (x4 : Int32) (Q : Int64 → Prop) (k_3 : Int64 → Int32 → Prop) (v_1 : Int64) (v_2 : Int32) : Prop :=
  if x4 ≤ v_2 then (Q v_1) else (vp_in (x3 + v_2) 163 ∧ (k_3 ((31 * v_1) + ((a0_told (x3 + v_2).toNatClampNeg).toInt64)) (v_2 + 1)))
def p_X9_sums (a0_told : Nat → Int32) (x1 : Int64) (x3 : Int32) (x4 : Int32) (Q : Int64 → Prop) : Prop :=
  lq2 (bX9_sums_6 a0_told x3 x4 Q) 1000 x1 0
def rmX9_sums : Room := { frames := 0, cells := 0, slots := 0, locals := 0 }
set_option maxHeartbeats 4000000 in
set_option maxRecDepth 100000 in
theorem c_X9_sums (l : Launch) (D : va_G) (cI cZ cO : ClassId) (q_a0 q_a0_told q_a0_kept q_a0_isKept q_a0_refused q_a0_manyBy q_a0_hers q_a0_his q_a0_hand q_a0_bytes q_a0_anew q_a0_values : Nat) (a0_above : Int64) (a0_below : Int64) (a0_bytesLong : Int32) (a0_tokenAt : Int32) (a0_tokenLong : Int32) (a0_token : Int32) (a0_value : Int32) (a0_told : Nat → Int32) (x1 : Int64) (x3 : Int32) (x4 : Int32) (Q : Int64 → Prop) (hf : p_X9_sums a0_told x1 x3 x4 Q) : Met l yX9_sums wsX9_sums rmX9_sums (va_Pc [.ref q_a0, .long x1, .int x3, .int x4] (fun U => va_P D vwCl [(q_a0, .inr (8, [.ref q_a0_told, .ref q_a0_kept, .ref q_a0_isKept, .ref q_a0_refused, .long a0_above, .long a0_below, .ref q_a0_manyBy, .ref q_a0_hers, .ref q_a0_his, .ref q_a0_hand, .ref q_a0_bytes, .int a0_bytesLong, .int a0_tokenAt, .int a0_tokenLong, .int a0_token, .int a0_value, .ref q_a0_anew, .ref q_a0_values])), (q_a0_told, .inl (cI, 163, .inl a0_told))] U.heap ∧ XK D cI cZ cO U)) (vp_Sl Q) 0 0 (fun _ => False) := by
  refine Met.ofW (cc := cX9_sums) (maxL := 8) (ret := (some .long)) (by decide) rfl ?_
  intro p e s m args below meth c s₁ B hml hv
  obtain ⟨rfl, hP, hX⟩ := hv
  have hK := hX.1
  have hx := B.exec
  have hb := B.bytes
  have hr := B.returns
  have hts := atoms_spec (ws := wsX9_sums) B.pre
  have hown : s.vm.findClass RX9 = some m.cls := findClass_of_methodNamed B.named
  have hlocks := B.notSynchronized
  have in_X9 : ∀ w ∈ wsX90, w ∈ wsX9_sums := fun _ h => List.mem_cons_of_mem _ (List.mem_append_right _ h)
  have kc_252 := hts (.constantLong RX9 252 (31)) (by decide +kernel)
  have kf_7 := hts (.fieldLink RX9 7 "LeftCrestModel" "told" "[I") (by decide +kernel)
  generalize hQQ : MQ below _ _ s _ _ _ = QQ
  have hl := lv_entry ([.ref q_a0, .long x1, .int x3, .int x4]) (n := 8) (Nat.le_of_ble_eq_true rfl)
  rw [lg_entry_eq]
  generalize (lg_sl ([.ref q_a0, .long x1, .int x3, .int x4]) ++ List.replicate (8 - (lg_sl ([.ref q_a0, .long x1, .int x3, .int x4])).length) Slot.unset).toArray = ls at hl ⊢
  have hl : lv_has ls 8 [(0, .ref q_a0), (1, .long x1), (3, .int x3), (4, .int x4)] := hl
  unfold p_X9_sums at hf
  refine lv_lload_n hx hb dX9_sums_0 rfl (lv_at hl 1 rfl) ?_
  refine lv_lstore (lv' := [(5, .long x1), (0, .ref q_a0), (1, .long x1), (3, .int x3), (4, .int x4)]) hx hb dX9_sums_1 hl (by decide) rfl (fun ls hl => ?_)
  refine lv_iconst (v := 0) hx hb dX9_sums_3 (by decide) ?_
  refine lv_istore (lv' := [(7, .int 0), (5, .long x1), (0, .ref q_a0), (1, .long x1), (3, .int x3), (4, .int x4)]) hx hb dX9_sums_4 hl (by decide) rfl (fun ls hl => ?_)
  have hlp_6 : ∀ (n_6 : Nat) (v_1 : Int64) (v_2 : Int32) (ls : Array Slot), lq2 (bX9_sums_6 a0_told x3 x4 Q) n_6 v_1 v_2 → lv_has ls 8 [(0, .ref q_a0), (3, .int x3), (4, .int x4), (5, .long v_1), (7, .int v_2)] → W p l e (headSpec wsX9_sums rmX9_sums).room s m ([.ref q_a0, .long x1, .int x3, .int x4] : List Value).toArray below meth c s.heap [] 0 0 QQ (F0 m 6 ls []) := by
    intro n_6
    induction n_6 with
    | zero => intro v_1 v_2 ls hf; exact (lq2_0 hf).elim
    | succ n_6 ih =>
      have ih_6 := ih
      intro v_1 v_2 ls hf hl
      have hf := lq2_s hf
      unfold bX9_sums_6 at hf
      refine lv_iload hx hb dX9_sums_6 (lv_at hl 4 rfl) ?_
      refine lv_iload hx hb dX9_sums_8 (lv_at hl 2 rfl) ?_
      refine lv_icmp_ge (tgt := 38) hx hb dX9_sums_10 (by decide) (fun c_4 => ?_) (fun c_4 => ?_)
      · have hf := it_t c_4 hf
        refine lv_lload hx hb dX9_sums_38 (lv_at hl 3 rfl) ?_
        subst hQQ
        exact W.lret hx hb hr (fun t ht hW => ⟨_, rfl, hf, ht⟩) (fun _ h => absurd h List.not_mem_nil) dX9_sums_40
      · have hf := it_f c_4 hf
        refine lv_ldc2 (v := 31) hx hb hown kc_252 dX9_sums_13 ?_
        refine lv_lload hx hb dX9_sums_16 (lv_at hl 3 rfl) ?_
        refine lv_lmul hx hb dX9_sums_18 ?_
        refine lv_aload_n hx hb dX9_sums_19 rfl (lv_at hl 0 rfl) ?_
        refine va_get (D := D) (ci := 8) (v := .ref q_a0_told) (C := RX9) (T := TX9) (N := 18) hx hb hts in_X9 hown hK hP 0 rfl rfl 0 (by decide) kf_7 (fun _ h9 => h9) rfl dX9_sums_20 ?_
        refine lv_iload_n hx hb dX9_sums_23 rfl (lv_at hl 1 rfl) ?_
        refine lv_iload hx hb dX9_sums_24 (lv_at hl 4 rfl) ?_
        refine lv_iadd hx hb dX9_sums_26 ?_
        refine va_iald hx hb hK hP 1 0 rfl rfl hf.1 dX9_sums_27 ?_
        have hf := hf.2
        refine lv_i2l hx hb dX9_sums_28 rfl ?_
        refine lv_ladd hx hb dX9_sums_29 ?_
        refine lv_lstore (lv' := [(5, .long ((31 * v_1) + ((a0_told (x3 + v_2).toNatClampNeg).toInt64))), (0, .ref q_a0), (3, .int x3), (4, .int x4), (7, .int v_2)]) hx hb dX9_sums_30 hl (by decide) rfl (fun ls hl => ?_)
        refine lv_iinc (v := v_2 + 1) (lv' := [(7, .int (v_2 + 1)), (5, .long ((31 * v_1) + ((a0_told (x3 + v_2).toNatClampNeg).toInt64))), (0, .ref q_a0), (3, .int x3), (4, .int x4)]) hx hb dX9_sums_32 hl (k := 4) rfl rfl (by decide) rfl (fun ls hl => ?_)
        refine lv_goto (tgt := 6) hx hb dX9_sums_35 (by decide) ?_
        exact ih ((31 * v_1) + ((a0_told (x3 + v_2).toNatClampNeg).toInt64)) (v_2 + 1) ls hf (lv_sub hl [2, 3, 4, 1, 0] rfl)
  exact hlp_6 1000 x1 0 ls hf (lv_sub hl [2, 4, 5, 1, 0] rfl)
def jX9_digest_150 (a0_told : Nat → Int32) (a0_above : Int64) (a0_below : Int64) (Q : Int64 → Prop) (v_1 : Int64) : Prop :=
  p_X9_sums a0_told v_1 42 (a0_told (1 : Int32).toNatClampNeg) (fun r_2 => p_X9_sums a0_told r_2 45 (5 * (a0_told (2 : Int32).toNatClampNeg)) (fun r_3 => Q ((31 * ((31 * r_3) + a0_above)) + a0_below)))
def bX9_digest_59 (a0_told : Nat → Int32) (a0_above : Int64) (a0_below : Int64) (Q : Int64 → Prop) (k_7 : Int64 → Int32 → Prop) (v_5 : Int64) (v_6 : Int32) : Prop :=
  p_X9_many a0_told (fun r_8 => if r_8 ≤ v_6 then (jX9_digest_150 a0_told a0_above a0_below Q v_5) else (vp_in (18 + v_6) 163 ∧ (vp_in (26 + v_6) 163 ∧ (p_X9_noteOf a0_told v_6 (fun r_10 => vp_in (34 + v_6) 163 ∧ (k_7 ((31 * ((31 * ((31 * ((31 * ((31 * v_5) + ((a0_told (18 + v_6).toNatClampNeg).toInt64))) + ((a0_told (26 + v_6).toNatClampNeg).toInt64))) + r_10.toInt64)) + ((a0_told (34 + v_6).toNatClampNeg).toInt64))) + ((((a0_told (17 : Int32).toNatClampNeg) >>> (v_6 &&& 31)) &&& 1).toInt64)) (v_6 + 1)))))))
def jX9_digest_57 (a0_told : Nat → Int32) (a0_above : Int64) (a0_below : Int64) (Q : Int64 → Prop) (v_4 : Int64) : Prop :=
  lq2 (bX9_digest_59 a0_told a0_above a0_below Q) 1000 v_4 0
def bX9_digest_33 (a0_told : Nat → Int32) (a0_above : Int64) (a0_below : Int64) (Q : Int64 → Prop) (k_14 : Int64 → Int32 → Prop) (v_12 : Int64) (v_13 : Int32) : Prop :=
  if 5 ≤ v_13 then (jX9_digest_57 a0_told a0_above a0_below Q v_12) else (p_X9_nowOf a0_told v_13 (fun r_16 => k_14 ((31 * v_12) + r_16.toInt64) (v_13 + 1)))
def jX9_digest_31 (a0_told : Nat → Int32) (a0_above : Int64) (a0_below : Int64) (Q : Int64 → Prop) (v_11 : Int64) : Prop :=
  lq2 (bX9_digest_33 a0_told a0_above a0_below Q) 1000 v_11 0
def bX9_digest_6 (a0_told : Nat → Int32) (a0_above : Int64) (a0_below : Int64) (a0_bytesLong : Int32) (Q : Int64 → Prop) (k_19 : Int64 → Int32 → Prop) (v_17 : Int64) (v_18 : Int32) : Prop :=
  if 7 ≤ v_18 then (jX9_digest_31 a0_told a0_above a0_below Q v_17) else (p_X9_counted a0_told a0_bytesLong v_18 (fun r_21 => k_19 ((31 * v_17) + r_21.toInt64) (v_18 + 1)))
def p_X9_digest (a0_told : Nat → Int32) (a0_above : Int64) (a0_below : Int64) (a0_bytesLong : Int32) (Q : Int64 → Prop) : Prop :=
  lq2 (bX9_digest_6 a0_told a0_above a0_below a0_bytesLong Q) 1000 1361 0
def rmX9_digest : Room := { frames := 3, cells := 0, slots := 0, locals := 64 }
set_option maxHeartbeats 4000000 in
set_option maxRecDepth 100000 in
theorem c_X9_digest (l : Launch) (D : va_G) (cI cZ cO : ClassId) (q_a0 q_a0_told q_a0_kept q_a0_isKept q_a0_refused q_a0_manyBy q_a0_hers q_a0_his q_a0_hand q_a0_bytes q_a0_anew q_a0_values : Nat) (a0_above : Int64) (a0_below : Int64) (a0_bytesLong : Int32) (a0_tokenAt : Int32) (a0_tokenLong : Int32) (a0_token : Int32) (a0_value : Int32) (a0_told : Nat → Int32) (Q : Int64 → Prop) (hf : p_X9_digest a0_told a0_above a0_below a0_bytesLong Q) : Met l yX9_digest wsX9_digest rmX9_digest (va_Pc [.ref q_a0] (fun U => va_P D vwCl [(q_a0, .inr (8, [.ref q_a0_told, .ref q_a0_kept, .ref q_a0_isKept, .ref q_a0_refused, .long a0_above, .long a0_below, .ref q_a0_manyBy, .ref q_a0_hers, .ref q_a0_his, .ref q_a0_hand, .ref q_a0_bytes, .int a0_bytesLong, .int a0_tokenAt, .int a0_tokenLong, .int a0_token, .int a0_value, .ref q_a0_anew, .ref q_a0_values])), (q_a0_told, .inl (cI, 163, .inl a0_told))] U.heap ∧ XK D cI cZ cO U)) (vp_Sl Q) 0 0 (fun _ => False) := by
  refine Met.ofW (cc := cX9_digest) (maxL := 4) (ret := (some .long)) (by decide) rfl ?_
  intro p e s m args below meth c s₁ B hml hv
  obtain ⟨rfl, hP, hX⟩ := hv
  have hK := hX.1
  have hx := B.exec
  have hb := B.bytes
  have hr := B.returns
  have hts := atoms_spec (ws := wsX9_digest) B.pre
  have hown : s.vm.findClass RX9 = some m.cls := findClass_of_methodNamed B.named
  have hlocks := B.notSynchronized
  have in_X9 : ∀ w ∈ wsX90, w ∈ wsX9_digest := fun _ h => List.mem_cons_of_mem _ (List.mem_append_right _ h)
  have kf_7 := hts (.fieldLink RX9 7 "LeftCrestModel" "told" "[I") (by decide +kernel)
  have kc_252 := hts (.constantLong RX9 252 (31)) (by decide +kernel)
  have kf_158 := hts (.fieldLink RX9 158 "LeftCrestModel" "above" "J") (by decide +kernel)
  have kf_23 := hts (.fieldLink RX9 23 "LeftCrestModel" "below" "J") (by decide +kernel)
  have kc_254 := hts (.constantLong RX9 254 (1361)) (by decide +kernel)
  generalize hQQ : MQ below _ _ s _ _ _ = QQ
  have hl := lv_entry ([.ref q_a0]) (n := 4) (Nat.le_of_ble_eq_true rfl)
  rw [lg_entry_eq]
  generalize (lg_sl ([.ref q_a0]) ++ List.replicate (4 - (lg_sl ([.ref q_a0])).length) Slot.unset).toArray = ls at hl ⊢
  have hl : lv_has ls 4 [(0, .ref q_a0)] := hl
  have hj_150 : ∀ (v_1 : Int64), jX9_digest_150 a0_told a0_above a0_below Q v_1 → ∀ ls : Array Slot, lv_has ls 4 [(0, .ref q_a0), (1, .long v_1)] → W p l e (headSpec wsX9_digest rmX9_digest).room s m ([.ref q_a0] : List Value).toArray below meth c s.heap [] 0 0 QQ (F0 m 150 ls []) := by
    intro v_1 hf ls hl
    unfold jX9_digest_150 at hf
    refine lv_aload_n hx hb dX9_digest_150 rfl (lv_at hl 0 rfl) ?_
    refine lv_lload_n hx hb dX9_digest_151 rfl (lv_at hl 1 rfl) ?_
    refine lv_bipush (v := 42) hx hb dX9_digest_152 (by decide) ?_
    refine lv_aload_n hx hb dX9_digest_154 rfl (lv_at hl 0 rfl) ?_
    refine va_get (D := D) (ci := 8) (v := .ref q_a0_told) (C := RX9) (T := TX9) (N := 18) hx hb hts in_X9 hown hK hP 0 rfl rfl 0 (by decide) kf_7 (fun _ h9 => h9) rfl dX9_digest_155 ?_
    refine lv_iconst (v := 1) hx hb dX9_digest_158 (by decide) ?_
    refine va_iald hx hb hK hP 1 0 rfl rfl (by unfold vp_in; decide) dX9_digest_159 ?_
    refine ya_csl (va_runV (As := [.long v_1, .int 42, .int (a0_told (1 : Int32).toNatClampNeg)]) (rest := []) ⟨hx, hb, hml, hown, hts⟩ (c_X9_sums l D cI cZ cO q_a0 q_a0_told q_a0_kept q_a0_isKept q_a0_refused q_a0_manyBy q_a0_hers q_a0_his q_a0_hand q_a0_bytes q_a0_anew q_a0_values a0_above a0_below a0_bytesLong a0_tokenAt a0_tokenLong a0_token a0_value a0_told v_1 42 (a0_told (1 : Int32).toNatClampNeg) _ hf) (cwV 3 hts gX9_digest_X9_sums rfl rfl rfl (by decide +kernel) ⟨Nat.le_of_ble_eq_true rfl, Nat.le_of_ble_eq_true rfl⟩) (pv_ro (ci := 8) (q0 := 0) (hP.sub [0, 1] rfl) hX rfl rfl) rfl rfl hl.1 rfl (lv_room (Nat.le_of_ble_eq_true rfl)) dX9_digest_160 ⟨Nat.zero_le _, Nat.zero_le _⟩) (fun r_2 hf => ?_)
    refine lv_lstore_n (lv' := [(1, .long r_2), (0, .ref q_a0)]) hx hb dX9_digest_163 rfl hl (by decide) rfl (fun ls hl => ?_)
    refine lv_aload_n hx hb dX9_digest_164 rfl (lv_at hl 1 rfl) ?_
    refine lv_lload_n hx hb dX9_digest_165 rfl (lv_at hl 0 rfl) ?_
    refine lv_bipush (v := 45) hx hb dX9_digest_166 (by decide) ?_
    refine lv_iconst (v := 5) hx hb dX9_digest_168 (by decide) ?_
    refine lv_aload_n hx hb dX9_digest_169 rfl (lv_at hl 1 rfl) ?_
    refine va_get (D := D) (ci := 8) (v := .ref q_a0_told) (C := RX9) (T := TX9) (N := 18) hx hb hts in_X9 hown hK hP 0 rfl rfl 0 (by decide) kf_7 (fun _ h9 => h9) rfl dX9_digest_170 ?_
    refine lv_iconst (v := 2) hx hb dX9_digest_173 (by decide) ?_
    refine va_iald hx hb hK hP 1 0 rfl rfl (by unfold vp_in; decide) dX9_digest_174 ?_
    refine lv_imul hx hb dX9_digest_175 ?_
    refine ya_csl (va_runV (As := [.long r_2, .int 45, .int (5 * (a0_told (2 : Int32).toNatClampNeg))]) (rest := []) ⟨hx, hb, hml, hown, hts⟩ (c_X9_sums l D cI cZ cO q_a0 q_a0_told q_a0_kept q_a0_isKept q_a0_refused q_a0_manyBy q_a0_hers q_a0_his q_a0_hand q_a0_bytes q_a0_anew q_a0_values a0_above a0_below a0_bytesLong a0_tokenAt a0_tokenLong a0_token a0_value a0_told r_2 45 (5 * (a0_told (2 : Int32).toNatClampNeg)) _ hf) (cwV 3 hts gX9_digest_X9_sums rfl rfl rfl (by decide +kernel) ⟨Nat.le_of_ble_eq_true rfl, Nat.le_of_ble_eq_true rfl⟩) (pv_ro (ci := 8) (q0 := 0) (hP.sub [0, 1] rfl) hX rfl rfl) rfl rfl hl.1 rfl (lv_room (Nat.le_of_ble_eq_true rfl)) dX9_digest_176 ⟨Nat.zero_le _, Nat.zero_le _⟩) (fun r_3 hf => ?_)
    refine lv_lstore_n (lv' := [(1, .long r_3), (0, .ref q_a0)]) hx hb dX9_digest_179 rfl hl (by decide) rfl (fun ls hl => ?_)
    refine lv_ldc2 (v := 31) hx hb hown kc_252 dX9_digest_180 ?_
    refine lv_ldc2 (v := 31) hx hb hown kc_252 dX9_digest_183 ?_
    refine lv_lload_n hx hb dX9_digest_186 rfl (lv_at hl 0 rfl) ?_
    refine lv_lmul hx hb dX9_digest_187 ?_
    refine lv_aload_n hx hb dX9_digest_188 rfl (lv_at hl 1 rfl) ?_
    refine va_get (D := D) (ci := 8) (v := .long a0_above) (C := RX9) (T := TX9) (N := 18) hx hb hts in_X9 hown hK hP 0 rfl rfl 4 (by decide) kf_158 (fun _ h9 => h9) rfl dX9_digest_189 ?_
    refine lv_ladd hx hb dX9_digest_192 ?_
    refine lv_lmul hx hb dX9_digest_193 ?_
    refine lv_aload_n hx hb dX9_digest_194 rfl (lv_at hl 1 rfl) ?_
    refine va_get (D := D) (ci := 8) (v := .long a0_below) (C := RX9) (T := TX9) (N := 18) hx hb hts in_X9 hown hK hP 0 rfl rfl 5 (by decide) kf_23 (fun _ h9 => h9) rfl dX9_digest_195 ?_
    refine lv_ladd hx hb dX9_digest_198 ?_
    subst hQQ
    exact W.lret hx hb hr (fun t ht hW => ⟨_, rfl, hf, ht⟩) (fun _ h => absurd h List.not_mem_nil) dX9_digest_199
  have hj_57 : ∀ (v_4 : Int64), jX9_digest_57 a0_told a0_above a0_below Q v_4 → ∀ ls : Array Slot, lv_has ls 4 [(0, .ref q_a0), (1, .long v_4)] → W p l e (headSpec wsX9_digest rmX9_digest).room s m ([.ref q_a0] : List Value).toArray below meth c s.heap [] 0 0 QQ (F0 m 57 ls []) := by
    intro v_4 hf ls hl
    unfold jX9_digest_57 at hf
    refine lv_iconst (v := 0) hx hb dX9_digest_57 (by decide) ?_
    refine lv_istore_n (lv' := [(3, .int 0), (0, .ref q_a0), (1, .long v_4)]) hx hb dX9_digest_58 rfl hl (by decide) rfl (fun ls hl => ?_)
    have hlp_59 : ∀ (n_59 : Nat) (v_5 : Int64) (v_6 : Int32) (ls : Array Slot), lq2 (bX9_digest_59 a0_told a0_above a0_below Q) n_59 v_5 v_6 → lv_has ls 4 [(0, .ref q_a0), (1, .long v_5), (3, .int v_6)] → W p l e (headSpec wsX9_digest rmX9_digest).room s m ([.ref q_a0] : List Value).toArray below meth c s.heap [] 0 0 QQ (F0 m 59 ls []) := by
      intro n_59
      induction n_59 with
      | zero => intro v_5 v_6 ls hf; exact (lq2_0 hf).elim
      | succ n_59 ih =>
        have ih_59 := ih
        intro v_5 v_6 ls hf hl
        have hf := lq2_s hf
        unfold bX9_digest_59 at hf
        refine lv_iload_n hx hb dX9_digest_59 rfl (lv_at hl 2 rfl) ?_
        refine lv_aload_n hx hb dX9_digest_60 rfl (lv_at hl 0 rfl) ?_
        refine ya_csi (va_runV (As := []) (rest := [.int v_6]) ⟨hx, hb, hml, hown, hts⟩ (c_X9_many l D cI cZ cO q_a0 q_a0_told q_a0_kept q_a0_isKept q_a0_refused q_a0_manyBy q_a0_hers q_a0_his q_a0_hand q_a0_bytes q_a0_anew q_a0_values a0_above a0_below a0_bytesLong a0_tokenAt a0_tokenLong a0_token a0_value a0_told  _ hf) (cwV 0 hts gX9_digest_X9_many rfl rfl rfl (by decide +kernel) ⟨Nat.le_of_ble_eq_true rfl, Nat.le_of_ble_eq_true rfl⟩) (pv_ro (ci := 8) (q0 := 0) (hP.sub [0, 1] rfl) hX rfl rfl) rfl rfl hl.1 rfl (lv_room (Nat.le_of_ble_eq_true rfl)) dX9_digest_61 ⟨Nat.zero_le _, Nat.zero_le _⟩) (fun r_8 hf => ?_)
        refine lv_icmp_ge (tgt := 150) hx hb dX9_digest_64 (by decide) (fun c_9 => ?_) (fun c_9 => ?_)
        · have hf := it_t c_9 hf
          exact hj_150 v_5 hf ls (lv_sub hl [0, 1] rfl)
        · have hf := it_f c_9 hf
          refine lv_ldc2 (v := 31) hx hb hown kc_252 dX9_digest_67 ?_
          refine lv_ldc2 (v := 31) hx hb hown kc_252 dX9_digest_70 ?_
          refine lv_ldc2 (v := 31) hx hb hown kc_252 dX9_digest_73 ?_
          refine lv_lload_n hx hb dX9_digest_76 rfl (lv_at hl 1 rfl) ?_
          refine lv_lmul hx hb dX9_digest_77 ?_
          refine lv_aload_n hx hb dX9_digest_78 rfl (lv_at hl 0 rfl) ?_
          refine va_get (D := D) (ci := 8) (v := .ref q_a0_told) (C := RX9) (T := TX9) (N := 18) hx hb hts in_X9 hown hK hP 0 rfl rfl 0 (by decide) kf_7 (fun _ h9 => h9) rfl dX9_digest_79 ?_
          refine lv_bipush (v := 18) hx hb dX9_digest_82 (by decide) ?_
          refine lv_iload_n hx hb dX9_digest_84 rfl (lv_at hl 2 rfl) ?_
          refine lv_iadd hx hb dX9_digest_85 ?_
          refine va_iald hx hb hK hP 1 0 rfl rfl hf.1 dX9_digest_86 ?_
          have hf := hf.2
          refine lv_i2l hx hb dX9_digest_87 rfl ?_
          refine lv_ladd hx hb dX9_digest_88 ?_
          refine lv_lmul hx hb dX9_digest_89 ?_
          refine lv_aload_n hx hb dX9_digest_90 rfl (lv_at hl 0 rfl) ?_
          refine va_get (D := D) (ci := 8) (v := .ref q_a0_told) (C := RX9) (T := TX9) (N := 18) hx hb hts in_X9 hown hK hP 0 rfl rfl 0 (by decide) kf_7 (fun _ h9 => h9) rfl dX9_digest_91 ?_
          refine lv_bipush (v := 26) hx hb dX9_digest_94 (by decide) ?_
          refine lv_iload_n hx hb dX9_digest_96 rfl (lv_at hl 2 rfl) ?_
          refine lv_iadd hx hb dX9_digest_97 ?_
          refine va_iald hx hb hK hP 1 0 rfl rfl hf.1 dX9_digest_98 ?_
          have hf := hf.2
          refine lv_i2l hx hb dX9_digest_99 rfl ?_
          refine lv_ladd hx hb dX9_digest_100 ?_
          refine lv_lmul hx hb dX9_digest_101 ?_
          refine lv_aload_n hx hb dX9_digest_102 rfl (lv_at hl 0 rfl) ?_
          refine lv_iload_n hx hb dX9_digest_103 rfl (lv_at hl 2 rfl) ?_
          refine ya_csi (va_runV (As := [.int v_6]) (rest := [.long (31 * ((31 * ((31 * v_5) + ((a0_told (18 + v_6).toNatClampNeg).toInt64))) + ((a0_told (26 + v_6).toNatClampNeg).toInt64)))]) ⟨hx, hb, hml, hown, hts⟩ (c_X9_noteOf l D cI cZ cO q_a0 q_a0_told q_a0_kept q_a0_isKept q_a0_refused q_a0_manyBy q_a0_hers q_a0_his q_a0_hand q_a0_bytes q_a0_anew q_a0_values a0_above a0_below a0_bytesLong a0_tokenAt a0_tokenLong a0_token a0_value a0_told v_6 _ hf) (cwV 1 hts gX9_digest_X9_noteOf rfl rfl rfl (by decide +kernel) ⟨Nat.le_of_ble_eq_true rfl, Nat.le_of_ble_eq_true rfl⟩) (pv_ro (ci := 8) (q0 := 0) (hP.sub [0, 1] rfl) hX rfl rfl) rfl rfl hl.1 rfl (lv_room (Nat.le_of_ble_eq_true rfl)) dX9_digest_104 ⟨Nat.zero_le _, Nat.zero_le _⟩) (fun r_10 hf => ?_)
          refine lv_i2l hx hb dX9_digest_107 rfl ?_
          refine lv_ladd hx hb dX9_digest_108 ?_
          refine lv_lstore_n (lv' := [(1, .long ((31 * ((31 * ((31 * v_5) + ((a0_told (18 + v_6).toNatClampNeg).toInt64))) + ((a0_told (26 + v_6).toNatClampNeg).toInt64))) + r_10.toInt64)), (0, .ref q_a0), (3, .int v_6)]) hx hb dX9_digest_109 rfl hl (by decide) rfl (fun ls hl => ?_)
          refine lv_ldc2 (v := 31) hx hb hown kc_252 dX9_digest_110 ?_
          refine lv_ldc2 (v := 31) hx hb hown kc_252 dX9_digest_113 ?_
          refine lv_lload_n hx hb dX9_digest_116 rfl (lv_at hl 0 rfl) ?_
          refine lv_lmul hx hb dX9_digest_117 ?_
          refine lv_aload_n hx hb dX9_digest_118 rfl (lv_at hl 1 rfl) ?_
          refine va_get (D := D) (ci := 8) (v := .ref q_a0_told) (C := RX9) (T := TX9) (N := 18) hx hb hts in_X9 hown hK hP 0 rfl rfl 0 (by decide) kf_7 (fun _ h9 => h9) rfl dX9_digest_119 ?_
          refine lv_bipush (v := 34) hx hb dX9_digest_122 (by decide) ?_
          refine lv_iload_n hx hb dX9_digest_124 rfl (lv_at hl 2 rfl) ?_
          refine lv_iadd hx hb dX9_digest_125 ?_
          refine va_iald hx hb hK hP 1 0 rfl rfl hf.1 dX9_digest_126 ?_
          have hf := hf.2
          refine lv_i2l hx hb dX9_digest_127 rfl ?_
          refine lv_ladd hx hb dX9_digest_128 ?_
          refine lv_lmul hx hb dX9_digest_129 ?_
          refine lv_aload_n hx hb dX9_digest_130 rfl (lv_at hl 1 rfl) ?_
          refine va_get (D := D) (ci := 8) (v := .ref q_a0_told) (C := RX9) (T := TX9) (N := 18) hx hb hts in_X9 hown hK hP 0 rfl rfl 0 (by decide) kf_7 (fun _ h9 => h9) rfl dX9_digest_131 ?_
          refine lv_bipush (v := 17) hx hb dX9_digest_134 (by decide) ?_
          refine va_iald hx hb hK hP 1 0 rfl rfl (by unfold vp_in; decide) dX9_digest_136 ?_
          refine lv_iload_n hx hb dX9_digest_137 rfl (lv_at hl 2 rfl) ?_
          refine lv_ishr hx hb dX9_digest_138 ?_
          refine lv_iconst (v := 1) hx hb dX9_digest_139 (by decide) ?_
          refine lv_iand hx hb dX9_digest_140 ?_
          refine lv_i2l hx hb dX9_digest_141 rfl ?_
          refine lv_ladd hx hb dX9_digest_142 ?_
          refine lv_lstore_n (lv' := [(1, .long ((31 * ((31 * ((31 * ((31 * ((31 * v_5) + ((a0_told (18 + v_6).toNatClampNeg).toInt64))) + ((a0_told (26 + v_6).toNatClampNeg).toInt64))) + r_10.toInt64)) + ((a0_told (34 + v_6).toNatClampNeg).toInt64))) + ((((a0_told (17 : Int32).toNatClampNeg) >>> (v_6 &&& 31)) &&& 1).toInt64))), (0, .ref q_a0), (3, .int v_6)]) hx hb dX9_digest_143 rfl hl (by decide) rfl (fun ls hl => ?_)
          refine lv_iinc (v := v_6 + 1) (lv' := [(3, .int (v_6 + 1)), (1, .long ((31 * ((31 * ((31 * ((31 * ((31 * v_5) + ((a0_told (18 + v_6).toNatClampNeg).toInt64))) + ((a0_told (26 + v_6).toNatClampNeg).toInt64))) + r_10.toInt64)) + ((a0_told (34 + v_6).toNatClampNeg).toInt64))) + ((((a0_told (17 : Int32).toNatClampNeg) >>> (v_6 &&& 31)) &&& 1).toInt64))), (0, .ref q_a0)]) hx hb dX9_digest_144 hl (k := 2) rfl rfl (by decide) rfl (fun ls hl => ?_)
          refine lv_goto (tgt := 59) hx hb dX9_digest_147 (by decide) ?_
          exact ih ((31 * ((31 * ((31 * ((31 * ((31 * v_5) + ((a0_told (18 + v_6).toNatClampNeg).toInt64))) + ((a0_told (26 + v_6).toNatClampNeg).toInt64))) + r_10.toInt64)) + ((a0_told (34 + v_6).toNatClampNeg).toInt64))) + ((((a0_told (17 : Int32).toNatClampNeg) >>> (v_6 &&& 31)) &&& 1).toInt64)) (v_6 + 1) ls hf (lv_sub hl [2, 1, 0] rfl)
    exact hlp_59 1000 v_4 0 ls hf (lv_sub hl [1, 2, 0] rfl)
  have hj_31 : ∀ (v_11 : Int64), jX9_digest_31 a0_told a0_above a0_below Q v_11 → ∀ ls : Array Slot, lv_has ls 4 [(0, .ref q_a0), (1, .long v_11)] → W p l e (headSpec wsX9_digest rmX9_digest).room s m ([.ref q_a0] : List Value).toArray below meth c s.heap [] 0 0 QQ (F0 m 31 ls []) := by
    intro v_11 hf ls hl
    unfold jX9_digest_31 at hf
    refine lv_iconst (v := 0) hx hb dX9_digest_31 (by decide) ?_
    refine lv_istore_n (lv' := [(3, .int 0), (0, .ref q_a0), (1, .long v_11)]) hx hb dX9_digest_32 rfl hl (by decide) rfl (fun ls hl => ?_)
    have hlp_33 : ∀ (n_33 : Nat) (v_12 : Int64) (v_13 : Int32) (ls : Array Slot), lq2 (bX9_digest_33 a0_told a0_above a0_below Q) n_33 v_12 v_13 → lv_has ls 4 [(0, .ref q_a0), (1, .long v_12), (3, .int v_13)] → W p l e (headSpec wsX9_digest rmX9_digest).room s m ([.ref q_a0] : List Value).toArray below meth c s.heap [] 0 0 QQ (F0 m 33 ls []) := by
      intro n_33
      induction n_33 with
      | zero => intro v_12 v_13 ls hf; exact (lq2_0 hf).elim
      | succ n_33 ih =>
        have ih_33 := ih
        intro v_12 v_13 ls hf hl
        have hf := lq2_s hf
        unfold bX9_digest_33 at hf
        refine lv_iload_n hx hb dX9_digest_33 rfl (lv_at hl 2 rfl) ?_
        refine lv_iconst (v := 5) hx hb dX9_digest_34 (by decide) ?_
        refine lv_icmp_ge (tgt := 57) hx hb dX9_digest_35 (by decide) (fun c_15 => ?_) (fun c_15 => ?_)
        · have hf := it_t c_15 hf
          exact hj_57 v_12 hf ls (lv_sub hl [0, 1] rfl)
        · have hf := it_f c_15 hf
          refine lv_ldc2 (v := 31) hx hb hown kc_252 dX9_digest_38 ?_
          refine lv_lload_n hx hb dX9_digest_41 rfl (lv_at hl 1 rfl) ?_
          refine lv_lmul hx hb dX9_digest_42 ?_
          refine lv_aload_n hx hb dX9_digest_43 rfl (lv_at hl 0 rfl) ?_
          refine lv_iload_n hx hb dX9_digest_44 rfl (lv_at hl 2 rfl) ?_
          refine ya_csi (va_runV (As := [.int v_13]) (rest := [.long (31 * v_12)]) ⟨hx, hb, hml, hown, hts⟩ (c_X9_nowOf l D cI cZ cO q_a0 q_a0_told q_a0_kept q_a0_isKept q_a0_refused q_a0_manyBy q_a0_hers q_a0_his q_a0_hand q_a0_bytes q_a0_anew q_a0_values a0_above a0_below a0_bytesLong a0_tokenAt a0_tokenLong a0_token a0_value a0_told v_13 _ hf) (cwV 1 hts gX9_digest_X9_nowOf rfl rfl rfl (by decide +kernel) ⟨Nat.le_of_ble_eq_true rfl, Nat.le_of_ble_eq_true rfl⟩) (pv_ro (ci := 8) (q0 := 0) (hP.sub [0, 1] rfl) hX rfl rfl) rfl rfl hl.1 rfl (lv_room (Nat.le_of_ble_eq_true rfl)) dX9_digest_45 ⟨Nat.zero_le _, Nat.zero_le _⟩) (fun r_16 hf => ?_)
          refine lv_i2l hx hb dX9_digest_48 rfl ?_
          refine lv_ladd hx hb dX9_digest_49 ?_
          refine lv_lstore_n (lv' := [(1, .long ((31 * v_12) + r_16.toInt64)), (0, .ref q_a0), (3, .int v_13)]) hx hb dX9_digest_50 rfl hl (by decide) rfl (fun ls hl => ?_)
          refine lv_iinc (v := v_13 + 1) (lv' := [(3, .int (v_13 + 1)), (1, .long ((31 * v_12) + r_16.toInt64)), (0, .ref q_a0)]) hx hb dX9_digest_51 hl (k := 2) rfl rfl (by decide) rfl (fun ls hl => ?_)
          refine lv_goto (tgt := 33) hx hb dX9_digest_54 (by decide) ?_
          exact ih ((31 * v_12) + r_16.toInt64) (v_13 + 1) ls hf (lv_sub hl [2, 1, 0] rfl)
    exact hlp_33 1000 v_11 0 ls hf (lv_sub hl [1, 2, 0] rfl)
  unfold p_X9_digest at hf
  refine lv_ldc2 (v := 1361) hx hb hown kc_254 dX9_digest_0 ?_
  refine lv_lstore_n (lv' := [(1, .long 1361), (0, .ref q_a0)]) hx hb dX9_digest_3 rfl hl (by decide) rfl (fun ls hl => ?_)
  refine lv_iconst (v := 0) hx hb dX9_digest_4 (by decide) ?_
  refine lv_istore_n (lv' := [(3, .int 0), (1, .long 1361), (0, .ref q_a0)]) hx hb dX9_digest_5 rfl hl (by decide) rfl (fun ls hl => ?_)
  have hlp_6 : ∀ (n_6 : Nat) (v_17 : Int64) (v_18 : Int32) (ls : Array Slot), lq2 (bX9_digest_6 a0_told a0_above a0_below a0_bytesLong Q) n_6 v_17 v_18 → lv_has ls 4 [(0, .ref q_a0), (1, .long v_17), (3, .int v_18)] → W p l e (headSpec wsX9_digest rmX9_digest).room s m ([.ref q_a0] : List Value).toArray below meth c s.heap [] 0 0 QQ (F0 m 6 ls []) := by
    intro n_6
    induction n_6 with
    | zero => intro v_17 v_18 ls hf; exact (lq2_0 hf).elim
    | succ n_6 ih =>
      have ih_6 := ih
      intro v_17 v_18 ls hf hl
      have hf := lq2_s hf
      unfold bX9_digest_6 at hf
      refine lv_iload_n hx hb dX9_digest_6 rfl (lv_at hl 2 rfl) ?_
      refine lv_bipush (v := 7) hx hb dX9_digest_7 (by decide) ?_
      refine lv_icmp_ge (tgt := 31) hx hb dX9_digest_9 (by decide) (fun c_20 => ?_) (fun c_20 => ?_)
      · have hf := it_t c_20 hf
        exact hj_31 v_17 hf ls (lv_sub hl [0, 1] rfl)
      · have hf := it_f c_20 hf
        refine lv_ldc2 (v := 31) hx hb hown kc_252 dX9_digest_12 ?_
        refine lv_lload_n hx hb dX9_digest_15 rfl (lv_at hl 1 rfl) ?_
        refine lv_lmul hx hb dX9_digest_16 ?_
        refine lv_aload_n hx hb dX9_digest_17 rfl (lv_at hl 0 rfl) ?_
        refine lv_iload_n hx hb dX9_digest_18 rfl (lv_at hl 2 rfl) ?_
        refine ya_csi (va_runV (As := [.int v_18]) (rest := [.long (31 * v_17)]) ⟨hx, hb, hml, hown, hts⟩ (c_X9_counted l D cI cZ cO q_a0 q_a0_told q_a0_kept q_a0_isKept q_a0_refused q_a0_manyBy q_a0_hers q_a0_his q_a0_hand q_a0_bytes q_a0_anew q_a0_values a0_above a0_below a0_bytesLong a0_tokenAt a0_tokenLong a0_token a0_value a0_told v_18 _ hf) (cwV 1 hts gX9_digest_X9_counted rfl rfl rfl (by decide +kernel) ⟨Nat.le_of_ble_eq_true rfl, Nat.le_of_ble_eq_true rfl⟩) (pv_ro (ci := 8) (q0 := 0) (hP.sub [0, 1] rfl) hX rfl rfl) rfl rfl hl.1 rfl (lv_room (Nat.le_of_ble_eq_true rfl)) dX9_digest_19 ⟨Nat.zero_le _, Nat.zero_le _⟩) (fun r_21 hf => ?_)
        refine lv_i2l hx hb dX9_digest_22 rfl ?_
        refine lv_ladd hx hb dX9_digest_23 ?_
        refine lv_lstore_n (lv' := [(1, .long ((31 * v_17) + r_21.toInt64)), (0, .ref q_a0), (3, .int v_18)]) hx hb dX9_digest_24 rfl hl (by decide) rfl (fun ls hl => ?_)
        refine lv_iinc (v := v_18 + 1) (lv' := [(3, .int (v_18 + 1)), (1, .long ((31 * v_17) + r_21.toInt64)), (0, .ref q_a0)]) hx hb dX9_digest_25 hl (k := 2) rfl rfl (by decide) rfl (fun ls hl => ?_)
        refine lv_goto (tgt := 6) hx hb dX9_digest_28 (by decide) ?_
        exact ih ((31 * v_17) + r_21.toInt64) (v_18 + 1) ls hf (lv_sub hl [2, 1, 0] rfl)
  exact hlp_6 1000 1361 0 ls hf (lv_sub hl [2, 1, 0] rfl)
