def p_X9_isSmall (x0 : Int32) (Q : Int32 → Prop) : Prop :=
  p_X9_in x0.toInt64 97 122 (fun r_1 => zb r_1 ∧ Q r_1)
def rmX9_isSmall : Room := { frames := 1, cells := 0, slots := 0, locals := 25 }
set_option maxHeartbeats 4000000 in
set_option maxRecDepth 100000 in
theorem c_X9_isSmall (l : Launch) (D : va_G) (cI cZ cO : ClassId) (x0 : Int32) (Q : Int32 → Prop) (hf : p_X9_isSmall x0 Q) : Met l yX9_isSmall wsX9_isSmall rmX9_isSmall (va_Pc [.int x0] (fun U => va_P D vwCl [] U.heap ∧ XK D cI cZ cO U)) (vp_Si Q) 0 0 (fun _ => False) := by
  refine Met.ofW (cc := cX9_isSmall) (maxL := 1) (ret := (some .boolean)) (by decide) rfl ?_
  intro p e s m args below meth c s₁ B hml hv
  obtain ⟨rfl, hP, hX⟩ := hv
  have hK := hX.1
  have hx := B.exec
  have hb := B.bytes
  have hr := B.returns
  have hts := atoms_spec (ws := wsX9_isSmall) B.pre
  have hown : s.vm.findClass RX9 = some m.cls := findClass_of_methodNamed B.named
  have hlocks := B.notSynchronized
  have kc_187 := hts (.constantLong RX9 187 (97)) (by decide +kernel)
  have kc_189 := hts (.constantLong RX9 189 (122)) (by decide +kernel)
  generalize hQQ : MQ below _ _ s _ _ _ = QQ
  have hl := lv_entry ([.int x0]) (n := 1) (Nat.le_of_ble_eq_true rfl)
  rw [lg_entry_eq]
  generalize (lg_sl ([.int x0]) ++ List.replicate (1 - (lg_sl ([.int x0])).length) Slot.unset).toArray = ls at hl ⊢
  have hl : lv_has ls 1 [(0, .int x0)] := hl
  unfold p_X9_isSmall at hf
  refine lv_iload_n hx hb dX9_isSmall_0 rfl (lv_at hl 0 rfl) ?_
  refine lv_i2l hx hb dX9_isSmall_1 rfl ?_
  refine lv_ldc2 (v := 97) hx hb hown kc_187 dX9_isSmall_2 ?_
  refine lv_ldc2 (v := 122) hx hb hown kc_189 dX9_isSmall_5 ?_
  refine ya_csi (va_runS (As := [.long x0.toInt64, .long 97, .long 122]) (rest := []) ⟨hx, hb, hml, hown, hts⟩ (c_X9_in l D cI cZ cO  x0.toInt64 97 122 _ hf) (va_cwS 3 hts gX9_isSmall_X9_in rfl rfl rfl (by decide +kernel) ⟨Nat.le_of_ble_eq_true rfl, Nat.le_of_ble_eq_true rfl⟩) (ps_ro va_P0 hX) rfl rfl hl.1 rfl (lv_room (Nat.le_of_ble_eq_true rfl)) dX9_isSmall_8 ⟨Nat.zero_le _, Nat.zero_le _⟩) (fun r_1 hf => ?_)
  subst hQQ
  have hz := hf.1
  have hf := hf.2
  exact W.zret hx hb hr hz (fun t ht hW => ⟨_, rfl, hf, ht⟩) (fun _ h => absurd h List.not_mem_nil) dX9_isSmall_11
def p_X9_isFigure (x0 : Int32) (Q : Int32 → Prop) : Prop :=
  p_X9_in x0.toInt64 48 57 (fun r_1 => zb r_1 ∧ Q r_1)
def rmX9_isFigure : Room := { frames := 1, cells := 0, slots := 0, locals := 25 }
set_option maxHeartbeats 4000000 in
set_option maxRecDepth 100000 in
theorem c_X9_isFigure (l : Launch) (D : va_G) (cI cZ cO : ClassId) (x0 : Int32) (Q : Int32 → Prop) (hf : p_X9_isFigure x0 Q) : Met l yX9_isFigure wsX9_isFigure rmX9_isFigure (va_Pc [.int x0] (fun U => va_P D vwCl [] U.heap ∧ XK D cI cZ cO U)) (vp_Si Q) 0 0 (fun _ => False) := by
  refine Met.ofW (cc := cX9_isFigure) (maxL := 1) (ret := (some .boolean)) (by decide) rfl ?_
  intro p e s m args below meth c s₁ B hml hv
  obtain ⟨rfl, hP, hX⟩ := hv
  have hK := hX.1
  have hx := B.exec
  have hb := B.bytes
  have hr := B.returns
  have hts := atoms_spec (ws := wsX9_isFigure) B.pre
  have hown : s.vm.findClass RX9 = some m.cls := findClass_of_methodNamed B.named
  have hlocks := B.notSynchronized
  have kc_191 := hts (.constantLong RX9 191 (48)) (by decide +kernel)
  have kc_193 := hts (.constantLong RX9 193 (57)) (by decide +kernel)
  generalize hQQ : MQ below _ _ s _ _ _ = QQ
  have hl := lv_entry ([.int x0]) (n := 1) (Nat.le_of_ble_eq_true rfl)
  rw [lg_entry_eq]
  generalize (lg_sl ([.int x0]) ++ List.replicate (1 - (lg_sl ([.int x0])).length) Slot.unset).toArray = ls at hl ⊢
  have hl : lv_has ls 1 [(0, .int x0)] := hl
  unfold p_X9_isFigure at hf
  refine lv_iload_n hx hb dX9_isFigure_0 rfl (lv_at hl 0 rfl) ?_
  refine lv_i2l hx hb dX9_isFigure_1 rfl ?_
  refine lv_ldc2 (v := 48) hx hb hown kc_191 dX9_isFigure_2 ?_
  refine lv_ldc2 (v := 57) hx hb hown kc_193 dX9_isFigure_5 ?_
  refine ya_csi (va_runS (As := [.long x0.toInt64, .long 48, .long 57]) (rest := []) ⟨hx, hb, hml, hown, hts⟩ (c_X9_in l D cI cZ cO  x0.toInt64 48 57 _ hf) (va_cwS 3 hts gX9_isFigure_X9_in rfl rfl rfl (by decide +kernel) ⟨Nat.le_of_ble_eq_true rfl, Nat.le_of_ble_eq_true rfl⟩) (ps_ro va_P0 hX) rfl rfl hl.1 rfl (lv_room (Nat.le_of_ble_eq_true rfl)) dX9_isFigure_8 ⟨Nat.zero_le _, Nat.zero_le _⟩) (fun r_1 hf => ?_)
  subst hQQ
  have hz := hf.1
  have hf := hf.2
  exact W.zret hx hb hr hz (fun t ht hW => ⟨_, rfl, hf, ht⟩) (fun _ h => absurd h List.not_mem_nil) dX9_isFigure_11
def jX9_lookAt_274 (Q : Int32 → Int32 → Int32 → Int32 → Prop) (w_1 : Int32) (w_2 : Int32) (w_3 : Int32) (w_4 : Int32) : Prop :=
  if w_3 = 2 then (if w_2 ≤ 2 then (Q w_1 w_2 w_3 w_4) else (Q w_1 w_2 4 w_4)) else (Q w_1 w_2 w_3 w_4)
def bX9_lookAt_218 (a0_bytes : Nat → Int32) (Q : Int32 → Int32 → Int32 → Int32 → Prop) (w_7 : Int32) (w_8 : Int32) (w_9 : Int32) (k_13 : Int32 → Int32 → Prop) (w_11 : Int32) (v_12 : Int32) : Prop :=
  if w_8 ≤ v_12 then (jX9_lookAt_274 Q w_7 w_8 w_9 w_11) else (if 2 ≤ v_12 then (jX9_lookAt_274 Q w_7 w_8 w_9 w_11) else (if w_9 = 2 then (vp_in (w_7 + v_12) 150 ∧ (k_13 (((10 * w_11) + (a0_bytes (w_7 + v_12).toNatClampNeg)) - 48) (v_12 + 1))) else (jX9_lookAt_274 Q w_7 w_8 w_9 w_11)))
def jX9_lookAt_215 (a0_bytes : Nat → Int32) (Q : Int32 → Int32 → Int32 → Int32 → Prop) (w_7 : Int32) (w_8 : Int32) (w_9 : Int32) (w_10 : Int32) : Prop :=
  lq2 (bX9_lookAt_218 a0_bytes Q w_7 w_8 w_9) 1000 w_10 0
def jX9_lookAt_193 (k_24 : Int32 → Int32 → Prop) (w_22 : Int32) (t_25 : Int32) : Prop :=
  if t_25 = 0 then (k_24 (w_22 + 0) t_25) else (k_24 (w_22 + 1) t_25)
def bX9_lookAt_136 (a0_bytes : Nat → Int32) (a0_bytesLong : Int32) (Q : Int32 → Int32 → Int32 → Int32 → Prop) (w_17 : Int32) (w_19 : Int32) (w_20 : Int32) (k_24 : Int32 → Int32 → Prop) (w_22 : Int32) (v_23 : Int32) : Prop :=
  if v_23 = 0 then (jX9_lookAt_215 a0_bytes Q w_17 w_22 w_19 w_20) else (if a0_bytesLong ≤ (w_17 + w_22) then (jX9_lookAt_215 a0_bytes Q w_17 w_22 w_19 w_20) else (vp_in (w_17 + w_22) 150 ∧ (if w_19 = 1 then (p_X9_isSmall (a0_bytes (w_17 + w_22).toNatClampNeg) (fun r_31 => jX9_lookAt_193 k_24 w_22 r_31)) else (p_X9_isFigure (a0_bytes (w_17 + w_22).toNatClampNeg) (fun r_30 => jX9_lookAt_193 k_24 w_22 r_30)))))
def jX9_lookAt_135 (a0_bytes : Nat → Int32) (a0_bytesLong : Int32) (Q : Int32 → Int32 → Int32 → Int32 → Prop) (w_17 : Int32) (w_18 : Int32) (w_19 : Int32) (w_20 : Int32) (t_21 : Int32) : Prop :=
  lq2 (bX9_lookAt_136 a0_bytes a0_bytesLong Q w_17 w_19 w_20) 1000 w_18 t_21
def jX9_lookAt_114 (a0_bytes : Nat → Int32) (a0_bytesLong : Int32) (Q : Int32 → Int32 → Int32 → Int32 → Prop) (w_32 : Int32) (w_33 : Int32) (w_34 : Int32) (w_35 : Int32) (t_36 : Int32) : Prop :=
  if 3 ≤ t_36 then (jX9_lookAt_135 a0_bytes a0_bytesLong Q w_32 1 t_36 w_35 0) else (jX9_lookAt_135 a0_bytes a0_bytesLong Q w_32 1 t_36 w_35 1)
def jX9_lookAt_43 (a0_bytes : Nat → Int32) (a0_bytesLong : Int32) (Q : Int32 → Int32 → Int32 → Int32 → Prop) (w_38 : Int32) : Prop :=
  if w_38 = a0_bytesLong then (Q w_38 0 0 0) else (vp_in w_38 150 ∧ (p_X9_isSmall (a0_bytes w_38.toNatClampNeg) (fun r_40 => if r_40 = 0 then (p_X9_isFigure (a0_bytes w_38.toNatClampNeg) (fun r_42 => if r_42 = 0 then (if (a0_bytes w_38.toNatClampNeg) = 59 then (jX9_lookAt_114 a0_bytes a0_bytesLong Q w_38 0 0 0 3) else (jX9_lookAt_114 a0_bytes a0_bytesLong Q w_38 0 0 0 4)) else (jX9_lookAt_114 a0_bytes a0_bytesLong Q w_38 0 0 0 2))) else (jX9_lookAt_114 a0_bytes a0_bytesLong Q w_38 0 0 0 1))))
def bX9_lookAt_5 (a0_bytes : Nat → Int32) (a0_bytesLong : Int32) (Q : Int32 → Int32 → Int32 → Int32 → Prop) (k_46 : Int32 → Prop) (w_45 : Int32) : Prop :=
  if a0_bytesLong ≤ w_45 then (jX9_lookAt_43 a0_bytes a0_bytesLong Q w_45) else (vp_in w_45 150 ∧ (if (a0_bytes w_45.toNatClampNeg) = 32 then (k_46 (w_45 + 1)) else (jX9_lookAt_43 a0_bytes a0_bytesLong Q w_45)))
def p_X9_lookAt (a0_bytes : Nat → Int32) (a0_bytesLong : Int32) (a0_tokenAt : Int32) (a0_tokenLong : Int32) (a0_token : Int32) (a0_value : Int32) (x1 : Int32) (Q : Int32 → Int32 → Int32 → Int32 → Prop) : Prop :=
  lq1 (bX9_lookAt_5 a0_bytes a0_bytesLong Q) 1000 x1
def rmX9_lookAt : Room := { frames := 2, cells := 0, slots := 0, locals := 45 }
set_option maxHeartbeats 4000000 in
set_option maxRecDepth 100000 in
theorem c_X9_lookAt (l : Launch) (D : va_G) (cI cZ cO : ClassId) (q_a0 q_a0_told q_a0_kept q_a0_isKept q_a0_refused q_a0_manyBy q_a0_hers q_a0_his q_a0_hand q_a0_bytes q_a0_anew q_a0_values : Nat) (a0_above : Int64) (a0_below : Int64) (a0_bytesLong : Int32) (a0_tokenAt : Int32) (a0_tokenLong : Int32) (a0_token : Int32) (a0_value : Int32) (a0_bytes : Nat → Int32) (sz : Nat) (x1 : Int32) (Q : Int32 → Int32 → Int32 → Int32 → Prop) (hf : p_X9_lookAt a0_bytes a0_bytesLong a0_tokenAt a0_tokenLong a0_token a0_value x1 Q) : Met l yX9_lookAt wsX9_lookAt rmX9_lookAt (va_Pc [.ref q_a0, .int x1] (fun U => U.heap.size = sz ∧ va_P D vwCl [(q_a0, .inr (8, [.ref q_a0_told, .ref q_a0_kept, .ref q_a0_isKept, .ref q_a0_refused, .long a0_above, .long a0_below, .ref q_a0_manyBy, .ref q_a0_hers, .ref q_a0_his, .ref q_a0_hand, .ref q_a0_bytes, .int a0_bytesLong, .int a0_tokenAt, .int a0_tokenLong, .int a0_token, .int a0_value, .ref q_a0_anew, .ref q_a0_values])), (q_a0_bytes, .inl (cI, 150, .inl a0_bytes))] U.heap ∧ XK D cI cZ cO U ∧ va_D (fun _ => True) [(q_a0, .inr (8, [.ref q_a0_told, .ref q_a0_kept, .ref q_a0_isKept, .ref q_a0_refused, .long a0_above, .long a0_below, .ref q_a0_manyBy, .ref q_a0_hers, .ref q_a0_his, .ref q_a0_hand, .ref q_a0_bytes, .int a0_bytesLong, .int a0_tokenAt, .int a0_tokenLong, .int a0_token, .int a0_value, .ref q_a0_anew, .ref q_a0_values])), (q_a0_bytes, .inl (cI, 150, .inl a0_bytes))])) (va_Qv (fun (u : Int32 × Int32 × Int32 × Int32) => Q u.1 u.2.1 u.2.2.1 u.2.2.2) (fun (u : Int32 × Int32 × Int32 × Int32) t => va_P D vwCl [(q_a0, .inr (8, [.ref q_a0_told, .ref q_a0_kept, .ref q_a0_isKept, .ref q_a0_refused, .long a0_above, .long a0_below, .ref q_a0_manyBy, .ref q_a0_hers, .ref q_a0_his, .ref q_a0_hand, .ref q_a0_bytes, .int a0_bytesLong, .int u.1, .int u.2.1, .int u.2.2.1, .int u.2.2.2, .ref q_a0_anew, .ref q_a0_values])), (q_a0_bytes, .inl (cI, 150, .inl a0_bytes))] t.heap ∧ va_D (va_A [(q_a0, .inr (8, [.ref q_a0_told, .ref q_a0_kept, .ref q_a0_isKept, .ref q_a0_refused, .long a0_above, .long a0_below, .ref q_a0_manyBy, .ref q_a0_hers, .ref q_a0_his, .ref q_a0_hand, .ref q_a0_bytes, .int a0_bytesLong, .int a0_tokenAt, .int a0_tokenLong, .int a0_token, .int a0_value, .ref q_a0_anew, .ref q_a0_values])), (q_a0_bytes, .inl (cI, 150, .inl a0_bytes))] sz) [(q_a0, .inr (8, [.ref q_a0_told, .ref q_a0_kept, .ref q_a0_isKept, .ref q_a0_refused, .long a0_above, .long a0_below, .ref q_a0_manyBy, .ref q_a0_hers, .ref q_a0_his, .ref q_a0_hand, .ref q_a0_bytes, .int a0_bytesLong, .int u.1, .int u.2.1, .int u.2.2.1, .int u.2.2.2, .ref q_a0_anew, .ref q_a0_values])), (q_a0_bytes, .inl (cI, 150, .inl a0_bytes))]) (va_A [(q_a0, .inr (8, [.ref q_a0_told, .ref q_a0_kept, .ref q_a0_isKept, .ref q_a0_refused, .long a0_above, .long a0_below, .ref q_a0_manyBy, .ref q_a0_hers, .ref q_a0_his, .ref q_a0_hand, .ref q_a0_bytes, .int a0_bytesLong, .int a0_tokenAt, .int a0_tokenLong, .int a0_token, .int a0_value, .ref q_a0_anew, .ref q_a0_values])), (q_a0_bytes, .inl (cI, 150, .inl a0_bytes))] sz)) 0 0 (va_A [(q_a0, .inr (8, [.ref q_a0_told, .ref q_a0_kept, .ref q_a0_isKept, .ref q_a0_refused, .long a0_above, .long a0_below, .ref q_a0_manyBy, .ref q_a0_hers, .ref q_a0_his, .ref q_a0_hand, .ref q_a0_bytes, .int a0_bytesLong, .int a0_tokenAt, .int a0_tokenLong, .int a0_token, .int a0_value, .ref q_a0_anew, .ref q_a0_values])), (q_a0_bytes, .inl (cI, 150, .inl a0_bytes))] sz) := by
  refine Met.ofW (cc := cX9_lookAt) (maxL := 5) (ret := none) (by decide) rfl ?_
  intro p e s m args below meth c s₁ B hml hv
  obtain ⟨rfl, hsz, hP, hX, hD0⟩ := hv
  have hK := hX.1
  have hx := B.exec
  have hb := B.bytes
  have hr := B.returns
  have hts := atoms_spec (ws := wsX9_lookAt) B.pre
  have hown : s.vm.findClass RX9 = some m.cls := findClass_of_methodNamed B.named
  have hlocks := B.notSynchronized
  have in_X9 : ∀ w ∈ wsX90, w ∈ wsX9_lookAt := fun _ h => List.mem_cons_of_mem _ (List.mem_append_right _ h)
  have kf_201 := hts (.fieldLink RX9 201 "LeftCrestModel" "token" "I") (by decide +kernel)
  have kf_198 := hts (.fieldLink RX9 198 "LeftCrestModel" "tokenLong" "I") (by decide +kernel)
  have kf_204 := hts (.fieldLink RX9 204 "LeftCrestModel" "value" "I") (by decide +kernel)
  have kf_39 := hts (.fieldLink RX9 39 "LeftCrestModel" "bytes" "[I") (by decide +kernel)
  have kf_195 := hts (.fieldLink RX9 195 "LeftCrestModel" "tokenAt" "I") (by decide +kernel)
  have kf_183 := hts (.fieldLink RX9 183 "LeftCrestModel" "bytesLong" "I") (by decide +kernel)
  subst hsz
  have hD := hD0.self (sz := s.heap.size)
  generalize hAe : va_A [(q_a0, .inr (8, [.ref q_a0_told, .ref q_a0_kept, .ref q_a0_isKept, .ref q_a0_refused, .long a0_above, .long a0_below, .ref q_a0_manyBy, .ref q_a0_hers, .ref q_a0_his, .ref q_a0_hand, .ref q_a0_bytes, .int a0_bytesLong, .int a0_tokenAt, .int a0_tokenLong, .int a0_token, .int a0_value, .ref q_a0_anew, .ref q_a0_values])), (q_a0_bytes, .inl (cI, 150, .inl a0_bytes))] s.heap.size = A at hD ⊢
  have hA : ∀ q : Nat, s.heap.size ≤ q → A q := fun q h => by rw [← hAe]; exact Or.inr h
  have hS : va_S A s.heap s.heap [] := va_S.rf
  have hP : va_P D vwCl [(q_a0, .inr (8, [.ref q_a0_told, .ref q_a0_kept, .ref q_a0_isKept, .ref q_a0_refused, .long a0_above, .long a0_below, .ref q_a0_manyBy, .ref q_a0_hers, .ref q_a0_his, .ref q_a0_hand, .ref q_a0_bytes, .int a0_bytesLong, .int a0_tokenAt, .int a0_tokenLong, .int a0_token, .int a0_value, .ref q_a0_anew, .ref q_a0_values])), (q_a0_bytes, .inl (cI, 150, .inl a0_bytes))] s.heap := hP
  generalize hQQ : MQ below _ _ s _ _ _ = QQ
  have hl := lv_entry ([.ref q_a0, .int x1]) (n := 5) (Nat.le_of_ble_eq_true rfl)
  rw [lg_entry_eq]
  generalize (lg_sl ([.ref q_a0, .int x1]) ++ List.replicate (5 - (lg_sl ([.ref q_a0, .int x1])).length) Slot.unset).toArray = ls at hl ⊢
  have hl : lv_has ls 5 [(0, .ref q_a0), (1, .int x1)] := hl
  have hj_274 : ∀ (w_1 : Int32) (w_2 : Int32) (w_3 : Int32) (w_4 : Int32) (H : Heap) (locs : List Loc), jX9_lookAt_274 Q w_1 w_2 w_3 w_4 → va_P D vwCl [(q_a0, .inr (8, [.ref q_a0_told, .ref q_a0_kept, .ref q_a0_isKept, .ref q_a0_refused, .long a0_above, .long a0_below, .ref q_a0_manyBy, .ref q_a0_hers, .ref q_a0_his, .ref q_a0_hand, .ref q_a0_bytes, .int a0_bytesLong, .int w_1, .int w_2, .int w_3, .int w_4, .ref q_a0_anew, .ref q_a0_values])), (q_a0_bytes, .inl (cI, 150, .inl a0_bytes))] H → va_D A [(q_a0, .inr (8, [.ref q_a0_told, .ref q_a0_kept, .ref q_a0_isKept, .ref q_a0_refused, .long a0_above, .long a0_below, .ref q_a0_manyBy, .ref q_a0_hers, .ref q_a0_his, .ref q_a0_hand, .ref q_a0_bytes, .int a0_bytesLong, .int w_1, .int w_2, .int w_3, .int w_4, .ref q_a0_anew, .ref q_a0_values])), (q_a0_bytes, .inl (cI, 150, .inl a0_bytes))] → va_S A s.heap H locs → ∀ ls : Array Slot, lv_has ls 5 [(0, .ref q_a0)] → W p l e (headSpec wsX9_lookAt rmX9_lookAt).room s m ([.ref q_a0, .int x1] : List Value).toArray below meth c H locs 0 0 QQ (F0 m 274 ls []) := by
    intro w_1 w_2 w_3 w_4 H locs hf hP hD hS ls hl
    unfold jX9_lookAt_274 at hf
    refine lv_aload_n hx hb dX9_lookAt_274 rfl (lv_at hl 0 rfl) ?_
    refine lv_aload_n hx hb dX9_lookAt_275 rfl (lv_at hl 0 rfl) ?_
    refine va_get (D := D) (ci := 8) (v := .int w_3) (C := RX9) (T := TX9) (N := 18) hx hb hts in_X9 hown hK hP 0 rfl rfl 14 (by decide) kf_201 (fun _ h9 => h9) rfl dX9_lookAt_276 ?_
    refine lv_iconst (v := 2) hx hb dX9_lookAt_279 (by decide) ?_
    refine lv_icmp_ne (tgt := 295) hx hb dX9_lookAt_280 (by decide) (fun c_5 => ?_) (fun c_5 => ?_)
    · have hf := it_f c_5 hf
      refine lv_aload_n hx hb dX9_lookAt_295 rfl (lv_at hl 0 rfl) ?_
      refine va_get (D := D) (ci := 8) (v := .int w_3) (C := RX9) (T := TX9) (N := 18) hx hb hts in_X9 hown hK hP 0 rfl rfl 14 (by decide) kf_201 (fun _ h9 => h9) rfl dX9_lookAt_296 ?_
      refine va_put (D := D) (ci := 8) (v := .int w_3) (ty := .int) (C := RX9) (T := TX9) (N := 18) hx hb hts in_X9 tyX9 tyX9_ok nmX9 hown hK hP hD hS 0 rfl rfl 14 (by decide) kf_201 (fun _ h9 => h9) rfl (by decide +kernel) rfl rfl (Nat.le_of_ble_eq_true rfl) dX9_lookAt_299 (fun H locs hP hD hS => ?_)
      have hP : va_P D vwCl [(q_a0, .inr (8, [.ref q_a0_told, .ref q_a0_kept, .ref q_a0_isKept, .ref q_a0_refused, .long a0_above, .long a0_below, .ref q_a0_manyBy, .ref q_a0_hers, .ref q_a0_his, .ref q_a0_hand, .ref q_a0_bytes, .int a0_bytesLong, .int w_1, .int w_2, .int w_3, .int w_4, .ref q_a0_anew, .ref q_a0_values])), (q_a0_bytes, .inl (cI, 150, .inl a0_bytes))] H := hP
      have hD : va_D A [(q_a0, .inr (8, [.ref q_a0_told, .ref q_a0_kept, .ref q_a0_isKept, .ref q_a0_refused, .long a0_above, .long a0_below, .ref q_a0_manyBy, .ref q_a0_hers, .ref q_a0_his, .ref q_a0_hand, .ref q_a0_bytes, .int a0_bytesLong, .int w_1, .int w_2, .int w_3, .int w_4, .ref q_a0_anew, .ref q_a0_values])), (q_a0_bytes, .inl (cI, 150, .inl a0_bytes))] := hD
      subst hQQ
      have hP9 := hP.sub (ws' := [(q_a0, .inr (8, [.ref q_a0_told, .ref q_a0_kept, .ref q_a0_isKept, .ref q_a0_refused, .long a0_above, .long a0_below, .ref q_a0_manyBy, .ref q_a0_hers, .ref q_a0_his, .ref q_a0_hand, .ref q_a0_bytes, .int a0_bytesLong, .int w_1, .int w_2, .int w_3, .int w_4, .ref q_a0_anew, .ref q_a0_values])), (q_a0_bytes, .inl (cI, 150, .inl a0_bytes))]) [0, 1] rfl
      have hD9 := hD.sub (ws' := [(q_a0, .inr (8, [.ref q_a0_told, .ref q_a0_kept, .ref q_a0_isKept, .ref q_a0_refused, .long a0_above, .long a0_below, .ref q_a0_manyBy, .ref q_a0_hers, .ref q_a0_his, .ref q_a0_hand, .ref q_a0_bytes, .int a0_bytesLong, .int w_1, .int w_2, .int w_3, .int w_4, .ref q_a0_anew, .ref q_a0_values])), (q_a0_bytes, .inl (cI, 150, .inl a0_bytes))]) [0, 1] (by decide) rfl
      exact W.vret hx hb hr (fun t ht hW => ⟨⟨(w_1, w_2, w_3, w_4), rfl, hf, by rw [ht]; exact hP9, hD9⟩, hS.F ht⟩) hS.2.2 dX9_lookAt_302
    · have hf := it_t c_5 hf
      refine lv_aload_n hx hb dX9_lookAt_283 rfl (lv_at hl 0 rfl) ?_
      refine va_get (D := D) (ci := 8) (v := .int w_2) (C := RX9) (T := TX9) (N := 18) hx hb hts in_X9 hown hK hP 0 rfl rfl 13 (by decide) kf_198 (fun _ h9 => h9) rfl dX9_lookAt_284 ?_
      refine lv_iconst (v := 2) hx hb dX9_lookAt_287 (by decide) ?_
      refine lv_icmp_le (tgt := 295) hx hb dX9_lookAt_288 (by decide) (fun c_6 => ?_) (fun c_6 => ?_)
      · have hf := it_t c_6 hf
        refine lv_aload_n hx hb dX9_lookAt_295 rfl (lv_at hl 0 rfl) ?_
        refine va_get (D := D) (ci := 8) (v := .int w_3) (C := RX9) (T := TX9) (N := 18) hx hb hts in_X9 hown hK hP 0 rfl rfl 14 (by decide) kf_201 (fun _ h9 => h9) rfl dX9_lookAt_296 ?_
        refine va_put (D := D) (ci := 8) (v := .int w_3) (ty := .int) (C := RX9) (T := TX9) (N := 18) hx hb hts in_X9 tyX9 tyX9_ok nmX9 hown hK hP hD hS 0 rfl rfl 14 (by decide) kf_201 (fun _ h9 => h9) rfl (by decide +kernel) rfl rfl (Nat.le_of_ble_eq_true rfl) dX9_lookAt_299 (fun H locs hP hD hS => ?_)
        have hP : va_P D vwCl [(q_a0, .inr (8, [.ref q_a0_told, .ref q_a0_kept, .ref q_a0_isKept, .ref q_a0_refused, .long a0_above, .long a0_below, .ref q_a0_manyBy, .ref q_a0_hers, .ref q_a0_his, .ref q_a0_hand, .ref q_a0_bytes, .int a0_bytesLong, .int w_1, .int w_2, .int w_3, .int w_4, .ref q_a0_anew, .ref q_a0_values])), (q_a0_bytes, .inl (cI, 150, .inl a0_bytes))] H := hP
        have hD : va_D A [(q_a0, .inr (8, [.ref q_a0_told, .ref q_a0_kept, .ref q_a0_isKept, .ref q_a0_refused, .long a0_above, .long a0_below, .ref q_a0_manyBy, .ref q_a0_hers, .ref q_a0_his, .ref q_a0_hand, .ref q_a0_bytes, .int a0_bytesLong, .int w_1, .int w_2, .int w_3, .int w_4, .ref q_a0_anew, .ref q_a0_values])), (q_a0_bytes, .inl (cI, 150, .inl a0_bytes))] := hD
        subst hQQ
        have hP9 := hP.sub (ws' := [(q_a0, .inr (8, [.ref q_a0_told, .ref q_a0_kept, .ref q_a0_isKept, .ref q_a0_refused, .long a0_above, .long a0_below, .ref q_a0_manyBy, .ref q_a0_hers, .ref q_a0_his, .ref q_a0_hand, .ref q_a0_bytes, .int a0_bytesLong, .int w_1, .int w_2, .int w_3, .int w_4, .ref q_a0_anew, .ref q_a0_values])), (q_a0_bytes, .inl (cI, 150, .inl a0_bytes))]) [0, 1] rfl
        have hD9 := hD.sub (ws' := [(q_a0, .inr (8, [.ref q_a0_told, .ref q_a0_kept, .ref q_a0_isKept, .ref q_a0_refused, .long a0_above, .long a0_below, .ref q_a0_manyBy, .ref q_a0_hers, .ref q_a0_his, .ref q_a0_hand, .ref q_a0_bytes, .int a0_bytesLong, .int w_1, .int w_2, .int w_3, .int w_4, .ref q_a0_anew, .ref q_a0_values])), (q_a0_bytes, .inl (cI, 150, .inl a0_bytes))]) [0, 1] (by decide) rfl
        exact W.vret hx hb hr (fun t ht hW => ⟨⟨(w_1, w_2, w_3, w_4), rfl, hf, by rw [ht]; exact hP9, hD9⟩, hS.F ht⟩) hS.2.2 dX9_lookAt_302
      · have hf := it_f c_6 hf
        refine lv_iconst (v := 4) hx hb dX9_lookAt_291 (by decide) ?_
        refine lv_goto (tgt := 299) hx hb dX9_lookAt_292 (by decide) ?_
        refine va_put (D := D) (ci := 8) (v := .int 4) (ty := .int) (C := RX9) (T := TX9) (N := 18) hx hb hts in_X9 tyX9 tyX9_ok nmX9 hown hK hP hD hS 0 rfl rfl 14 (by decide) kf_201 (fun _ h9 => h9) rfl (by decide +kernel) rfl rfl (Nat.le_of_ble_eq_true rfl) dX9_lookAt_299 (fun H locs hP hD hS => ?_)
        have hP : va_P D vwCl [(q_a0, .inr (8, [.ref q_a0_told, .ref q_a0_kept, .ref q_a0_isKept, .ref q_a0_refused, .long a0_above, .long a0_below, .ref q_a0_manyBy, .ref q_a0_hers, .ref q_a0_his, .ref q_a0_hand, .ref q_a0_bytes, .int a0_bytesLong, .int w_1, .int w_2, .int 4, .int w_4, .ref q_a0_anew, .ref q_a0_values])), (q_a0_bytes, .inl (cI, 150, .inl a0_bytes))] H := hP
        have hD : va_D A [(q_a0, .inr (8, [.ref q_a0_told, .ref q_a0_kept, .ref q_a0_isKept, .ref q_a0_refused, .long a0_above, .long a0_below, .ref q_a0_manyBy, .ref q_a0_hers, .ref q_a0_his, .ref q_a0_hand, .ref q_a0_bytes, .int a0_bytesLong, .int w_1, .int w_2, .int 4, .int w_4, .ref q_a0_anew, .ref q_a0_values])), (q_a0_bytes, .inl (cI, 150, .inl a0_bytes))] := hD
        subst hQQ
        have hP9 := hP.sub (ws' := [(q_a0, .inr (8, [.ref q_a0_told, .ref q_a0_kept, .ref q_a0_isKept, .ref q_a0_refused, .long a0_above, .long a0_below, .ref q_a0_manyBy, .ref q_a0_hers, .ref q_a0_his, .ref q_a0_hand, .ref q_a0_bytes, .int a0_bytesLong, .int w_1, .int w_2, .int 4, .int w_4, .ref q_a0_anew, .ref q_a0_values])), (q_a0_bytes, .inl (cI, 150, .inl a0_bytes))]) [0, 1] rfl
        have hD9 := hD.sub (ws' := [(q_a0, .inr (8, [.ref q_a0_told, .ref q_a0_kept, .ref q_a0_isKept, .ref q_a0_refused, .long a0_above, .long a0_below, .ref q_a0_manyBy, .ref q_a0_hers, .ref q_a0_his, .ref q_a0_hand, .ref q_a0_bytes, .int a0_bytesLong, .int w_1, .int w_2, .int 4, .int w_4, .ref q_a0_anew, .ref q_a0_values])), (q_a0_bytes, .inl (cI, 150, .inl a0_bytes))]) [0, 1] (by decide) rfl
        exact W.vret hx hb hr (fun t ht hW => ⟨⟨(w_1, w_2, 4, w_4), rfl, hf, by rw [ht]; exact hP9, hD9⟩, hS.F ht⟩) hS.2.2 dX9_lookAt_302
  have hj_215 : ∀ (w_7 : Int32) (w_8 : Int32) (w_9 : Int32) (w_10 : Int32) (H : Heap) (locs : List Loc), jX9_lookAt_215 a0_bytes Q w_7 w_8 w_9 w_10 → va_P D vwCl [(q_a0, .inr (8, [.ref q_a0_told, .ref q_a0_kept, .ref q_a0_isKept, .ref q_a0_refused, .long a0_above, .long a0_below, .ref q_a0_manyBy, .ref q_a0_hers, .ref q_a0_his, .ref q_a0_hand, .ref q_a0_bytes, .int a0_bytesLong, .int w_7, .int w_8, .int w_9, .int w_10, .ref q_a0_anew, .ref q_a0_values])), (q_a0_bytes, .inl (cI, 150, .inl a0_bytes))] H → va_D A [(q_a0, .inr (8, [.ref q_a0_told, .ref q_a0_kept, .ref q_a0_isKept, .ref q_a0_refused, .long a0_above, .long a0_below, .ref q_a0_manyBy, .ref q_a0_hers, .ref q_a0_his, .ref q_a0_hand, .ref q_a0_bytes, .int a0_bytesLong, .int w_7, .int w_8, .int w_9, .int w_10, .ref q_a0_anew, .ref q_a0_values])), (q_a0_bytes, .inl (cI, 150, .inl a0_bytes))] → va_S A s.heap H locs → ∀ ls : Array Slot, lv_has ls 5 [(0, .ref q_a0)] → W p l e (headSpec wsX9_lookAt rmX9_lookAt).room s m ([.ref q_a0, .int x1] : List Value).toArray below meth c H locs 0 0 QQ (F0 m 215 ls []) := by
    intro w_7 w_8 w_9 w_10 H locs hf hP hD hS ls hl
    unfold jX9_lookAt_215 at hf
    refine lv_iconst (v := 0) hx hb dX9_lookAt_215 (by decide) ?_
    refine lv_istore (lv' := [(4, .int 0), (0, .ref q_a0)]) hx hb dX9_lookAt_216 hl (by decide) rfl (fun ls hl => ?_)
    have hlp_218 : ∀ (n_218 : Nat) (w_11 : Int32) (v_12 : Int32) (H : Heap) (locs : List Loc) (ls : Array Slot), lq2 (bX9_lookAt_218 a0_bytes Q w_7 w_8 w_9) n_218 w_11 v_12 → va_P D vwCl [(q_a0, .inr (8, [.ref q_a0_told, .ref q_a0_kept, .ref q_a0_isKept, .ref q_a0_refused, .long a0_above, .long a0_below, .ref q_a0_manyBy, .ref q_a0_hers, .ref q_a0_his, .ref q_a0_hand, .ref q_a0_bytes, .int a0_bytesLong, .int w_7, .int w_8, .int w_9, .int w_11, .ref q_a0_anew, .ref q_a0_values])), (q_a0_bytes, .inl (cI, 150, .inl a0_bytes))] H → va_D A [(q_a0, .inr (8, [.ref q_a0_told, .ref q_a0_kept, .ref q_a0_isKept, .ref q_a0_refused, .long a0_above, .long a0_below, .ref q_a0_manyBy, .ref q_a0_hers, .ref q_a0_his, .ref q_a0_hand, .ref q_a0_bytes, .int a0_bytesLong, .int w_7, .int w_8, .int w_9, .int w_11, .ref q_a0_anew, .ref q_a0_values])), (q_a0_bytes, .inl (cI, 150, .inl a0_bytes))] → va_S A s.heap H locs → lv_has ls 5 [(0, .ref q_a0), (4, .int v_12)] → W p l e (headSpec wsX9_lookAt rmX9_lookAt).room s m ([.ref q_a0, .int x1] : List Value).toArray below meth c H locs 0 0 QQ (F0 m 218 ls []) := by
      intro n_218
      induction n_218 with
      | zero => intro w_11 v_12 H locs ls hf; exact (lq2_0 hf).elim
      | succ n_218 ih =>
        have ih_218 := ih
        intro w_11 v_12 H locs ls hf hP hD hS hl
        have hf := lq2_s hf
        unfold bX9_lookAt_218 at hf
        refine lv_iload hx hb dX9_lookAt_218 (lv_at hl 1 rfl) ?_
        refine lv_aload_n hx hb dX9_lookAt_220 rfl (lv_at hl 0 rfl) ?_
        refine va_get (D := D) (ci := 8) (v := .int w_8) (C := RX9) (T := TX9) (N := 18) hx hb hts in_X9 hown hK hP 0 rfl rfl 13 (by decide) kf_198 (fun _ h9 => h9) rfl dX9_lookAt_221 ?_
        refine lv_icmp_ge (tgt := 274) hx hb dX9_lookAt_224 (by decide) (fun c_14 => ?_) (fun c_14 => ?_)
        · have hf := it_t c_14 hf
          exact hj_274 w_7 w_8 w_9 w_11 _ _ hf (hP.sub [0, 1] rfl) (hD.sub [0, 1] (by decide) rfl) hS ls (lv_sub hl [0] rfl)
        · have hf := it_f c_14 hf
          refine lv_iload hx hb dX9_lookAt_227 (lv_at hl 1 rfl) ?_
          refine lv_iconst (v := 2) hx hb dX9_lookAt_229 (by decide) ?_
          refine lv_icmp_ge (tgt := 274) hx hb dX9_lookAt_230 (by decide) (fun c_15 => ?_) (fun c_15 => ?_)
          · have hf := it_t c_15 hf
            exact hj_274 w_7 w_8 w_9 w_11 _ _ hf (hP.sub [0, 1] rfl) (hD.sub [0, 1] (by decide) rfl) hS ls (lv_sub hl [0] rfl)
          · have hf := it_f c_15 hf
            refine lv_aload_n hx hb dX9_lookAt_233 rfl (lv_at hl 0 rfl) ?_
            refine va_get (D := D) (ci := 8) (v := .int w_9) (C := RX9) (T := TX9) (N := 18) hx hb hts in_X9 hown hK hP 0 rfl rfl 14 (by decide) kf_201 (fun _ h9 => h9) rfl dX9_lookAt_234 ?_
            refine lv_iconst (v := 2) hx hb dX9_lookAt_237 (by decide) ?_
            refine lv_icmp_ne (tgt := 274) hx hb dX9_lookAt_238 (by decide) (fun c_16 => ?_) (fun c_16 => ?_)
            · have hf := it_f c_16 hf
              exact hj_274 w_7 w_8 w_9 w_11 _ _ hf (hP.sub [0, 1] rfl) (hD.sub [0, 1] (by decide) rfl) hS ls (lv_sub hl [0] rfl)
            · have hf := it_t c_16 hf
              refine lv_aload_n hx hb dX9_lookAt_241 rfl (lv_at hl 0 rfl) ?_
              refine lv_bipush (v := 10) hx hb dX9_lookAt_242 (by decide) ?_
              refine lv_aload_n hx hb dX9_lookAt_244 rfl (lv_at hl 0 rfl) ?_
              refine va_get (D := D) (ci := 8) (v := .int w_11) (C := RX9) (T := TX9) (N := 18) hx hb hts in_X9 hown hK hP 0 rfl rfl 15 (by decide) kf_204 (fun _ h9 => h9) rfl dX9_lookAt_245 ?_
              refine lv_imul hx hb dX9_lookAt_248 ?_
              refine lv_aload_n hx hb dX9_lookAt_249 rfl (lv_at hl 0 rfl) ?_
              refine va_get (D := D) (ci := 8) (v := .ref q_a0_bytes) (C := RX9) (T := TX9) (N := 18) hx hb hts in_X9 hown hK hP 0 rfl rfl 10 (by decide) kf_39 (fun _ h9 => h9) rfl dX9_lookAt_250 ?_
              refine lv_aload_n hx hb dX9_lookAt_253 rfl (lv_at hl 0 rfl) ?_
              refine va_get (D := D) (ci := 8) (v := .int w_7) (C := RX9) (T := TX9) (N := 18) hx hb hts in_X9 hown hK hP 0 rfl rfl 12 (by decide) kf_195 (fun _ h9 => h9) rfl dX9_lookAt_254 ?_
              refine lv_iload hx hb dX9_lookAt_257 (lv_at hl 1 rfl) ?_
              refine lv_iadd hx hb dX9_lookAt_259 ?_
              refine va_iald hx hb hK hP 1 0 rfl rfl hf.1 dX9_lookAt_260 ?_
              have hf := hf.2
              refine lv_iadd hx hb dX9_lookAt_261 ?_
              refine lv_bipush (v := 48) hx hb dX9_lookAt_262 (by decide) ?_
              refine lv_isub hx hb dX9_lookAt_264 ?_
              refine va_put (D := D) (ci := 8) (v := .int (((10 * w_11) + (a0_bytes (w_7 + v_12).toNatClampNeg)) - 48)) (ty := .int) (C := RX9) (T := TX9) (N := 18) hx hb hts in_X9 tyX9 tyX9_ok nmX9 hown hK hP hD hS 0 rfl rfl 15 (by decide) kf_204 (fun _ h9 => h9) rfl (by decide +kernel) rfl rfl (Nat.le_of_ble_eq_true rfl) dX9_lookAt_265 (fun H locs hP hD hS => ?_)
              have hP : va_P D vwCl [(q_a0, .inr (8, [.ref q_a0_told, .ref q_a0_kept, .ref q_a0_isKept, .ref q_a0_refused, .long a0_above, .long a0_below, .ref q_a0_manyBy, .ref q_a0_hers, .ref q_a0_his, .ref q_a0_hand, .ref q_a0_bytes, .int a0_bytesLong, .int w_7, .int w_8, .int w_9, .int (((10 * w_11) + (a0_bytes (w_7 + v_12).toNatClampNeg)) - 48), .ref q_a0_anew, .ref q_a0_values])), (q_a0_bytes, .inl (cI, 150, .inl a0_bytes))] H := hP
              have hD : va_D A [(q_a0, .inr (8, [.ref q_a0_told, .ref q_a0_kept, .ref q_a0_isKept, .ref q_a0_refused, .long a0_above, .long a0_below, .ref q_a0_manyBy, .ref q_a0_hers, .ref q_a0_his, .ref q_a0_hand, .ref q_a0_bytes, .int a0_bytesLong, .int w_7, .int w_8, .int w_9, .int (((10 * w_11) + (a0_bytes (w_7 + v_12).toNatClampNeg)) - 48), .ref q_a0_anew, .ref q_a0_values])), (q_a0_bytes, .inl (cI, 150, .inl a0_bytes))] := hD
              refine lv_iinc (v := v_12 + 1) (lv' := [(4, .int (v_12 + 1)), (0, .ref q_a0)]) hx hb dX9_lookAt_268 hl (k := 1) rfl rfl (by decide) rfl (fun ls hl => ?_)
              refine lv_goto (tgt := 218) hx hb dX9_lookAt_271 (by decide) ?_
              exact ih (((10 * w_11) + (a0_bytes (w_7 + v_12).toNatClampNeg)) - 48) (v_12 + 1) _ _ ls hf (hP.sub [0, 1] rfl) (hD.sub [0, 1] (by decide) rfl) hS (lv_sub hl [1, 0] rfl)
    exact hlp_218 1000 w_10 0 _ _ ls hf (hP.sub [0, 1] rfl) (hD.sub [0, 1] (by decide) rfl) hS (lv_sub hl [1, 0] rfl)
  have hj_135 : ∀ (w_17 : Int32) (w_18 : Int32) (w_19 : Int32) (w_20 : Int32) (t_21 : Int32) (H : Heap) (locs : List Loc), jX9_lookAt_135 a0_bytes a0_bytesLong Q w_17 w_18 w_19 w_20 t_21 → va_P D vwCl [(q_a0, .inr (8, [.ref q_a0_told, .ref q_a0_kept, .ref q_a0_isKept, .ref q_a0_refused, .long a0_above, .long a0_below, .ref q_a0_manyBy, .ref q_a0_hers, .ref q_a0_his, .ref q_a0_hand, .ref q_a0_bytes, .int a0_bytesLong, .int w_17, .int w_18, .int w_19, .int w_20, .ref q_a0_anew, .ref q_a0_values])), (q_a0_bytes, .inl (cI, 150, .inl a0_bytes))] H → va_D A [(q_a0, .inr (8, [.ref q_a0_told, .ref q_a0_kept, .ref q_a0_isKept, .ref q_a0_refused, .long a0_above, .long a0_below, .ref q_a0_manyBy, .ref q_a0_hers, .ref q_a0_his, .ref q_a0_hand, .ref q_a0_bytes, .int a0_bytesLong, .int w_17, .int w_18, .int w_19, .int w_20, .ref q_a0_anew, .ref q_a0_values])), (q_a0_bytes, .inl (cI, 150, .inl a0_bytes))] → va_S A s.heap H locs → ∀ ls : Array Slot, lv_has ls 5 [(0, .ref q_a0)] → W p l e (headSpec wsX9_lookAt rmX9_lookAt).room s m ([.ref q_a0, .int x1] : List Value).toArray below meth c H locs 0 0 QQ (F0 m 135 ls [.int t_21]) := by
    intro w_17 w_18 w_19 w_20 t_21 H locs hf hP hD hS ls hl
    unfold jX9_lookAt_135 at hf
    refine lv_istore_n (lv' := [(3, .int t_21), (0, .ref q_a0)]) hx hb dX9_lookAt_135 rfl hl (by decide) rfl (fun ls hl => ?_)
    have hlp_136 : ∀ (n_136 : Nat) (w_22 : Int32) (v_23 : Int32) (H : Heap) (locs : List Loc) (ls : Array Slot), lq2 (bX9_lookAt_136 a0_bytes a0_bytesLong Q w_17 w_19 w_20) n_136 w_22 v_23 → va_P D vwCl [(q_a0, .inr (8, [.ref q_a0_told, .ref q_a0_kept, .ref q_a0_isKept, .ref q_a0_refused, .long a0_above, .long a0_below, .ref q_a0_manyBy, .ref q_a0_hers, .ref q_a0_his, .ref q_a0_hand, .ref q_a0_bytes, .int a0_bytesLong, .int w_17, .int w_22, .int w_19, .int w_20, .ref q_a0_anew, .ref q_a0_values])), (q_a0_bytes, .inl (cI, 150, .inl a0_bytes))] H → va_D A [(q_a0, .inr (8, [.ref q_a0_told, .ref q_a0_kept, .ref q_a0_isKept, .ref q_a0_refused, .long a0_above, .long a0_below, .ref q_a0_manyBy, .ref q_a0_hers, .ref q_a0_his, .ref q_a0_hand, .ref q_a0_bytes, .int a0_bytesLong, .int w_17, .int w_22, .int w_19, .int w_20, .ref q_a0_anew, .ref q_a0_values])), (q_a0_bytes, .inl (cI, 150, .inl a0_bytes))] → va_S A s.heap H locs → lv_has ls 5 [(0, .ref q_a0), (3, .int v_23)] → W p l e (headSpec wsX9_lookAt rmX9_lookAt).room s m ([.ref q_a0, .int x1] : List Value).toArray below meth c H locs 0 0 QQ (F0 m 136 ls []) := by
      intro n_136
      induction n_136 with
      | zero => intro w_22 v_23 H locs ls hf; exact (lq2_0 hf).elim
      | succ n_136 ih =>
        have ih_136 := ih
        intro w_22 v_23 H locs ls hf hP hD hS hl
        have hj_193 : ∀ (t_25 : Int32) (H : Heap) (locs : List Loc), jX9_lookAt_193 (lq2 (bX9_lookAt_136 a0_bytes a0_bytesLong Q w_17 w_19 w_20) n_136) w_22 t_25 → va_P D vwCl [(q_a0, .inr (8, [.ref q_a0_told, .ref q_a0_kept, .ref q_a0_isKept, .ref q_a0_refused, .long a0_above, .long a0_below, .ref q_a0_manyBy, .ref q_a0_hers, .ref q_a0_his, .ref q_a0_hand, .ref q_a0_bytes, .int a0_bytesLong, .int w_17, .int w_22, .int w_19, .int w_20, .ref q_a0_anew, .ref q_a0_values])), (q_a0_bytes, .inl (cI, 150, .inl a0_bytes))] H → va_D A [(q_a0, .inr (8, [.ref q_a0_told, .ref q_a0_kept, .ref q_a0_isKept, .ref q_a0_refused, .long a0_above, .long a0_below, .ref q_a0_manyBy, .ref q_a0_hers, .ref q_a0_his, .ref q_a0_hand, .ref q_a0_bytes, .int a0_bytesLong, .int w_17, .int w_22, .int w_19, .int w_20, .ref q_a0_anew, .ref q_a0_values])), (q_a0_bytes, .inl (cI, 150, .inl a0_bytes))] → va_S A s.heap H locs → ∀ ls : Array Slot, lv_has ls 5 [(0, .ref q_a0)] → W p l e (headSpec wsX9_lookAt rmX9_lookAt).room s m ([.ref q_a0, .int x1] : List Value).toArray below meth c H locs 0 0 QQ (F0 m 193 ls [.int t_25]) := by
          intro t_25 H locs hf hP hD hS ls hl
          unfold jX9_lookAt_193 at hf
          refine lv_istore_n (lv' := [(3, .int t_25), (0, .ref q_a0)]) hx hb dX9_lookAt_193 rfl hl (by decide) rfl (fun ls hl => ?_)
          refine lv_aload_n hx hb dX9_lookAt_194 rfl (lv_at hl 1 rfl) ?_
          refine lv_dup hx hb dX9_lookAt_195 rfl ?_
          refine va_get (D := D) (ci := 8) (v := .int w_22) (C := RX9) (T := TX9) (N := 18) hx hb hts in_X9 hown hK hP 0 rfl rfl 13 (by decide) kf_198 (fun _ h9 => h9) rfl dX9_lookAt_196 ?_
          refine lv_iload_n hx hb dX9_lookAt_199 rfl (lv_at hl 0 rfl) ?_
          refine lv_if_eq (tgt := 207) hx hb dX9_lookAt_200 (by decide) (fun c_26 => ?_) (fun c_26 => ?_)
          · have hf := it_t c_26 hf
            refine lv_iconst (v := 0) hx hb dX9_lookAt_207 (by decide) ?_
            refine lv_iadd hx hb dX9_lookAt_208 ?_
            refine va_put (D := D) (ci := 8) (v := .int (w_22 + 0)) (ty := .int) (C := RX9) (T := TX9) (N := 18) hx hb hts in_X9 tyX9 tyX9_ok nmX9 hown hK hP hD hS 0 rfl rfl 13 (by decide) kf_198 (fun _ h9 => h9) rfl (by decide +kernel) rfl rfl (Nat.le_of_ble_eq_true rfl) dX9_lookAt_209 (fun H locs hP hD hS => ?_)
            have hP : va_P D vwCl [(q_a0, .inr (8, [.ref q_a0_told, .ref q_a0_kept, .ref q_a0_isKept, .ref q_a0_refused, .long a0_above, .long a0_below, .ref q_a0_manyBy, .ref q_a0_hers, .ref q_a0_his, .ref q_a0_hand, .ref q_a0_bytes, .int a0_bytesLong, .int w_17, .int (w_22 + 0), .int w_19, .int w_20, .ref q_a0_anew, .ref q_a0_values])), (q_a0_bytes, .inl (cI, 150, .inl a0_bytes))] H := hP
            have hD : va_D A [(q_a0, .inr (8, [.ref q_a0_told, .ref q_a0_kept, .ref q_a0_isKept, .ref q_a0_refused, .long a0_above, .long a0_below, .ref q_a0_manyBy, .ref q_a0_hers, .ref q_a0_his, .ref q_a0_hand, .ref q_a0_bytes, .int a0_bytesLong, .int w_17, .int (w_22 + 0), .int w_19, .int w_20, .ref q_a0_anew, .ref q_a0_values])), (q_a0_bytes, .inl (cI, 150, .inl a0_bytes))] := hD
            refine lv_goto (tgt := 136) hx hb dX9_lookAt_212 (by decide) ?_
            exact ih (w_22 + 0) t_25 _ _ ls hf (hP.sub [0, 1] rfl) (hD.sub [0, 1] (by decide) rfl) hS (lv_sub hl [1, 0] rfl)
          · have hf := it_f c_26 hf
            refine lv_iconst (v := 1) hx hb dX9_lookAt_203 (by decide) ?_
            refine lv_goto (tgt := 208) hx hb dX9_lookAt_204 (by decide) ?_
            refine lv_iadd hx hb dX9_lookAt_208 ?_
            refine va_put (D := D) (ci := 8) (v := .int (w_22 + 1)) (ty := .int) (C := RX9) (T := TX9) (N := 18) hx hb hts in_X9 tyX9 tyX9_ok nmX9 hown hK hP hD hS 0 rfl rfl 13 (by decide) kf_198 (fun _ h9 => h9) rfl (by decide +kernel) rfl rfl (Nat.le_of_ble_eq_true rfl) dX9_lookAt_209 (fun H locs hP hD hS => ?_)
            have hP : va_P D vwCl [(q_a0, .inr (8, [.ref q_a0_told, .ref q_a0_kept, .ref q_a0_isKept, .ref q_a0_refused, .long a0_above, .long a0_below, .ref q_a0_manyBy, .ref q_a0_hers, .ref q_a0_his, .ref q_a0_hand, .ref q_a0_bytes, .int a0_bytesLong, .int w_17, .int (w_22 + 1), .int w_19, .int w_20, .ref q_a0_anew, .ref q_a0_values])), (q_a0_bytes, .inl (cI, 150, .inl a0_bytes))] H := hP
            have hD : va_D A [(q_a0, .inr (8, [.ref q_a0_told, .ref q_a0_kept, .ref q_a0_isKept, .ref q_a0_refused, .long a0_above, .long a0_below, .ref q_a0_manyBy, .ref q_a0_hers, .ref q_a0_his, .ref q_a0_hand, .ref q_a0_bytes, .int a0_bytesLong, .int w_17, .int (w_22 + 1), .int w_19, .int w_20, .ref q_a0_anew, .ref q_a0_values])), (q_a0_bytes, .inl (cI, 150, .inl a0_bytes))] := hD
            refine lv_goto (tgt := 136) hx hb dX9_lookAt_212 (by decide) ?_
            exact ih (w_22 + 1) t_25 _ _ ls hf (hP.sub [0, 1] rfl) (hD.sub [0, 1] (by decide) rfl) hS (lv_sub hl [1, 0] rfl)
        have hf := lq2_s hf
        unfold bX9_lookAt_136 at hf
        refine lv_iload_n hx hb dX9_lookAt_136 rfl (lv_at hl 1 rfl) ?_
        refine lv_if_eq (tgt := 215) hx hb dX9_lookAt_137 (by decide) (fun c_27 => ?_) (fun c_27 => ?_)
        · have hf := it_t c_27 hf
          exact hj_215 w_17 w_22 w_19 w_20 _ _ hf (hP.sub [0, 1] rfl) (hD.sub [0, 1] (by decide) rfl) hS ls (lv_sub hl [0] rfl)
        · have hf := it_f c_27 hf
          refine lv_aload_n hx hb dX9_lookAt_140 rfl (lv_at hl 0 rfl) ?_
          refine va_get (D := D) (ci := 8) (v := .int w_17) (C := RX9) (T := TX9) (N := 18) hx hb hts in_X9 hown hK hP 0 rfl rfl 12 (by decide) kf_195 (fun _ h9 => h9) rfl dX9_lookAt_141 ?_
          refine lv_aload_n hx hb dX9_lookAt_144 rfl (lv_at hl 0 rfl) ?_
          refine va_get (D := D) (ci := 8) (v := .int w_22) (C := RX9) (T := TX9) (N := 18) hx hb hts in_X9 hown hK hP 0 rfl rfl 13 (by decide) kf_198 (fun _ h9 => h9) rfl dX9_lookAt_145 ?_
          refine lv_iadd hx hb dX9_lookAt_148 ?_
          refine lv_aload_n hx hb dX9_lookAt_149 rfl (lv_at hl 0 rfl) ?_
          refine va_get (D := D) (ci := 8) (v := .int a0_bytesLong) (C := RX9) (T := TX9) (N := 18) hx hb hts in_X9 hown hK hP 0 rfl rfl 11 (by decide) kf_183 (fun _ h9 => h9) rfl dX9_lookAt_150 ?_
          refine lv_icmp_ge (tgt := 215) hx hb dX9_lookAt_153 (by decide) (fun c_28 => ?_) (fun c_28 => ?_)
          · have hf := it_t c_28 hf
            exact hj_215 w_17 w_22 w_19 w_20 _ _ hf (hP.sub [0, 1] rfl) (hD.sub [0, 1] (by decide) rfl) hS ls (lv_sub hl [0] rfl)
          · have hf := it_f c_28 hf
            refine lv_aload_n hx hb dX9_lookAt_156 rfl (lv_at hl 0 rfl) ?_
            refine va_get (D := D) (ci := 8) (v := .ref q_a0_bytes) (C := RX9) (T := TX9) (N := 18) hx hb hts in_X9 hown hK hP 0 rfl rfl 10 (by decide) kf_39 (fun _ h9 => h9) rfl dX9_lookAt_157 ?_
            refine lv_aload_n hx hb dX9_lookAt_160 rfl (lv_at hl 0 rfl) ?_
            refine va_get (D := D) (ci := 8) (v := .int w_17) (C := RX9) (T := TX9) (N := 18) hx hb hts in_X9 hown hK hP 0 rfl rfl 12 (by decide) kf_195 (fun _ h9 => h9) rfl dX9_lookAt_161 ?_
            refine lv_aload_n hx hb dX9_lookAt_164 rfl (lv_at hl 0 rfl) ?_
            refine va_get (D := D) (ci := 8) (v := .int w_22) (C := RX9) (T := TX9) (N := 18) hx hb hts in_X9 hown hK hP 0 rfl rfl 13 (by decide) kf_198 (fun _ h9 => h9) rfl dX9_lookAt_165 ?_
            refine lv_iadd hx hb dX9_lookAt_168 ?_
            refine va_iald hx hb hK hP 1 0 rfl rfl hf.1 dX9_lookAt_169 ?_
            have hf := hf.2
            refine lv_istore (lv' := [(4, .int (a0_bytes (w_17 + w_22).toNatClampNeg)), (0, .ref q_a0), (3, .int v_23)]) hx hb dX9_lookAt_170 hl (by decide) rfl (fun ls hl => ?_)
            refine lv_aload_n hx hb dX9_lookAt_172 rfl (lv_at hl 1 rfl) ?_
            refine va_get (D := D) (ci := 8) (v := .int w_19) (C := RX9) (T := TX9) (N := 18) hx hb hts in_X9 hown hK hP 0 rfl rfl 14 (by decide) kf_201 (fun _ h9 => h9) rfl dX9_lookAt_173 ?_
            refine lv_iconst (v := 1) hx hb dX9_lookAt_176 (by decide) ?_
            refine lv_icmp_ne (tgt := 188) hx hb dX9_lookAt_177 (by decide) (fun c_29 => ?_) (fun c_29 => ?_)
            · have hf := it_f c_29 hf
              refine lv_iload hx hb dX9_lookAt_188 (lv_at hl 0 rfl) ?_
              refine ya_csi (va_runS (As := [.int (a0_bytes (w_17 + w_22).toNatClampNeg)]) (rest := []) ⟨hx, hb, hml, hown, hts⟩ (c_X9_isFigure l D cI cZ cO  (a0_bytes (w_17 + w_22).toNatClampNeg) _ hf) (va_cwS 1 hts gX9_lookAt_X9_isFigure rfl rfl rfl (by decide +kernel) ⟨Nat.le_of_ble_eq_true rfl, Nat.le_of_ble_eq_true rfl⟩) (ps_ro va_P0 hX) rfl rfl hl.1 rfl (lv_room (Nat.le_of_ble_eq_true rfl)) dX9_lookAt_190 ⟨Nat.zero_le _, Nat.zero_le _⟩) (fun r_30 hf => ?_)
              exact hj_193 r_30 _ _ hf (hP.sub [0, 1] rfl) (hD.sub [0, 1] (by decide) rfl) hS ls (lv_sub hl [1] rfl)
            · have hf := it_t c_29 hf
              refine lv_iload hx hb dX9_lookAt_180 (lv_at hl 0 rfl) ?_
              refine ya_csi (va_runS (As := [.int (a0_bytes (w_17 + w_22).toNatClampNeg)]) (rest := []) ⟨hx, hb, hml, hown, hts⟩ (c_X9_isSmall l D cI cZ cO  (a0_bytes (w_17 + w_22).toNatClampNeg) _ hf) (va_cwS 1 hts gX9_lookAt_X9_isSmall rfl rfl rfl (by decide +kernel) ⟨Nat.le_of_ble_eq_true rfl, Nat.le_of_ble_eq_true rfl⟩) (ps_ro va_P0 hX) rfl rfl hl.1 rfl (lv_room (Nat.le_of_ble_eq_true rfl)) dX9_lookAt_182 ⟨Nat.zero_le _, Nat.zero_le _⟩) (fun r_31 hf => ?_)
              refine lv_goto (tgt := 193) hx hb dX9_lookAt_185 (by decide) ?_
              exact hj_193 r_31 _ _ hf (hP.sub [0, 1] rfl) (hD.sub [0, 1] (by decide) rfl) hS ls (lv_sub hl [1] rfl)
    exact hlp_136 1000 w_18 t_21 _ _ ls hf (hP.sub [0, 1] rfl) (hD.sub [0, 1] (by decide) rfl) hS (lv_sub hl [1, 0] rfl)
  have hj_114 : ∀ (w_32 : Int32) (w_33 : Int32) (w_34 : Int32) (w_35 : Int32) (t_36 : Int32) (H : Heap) (locs : List Loc), jX9_lookAt_114 a0_bytes a0_bytesLong Q w_32 w_33 w_34 w_35 t_36 → va_P D vwCl [(q_a0, .inr (8, [.ref q_a0_told, .ref q_a0_kept, .ref q_a0_isKept, .ref q_a0_refused, .long a0_above, .long a0_below, .ref q_a0_manyBy, .ref q_a0_hers, .ref q_a0_his, .ref q_a0_hand, .ref q_a0_bytes, .int a0_bytesLong, .int w_32, .int w_33, .int w_34, .int w_35, .ref q_a0_anew, .ref q_a0_values])), (q_a0_bytes, .inl (cI, 150, .inl a0_bytes))] H → va_D A [(q_a0, .inr (8, [.ref q_a0_told, .ref q_a0_kept, .ref q_a0_isKept, .ref q_a0_refused, .long a0_above, .long a0_below, .ref q_a0_manyBy, .ref q_a0_hers, .ref q_a0_his, .ref q_a0_hand, .ref q_a0_bytes, .int a0_bytesLong, .int w_32, .int w_33, .int w_34, .int w_35, .ref q_a0_anew, .ref q_a0_values])), (q_a0_bytes, .inl (cI, 150, .inl a0_bytes))] → va_S A s.heap H locs → ∀ ls : Array Slot, lv_has ls 5 [(0, .ref q_a0)] → W p l e (headSpec wsX9_lookAt rmX9_lookAt).room s m ([.ref q_a0, .int x1] : List Value).toArray below meth c H locs 0 0 QQ (F0 m 114 ls [.int t_36, .ref q_a0]) := by
    intro w_32 w_33 w_34 w_35 t_36 H locs hf hP hD hS ls hl
    unfold jX9_lookAt_114 at hf
    refine va_put (D := D) (ci := 8) (v := .int t_36) (ty := .int) (C := RX9) (T := TX9) (N := 18) hx hb hts in_X9 tyX9 tyX9_ok nmX9 hown hK hP hD hS 0 rfl rfl 14 (by decide) kf_201 (fun _ h9 => h9) rfl (by decide +kernel) rfl rfl (Nat.le_of_ble_eq_true rfl) dX9_lookAt_114 (fun H locs hP hD hS => ?_)
    have hP : va_P D vwCl [(q_a0, .inr (8, [.ref q_a0_told, .ref q_a0_kept, .ref q_a0_isKept, .ref q_a0_refused, .long a0_above, .long a0_below, .ref q_a0_manyBy, .ref q_a0_hers, .ref q_a0_his, .ref q_a0_hand, .ref q_a0_bytes, .int a0_bytesLong, .int w_32, .int w_33, .int t_36, .int w_35, .ref q_a0_anew, .ref q_a0_values])), (q_a0_bytes, .inl (cI, 150, .inl a0_bytes))] H := hP
    have hD : va_D A [(q_a0, .inr (8, [.ref q_a0_told, .ref q_a0_kept, .ref q_a0_isKept, .ref q_a0_refused, .long a0_above, .long a0_below, .ref q_a0_manyBy, .ref q_a0_hers, .ref q_a0_his, .ref q_a0_hand, .ref q_a0_bytes, .int a0_bytesLong, .int w_32, .int w_33, .int t_36, .int w_35, .ref q_a0_anew, .ref q_a0_values])), (q_a0_bytes, .inl (cI, 150, .inl a0_bytes))] := hD
    refine lv_aload_n hx hb dX9_lookAt_117 rfl (lv_at hl 0 rfl) ?_
    refine lv_iconst (v := 1) hx hb dX9_lookAt_118 (by decide) ?_
    refine va_put (D := D) (ci := 8) (v := .int 1) (ty := .int) (C := RX9) (T := TX9) (N := 18) hx hb hts in_X9 tyX9 tyX9_ok nmX9 hown hK hP hD hS 0 rfl rfl 13 (by decide) kf_198 (fun _ h9 => h9) rfl (by decide +kernel) rfl rfl (Nat.le_of_ble_eq_true rfl) dX9_lookAt_119 (fun H locs hP hD hS => ?_)
    have hP : va_P D vwCl [(q_a0, .inr (8, [.ref q_a0_told, .ref q_a0_kept, .ref q_a0_isKept, .ref q_a0_refused, .long a0_above, .long a0_below, .ref q_a0_manyBy, .ref q_a0_hers, .ref q_a0_his, .ref q_a0_hand, .ref q_a0_bytes, .int a0_bytesLong, .int w_32, .int 1, .int t_36, .int w_35, .ref q_a0_anew, .ref q_a0_values])), (q_a0_bytes, .inl (cI, 150, .inl a0_bytes))] H := hP
    have hD : va_D A [(q_a0, .inr (8, [.ref q_a0_told, .ref q_a0_kept, .ref q_a0_isKept, .ref q_a0_refused, .long a0_above, .long a0_below, .ref q_a0_manyBy, .ref q_a0_hers, .ref q_a0_his, .ref q_a0_hand, .ref q_a0_bytes, .int a0_bytesLong, .int w_32, .int 1, .int t_36, .int w_35, .ref q_a0_anew, .ref q_a0_values])), (q_a0_bytes, .inl (cI, 150, .inl a0_bytes))] := hD
    refine lv_aload_n hx hb dX9_lookAt_122 rfl (lv_at hl 0 rfl) ?_
    refine va_get (D := D) (ci := 8) (v := .int t_36) (C := RX9) (T := TX9) (N := 18) hx hb hts in_X9 hown hK hP 0 rfl rfl 14 (by decide) kf_201 (fun _ h9 => h9) rfl dX9_lookAt_123 ?_
    refine lv_iconst (v := 3) hx hb dX9_lookAt_126 (by decide) ?_
    refine lv_icmp_ge (tgt := 134) hx hb dX9_lookAt_127 (by decide) (fun c_37 => ?_) (fun c_37 => ?_)
    · have hf := it_t c_37 hf
      refine lv_iconst (v := 0) hx hb dX9_lookAt_134 (by decide) ?_
      exact hj_135 w_32 1 t_36 w_35 0 _ _ hf (hP.sub [0, 1] rfl) (hD.sub [0, 1] (by decide) rfl) hS ls (lv_sub hl [0] rfl)
    · have hf := it_f c_37 hf
      refine lv_iconst (v := 1) hx hb dX9_lookAt_130 (by decide) ?_
      refine lv_goto (tgt := 135) hx hb dX9_lookAt_131 (by decide) ?_
      exact hj_135 w_32 1 t_36 w_35 1 _ _ hf (hP.sub [0, 1] rfl) (hD.sub [0, 1] (by decide) rfl) hS ls (lv_sub hl [0] rfl)
  have hj_43 : ∀ (w_38 : Int32) (H : Heap) (locs : List Loc), jX9_lookAt_43 a0_bytes a0_bytesLong Q w_38 → va_P D vwCl [(q_a0, .inr (8, [.ref q_a0_told, .ref q_a0_kept, .ref q_a0_isKept, .ref q_a0_refused, .long a0_above, .long a0_below, .ref q_a0_manyBy, .ref q_a0_hers, .ref q_a0_his, .ref q_a0_hand, .ref q_a0_bytes, .int a0_bytesLong, .int w_38, .int a0_tokenLong, .int a0_token, .int a0_value, .ref q_a0_anew, .ref q_a0_values])), (q_a0_bytes, .inl (cI, 150, .inl a0_bytes))] H → va_D A [(q_a0, .inr (8, [.ref q_a0_told, .ref q_a0_kept, .ref q_a0_isKept, .ref q_a0_refused, .long a0_above, .long a0_below, .ref q_a0_manyBy, .ref q_a0_hers, .ref q_a0_his, .ref q_a0_hand, .ref q_a0_bytes, .int a0_bytesLong, .int w_38, .int a0_tokenLong, .int a0_token, .int a0_value, .ref q_a0_anew, .ref q_a0_values])), (q_a0_bytes, .inl (cI, 150, .inl a0_bytes))] → va_S A s.heap H locs → ∀ ls : Array Slot, lv_has ls 5 [(0, .ref q_a0)] → W p l e (headSpec wsX9_lookAt rmX9_lookAt).room s m ([.ref q_a0, .int x1] : List Value).toArray below meth c H locs 0 0 QQ (F0 m 43 ls []) := by
    intro w_38 H locs hf hP hD hS ls hl
    unfold jX9_lookAt_43 at hf
    refine lv_aload_n hx hb dX9_lookAt_43 rfl (lv_at hl 0 rfl) ?_
    refine lv_iconst (v := 0) hx hb dX9_lookAt_44 (by decide) ?_
    refine va_put (D := D) (ci := 8) (v := .int 0) (ty := .int) (C := RX9) (T := TX9) (N := 18) hx hb hts in_X9 tyX9 tyX9_ok nmX9 hown hK hP hD hS 0 rfl rfl 13 (by decide) kf_198 (fun _ h9 => h9) rfl (by decide +kernel) rfl rfl (Nat.le_of_ble_eq_true rfl) dX9_lookAt_45 (fun H locs hP hD hS => ?_)
    have hP : va_P D vwCl [(q_a0, .inr (8, [.ref q_a0_told, .ref q_a0_kept, .ref q_a0_isKept, .ref q_a0_refused, .long a0_above, .long a0_below, .ref q_a0_manyBy, .ref q_a0_hers, .ref q_a0_his, .ref q_a0_hand, .ref q_a0_bytes, .int a0_bytesLong, .int w_38, .int 0, .int a0_token, .int a0_value, .ref q_a0_anew, .ref q_a0_values])), (q_a0_bytes, .inl (cI, 150, .inl a0_bytes))] H := hP
    have hD : va_D A [(q_a0, .inr (8, [.ref q_a0_told, .ref q_a0_kept, .ref q_a0_isKept, .ref q_a0_refused, .long a0_above, .long a0_below, .ref q_a0_manyBy, .ref q_a0_hers, .ref q_a0_his, .ref q_a0_hand, .ref q_a0_bytes, .int a0_bytesLong, .int w_38, .int 0, .int a0_token, .int a0_value, .ref q_a0_anew, .ref q_a0_values])), (q_a0_bytes, .inl (cI, 150, .inl a0_bytes))] := hD
    refine lv_aload_n hx hb dX9_lookAt_48 rfl (lv_at hl 0 rfl) ?_
    refine lv_iconst (v := 0) hx hb dX9_lookAt_49 (by decide) ?_
    refine va_put (D := D) (ci := 8) (v := .int 0) (ty := .int) (C := RX9) (T := TX9) (N := 18) hx hb hts in_X9 tyX9 tyX9_ok nmX9 hown hK hP hD hS 0 rfl rfl 14 (by decide) kf_201 (fun _ h9 => h9) rfl (by decide +kernel) rfl rfl (Nat.le_of_ble_eq_true rfl) dX9_lookAt_50 (fun H locs hP hD hS => ?_)
    have hP : va_P D vwCl [(q_a0, .inr (8, [.ref q_a0_told, .ref q_a0_kept, .ref q_a0_isKept, .ref q_a0_refused, .long a0_above, .long a0_below, .ref q_a0_manyBy, .ref q_a0_hers, .ref q_a0_his, .ref q_a0_hand, .ref q_a0_bytes, .int a0_bytesLong, .int w_38, .int 0, .int 0, .int a0_value, .ref q_a0_anew, .ref q_a0_values])), (q_a0_bytes, .inl (cI, 150, .inl a0_bytes))] H := hP
    have hD : va_D A [(q_a0, .inr (8, [.ref q_a0_told, .ref q_a0_kept, .ref q_a0_isKept, .ref q_a0_refused, .long a0_above, .long a0_below, .ref q_a0_manyBy, .ref q_a0_hers, .ref q_a0_his, .ref q_a0_hand, .ref q_a0_bytes, .int a0_bytesLong, .int w_38, .int 0, .int 0, .int a0_value, .ref q_a0_anew, .ref q_a0_values])), (q_a0_bytes, .inl (cI, 150, .inl a0_bytes))] := hD
    refine lv_aload_n hx hb dX9_lookAt_53 rfl (lv_at hl 0 rfl) ?_
    refine lv_iconst (v := 0) hx hb dX9_lookAt_54 (by decide) ?_
    refine va_put (D := D) (ci := 8) (v := .int 0) (ty := .int) (C := RX9) (T := TX9) (N := 18) hx hb hts in_X9 tyX9 tyX9_ok nmX9 hown hK hP hD hS 0 rfl rfl 15 (by decide) kf_204 (fun _ h9 => h9) rfl (by decide +kernel) rfl rfl (Nat.le_of_ble_eq_true rfl) dX9_lookAt_55 (fun H locs hP hD hS => ?_)
    have hP : va_P D vwCl [(q_a0, .inr (8, [.ref q_a0_told, .ref q_a0_kept, .ref q_a0_isKept, .ref q_a0_refused, .long a0_above, .long a0_below, .ref q_a0_manyBy, .ref q_a0_hers, .ref q_a0_his, .ref q_a0_hand, .ref q_a0_bytes, .int a0_bytesLong, .int w_38, .int 0, .int 0, .int 0, .ref q_a0_anew, .ref q_a0_values])), (q_a0_bytes, .inl (cI, 150, .inl a0_bytes))] H := hP
    have hD : va_D A [(q_a0, .inr (8, [.ref q_a0_told, .ref q_a0_kept, .ref q_a0_isKept, .ref q_a0_refused, .long a0_above, .long a0_below, .ref q_a0_manyBy, .ref q_a0_hers, .ref q_a0_his, .ref q_a0_hand, .ref q_a0_bytes, .int a0_bytesLong, .int w_38, .int 0, .int 0, .int 0, .ref q_a0_anew, .ref q_a0_values])), (q_a0_bytes, .inl (cI, 150, .inl a0_bytes))] := hD
    refine lv_aload_n hx hb dX9_lookAt_58 rfl (lv_at hl 0 rfl) ?_
    refine va_get (D := D) (ci := 8) (v := .int w_38) (C := RX9) (T := TX9) (N := 18) hx hb hts in_X9 hown hK hP 0 rfl rfl 12 (by decide) kf_195 (fun _ h9 => h9) rfl dX9_lookAt_59 ?_
    refine lv_aload_n hx hb dX9_lookAt_62 rfl (lv_at hl 0 rfl) ?_
    refine va_get (D := D) (ci := 8) (v := .int a0_bytesLong) (C := RX9) (T := TX9) (N := 18) hx hb hts in_X9 hown hK hP 0 rfl rfl 11 (by decide) kf_183 (fun _ h9 => h9) rfl dX9_lookAt_63 ?_
    refine lv_icmp_ne (tgt := 70) hx hb dX9_lookAt_66 (by decide) (fun c_39 => ?_) (fun c_39 => ?_)
    · have hf := it_f c_39 hf
      refine lv_aload_n hx hb dX9_lookAt_70 rfl (lv_at hl 0 rfl) ?_
      refine va_get (D := D) (ci := 8) (v := .ref q_a0_bytes) (C := RX9) (T := TX9) (N := 18) hx hb hts in_X9 hown hK hP 0 rfl rfl 10 (by decide) kf_39 (fun _ h9 => h9) rfl dX9_lookAt_71 ?_
      refine lv_aload_n hx hb dX9_lookAt_74 rfl (lv_at hl 0 rfl) ?_
      refine va_get (D := D) (ci := 8) (v := .int w_38) (C := RX9) (T := TX9) (N := 18) hx hb hts in_X9 hown hK hP 0 rfl rfl 12 (by decide) kf_195 (fun _ h9 => h9) rfl dX9_lookAt_75 ?_
      refine va_iald hx hb hK hP 1 0 rfl rfl hf.1 dX9_lookAt_78 ?_
      have hf := hf.2
      refine lv_istore_n (lv' := [(2, .int (a0_bytes w_38.toNatClampNeg)), (0, .ref q_a0)]) hx hb dX9_lookAt_79 rfl hl (by decide) rfl (fun ls hl => ?_)
      refine lv_aload_n hx hb dX9_lookAt_80 rfl (lv_at hl 1 rfl) ?_
      refine lv_iload_n hx hb dX9_lookAt_81 rfl (lv_at hl 0 rfl) ?_
      refine ya_csi (va_runS (As := [.int (a0_bytes w_38.toNatClampNeg)]) (rest := [.ref q_a0]) ⟨hx, hb, hml, hown, hts⟩ (c_X9_isSmall l D cI cZ cO  (a0_bytes w_38.toNatClampNeg) _ hf) (va_cwS 1 hts gX9_lookAt_X9_isSmall rfl rfl rfl (by decide +kernel) ⟨Nat.le_of_ble_eq_true rfl, Nat.le_of_ble_eq_true rfl⟩) (ps_ro va_P0 hX) rfl rfl hl.1 rfl (lv_room (Nat.le_of_ble_eq_true rfl)) dX9_lookAt_82 ⟨Nat.zero_le _, Nat.zero_le _⟩) (fun r_40 hf => ?_)
      refine lv_if_eq (tgt := 92) hx hb dX9_lookAt_85 (by decide) (fun c_41 => ?_) (fun c_41 => ?_)
      · have hf := it_t c_41 hf
        refine lv_iload_n hx hb dX9_lookAt_92 rfl (lv_at hl 0 rfl) ?_
        refine ya_csi (va_runS (As := [.int (a0_bytes w_38.toNatClampNeg)]) (rest := [.ref q_a0]) ⟨hx, hb, hml, hown, hts⟩ (c_X9_isFigure l D cI cZ cO  (a0_bytes w_38.toNatClampNeg) _ hf) (va_cwS 1 hts gX9_lookAt_X9_isFigure rfl rfl rfl (by decide +kernel) ⟨Nat.le_of_ble_eq_true rfl, Nat.le_of_ble_eq_true rfl⟩) (ps_ro va_P0 hX) rfl rfl hl.1 rfl (lv_room (Nat.le_of_ble_eq_true rfl)) dX9_lookAt_93 ⟨Nat.zero_le _, Nat.zero_le _⟩) (fun r_42 hf => ?_)
        refine lv_if_eq (tgt := 103) hx hb dX9_lookAt_96 (by decide) (fun c_43 => ?_) (fun c_43 => ?_)
        · have hf := it_t c_43 hf
          refine lv_iload_n hx hb dX9_lookAt_103 rfl (lv_at hl 0 rfl) ?_
          refine lv_bipush (v := 59) hx hb dX9_lookAt_104 (by decide) ?_
          refine lv_icmp_ne (tgt := 113) hx hb dX9_lookAt_106 (by decide) (fun c_44 => ?_) (fun c_44 => ?_)
          · have hf := it_f c_44 hf
            refine lv_iconst (v := 4) hx hb dX9_lookAt_113 (by decide) ?_
            exact hj_114 w_38 0 0 0 4 _ _ hf (hP.sub [0, 1] rfl) (hD.sub [0, 1] (by decide) rfl) hS ls (lv_sub hl [1] rfl)
          · have hf := it_t c_44 hf
            refine lv_iconst (v := 3) hx hb dX9_lookAt_109 (by decide) ?_
            refine lv_goto (tgt := 114) hx hb dX9_lookAt_110 (by decide) ?_
            exact hj_114 w_38 0 0 0 3 _ _ hf (hP.sub [0, 1] rfl) (hD.sub [0, 1] (by decide) rfl) hS ls (lv_sub hl [1] rfl)
        · have hf := it_f c_43 hf
          refine lv_iconst (v := 2) hx hb dX9_lookAt_99 (by decide) ?_
          refine lv_goto (tgt := 114) hx hb dX9_lookAt_100 (by decide) ?_
          exact hj_114 w_38 0 0 0 2 _ _ hf (hP.sub [0, 1] rfl) (hD.sub [0, 1] (by decide) rfl) hS ls (lv_sub hl [1] rfl)
      · have hf := it_f c_41 hf
        refine lv_iconst (v := 1) hx hb dX9_lookAt_88 (by decide) ?_
        refine lv_goto (tgt := 114) hx hb dX9_lookAt_89 (by decide) ?_
        exact hj_114 w_38 0 0 0 1 _ _ hf (hP.sub [0, 1] rfl) (hD.sub [0, 1] (by decide) rfl) hS ls (lv_sub hl [1] rfl)
    · have hf := it_t c_39 hf
      subst hQQ
      have hP9 := hP.sub (ws' := [(q_a0, .inr (8, [.ref q_a0_told, .ref q_a0_kept, .ref q_a0_isKept, .ref q_a0_refused, .long a0_above, .long a0_below, .ref q_a0_manyBy, .ref q_a0_hers, .ref q_a0_his, .ref q_a0_hand, .ref q_a0_bytes, .int a0_bytesLong, .int w_38, .int 0, .int 0, .int 0, .ref q_a0_anew, .ref q_a0_values])), (q_a0_bytes, .inl (cI, 150, .inl a0_bytes))]) [0, 1] rfl
      have hD9 := hD.sub (ws' := [(q_a0, .inr (8, [.ref q_a0_told, .ref q_a0_kept, .ref q_a0_isKept, .ref q_a0_refused, .long a0_above, .long a0_below, .ref q_a0_manyBy, .ref q_a0_hers, .ref q_a0_his, .ref q_a0_hand, .ref q_a0_bytes, .int a0_bytesLong, .int w_38, .int 0, .int 0, .int 0, .ref q_a0_anew, .ref q_a0_values])), (q_a0_bytes, .inl (cI, 150, .inl a0_bytes))]) [0, 1] (by decide) rfl
      exact W.vret hx hb hr (fun t ht hW => ⟨⟨(w_38, 0, 0, 0), rfl, hf, by rw [ht]; exact hP9, hD9⟩, hS.F ht⟩) hS.2.2 dX9_lookAt_69
  unfold p_X9_lookAt at hf
  refine lv_aload_n hx hb dX9_lookAt_0 rfl (lv_at hl 0 rfl) ?_
  refine lv_iload_n hx hb dX9_lookAt_1 rfl (lv_at hl 1 rfl) ?_
  refine va_put (D := D) (ci := 8) (v := .int x1) (ty := .int) (C := RX9) (T := TX9) (N := 18) hx hb hts in_X9 tyX9 tyX9_ok nmX9 hown hK hP hD hS 0 rfl rfl 12 (by decide) kf_195 (fun _ h9 => h9) rfl (by decide +kernel) rfl rfl (Nat.le_of_ble_eq_true rfl) dX9_lookAt_2 (fun H locs hP hD hS => ?_)
  have hP : va_P D vwCl [(q_a0, .inr (8, [.ref q_a0_told, .ref q_a0_kept, .ref q_a0_isKept, .ref q_a0_refused, .long a0_above, .long a0_below, .ref q_a0_manyBy, .ref q_a0_hers, .ref q_a0_his, .ref q_a0_hand, .ref q_a0_bytes, .int a0_bytesLong, .int x1, .int a0_tokenLong, .int a0_token, .int a0_value, .ref q_a0_anew, .ref q_a0_values])), (q_a0_bytes, .inl (cI, 150, .inl a0_bytes))] H := hP
  have hD : va_D A [(q_a0, .inr (8, [.ref q_a0_told, .ref q_a0_kept, .ref q_a0_isKept, .ref q_a0_refused, .long a0_above, .long a0_below, .ref q_a0_manyBy, .ref q_a0_hers, .ref q_a0_his, .ref q_a0_hand, .ref q_a0_bytes, .int a0_bytesLong, .int x1, .int a0_tokenLong, .int a0_token, .int a0_value, .ref q_a0_anew, .ref q_a0_values])), (q_a0_bytes, .inl (cI, 150, .inl a0_bytes))] := hD
  have hlp_5 : ∀ (n_5 : Nat) (w_45 : Int32) (H : Heap) (locs : List Loc) (ls : Array Slot), lq1 (bX9_lookAt_5 a0_bytes a0_bytesLong Q) n_5 w_45 → va_P D vwCl [(q_a0, .inr (8, [.ref q_a0_told, .ref q_a0_kept, .ref q_a0_isKept, .ref q_a0_refused, .long a0_above, .long a0_below, .ref q_a0_manyBy, .ref q_a0_hers, .ref q_a0_his, .ref q_a0_hand, .ref q_a0_bytes, .int a0_bytesLong, .int w_45, .int a0_tokenLong, .int a0_token, .int a0_value, .ref q_a0_anew, .ref q_a0_values])), (q_a0_bytes, .inl (cI, 150, .inl a0_bytes))] H → va_D A [(q_a0, .inr (8, [.ref q_a0_told, .ref q_a0_kept, .ref q_a0_isKept, .ref q_a0_refused, .long a0_above, .long a0_below, .ref q_a0_manyBy, .ref q_a0_hers, .ref q_a0_his, .ref q_a0_hand, .ref q_a0_bytes, .int a0_bytesLong, .int w_45, .int a0_tokenLong, .int a0_token, .int a0_value, .ref q_a0_anew, .ref q_a0_values])), (q_a0_bytes, .inl (cI, 150, .inl a0_bytes))] → va_S A s.heap H locs → lv_has ls 5 [(0, .ref q_a0)] → W p l e (headSpec wsX9_lookAt rmX9_lookAt).room s m ([.ref q_a0, .int x1] : List Value).toArray below meth c H locs 0 0 QQ (F0 m 5 ls []) := by
    intro n_5
    induction n_5 with
    | zero => intro w_45 H locs ls hf; exact (lq1_0 hf).elim
    | succ n_5 ih =>
      have ih_5 := ih
      intro w_45 H locs ls hf hP hD hS hl
      have hf := lq1_s hf
      unfold bX9_lookAt_5 at hf
      refine lv_aload_n hx hb dX9_lookAt_5 rfl (lv_at hl 0 rfl) ?_
      refine va_get (D := D) (ci := 8) (v := .int w_45) (C := RX9) (T := TX9) (N := 18) hx hb hts in_X9 hown hK hP 0 rfl rfl 12 (by decide) kf_195 (fun _ h9 => h9) rfl dX9_lookAt_6 ?_
      refine lv_aload_n hx hb dX9_lookAt_9 rfl (lv_at hl 0 rfl) ?_
      refine va_get (D := D) (ci := 8) (v := .int a0_bytesLong) (C := RX9) (T := TX9) (N := 18) hx hb hts in_X9 hown hK hP 0 rfl rfl 11 (by decide) kf_183 (fun _ h9 => h9) rfl dX9_lookAt_10 ?_
      refine lv_icmp_ge (tgt := 43) hx hb dX9_lookAt_13 (by decide) (fun c_47 => ?_) (fun c_47 => ?_)
      · have hf := it_t c_47 hf
        exact hj_43 w_45 _ _ hf (hP.sub [0, 1] rfl) (hD.sub [0, 1] (by decide) rfl) hS ls (lv_sub hl [0] rfl)
      · have hf := it_f c_47 hf
        refine lv_aload_n hx hb dX9_lookAt_16 rfl (lv_at hl 0 rfl) ?_
        refine va_get (D := D) (ci := 8) (v := .ref q_a0_bytes) (C := RX9) (T := TX9) (N := 18) hx hb hts in_X9 hown hK hP 0 rfl rfl 10 (by decide) kf_39 (fun _ h9 => h9) rfl dX9_lookAt_17 ?_
        refine lv_aload_n hx hb dX9_lookAt_20 rfl (lv_at hl 0 rfl) ?_
        refine va_get (D := D) (ci := 8) (v := .int w_45) (C := RX9) (T := TX9) (N := 18) hx hb hts in_X9 hown hK hP 0 rfl rfl 12 (by decide) kf_195 (fun _ h9 => h9) rfl dX9_lookAt_21 ?_
        refine va_iald hx hb hK hP 1 0 rfl rfl hf.1 dX9_lookAt_24 ?_
        have hf := hf.2
        refine lv_bipush (v := 32) hx hb dX9_lookAt_25 (by decide) ?_
        refine lv_icmp_ne (tgt := 43) hx hb dX9_lookAt_27 (by decide) (fun c_48 => ?_) (fun c_48 => ?_)
        · have hf := it_f c_48 hf
          exact hj_43 w_45 _ _ hf (hP.sub [0, 1] rfl) (hD.sub [0, 1] (by decide) rfl) hS ls (lv_sub hl [0] rfl)
        · have hf := it_t c_48 hf
          refine lv_aload_n hx hb dX9_lookAt_30 rfl (lv_at hl 0 rfl) ?_
          refine lv_dup hx hb dX9_lookAt_31 rfl ?_
          refine va_get (D := D) (ci := 8) (v := .int w_45) (C := RX9) (T := TX9) (N := 18) hx hb hts in_X9 hown hK hP 0 rfl rfl 12 (by decide) kf_195 (fun _ h9 => h9) rfl dX9_lookAt_32 ?_
          refine lv_iconst (v := 1) hx hb dX9_lookAt_35 (by decide) ?_
          refine lv_iadd hx hb dX9_lookAt_36 ?_
          refine va_put (D := D) (ci := 8) (v := .int (w_45 + 1)) (ty := .int) (C := RX9) (T := TX9) (N := 18) hx hb hts in_X9 tyX9 tyX9_ok nmX9 hown hK hP hD hS 0 rfl rfl 12 (by decide) kf_195 (fun _ h9 => h9) rfl (by decide +kernel) rfl rfl (Nat.le_of_ble_eq_true rfl) dX9_lookAt_37 (fun H locs hP hD hS => ?_)
          have hP : va_P D vwCl [(q_a0, .inr (8, [.ref q_a0_told, .ref q_a0_kept, .ref q_a0_isKept, .ref q_a0_refused, .long a0_above, .long a0_below, .ref q_a0_manyBy, .ref q_a0_hers, .ref q_a0_his, .ref q_a0_hand, .ref q_a0_bytes, .int a0_bytesLong, .int (w_45 + 1), .int a0_tokenLong, .int a0_token, .int a0_value, .ref q_a0_anew, .ref q_a0_values])), (q_a0_bytes, .inl (cI, 150, .inl a0_bytes))] H := hP
          have hD : va_D A [(q_a0, .inr (8, [.ref q_a0_told, .ref q_a0_kept, .ref q_a0_isKept, .ref q_a0_refused, .long a0_above, .long a0_below, .ref q_a0_manyBy, .ref q_a0_hers, .ref q_a0_his, .ref q_a0_hand, .ref q_a0_bytes, .int a0_bytesLong, .int (w_45 + 1), .int a0_tokenLong, .int a0_token, .int a0_value, .ref q_a0_anew, .ref q_a0_values])), (q_a0_bytes, .inl (cI, 150, .inl a0_bytes))] := hD
          refine lv_goto (tgt := 5) hx hb dX9_lookAt_40 (by decide) ?_
          exact ih (w_45 + 1) _ _ ls hf (hP.sub [0, 1] rfl) (hD.sub [0, 1] (by decide) rfl) hS (lv_sub hl [0] rfl)
  exact hlp_5 1000 x1 _ _ ls hf (hP.sub [0, 1] rfl) (hD.sub [0, 1] (by decide) rfl) hS (lv_sub hl [0] rfl)
def p_X9_goBehind (a0_bytes : Nat → Int32) (a0_bytesLong : Int32) (a0_tokenAt : Int32) (a0_tokenLong : Int32) (a0_token : Int32) (a0_value : Int32) (Q : Int32 → Int32 → Int32 → Int32 → Prop) : Prop :=
  p_X9_lookAt a0_bytes a0_bytesLong a0_tokenAt a0_tokenLong a0_token a0_value (a0_tokenAt + a0_tokenLong) (fun u_1 u_2 u_3 u_4 => Q u_1 u_2 u_3 u_4)
def rmX9_goBehind : Room := { frames := 3, cells := 0, slots := 0, locals := 69 }
set_option maxHeartbeats 4000000 in
set_option maxRecDepth 100000 in
theorem c_X9_goBehind (l : Launch) (D : va_G) (cI cZ cO : ClassId) (q_a0 q_a0_told q_a0_kept q_a0_isKept q_a0_refused q_a0_manyBy q_a0_hers q_a0_his q_a0_hand q_a0_bytes q_a0_anew q_a0_values : Nat) (a0_above : Int64) (a0_below : Int64) (a0_bytesLong : Int32) (a0_tokenAt : Int32) (a0_tokenLong : Int32) (a0_token : Int32) (a0_value : Int32) (a0_bytes : Nat → Int32) (sz : Nat) (Q : Int32 → Int32 → Int32 → Int32 → Prop) (hf : p_X9_goBehind a0_bytes a0_bytesLong a0_tokenAt a0_tokenLong a0_token a0_value Q) : Met l yX9_goBehind wsX9_goBehind rmX9_goBehind (va_Pc [.ref q_a0] (fun U => U.heap.size = sz ∧ va_P D vwCl [(q_a0, .inr (8, [.ref q_a0_told, .ref q_a0_kept, .ref q_a0_isKept, .ref q_a0_refused, .long a0_above, .long a0_below, .ref q_a0_manyBy, .ref q_a0_hers, .ref q_a0_his, .ref q_a0_hand, .ref q_a0_bytes, .int a0_bytesLong, .int a0_tokenAt, .int a0_tokenLong, .int a0_token, .int a0_value, .ref q_a0_anew, .ref q_a0_values])), (q_a0_bytes, .inl (cI, 150, .inl a0_bytes))] U.heap ∧ XK D cI cZ cO U ∧ va_D (fun _ => True) [(q_a0, .inr (8, [.ref q_a0_told, .ref q_a0_kept, .ref q_a0_isKept, .ref q_a0_refused, .long a0_above, .long a0_below, .ref q_a0_manyBy, .ref q_a0_hers, .ref q_a0_his, .ref q_a0_hand, .ref q_a0_bytes, .int a0_bytesLong, .int a0_tokenAt, .int a0_tokenLong, .int a0_token, .int a0_value, .ref q_a0_anew, .ref q_a0_values])), (q_a0_bytes, .inl (cI, 150, .inl a0_bytes))])) (va_Qv (fun (u : Int32 × Int32 × Int32 × Int32) => Q u.1 u.2.1 u.2.2.1 u.2.2.2) (fun (u : Int32 × Int32 × Int32 × Int32) t => va_P D vwCl [(q_a0, .inr (8, [.ref q_a0_told, .ref q_a0_kept, .ref q_a0_isKept, .ref q_a0_refused, .long a0_above, .long a0_below, .ref q_a0_manyBy, .ref q_a0_hers, .ref q_a0_his, .ref q_a0_hand, .ref q_a0_bytes, .int a0_bytesLong, .int u.1, .int u.2.1, .int u.2.2.1, .int u.2.2.2, .ref q_a0_anew, .ref q_a0_values])), (q_a0_bytes, .inl (cI, 150, .inl a0_bytes))] t.heap ∧ va_D (va_A [(q_a0, .inr (8, [.ref q_a0_told, .ref q_a0_kept, .ref q_a0_isKept, .ref q_a0_refused, .long a0_above, .long a0_below, .ref q_a0_manyBy, .ref q_a0_hers, .ref q_a0_his, .ref q_a0_hand, .ref q_a0_bytes, .int a0_bytesLong, .int a0_tokenAt, .int a0_tokenLong, .int a0_token, .int a0_value, .ref q_a0_anew, .ref q_a0_values])), (q_a0_bytes, .inl (cI, 150, .inl a0_bytes))] sz) [(q_a0, .inr (8, [.ref q_a0_told, .ref q_a0_kept, .ref q_a0_isKept, .ref q_a0_refused, .long a0_above, .long a0_below, .ref q_a0_manyBy, .ref q_a0_hers, .ref q_a0_his, .ref q_a0_hand, .ref q_a0_bytes, .int a0_bytesLong, .int u.1, .int u.2.1, .int u.2.2.1, .int u.2.2.2, .ref q_a0_anew, .ref q_a0_values])), (q_a0_bytes, .inl (cI, 150, .inl a0_bytes))]) (va_A [(q_a0, .inr (8, [.ref q_a0_told, .ref q_a0_kept, .ref q_a0_isKept, .ref q_a0_refused, .long a0_above, .long a0_below, .ref q_a0_manyBy, .ref q_a0_hers, .ref q_a0_his, .ref q_a0_hand, .ref q_a0_bytes, .int a0_bytesLong, .int a0_tokenAt, .int a0_tokenLong, .int a0_token, .int a0_value, .ref q_a0_anew, .ref q_a0_values])), (q_a0_bytes, .inl (cI, 150, .inl a0_bytes))] sz)) 0 0 (va_A [(q_a0, .inr (8, [.ref q_a0_told, .ref q_a0_kept, .ref q_a0_isKept, .ref q_a0_refused, .long a0_above, .long a0_below, .ref q_a0_manyBy, .ref q_a0_hers, .ref q_a0_his, .ref q_a0_hand, .ref q_a0_bytes, .int a0_bytesLong, .int a0_tokenAt, .int a0_tokenLong, .int a0_token, .int a0_value, .ref q_a0_anew, .ref q_a0_values])), (q_a0_bytes, .inl (cI, 150, .inl a0_bytes))] sz) := by
  refine Met.ofW (cc := cX9_goBehind) (maxL := 1) (ret := none) (by decide) rfl ?_
  intro p e s m args below meth c s₁ B hml hv
  obtain ⟨rfl, hsz, hP, hX, hD0⟩ := hv
  have hK := hX.1
  have hx := B.exec
  have hb := B.bytes
  have hr := B.returns
  have hts := atoms_spec (ws := wsX9_goBehind) B.pre
  have hown : s.vm.findClass RX9 = some m.cls := findClass_of_methodNamed B.named
  have hlocks := B.notSynchronized
  have in_X9 : ∀ w ∈ wsX90, w ∈ wsX9_goBehind := fun _ h => List.mem_cons_of_mem _ (List.mem_append_right _ h)
  have kf_195 := hts (.fieldLink RX9 195 "LeftCrestModel" "tokenAt" "I") (by decide +kernel)
  have kf_198 := hts (.fieldLink RX9 198 "LeftCrestModel" "tokenLong" "I") (by decide +kernel)
  subst hsz
  have hD := hD0.self (sz := s.heap.size)
  generalize hAe : va_A [(q_a0, .inr (8, [.ref q_a0_told, .ref q_a0_kept, .ref q_a0_isKept, .ref q_a0_refused, .long a0_above, .long a0_below, .ref q_a0_manyBy, .ref q_a0_hers, .ref q_a0_his, .ref q_a0_hand, .ref q_a0_bytes, .int a0_bytesLong, .int a0_tokenAt, .int a0_tokenLong, .int a0_token, .int a0_value, .ref q_a0_anew, .ref q_a0_values])), (q_a0_bytes, .inl (cI, 150, .inl a0_bytes))] s.heap.size = A at hD ⊢
  have hA : ∀ q : Nat, s.heap.size ≤ q → A q := fun q h => by rw [← hAe]; exact Or.inr h
  have hS : va_S A s.heap s.heap [] := va_S.rf
  have hP : va_P D vwCl [(q_a0, .inr (8, [.ref q_a0_told, .ref q_a0_kept, .ref q_a0_isKept, .ref q_a0_refused, .long a0_above, .long a0_below, .ref q_a0_manyBy, .ref q_a0_hers, .ref q_a0_his, .ref q_a0_hand, .ref q_a0_bytes, .int a0_bytesLong, .int a0_tokenAt, .int a0_tokenLong, .int a0_token, .int a0_value, .ref q_a0_anew, .ref q_a0_values])), (q_a0_bytes, .inl (cI, 150, .inl a0_bytes))] s.heap := hP
  generalize hQQ : MQ below _ _ s _ _ _ = QQ
  have hl := lv_entry ([.ref q_a0]) (n := 1) (Nat.le_of_ble_eq_true rfl)
  rw [lg_entry_eq]
  generalize (lg_sl ([.ref q_a0]) ++ List.replicate (1 - (lg_sl ([.ref q_a0])).length) Slot.unset).toArray = ls at hl ⊢
  have hl : lv_has ls 1 [(0, .ref q_a0)] := hl
  unfold p_X9_goBehind at hf
  refine lv_aload_n hx hb dX9_goBehind_0 rfl (lv_at hl 0 rfl) ?_
  refine lv_aload_n hx hb dX9_goBehind_1 rfl (lv_at hl 0 rfl) ?_
  refine va_get (D := D) (ci := 8) (v := .int a0_tokenAt) (C := RX9) (T := TX9) (N := 18) hx hb hts in_X9 hown hK hP 0 rfl rfl 12 (by decide) kf_195 (fun _ h9 => h9) rfl dX9_goBehind_2 ?_
  refine lv_aload_n hx hb dX9_goBehind_5 rfl (lv_at hl 0 rfl) ?_
  refine va_get (D := D) (ci := 8) (v := .int a0_tokenLong) (C := RX9) (T := TX9) (N := 18) hx hb hts in_X9 hown hK hP 0 rfl rfl 13 (by decide) kf_198 (fun _ h9 => h9) rfl dX9_goBehind_6 ?_
  refine lv_iadd hx hb dX9_goBehind_9 ?_
  have hPc := hP.sub (ws' := [(q_a0, .inr (8, [.ref q_a0_told, .ref q_a0_kept, .ref q_a0_isKept, .ref q_a0_refused, .long a0_above, .long a0_below, .ref q_a0_manyBy, .ref q_a0_hers, .ref q_a0_his, .ref q_a0_hand, .ref q_a0_bytes, .int a0_bytesLong, .int a0_tokenAt, .int a0_tokenLong, .int a0_token, .int a0_value, .ref q_a0_anew, .ref q_a0_values])), (q_a0_bytes, .inl (cI, 150, .inl a0_bytes))]) [0, 1] rfl
  have hDc := hD.sub (ws' := [(q_a0, .inr (8, [.ref q_a0_told, .ref q_a0_kept, .ref q_a0_isKept, .ref q_a0_refused, .long a0_above, .long a0_below, .ref q_a0_manyBy, .ref q_a0_hers, .ref q_a0_his, .ref q_a0_hand, .ref q_a0_bytes, .int a0_bytesLong, .int a0_tokenAt, .int a0_tokenLong, .int a0_token, .int a0_value, .ref q_a0_anew, .ref q_a0_values])), (q_a0_bytes, .inl (cI, 150, .inl a0_bytes))]) [0, 1] (by decide) rfl
  have hFc := va_free (wc := [(q_a0, .inr (8, [.ref q_a0_told, .ref q_a0_kept, .ref q_a0_isKept, .ref q_a0_refused, .long a0_above, .long a0_below, .ref q_a0_manyBy, .ref q_a0_hers, .ref q_a0_his, .ref q_a0_hand, .ref q_a0_bytes, .int a0_bytesLong, .int a0_tokenAt, .int a0_tokenLong, .int a0_token, .int a0_value, .ref q_a0_anew, .ref q_a0_values])), (q_a0_bytes, .inl (cI, 150, .inl a0_bytes))]) hD hS hA [0, 1] rfl
  refine va_callv (va_runV (As := [.int (a0_tokenAt + a0_tokenLong)]) (rest := []) ⟨hx, hb, hml, hown, hts⟩ (c_X9_lookAt l D cI cZ cO q_a0 q_a0_told q_a0_kept q_a0_isKept q_a0_refused q_a0_manyBy q_a0_hers q_a0_his q_a0_hand q_a0_bytes q_a0_anew q_a0_values a0_above a0_below a0_bytesLong a0_tokenAt a0_tokenLong a0_token a0_value a0_bytes s.heap.size (a0_tokenAt + a0_tokenLong) _ hf) (cwV 1 hts gX9_goBehind_X9_lookAt rfl rfl rfl (by decide +kernel) ⟨Nat.le_of_ble_eq_true rfl, Nat.le_of_ble_eq_true rfl⟩) (pv_rw (ci := 8) (q0 := 0) hPc hDc hX rfl rfl) rfl rfl hl.1 rfl (lv_room (Nat.le_of_ble_eq_true rfl)) dX9_goBehind_10 ⟨Nat.zero_le _, Nat.zero_le _⟩) hS (fun q _ h => hFc q h) hFc (fun u t H1 locs ht hvm hf hB hz1 hk1 hS => ?_)
  obtain ⟨u_1, u_2, u_3, u_4⟩ := u
  obtain ⟨hP1, hD1⟩ := hB
  rw [ht] at hP1
  clear hvm
  obtain ⟨hP, hD⟩ := va_join (wr := []) (w1 := [(q_a0, .inr (8, [.ref q_a0_told, .ref q_a0_kept, .ref q_a0_isKept, .ref q_a0_refused, .long a0_above, .long a0_below, .ref q_a0_manyBy, .ref q_a0_hers, .ref q_a0_his, .ref q_a0_hand, .ref q_a0_bytes, .int a0_bytesLong, .int u_1, .int u_2, .int u_3, .int u_4, .ref q_a0_anew, .ref q_a0_values])), (q_a0_bytes, .inl (cI, 150, .inl a0_bytes))]) hP hD [0, 1] [] rfl rfl (by decide) (by decide) hk1 hFc hP1 hD1
  clear hz1 hk1 hPc hDc hFc hP1 hD1
  generalize H1 = H at hP hS ⊢
  have hP : va_P D vwCl [(q_a0, .inr (8, [.ref q_a0_told, .ref q_a0_kept, .ref q_a0_isKept, .ref q_a0_refused, .long a0_above, .long a0_below, .ref q_a0_manyBy, .ref q_a0_hers, .ref q_a0_his, .ref q_a0_hand, .ref q_a0_bytes, .int a0_bytesLong, .int u_1, .int u_2, .int u_3, .int u_4, .ref q_a0_anew, .ref q_a0_values])), (q_a0_bytes, .inl (cI, 150, .inl a0_bytes))] H := hP
  have hD : va_D A [(q_a0, .inr (8, [.ref q_a0_told, .ref q_a0_kept, .ref q_a0_isKept, .ref q_a0_refused, .long a0_above, .long a0_below, .ref q_a0_manyBy, .ref q_a0_hers, .ref q_a0_his, .ref q_a0_hand, .ref q_a0_bytes, .int a0_bytesLong, .int u_1, .int u_2, .int u_3, .int u_4, .ref q_a0_anew, .ref q_a0_values])), (q_a0_bytes, .inl (cI, 150, .inl a0_bytes))] := hD
  subst hQQ
  have hP9 := hP.sub (ws' := [(q_a0, .inr (8, [.ref q_a0_told, .ref q_a0_kept, .ref q_a0_isKept, .ref q_a0_refused, .long a0_above, .long a0_below, .ref q_a0_manyBy, .ref q_a0_hers, .ref q_a0_his, .ref q_a0_hand, .ref q_a0_bytes, .int a0_bytesLong, .int u_1, .int u_2, .int u_3, .int u_4, .ref q_a0_anew, .ref q_a0_values])), (q_a0_bytes, .inl (cI, 150, .inl a0_bytes))]) [0, 1] rfl
  have hD9 := hD.sub (ws' := [(q_a0, .inr (8, [.ref q_a0_told, .ref q_a0_kept, .ref q_a0_isKept, .ref q_a0_refused, .long a0_above, .long a0_below, .ref q_a0_manyBy, .ref q_a0_hers, .ref q_a0_his, .ref q_a0_hand, .ref q_a0_bytes, .int a0_bytesLong, .int u_1, .int u_2, .int u_3, .int u_4, .ref q_a0_anew, .ref q_a0_values])), (q_a0_bytes, .inl (cI, 150, .inl a0_bytes))]) [0, 1] (by decide) rfl
  exact W.vret hx hb hr (fun t ht hW => ⟨⟨(u_1, u_2, u_3, u_4), rfl, hf, by rw [ht]; exact hP9, hD9⟩, hS.F ht⟩) hS.2.2 dX9_goBehind_13
def bX9_spells_26 (a0_bytes : Nat → Int32) (a0_tokenAt : Int32) (x1 : Int32) (x2 : Int32) (x3 : Int32) (x4 : Int32) (x5 : Int32) (x6 : Int32) (x7 : Int32) (Q : Int32 → Prop) (k_4 : Int32 → Int32 → Prop) (v_2 : Int32) (v_3 : Int32) : Prop :=
  if x1 ≤ v_3 then (zb v_2 ∧ Q v_2) else (if v_2 = 0 then (zb v_2 ∧ Q v_2) else (vp_in (a0_tokenAt + v_3) 150 ∧ (if v_3 = 0 then (if (a0_bytes (a0_tokenAt + v_3).toNatClampNeg) = x2 then (k_4 1 (v_3 + 1)) else (k_4 0 (v_3 + 1))) else (if v_3 = 1 then (if (a0_bytes (a0_tokenAt + v_3).toNatClampNeg) = x3 then (k_4 1 (v_3 + 1)) else (k_4 0 (v_3 + 1))) else (if v_3 = 2 then (if (a0_bytes (a0_tokenAt + v_3).toNatClampNeg) = x4 then (k_4 1 (v_3 + 1)) else (k_4 0 (v_3 + 1))) else (if v_3 = 3 then (if (a0_bytes (a0_tokenAt + v_3).toNatClampNeg) = x5 then (k_4 1 (v_3 + 1)) else (k_4 0 (v_3 + 1))) else (if v_3 = 4 then (if (a0_bytes (a0_tokenAt + v_3).toNatClampNeg) = x6 then (k_4 1 (v_3 + 1)) else (k_4 0 (v_3 + 1))) else (if (a0_bytes (a0_tokenAt + v_3).toNatClampNeg) = x7 then (k_4 1 (v_3 + 1)) else (k_4 0 (v_3 + 1))))))))))
def jX9_spells_21 (a0_bytes : Nat → Int32) (a0_tokenAt : Int32) (x1 : Int32) (x2 : Int32) (x3 : Int32) (x4 : Int32) (x5 : Int32) (x6 : Int32) (x7 : Int32) (Q : Int32 → Prop) (t_1 : Int32) : Prop :=
  lq2 (bX9_spells_26 a0_bytes a0_tokenAt x1 x2 x3 x4 x5 x6 x7 Q) 1000 t_1 0
def jX9_spells_20 (a0_bytes : Nat → Int32) (a0_tokenAt : Int32) (x1 : Int32) (x2 : Int32) (x3 : Int32) (x4 : Int32) (x5 : Int32) (x6 : Int32) (x7 : Int32) (Q : Int32 → Prop) : Prop :=
  jX9_spells_21 a0_bytes a0_tokenAt x1 x2 x3 x4 x5 x6 x7 Q 0
def p_X9_spells (a0_bytes : Nat → Int32) (a0_tokenAt : Int32) (a0_tokenLong : Int32) (a0_token : Int32) (x1 : Int32) (x2 : Int32) (x3 : Int32) (x4 : Int32) (x5 : Int32) (x6 : Int32) (x7 : Int32) (Q : Int32 → Prop) : Prop :=
  if a0_token = 1 then (if a0_tokenLong = x1 then (jX9_spells_21 a0_bytes a0_tokenAt x1 x2 x3 x4 x5 x6 x7 Q 1) else (jX9_spells_20 a0_bytes a0_tokenAt x1 x2 x3 x4 x5 x6 x7 Q)) else (jX9_spells_20 a0_bytes a0_tokenAt x1 x2 x3 x4 x5 x6 x7 Q)
def rmX9_spells : Room := { frames := 0, cells := 0, slots := 0, locals := 0 }
set_option maxHeartbeats 4000000 in
set_option maxRecDepth 100000 in
theorem c_X9_spells (l : Launch) (D : va_G) (cI cZ cO : ClassId) (q_a0 q_a0_told q_a0_kept q_a0_isKept q_a0_refused q_a0_manyBy q_a0_hers q_a0_his q_a0_hand q_a0_bytes q_a0_anew q_a0_values : Nat) (a0_above : Int64) (a0_below : Int64) (a0_bytesLong : Int32) (a0_tokenAt : Int32) (a0_tokenLong : Int32) (a0_token : Int32) (a0_value : Int32) (a0_bytes : Nat → Int32) (x1 : Int32) (x2 : Int32) (x3 : Int32) (x4 : Int32) (x5 : Int32) (x6 : Int32) (x7 : Int32) (Q : Int32 → Prop) (hf : p_X9_spells a0_bytes a0_tokenAt a0_tokenLong a0_token x1 x2 x3 x4 x5 x6 x7 Q) : Met l yX9_spells wsX9_spells rmX9_spells (va_Pc [.ref q_a0, .int x1, .int x2, .int x3, .int x4, .int x5, .int x6, .int x7] (fun U => va_P D vwCl [(q_a0, .inr (8, [.ref q_a0_told, .ref q_a0_kept, .ref q_a0_isKept, .ref q_a0_refused, .long a0_above, .long a0_below, .ref q_a0_manyBy, .ref q_a0_hers, .ref q_a0_his, .ref q_a0_hand, .ref q_a0_bytes, .int a0_bytesLong, .int a0_tokenAt, .int a0_tokenLong, .int a0_token, .int a0_value, .ref q_a0_anew, .ref q_a0_values])), (q_a0_bytes, .inl (cI, 150, .inl a0_bytes))] U.heap ∧ XK D cI cZ cO U)) (vp_Si Q) 0 0 (fun _ => False) := by
  refine Met.ofW (cc := cX9_spells) (maxL := 10) (ret := (some .boolean)) (by decide) rfl ?_
  intro p e s m args below meth c s₁ B hml hv
  obtain ⟨rfl, hP, hX⟩ := hv
  have hK := hX.1
  have hx := B.exec
  have hb := B.bytes
  have hr := B.returns
  have hts := atoms_spec (ws := wsX9_spells) B.pre
  have hown : s.vm.findClass RX9 = some m.cls := findClass_of_methodNamed B.named
  have hlocks := B.notSynchronized
  have in_X9 : ∀ w ∈ wsX90, w ∈ wsX9_spells := fun _ h => List.mem_cons_of_mem _ (List.mem_append_right _ h)
  have kf_39 := hts (.fieldLink RX9 39 "LeftCrestModel" "bytes" "[I") (by decide +kernel)
  have kf_195 := hts (.fieldLink RX9 195 "LeftCrestModel" "tokenAt" "I") (by decide +kernel)
  have kf_201 := hts (.fieldLink RX9 201 "LeftCrestModel" "token" "I") (by decide +kernel)
  have kf_198 := hts (.fieldLink RX9 198 "LeftCrestModel" "tokenLong" "I") (by decide +kernel)
  generalize hQQ : MQ below _ _ s _ _ _ = QQ
  have hl := lv_entry ([.ref q_a0, .int x1, .int x2, .int x3, .int x4, .int x5, .int x6, .int x7]) (n := 10) (Nat.le_of_ble_eq_true rfl)
  rw [lg_entry_eq]
  generalize (lg_sl ([.ref q_a0, .int x1, .int x2, .int x3, .int x4, .int x5, .int x6, .int x7]) ++ List.replicate (10 - (lg_sl ([.ref q_a0, .int x1, .int x2, .int x3, .int x4, .int x5, .int x6, .int x7])).length) Slot.unset).toArray = ls at hl ⊢
  have hl : lv_has ls 10 [(0, .ref q_a0), (1, .int x1), (2, .int x2), (3, .int x3), (4, .int x4), (5, .int x5), (6, .int x6), (7, .int x7)] := hl
  have hj_21 : ∀ (t_1 : Int32), jX9_spells_21 a0_bytes a0_tokenAt x1 x2 x3 x4 x5 x6 x7 Q t_1 → ∀ ls : Array Slot, lv_has ls 10 [(0, .ref q_a0), (1, .int x1), (2, .int x2), (3, .int x3), (4, .int x4), (5, .int x5), (6, .int x6), (7, .int x7)] → W p l e (headSpec wsX9_spells rmX9_spells).room s m ([.ref q_a0, .int x1, .int x2, .int x3, .int x4, .int x5, .int x6, .int x7] : List Value).toArray below meth c s.heap [] 0 0 QQ (F0 m 21 ls [.int t_1]) := by
    intro t_1 hf ls hl
    unfold jX9_spells_21 at hf
    refine lv_istore (lv' := [(8, .int t_1), (0, .ref q_a0), (1, .int x1), (2, .int x2), (3, .int x3), (4, .int x4), (5, .int x5), (6, .int x6), (7, .int x7)]) hx hb dX9_spells_21 hl (by decide) rfl (fun ls hl => ?_)
    refine lv_iconst (v := 0) hx hb dX9_spells_23 (by decide) ?_
    refine lv_istore (lv' := [(9, .int 0), (8, .int t_1), (0, .ref q_a0), (1, .int x1), (2, .int x2), (3, .int x3), (4, .int x4), (5, .int x5), (6, .int x6), (7, .int x7)]) hx hb dX9_spells_24 hl (by decide) rfl (fun ls hl => ?_)
    have hlp_26 : ∀ (n_26 : Nat) (v_2 : Int32) (v_3 : Int32) (ls : Array Slot), lq2 (bX9_spells_26 a0_bytes a0_tokenAt x1 x2 x3 x4 x5 x6 x7 Q) n_26 v_2 v_3 → lv_has ls 10 [(0, .ref q_a0), (1, .int x1), (2, .int x2), (3, .int x3), (4, .int x4), (5, .int x5), (6, .int x6), (7, .int x7), (8, .int v_2), (9, .int v_3)] → W p l e (headSpec wsX9_spells rmX9_spells).room s m ([.ref q_a0, .int x1, .int x2, .int x3, .int x4, .int x5, .int x6, .int x7] : List Value).toArray below meth c s.heap [] 0 0 QQ (F0 m 26 ls []) := by
      intro n_26
      induction n_26 with
      | zero => intro v_2 v_3 ls hf; exact (lq2_0 hf).elim
      | succ n_26 ih =>
        have ih_26 := ih
        intro v_2 v_3 ls hf hl
        have hf := lq2_s hf
        unfold bX9_spells_26 at hf
        refine lv_iload hx hb dX9_spells_26 (lv_at hl 9 rfl) ?_
        refine lv_iload_n hx hb dX9_spells_28 rfl (lv_at hl 1 rfl) ?_
        refine lv_icmp_ge (tgt := 119) hx hb dX9_spells_29 (by decide) (fun c_5 => ?_) (fun c_5 => ?_)
        · have hf := it_t c_5 hf
          refine lv_iload hx hb dX9_spells_119 (lv_at hl 8 rfl) ?_
          subst hQQ
          have hz := hf.1
          have hf := hf.2
          exact W.zret hx hb hr hz (fun t ht hW => ⟨_, rfl, hf, ht⟩) (fun _ h => absurd h List.not_mem_nil) dX9_spells_121
        · have hf := it_f c_5 hf
          refine lv_iload hx hb dX9_spells_32 (lv_at hl 8 rfl) ?_
          refine lv_if_eq (tgt := 119) hx hb dX9_spells_34 (by decide) (fun c_6 => ?_) (fun c_6 => ?_)
          · have hf := it_t c_6 hf
            refine lv_iload hx hb dX9_spells_119 (lv_at hl 8 rfl) ?_
            subst hQQ
            have hz := hf.1
            have hf := hf.2
            exact W.zret hx hb hr hz (fun t ht hW => ⟨_, rfl, hf, ht⟩) (fun _ h => absurd h List.not_mem_nil) dX9_spells_121
          · have hf := it_f c_6 hf
            refine lv_aload_n hx hb dX9_spells_37 rfl (lv_at hl 0 rfl) ?_
            refine va_get (D := D) (ci := 8) (v := .ref q_a0_bytes) (C := RX9) (T := TX9) (N := 18) hx hb hts in_X9 hown hK hP 0 rfl rfl 10 (by decide) kf_39 (fun _ h9 => h9) rfl dX9_spells_38 ?_
            refine lv_aload_n hx hb dX9_spells_41 rfl (lv_at hl 0 rfl) ?_
            refine va_get (D := D) (ci := 8) (v := .int a0_tokenAt) (C := RX9) (T := TX9) (N := 18) hx hb hts in_X9 hown hK hP 0 rfl rfl 12 (by decide) kf_195 (fun _ h9 => h9) rfl dX9_spells_42 ?_
            refine lv_iload hx hb dX9_spells_45 (lv_at hl 9 rfl) ?_
            refine lv_iadd hx hb dX9_spells_47 ?_
            refine va_iald hx hb hK hP 1 0 rfl rfl hf.1 dX9_spells_48 ?_
            have hf := hf.2
            refine lv_iload hx hb dX9_spells_49 (lv_at hl 9 rfl) ?_
            refine lv_if_ne (tgt := 58) hx hb dX9_spells_51 (by decide) (fun c_7 => ?_) (fun c_7 => ?_)
            · have hf := it_f c_7 hf
              refine lv_iload hx hb dX9_spells_58 (lv_at hl 9 rfl) ?_
              refine lv_iconst (v := 1) hx hb dX9_spells_60 (by decide) ?_
              refine lv_icmp_ne (tgt := 68) hx hb dX9_spells_61 (by decide) (fun c_8 => ?_) (fun c_8 => ?_)
              · have hf := it_f c_8 hf
                refine lv_iload hx hb dX9_spells_68 (lv_at hl 9 rfl) ?_
                refine lv_iconst (v := 2) hx hb dX9_spells_70 (by decide) ?_
                refine lv_icmp_ne (tgt := 79) hx hb dX9_spells_71 (by decide) (fun c_9 => ?_) (fun c_9 => ?_)
                · have hf := it_f c_9 hf
                  refine lv_iload hx hb dX9_spells_79 (lv_at hl 9 rfl) ?_
                  refine lv_iconst (v := 3) hx hb dX9_spells_81 (by decide) ?_
                  refine lv_icmp_ne (tgt := 90) hx hb dX9_spells_82 (by decide) (fun c_10 => ?_) (fun c_10 => ?_)
                  · have hf := it_f c_10 hf
                    refine lv_iload hx hb dX9_spells_90 (lv_at hl 9 rfl) ?_
                    refine lv_iconst (v := 4) hx hb dX9_spells_92 (by decide) ?_
                    refine lv_icmp_ne (tgt := 101) hx hb dX9_spells_93 (by decide) (fun c_11 => ?_) (fun c_11 => ?_)
                    · have hf := it_f c_11 hf
                      refine lv_iload hx hb dX9_spells_101 (lv_at hl 7 rfl) ?_
                      refine lv_icmp_ne (tgt := 110) hx hb dX9_spells_103 (by decide) (fun c_12 => ?_) (fun c_12 => ?_)
                      · have hf := it_f c_12 hf
                        refine lv_iconst (v := 0) hx hb dX9_spells_110 (by decide) ?_
                        refine lv_istore (lv' := [(8, .int 0), (0, .ref q_a0), (1, .int x1), (2, .int x2), (3, .int x3), (4, .int x4), (5, .int x5), (6, .int x6), (7, .int x7), (9, .int v_3)]) hx hb dX9_spells_111 hl (by decide) rfl (fun ls hl => ?_)
                        refine lv_iinc (v := v_3 + 1) (lv' := [(9, .int (v_3 + 1)), (8, .int 0), (0, .ref q_a0), (1, .int x1), (2, .int x2), (3, .int x3), (4, .int x4), (5, .int x5), (6, .int x6), (7, .int x7)]) hx hb dX9_spells_113 hl (k := 9) rfl rfl (by decide) rfl (fun ls hl => ?_)
                        refine lv_goto (tgt := 26) hx hb dX9_spells_116 (by decide) ?_
                        exact ih 0 (v_3 + 1) ls hf (lv_sub hl [2, 3, 4, 5, 6, 7, 8, 9, 1, 0] rfl)
                      · have hf := it_t c_12 hf
                        refine lv_iconst (v := 1) hx hb dX9_spells_106 (by decide) ?_
                        refine lv_goto (tgt := 111) hx hb dX9_spells_107 (by decide) ?_
                        refine lv_istore (lv' := [(8, .int 1), (0, .ref q_a0), (1, .int x1), (2, .int x2), (3, .int x3), (4, .int x4), (5, .int x5), (6, .int x6), (7, .int x7), (9, .int v_3)]) hx hb dX9_spells_111 hl (by decide) rfl (fun ls hl => ?_)
                        refine lv_iinc (v := v_3 + 1) (lv' := [(9, .int (v_3 + 1)), (8, .int 1), (0, .ref q_a0), (1, .int x1), (2, .int x2), (3, .int x3), (4, .int x4), (5, .int x5), (6, .int x6), (7, .int x7)]) hx hb dX9_spells_113 hl (k := 9) rfl rfl (by decide) rfl (fun ls hl => ?_)
                        refine lv_goto (tgt := 26) hx hb dX9_spells_116 (by decide) ?_
                        exact ih 1 (v_3 + 1) ls hf (lv_sub hl [2, 3, 4, 5, 6, 7, 8, 9, 1, 0] rfl)
                    · have hf := it_t c_11 hf
                      refine lv_iload hx hb dX9_spells_96 (lv_at hl 6 rfl) ?_
                      refine lv_goto (tgt := 103) hx hb dX9_spells_98 (by decide) ?_
                      refine lv_icmp_ne (tgt := 110) hx hb dX9_spells_103 (by decide) (fun c_13 => ?_) (fun c_13 => ?_)
                      · have hf := it_f c_13 hf
                        refine lv_iconst (v := 0) hx hb dX9_spells_110 (by decide) ?_
                        refine lv_istore (lv' := [(8, .int 0), (0, .ref q_a0), (1, .int x1), (2, .int x2), (3, .int x3), (4, .int x4), (5, .int x5), (6, .int x6), (7, .int x7), (9, .int v_3)]) hx hb dX9_spells_111 hl (by decide) rfl (fun ls hl => ?_)
                        refine lv_iinc (v := v_3 + 1) (lv' := [(9, .int (v_3 + 1)), (8, .int 0), (0, .ref q_a0), (1, .int x1), (2, .int x2), (3, .int x3), (4, .int x4), (5, .int x5), (6, .int x6), (7, .int x7)]) hx hb dX9_spells_113 hl (k := 9) rfl rfl (by decide) rfl (fun ls hl => ?_)
                        refine lv_goto (tgt := 26) hx hb dX9_spells_116 (by decide) ?_
                        exact ih 0 (v_3 + 1) ls hf (lv_sub hl [2, 3, 4, 5, 6, 7, 8, 9, 1, 0] rfl)
                      · have hf := it_t c_13 hf
                        refine lv_iconst (v := 1) hx hb dX9_spells_106 (by decide) ?_
                        refine lv_goto (tgt := 111) hx hb dX9_spells_107 (by decide) ?_
                        refine lv_istore (lv' := [(8, .int 1), (0, .ref q_a0), (1, .int x1), (2, .int x2), (3, .int x3), (4, .int x4), (5, .int x5), (6, .int x6), (7, .int x7), (9, .int v_3)]) hx hb dX9_spells_111 hl (by decide) rfl (fun ls hl => ?_)
                        refine lv_iinc (v := v_3 + 1) (lv' := [(9, .int (v_3 + 1)), (8, .int 1), (0, .ref q_a0), (1, .int x1), (2, .int x2), (3, .int x3), (4, .int x4), (5, .int x5), (6, .int x6), (7, .int x7)]) hx hb dX9_spells_113 hl (k := 9) rfl rfl (by decide) rfl (fun ls hl => ?_)
                        refine lv_goto (tgt := 26) hx hb dX9_spells_116 (by decide) ?_
                        exact ih 1 (v_3 + 1) ls hf (lv_sub hl [2, 3, 4, 5, 6, 7, 8, 9, 1, 0] rfl)
                  · have hf := it_t c_10 hf
                    refine lv_iload hx hb dX9_spells_85 (lv_at hl 5 rfl) ?_
                    refine lv_goto (tgt := 103) hx hb dX9_spells_87 (by decide) ?_
                    refine lv_icmp_ne (tgt := 110) hx hb dX9_spells_103 (by decide) (fun c_14 => ?_) (fun c_14 => ?_)
                    · have hf := it_f c_14 hf
                      refine lv_iconst (v := 0) hx hb dX9_spells_110 (by decide) ?_
                      refine lv_istore (lv' := [(8, .int 0), (0, .ref q_a0), (1, .int x1), (2, .int x2), (3, .int x3), (4, .int x4), (5, .int x5), (6, .int x6), (7, .int x7), (9, .int v_3)]) hx hb dX9_spells_111 hl (by decide) rfl (fun ls hl => ?_)
                      refine lv_iinc (v := v_3 + 1) (lv' := [(9, .int (v_3 + 1)), (8, .int 0), (0, .ref q_a0), (1, .int x1), (2, .int x2), (3, .int x3), (4, .int x4), (5, .int x5), (6, .int x6), (7, .int x7)]) hx hb dX9_spells_113 hl (k := 9) rfl rfl (by decide) rfl (fun ls hl => ?_)
                      refine lv_goto (tgt := 26) hx hb dX9_spells_116 (by decide) ?_
                      exact ih 0 (v_3 + 1) ls hf (lv_sub hl [2, 3, 4, 5, 6, 7, 8, 9, 1, 0] rfl)
                    · have hf := it_t c_14 hf
                      refine lv_iconst (v := 1) hx hb dX9_spells_106 (by decide) ?_
                      refine lv_goto (tgt := 111) hx hb dX9_spells_107 (by decide) ?_
                      refine lv_istore (lv' := [(8, .int 1), (0, .ref q_a0), (1, .int x1), (2, .int x2), (3, .int x3), (4, .int x4), (5, .int x5), (6, .int x6), (7, .int x7), (9, .int v_3)]) hx hb dX9_spells_111 hl (by decide) rfl (fun ls hl => ?_)
                      refine lv_iinc (v := v_3 + 1) (lv' := [(9, .int (v_3 + 1)), (8, .int 1), (0, .ref q_a0), (1, .int x1), (2, .int x2), (3, .int x3), (4, .int x4), (5, .int x5), (6, .int x6), (7, .int x7)]) hx hb dX9_spells_113 hl (k := 9) rfl rfl (by decide) rfl (fun ls hl => ?_)
                      refine lv_goto (tgt := 26) hx hb dX9_spells_116 (by decide) ?_
                      exact ih 1 (v_3 + 1) ls hf (lv_sub hl [2, 3, 4, 5, 6, 7, 8, 9, 1, 0] rfl)
                · have hf := it_t c_9 hf
                  refine lv_iload hx hb dX9_spells_74 (lv_at hl 4 rfl) ?_
                  refine lv_goto (tgt := 103) hx hb dX9_spells_76 (by decide) ?_
                  refine lv_icmp_ne (tgt := 110) hx hb dX9_spells_103 (by decide) (fun c_15 => ?_) (fun c_15 => ?_)
                  · have hf := it_f c_15 hf
                    refine lv_iconst (v := 0) hx hb dX9_spells_110 (by decide) ?_
                    refine lv_istore (lv' := [(8, .int 0), (0, .ref q_a0), (1, .int x1), (2, .int x2), (3, .int x3), (4, .int x4), (5, .int x5), (6, .int x6), (7, .int x7), (9, .int v_3)]) hx hb dX9_spells_111 hl (by decide) rfl (fun ls hl => ?_)
                    refine lv_iinc (v := v_3 + 1) (lv' := [(9, .int (v_3 + 1)), (8, .int 0), (0, .ref q_a0), (1, .int x1), (2, .int x2), (3, .int x3), (4, .int x4), (5, .int x5), (6, .int x6), (7, .int x7)]) hx hb dX9_spells_113 hl (k := 9) rfl rfl (by decide) rfl (fun ls hl => ?_)
                    refine lv_goto (tgt := 26) hx hb dX9_spells_116 (by decide) ?_
                    exact ih 0 (v_3 + 1) ls hf (lv_sub hl [2, 3, 4, 5, 6, 7, 8, 9, 1, 0] rfl)
                  · have hf := it_t c_15 hf
                    refine lv_iconst (v := 1) hx hb dX9_spells_106 (by decide) ?_
                    refine lv_goto (tgt := 111) hx hb dX9_spells_107 (by decide) ?_
                    refine lv_istore (lv' := [(8, .int 1), (0, .ref q_a0), (1, .int x1), (2, .int x2), (3, .int x3), (4, .int x4), (5, .int x5), (6, .int x6), (7, .int x7), (9, .int v_3)]) hx hb dX9_spells_111 hl (by decide) rfl (fun ls hl => ?_)
                    refine lv_iinc (v := v_3 + 1) (lv' := [(9, .int (v_3 + 1)), (8, .int 1), (0, .ref q_a0), (1, .int x1), (2, .int x2), (3, .int x3), (4, .int x4), (5, .int x5), (6, .int x6), (7, .int x7)]) hx hb dX9_spells_113 hl (k := 9) rfl rfl (by decide) rfl (fun ls hl => ?_)
                    refine lv_goto (tgt := 26) hx hb dX9_spells_116 (by decide) ?_
                    exact ih 1 (v_3 + 1) ls hf (lv_sub hl [2, 3, 4, 5, 6, 7, 8, 9, 1, 0] rfl)
              · have hf := it_t c_8 hf
                refine lv_iload_n hx hb dX9_spells_64 rfl (lv_at hl 3 rfl) ?_
                refine lv_goto (tgt := 103) hx hb dX9_spells_65 (by decide) ?_
                refine lv_icmp_ne (tgt := 110) hx hb dX9_spells_103 (by decide) (fun c_16 => ?_) (fun c_16 => ?_)
                · have hf := it_f c_16 hf
                  refine lv_iconst (v := 0) hx hb dX9_spells_110 (by decide) ?_
                  refine lv_istore (lv' := [(8, .int 0), (0, .ref q_a0), (1, .int x1), (2, .int x2), (3, .int x3), (4, .int x4), (5, .int x5), (6, .int x6), (7, .int x7), (9, .int v_3)]) hx hb dX9_spells_111 hl (by decide) rfl (fun ls hl => ?_)
                  refine lv_iinc (v := v_3 + 1) (lv' := [(9, .int (v_3 + 1)), (8, .int 0), (0, .ref q_a0), (1, .int x1), (2, .int x2), (3, .int x3), (4, .int x4), (5, .int x5), (6, .int x6), (7, .int x7)]) hx hb dX9_spells_113 hl (k := 9) rfl rfl (by decide) rfl (fun ls hl => ?_)
                  refine lv_goto (tgt := 26) hx hb dX9_spells_116 (by decide) ?_
                  exact ih 0 (v_3 + 1) ls hf (lv_sub hl [2, 3, 4, 5, 6, 7, 8, 9, 1, 0] rfl)
                · have hf := it_t c_16 hf
                  refine lv_iconst (v := 1) hx hb dX9_spells_106 (by decide) ?_
                  refine lv_goto (tgt := 111) hx hb dX9_spells_107 (by decide) ?_
                  refine lv_istore (lv' := [(8, .int 1), (0, .ref q_a0), (1, .int x1), (2, .int x2), (3, .int x3), (4, .int x4), (5, .int x5), (6, .int x6), (7, .int x7), (9, .int v_3)]) hx hb dX9_spells_111 hl (by decide) rfl (fun ls hl => ?_)
                  refine lv_iinc (v := v_3 + 1) (lv' := [(9, .int (v_3 + 1)), (8, .int 1), (0, .ref q_a0), (1, .int x1), (2, .int x2), (3, .int x3), (4, .int x4), (5, .int x5), (6, .int x6), (7, .int x7)]) hx hb dX9_spells_113 hl (k := 9) rfl rfl (by decide) rfl (fun ls hl => ?_)
                  refine lv_goto (tgt := 26) hx hb dX9_spells_116 (by decide) ?_
                  exact ih 1 (v_3 + 1) ls hf (lv_sub hl [2, 3, 4, 5, 6, 7, 8, 9, 1, 0] rfl)
            · have hf := it_t c_7 hf
              refine lv_iload_n hx hb dX9_spells_54 rfl (lv_at hl 2 rfl) ?_
              refine lv_goto (tgt := 103) hx hb dX9_spells_55 (by decide) ?_
              refine lv_icmp_ne (tgt := 110) hx hb dX9_spells_103 (by decide) (fun c_17 => ?_) (fun c_17 => ?_)
              · have hf := it_f c_17 hf
                refine lv_iconst (v := 0) hx hb dX9_spells_110 (by decide) ?_
                refine lv_istore (lv' := [(8, .int 0), (0, .ref q_a0), (1, .int x1), (2, .int x2), (3, .int x3), (4, .int x4), (5, .int x5), (6, .int x6), (7, .int x7), (9, .int v_3)]) hx hb dX9_spells_111 hl (by decide) rfl (fun ls hl => ?_)
                refine lv_iinc (v := v_3 + 1) (lv' := [(9, .int (v_3 + 1)), (8, .int 0), (0, .ref q_a0), (1, .int x1), (2, .int x2), (3, .int x3), (4, .int x4), (5, .int x5), (6, .int x6), (7, .int x7)]) hx hb dX9_spells_113 hl (k := 9) rfl rfl (by decide) rfl (fun ls hl => ?_)
                refine lv_goto (tgt := 26) hx hb dX9_spells_116 (by decide) ?_
                exact ih 0 (v_3 + 1) ls hf (lv_sub hl [2, 3, 4, 5, 6, 7, 8, 9, 1, 0] rfl)
              · have hf := it_t c_17 hf
                refine lv_iconst (v := 1) hx hb dX9_spells_106 (by decide) ?_
                refine lv_goto (tgt := 111) hx hb dX9_spells_107 (by decide) ?_
                refine lv_istore (lv' := [(8, .int 1), (0, .ref q_a0), (1, .int x1), (2, .int x2), (3, .int x3), (4, .int x4), (5, .int x5), (6, .int x6), (7, .int x7), (9, .int v_3)]) hx hb dX9_spells_111 hl (by decide) rfl (fun ls hl => ?_)
                refine lv_iinc (v := v_3 + 1) (lv' := [(9, .int (v_3 + 1)), (8, .int 1), (0, .ref q_a0), (1, .int x1), (2, .int x2), (3, .int x3), (4, .int x4), (5, .int x5), (6, .int x6), (7, .int x7)]) hx hb dX9_spells_113 hl (k := 9) rfl rfl (by decide) rfl (fun ls hl => ?_)
                refine lv_goto (tgt := 26) hx hb dX9_spells_116 (by decide) ?_
                exact ih 1 (v_3 + 1) ls hf (lv_sub hl [2, 3, 4, 5, 6, 7, 8, 9, 1, 0] rfl)
    exact hlp_26 1000 t_1 0 ls hf (lv_sub hl [2, 3, 4, 5, 6, 7, 8, 9, 1, 0] rfl)
  have hj_20 : jX9_spells_20 a0_bytes a0_tokenAt x1 x2 x3 x4 x5 x6 x7 Q  → ∀ ls : Array Slot, lv_has ls 10 [(0, .ref q_a0), (1, .int x1), (2, .int x2), (3, .int x3), (4, .int x4), (5, .int x5), (6, .int x6), (7, .int x7)] → W p l e (headSpec wsX9_spells rmX9_spells).room s m ([.ref q_a0, .int x1, .int x2, .int x3, .int x4, .int x5, .int x6, .int x7] : List Value).toArray below meth c s.heap [] 0 0 QQ (F0 m 20 ls []) := by
    intro  hf ls hl
    unfold jX9_spells_20 at hf
    refine lv_iconst (v := 0) hx hb dX9_spells_20 (by decide) ?_
    exact hj_21 0 hf ls (lv_sub hl [0, 1, 2, 3, 4, 5, 6, 7] rfl)
  unfold p_X9_spells at hf
  refine lv_aload_n hx hb dX9_spells_0 rfl (lv_at hl 0 rfl) ?_
  refine va_get (D := D) (ci := 8) (v := .int a0_token) (C := RX9) (T := TX9) (N := 18) hx hb hts in_X9 hown hK hP 0 rfl rfl 14 (by decide) kf_201 (fun _ h9 => h9) rfl dX9_spells_1 ?_
  refine lv_iconst (v := 1) hx hb dX9_spells_4 (by decide) ?_
  refine lv_icmp_ne (tgt := 20) hx hb dX9_spells_5 (by decide) (fun c_18 => ?_) (fun c_18 => ?_)
  · have hf := it_f c_18 hf
    exact hj_20  hf ls (lv_sub hl [0, 1, 2, 3, 4, 5, 6, 7] rfl)
  · have hf := it_t c_18 hf
    refine lv_aload_n hx hb dX9_spells_8 rfl (lv_at hl 0 rfl) ?_
    refine va_get (D := D) (ci := 8) (v := .int a0_tokenLong) (C := RX9) (T := TX9) (N := 18) hx hb hts in_X9 hown hK hP 0 rfl rfl 13 (by decide) kf_198 (fun _ h9 => h9) rfl dX9_spells_9 ?_
    refine lv_iload_n hx hb dX9_spells_12 rfl (lv_at hl 1 rfl) ?_
    refine lv_icmp_ne (tgt := 20) hx hb dX9_spells_13 (by decide) (fun c_19 => ?_) (fun c_19 => ?_)
    · have hf := it_f c_19 hf
      exact hj_20  hf ls (lv_sub hl [0, 1, 2, 3, 4, 5, 6, 7] rfl)
    · have hf := it_t c_19 hf
      refine lv_iconst (v := 1) hx hb dX9_spells_16 (by decide) ?_
      refine lv_goto (tgt := 21) hx hb dX9_spells_17 (by decide) ?_
      exact hj_21 1 hf ls (lv_sub hl [0, 1, 2, 3, 4, 5, 6, 7] rfl)
def p_X9_takes (a0_bytes : Nat → Int32) (a0_bytesLong : Int32) (a0_tokenAt : Int32) (a0_tokenLong : Int32) (a0_token : Int32) (a0_value : Int32) (a0_values : Nat → Int32) (x1 : Int32) (x2 : Int32) (x3 : Int32) (Q : Int32 → Int32 → Int32 → Int32 → Int32 → (Nat → Int32) → Prop) : Prop :=
  if a0_token = 2 then (p_X9_in a0_value.toInt64 x2.toInt64 x3.toInt64 (fun r_2 => if r_2 = 0 then (Q 0 a0_tokenAt a0_tokenLong a0_token a0_value a0_values) else (vp_in x1 4 ∧ (p_X9_goBehind a0_bytes a0_bytesLong a0_tokenAt a0_tokenLong a0_token a0_value (fun u_4 u_5 u_6 u_7 => Q 1 u_4 u_5 u_6 u_7 (upd a0_values (x1.toNatClampNeg) a0_value)))))) else (Q 0 a0_tokenAt a0_tokenLong a0_token a0_value a0_values)
def rmX9_takes : Room := { frames := 4, cells := 0, slots := 0, locals := 89 }
set_option maxHeartbeats 4000000 in
set_option maxRecDepth 100000 in
theorem c_X9_takes (l : Launch) (D : va_G) (cI cZ cO : ClassId) (q_a0 q_a0_told q_a0_kept q_a0_isKept q_a0_refused q_a0_manyBy q_a0_hers q_a0_his q_a0_hand q_a0_bytes q_a0_anew q_a0_values : Nat) (a0_above : Int64) (a0_below : Int64) (a0_bytesLong : Int32) (a0_tokenAt : Int32) (a0_tokenLong : Int32) (a0_token : Int32) (a0_value : Int32) (a0_bytes : Nat → Int32) (a0_values : Nat → Int32) (sz : Nat) (x1 : Int32) (x2 : Int32) (x3 : Int32) (Q : Int32 → Int32 → Int32 → Int32 → Int32 → (Nat → Int32) → Prop) (hf : p_X9_takes a0_bytes a0_bytesLong a0_tokenAt a0_tokenLong a0_token a0_value a0_values x1 x2 x3 Q) : Met l yX9_takes wsX9_takes rmX9_takes (va_Pc [.ref q_a0, .int x1, .int x2, .int x3] (fun U => U.heap.size = sz ∧ va_P D vwCl [(q_a0, .inr (8, [.ref q_a0_told, .ref q_a0_kept, .ref q_a0_isKept, .ref q_a0_refused, .long a0_above, .long a0_below, .ref q_a0_manyBy, .ref q_a0_hers, .ref q_a0_his, .ref q_a0_hand, .ref q_a0_bytes, .int a0_bytesLong, .int a0_tokenAt, .int a0_tokenLong, .int a0_token, .int a0_value, .ref q_a0_anew, .ref q_a0_values])), (q_a0_bytes, .inl (cI, 150, .inl a0_bytes)), (q_a0_values, .inl (cI, 4, .inl a0_values))] U.heap ∧ XK D cI cZ cO U ∧ va_D (fun _ => True) [(q_a0, .inr (8, [.ref q_a0_told, .ref q_a0_kept, .ref q_a0_isKept, .ref q_a0_refused, .long a0_above, .long a0_below, .ref q_a0_manyBy, .ref q_a0_hers, .ref q_a0_his, .ref q_a0_hand, .ref q_a0_bytes, .int a0_bytesLong, .int a0_tokenAt, .int a0_tokenLong, .int a0_token, .int a0_value, .ref q_a0_anew, .ref q_a0_values])), (q_a0_bytes, .inl (cI, 150, .inl a0_bytes)), (q_a0_values, .inl (cI, 4, .inl a0_values))])) (va_Qi (fun r (u : Int32 × Int32 × Int32 × Int32 × (Nat → Int32)) => Q r u.1 u.2.1 u.2.2.1 u.2.2.2.1 u.2.2.2.2) (fun (u : Int32 × Int32 × Int32 × Int32 × (Nat → Int32)) t => va_P D vwCl [(q_a0, .inr (8, [.ref q_a0_told, .ref q_a0_kept, .ref q_a0_isKept, .ref q_a0_refused, .long a0_above, .long a0_below, .ref q_a0_manyBy, .ref q_a0_hers, .ref q_a0_his, .ref q_a0_hand, .ref q_a0_bytes, .int a0_bytesLong, .int u.1, .int u.2.1, .int u.2.2.1, .int u.2.2.2.1, .ref q_a0_anew, .ref q_a0_values])), (q_a0_bytes, .inl (cI, 150, .inl a0_bytes)), (q_a0_values, .inl (cI, 4, .inl u.2.2.2.2))] t.heap ∧ va_D (va_A [(q_a0, .inr (8, [.ref q_a0_told, .ref q_a0_kept, .ref q_a0_isKept, .ref q_a0_refused, .long a0_above, .long a0_below, .ref q_a0_manyBy, .ref q_a0_hers, .ref q_a0_his, .ref q_a0_hand, .ref q_a0_bytes, .int a0_bytesLong, .int a0_tokenAt, .int a0_tokenLong, .int a0_token, .int a0_value, .ref q_a0_anew, .ref q_a0_values])), (q_a0_bytes, .inl (cI, 150, .inl a0_bytes)), (q_a0_values, .inl (cI, 4, .inl a0_values))] sz) [(q_a0, .inr (8, [.ref q_a0_told, .ref q_a0_kept, .ref q_a0_isKept, .ref q_a0_refused, .long a0_above, .long a0_below, .ref q_a0_manyBy, .ref q_a0_hers, .ref q_a0_his, .ref q_a0_hand, .ref q_a0_bytes, .int a0_bytesLong, .int u.1, .int u.2.1, .int u.2.2.1, .int u.2.2.2.1, .ref q_a0_anew, .ref q_a0_values])), (q_a0_bytes, .inl (cI, 150, .inl a0_bytes)), (q_a0_values, .inl (cI, 4, .inl u.2.2.2.2))]) (va_A [(q_a0, .inr (8, [.ref q_a0_told, .ref q_a0_kept, .ref q_a0_isKept, .ref q_a0_refused, .long a0_above, .long a0_below, .ref q_a0_manyBy, .ref q_a0_hers, .ref q_a0_his, .ref q_a0_hand, .ref q_a0_bytes, .int a0_bytesLong, .int a0_tokenAt, .int a0_tokenLong, .int a0_token, .int a0_value, .ref q_a0_anew, .ref q_a0_values])), (q_a0_bytes, .inl (cI, 150, .inl a0_bytes)), (q_a0_values, .inl (cI, 4, .inl a0_values))] sz)) 0 0 (va_A [(q_a0, .inr (8, [.ref q_a0_told, .ref q_a0_kept, .ref q_a0_isKept, .ref q_a0_refused, .long a0_above, .long a0_below, .ref q_a0_manyBy, .ref q_a0_hers, .ref q_a0_his, .ref q_a0_hand, .ref q_a0_bytes, .int a0_bytesLong, .int a0_tokenAt, .int a0_tokenLong, .int a0_token, .int a0_value, .ref q_a0_anew, .ref q_a0_values])), (q_a0_bytes, .inl (cI, 150, .inl a0_bytes)), (q_a0_values, .inl (cI, 4, .inl a0_values))] sz) := by
  refine Met.ofW (cc := cX9_takes) (maxL := 4) (ret := (some .boolean)) (by decide) rfl ?_
  intro p e s m args below meth c s₁ B hml hv
  obtain ⟨rfl, hsz, hP, hX, hD0⟩ := hv
  have hK := hX.1
  have hx := B.exec
  have hb := B.bytes
  have hr := B.returns
  have hts := atoms_spec (ws := wsX9_takes) B.pre
  have hown : s.vm.findClass RX9 = some m.cls := findClass_of_methodNamed B.named
  have hlocks := B.notSynchronized
  have in_X9 : ∀ w ∈ wsX90, w ∈ wsX9_takes := fun _ h => List.mem_cons_of_mem _ (List.mem_append_right _ h)
  have kf_201 := hts (.fieldLink RX9 201 "LeftCrestModel" "token" "I") (by decide +kernel)
  have kf_204 := hts (.fieldLink RX9 204 "LeftCrestModel" "value" "I") (by decide +kernel)
  have kf_45 := hts (.fieldLink RX9 45 "LeftCrestModel" "values" "[I") (by decide +kernel)
  subst hsz
  have hD := hD0.self (sz := s.heap.size)
  generalize hAe : va_A [(q_a0, .inr (8, [.ref q_a0_told, .ref q_a0_kept, .ref q_a0_isKept, .ref q_a0_refused, .long a0_above, .long a0_below, .ref q_a0_manyBy, .ref q_a0_hers, .ref q_a0_his, .ref q_a0_hand, .ref q_a0_bytes, .int a0_bytesLong, .int a0_tokenAt, .int a0_tokenLong, .int a0_token, .int a0_value, .ref q_a0_anew, .ref q_a0_values])), (q_a0_bytes, .inl (cI, 150, .inl a0_bytes)), (q_a0_values, .inl (cI, 4, .inl a0_values))] s.heap.size = A at hD ⊢
  have hA : ∀ q : Nat, s.heap.size ≤ q → A q := fun q h => by rw [← hAe]; exact Or.inr h
  have hS : va_S A s.heap s.heap [] := va_S.rf
  have hP : va_P D vwCl [(q_a0, .inr (8, [.ref q_a0_told, .ref q_a0_kept, .ref q_a0_isKept, .ref q_a0_refused, .long a0_above, .long a0_below, .ref q_a0_manyBy, .ref q_a0_hers, .ref q_a0_his, .ref q_a0_hand, .ref q_a0_bytes, .int a0_bytesLong, .int a0_tokenAt, .int a0_tokenLong, .int a0_token, .int a0_value, .ref q_a0_anew, .ref q_a0_values])), (q_a0_bytes, .inl (cI, 150, .inl a0_bytes)), (q_a0_values, .inl (cI, 4, .inl a0_values))] s.heap := hP
  generalize hQQ : MQ below _ _ s _ _ _ = QQ
  have hl := lv_entry ([.ref q_a0, .int x1, .int x2, .int x3]) (n := 4) (Nat.le_of_ble_eq_true rfl)
  rw [lg_entry_eq]
  generalize (lg_sl ([.ref q_a0, .int x1, .int x2, .int x3]) ++ List.replicate (4 - (lg_sl ([.ref q_a0, .int x1, .int x2, .int x3])).length) Slot.unset).toArray = ls at hl ⊢
  have hl : lv_has ls 4 [(0, .ref q_a0), (1, .int x1), (2, .int x2), (3, .int x3)] := hl
  unfold p_X9_takes at hf
  refine lv_aload_n hx hb dX9_takes_0 rfl (lv_at hl 0 rfl) ?_
  refine va_get (D := D) (ci := 8) (v := .int a0_token) (C := RX9) (T := TX9) (N := 18) hx hb hts in_X9 hown hK hP 0 rfl rfl 14 (by decide) kf_201 (fun _ h9 => h9) rfl dX9_takes_1 ?_
  refine lv_iconst (v := 2) hx hb dX9_takes_4 (by decide) ?_
  refine lv_icmp_ne (tgt := 23) hx hb dX9_takes_5 (by decide) (fun c_1 => ?_) (fun c_1 => ?_)
  · have hf := it_f c_1 hf
    refine lv_iconst (v := 0) hx hb dX9_takes_23 (by decide) ?_
    subst hQQ
    have hP9 := hP.sub (ws' := [(q_a0, .inr (8, [.ref q_a0_told, .ref q_a0_kept, .ref q_a0_isKept, .ref q_a0_refused, .long a0_above, .long a0_below, .ref q_a0_manyBy, .ref q_a0_hers, .ref q_a0_his, .ref q_a0_hand, .ref q_a0_bytes, .int a0_bytesLong, .int a0_tokenAt, .int a0_tokenLong, .int a0_token, .int a0_value, .ref q_a0_anew, .ref q_a0_values])), (q_a0_bytes, .inl (cI, 150, .inl a0_bytes)), (q_a0_values, .inl (cI, 4, .inl a0_values))]) [0, 1, 2] rfl
    have hD9 := hD.sub (ws' := [(q_a0, .inr (8, [.ref q_a0_told, .ref q_a0_kept, .ref q_a0_isKept, .ref q_a0_refused, .long a0_above, .long a0_below, .ref q_a0_manyBy, .ref q_a0_hers, .ref q_a0_his, .ref q_a0_hand, .ref q_a0_bytes, .int a0_bytesLong, .int a0_tokenAt, .int a0_tokenLong, .int a0_token, .int a0_value, .ref q_a0_anew, .ref q_a0_values])), (q_a0_bytes, .inl (cI, 150, .inl a0_bytes)), (q_a0_values, .inl (cI, 4, .inl a0_values))]) [0, 1, 2] (by decide) rfl
    exact W.zret hx hb hr rfl (fun t ht hW => ⟨⟨0, (a0_tokenAt, a0_tokenLong, a0_token, a0_value, a0_values), rfl, hf, by rw [ht]; exact hP9, hD9⟩, hS.F ht⟩) hS.2.2 dX9_takes_24
  · have hf := it_t c_1 hf
    refine lv_aload_n hx hb dX9_takes_8 rfl (lv_at hl 0 rfl) ?_
    refine va_get (D := D) (ci := 8) (v := .int a0_value) (C := RX9) (T := TX9) (N := 18) hx hb hts in_X9 hown hK hP 0 rfl rfl 15 (by decide) kf_204 (fun _ h9 => h9) rfl dX9_takes_9 ?_
    refine lv_i2l hx hb dX9_takes_12 rfl ?_
    refine lv_iload_n hx hb dX9_takes_13 rfl (lv_at hl 2 rfl) ?_
    refine lv_i2l hx hb dX9_takes_14 rfl ?_
    refine lv_iload_n hx hb dX9_takes_15 rfl (lv_at hl 3 rfl) ?_
    refine lv_i2l hx hb dX9_takes_16 rfl ?_
    refine ya_csi (va_runS (As := [.long a0_value.toInt64, .long x2.toInt64, .long x3.toInt64]) (rest := []) ⟨hx, hb, hml, hown, hts⟩ (c_X9_in l D cI cZ cO  a0_value.toInt64 x2.toInt64 x3.toInt64 _ hf) (va_cwS 3 hts gX9_takes_X9_in rfl rfl rfl (by decide +kernel) ⟨Nat.le_of_ble_eq_true rfl, Nat.le_of_ble_eq_true rfl⟩) (ps_ro va_P0 hX) rfl rfl hl.1 rfl (lv_room (Nat.le_of_ble_eq_true rfl)) dX9_takes_17 ⟨Nat.zero_le _, Nat.zero_le _⟩) (fun r_2 hf => ?_)
    refine lv_if_ne (tgt := 25) hx hb dX9_takes_20 (by decide) (fun c_3 => ?_) (fun c_3 => ?_)
    · have hf := it_f c_3 hf
      refine lv_aload_n hx hb dX9_takes_25 rfl (lv_at hl 0 rfl) ?_
      refine va_get (D := D) (ci := 8) (v := .ref q_a0_values) (C := RX9) (T := TX9) (N := 18) hx hb hts in_X9 hown hK hP 0 rfl rfl 17 (by decide) kf_45 (fun _ h9 => h9) rfl dX9_takes_26 ?_
      refine lv_iload_n hx hb dX9_takes_29 rfl (lv_at hl 1 rfl) ?_
      refine lv_aload_n hx hb dX9_takes_30 rfl (lv_at hl 0 rfl) ?_
      refine va_get (D := D) (ci := 8) (v := .int a0_value) (C := RX9) (T := TX9) (N := 18) hx hb hts in_X9 hown hK hP 0 rfl rfl 15 (by decide) kf_204 (fun _ h9 => h9) rfl dX9_takes_31 ?_
      refine va_iast hx hb hK hP hD hS 2 0 rfl rfl hf.1 dX9_takes_34 (fun H locs hP hD hS => ?_)
      have hP : va_P D vwCl [(q_a0, .inr (8, [.ref q_a0_told, .ref q_a0_kept, .ref q_a0_isKept, .ref q_a0_refused, .long a0_above, .long a0_below, .ref q_a0_manyBy, .ref q_a0_hers, .ref q_a0_his, .ref q_a0_hand, .ref q_a0_bytes, .int a0_bytesLong, .int a0_tokenAt, .int a0_tokenLong, .int a0_token, .int a0_value, .ref q_a0_anew, .ref q_a0_values])), (q_a0_bytes, .inl (cI, 150, .inl a0_bytes)), (q_a0_values, .inl (cI, 4, .inl (upd a0_values (x1.toNatClampNeg) a0_value)))] H := hP
      have hD : va_D A [(q_a0, .inr (8, [.ref q_a0_told, .ref q_a0_kept, .ref q_a0_isKept, .ref q_a0_refused, .long a0_above, .long a0_below, .ref q_a0_manyBy, .ref q_a0_hers, .ref q_a0_his, .ref q_a0_hand, .ref q_a0_bytes, .int a0_bytesLong, .int a0_tokenAt, .int a0_tokenLong, .int a0_token, .int a0_value, .ref q_a0_anew, .ref q_a0_values])), (q_a0_bytes, .inl (cI, 150, .inl a0_bytes)), (q_a0_values, .inl (cI, 4, .inl (upd a0_values (x1.toNatClampNeg) a0_value)))] := hD
      have hf := hf.2
      refine lv_aload_n hx hb dX9_takes_35 rfl (lv_at hl 0 rfl) ?_
      have hPc := hP.sub (ws' := [(q_a0, .inr (8, [.ref q_a0_told, .ref q_a0_kept, .ref q_a0_isKept, .ref q_a0_refused, .long a0_above, .long a0_below, .ref q_a0_manyBy, .ref q_a0_hers, .ref q_a0_his, .ref q_a0_hand, .ref q_a0_bytes, .int a0_bytesLong, .int a0_tokenAt, .int a0_tokenLong, .int a0_token, .int a0_value, .ref q_a0_anew, .ref q_a0_values])), (q_a0_bytes, .inl (cI, 150, .inl a0_bytes))]) [0, 1] rfl
      have hDc := hD.sub (ws' := [(q_a0, .inr (8, [.ref q_a0_told, .ref q_a0_kept, .ref q_a0_isKept, .ref q_a0_refused, .long a0_above, .long a0_below, .ref q_a0_manyBy, .ref q_a0_hers, .ref q_a0_his, .ref q_a0_hand, .ref q_a0_bytes, .int a0_bytesLong, .int a0_tokenAt, .int a0_tokenLong, .int a0_token, .int a0_value, .ref q_a0_anew, .ref q_a0_values])), (q_a0_bytes, .inl (cI, 150, .inl a0_bytes))]) [0, 1] (by decide) rfl
      have hFc := va_free (wc := [(q_a0, .inr (8, [.ref q_a0_told, .ref q_a0_kept, .ref q_a0_isKept, .ref q_a0_refused, .long a0_above, .long a0_below, .ref q_a0_manyBy, .ref q_a0_hers, .ref q_a0_his, .ref q_a0_hand, .ref q_a0_bytes, .int a0_bytesLong, .int a0_tokenAt, .int a0_tokenLong, .int a0_token, .int a0_value, .ref q_a0_anew, .ref q_a0_values])), (q_a0_bytes, .inl (cI, 150, .inl a0_bytes))]) hD hS hA [0, 1] rfl
      refine va_callv (va_runV (As := []) (rest := []) ⟨hx, hb, hml, hown, hts⟩ (c_X9_goBehind l D cI cZ cO q_a0 q_a0_told q_a0_kept q_a0_isKept q_a0_refused q_a0_manyBy q_a0_hers q_a0_his q_a0_hand q_a0_bytes q_a0_anew q_a0_values a0_above a0_below a0_bytesLong a0_tokenAt a0_tokenLong a0_token a0_value a0_bytes H.size  _ hf) (cwV 0 hts gX9_takes_X9_goBehind rfl rfl rfl (by decide +kernel) ⟨Nat.le_of_ble_eq_true rfl, Nat.le_of_ble_eq_true rfl⟩) (pv_rw (ci := 8) (q0 := 0) hPc hDc hX rfl rfl) rfl rfl hl.1 rfl (lv_room (Nat.le_of_ble_eq_true rfl)) dX9_takes_36 ⟨Nat.zero_le _, Nat.zero_le _⟩) hS (fun q _ h => hFc q h) hFc (fun u t H1 locs ht hvm hf hB hz1 hk1 hS => ?_)
      obtain ⟨u_4, u_5, u_6, u_7⟩ := u
      obtain ⟨hP1, hD1⟩ := hB
      rw [ht] at hP1
      clear hvm
      obtain ⟨hP, hD⟩ := va_join (wr := [(q_a0_values, .inl (cI, 4, .inl (upd a0_values (x1.toNatClampNeg) a0_value)))]) (w1 := [(q_a0, .inr (8, [.ref q_a0_told, .ref q_a0_kept, .ref q_a0_isKept, .ref q_a0_refused, .long a0_above, .long a0_below, .ref q_a0_manyBy, .ref q_a0_hers, .ref q_a0_his, .ref q_a0_hand, .ref q_a0_bytes, .int a0_bytesLong, .int u_4, .int u_5, .int u_6, .int u_7, .ref q_a0_anew, .ref q_a0_values])), (q_a0_bytes, .inl (cI, 150, .inl a0_bytes))]) hP hD [0, 1] [2] rfl rfl (by decide) (by decide) hk1 hFc hP1 hD1
      clear hz1 hk1 hPc hDc hFc hP1 hD1
      generalize H1 = H at hP hS ⊢
      have hP : va_P D vwCl [(q_a0_values, .inl (cI, 4, .inl (upd a0_values (x1.toNatClampNeg) a0_value))), (q_a0, .inr (8, [.ref q_a0_told, .ref q_a0_kept, .ref q_a0_isKept, .ref q_a0_refused, .long a0_above, .long a0_below, .ref q_a0_manyBy, .ref q_a0_hers, .ref q_a0_his, .ref q_a0_hand, .ref q_a0_bytes, .int a0_bytesLong, .int u_4, .int u_5, .int u_6, .int u_7, .ref q_a0_anew, .ref q_a0_values])), (q_a0_bytes, .inl (cI, 150, .inl a0_bytes))] H := hP
      have hD : va_D A [(q_a0_values, .inl (cI, 4, .inl (upd a0_values (x1.toNatClampNeg) a0_value))), (q_a0, .inr (8, [.ref q_a0_told, .ref q_a0_kept, .ref q_a0_isKept, .ref q_a0_refused, .long a0_above, .long a0_below, .ref q_a0_manyBy, .ref q_a0_hers, .ref q_a0_his, .ref q_a0_hand, .ref q_a0_bytes, .int a0_bytesLong, .int u_4, .int u_5, .int u_6, .int u_7, .ref q_a0_anew, .ref q_a0_values])), (q_a0_bytes, .inl (cI, 150, .inl a0_bytes))] := hD
      refine lv_iconst (v := 1) hx hb dX9_takes_39 (by decide) ?_
      subst hQQ
      have hP9 := hP.sub (ws' := [(q_a0, .inr (8, [.ref q_a0_told, .ref q_a0_kept, .ref q_a0_isKept, .ref q_a0_refused, .long a0_above, .long a0_below, .ref q_a0_manyBy, .ref q_a0_hers, .ref q_a0_his, .ref q_a0_hand, .ref q_a0_bytes, .int a0_bytesLong, .int u_4, .int u_5, .int u_6, .int u_7, .ref q_a0_anew, .ref q_a0_values])), (q_a0_bytes, .inl (cI, 150, .inl a0_bytes)), (q_a0_values, .inl (cI, 4, .inl (upd a0_values (x1.toNatClampNeg) a0_value)))]) [1, 2, 0] rfl
      have hD9 := hD.sub (ws' := [(q_a0, .inr (8, [.ref q_a0_told, .ref q_a0_kept, .ref q_a0_isKept, .ref q_a0_refused, .long a0_above, .long a0_below, .ref q_a0_manyBy, .ref q_a0_hers, .ref q_a0_his, .ref q_a0_hand, .ref q_a0_bytes, .int a0_bytesLong, .int u_4, .int u_5, .int u_6, .int u_7, .ref q_a0_anew, .ref q_a0_values])), (q_a0_bytes, .inl (cI, 150, .inl a0_bytes)), (q_a0_values, .inl (cI, 4, .inl (upd a0_values (x1.toNatClampNeg) a0_value)))]) [1, 2, 0] (by decide) rfl
      exact W.zret hx hb hr rfl (fun t ht hW => ⟨⟨1, (u_4, u_5, u_6, u_7, upd a0_values (x1.toNatClampNeg) a0_value), rfl, hf, by rw [ht]; exact hP9, hD9⟩, hS.F ht⟩) hS.2.2 dX9_takes_40
    · have hf := it_t c_3 hf
      refine lv_iconst (v := 0) hx hb dX9_takes_23 (by decide) ?_
      subst hQQ
      have hP9 := hP.sub (ws' := [(q_a0, .inr (8, [.ref q_a0_told, .ref q_a0_kept, .ref q_a0_isKept, .ref q_a0_refused, .long a0_above, .long a0_below, .ref q_a0_manyBy, .ref q_a0_hers, .ref q_a0_his, .ref q_a0_hand, .ref q_a0_bytes, .int a0_bytesLong, .int a0_tokenAt, .int a0_tokenLong, .int a0_token, .int a0_value, .ref q_a0_anew, .ref q_a0_values])), (q_a0_bytes, .inl (cI, 150, .inl a0_bytes)), (q_a0_values, .inl (cI, 4, .inl a0_values))]) [0, 1, 2] rfl
      have hD9 := hD.sub (ws' := [(q_a0, .inr (8, [.ref q_a0_told, .ref q_a0_kept, .ref q_a0_isKept, .ref q_a0_refused, .long a0_above, .long a0_below, .ref q_a0_manyBy, .ref q_a0_hers, .ref q_a0_his, .ref q_a0_hand, .ref q_a0_bytes, .int a0_bytesLong, .int a0_tokenAt, .int a0_tokenLong, .int a0_token, .int a0_value, .ref q_a0_anew, .ref q_a0_values])), (q_a0_bytes, .inl (cI, 150, .inl a0_bytes)), (q_a0_values, .inl (cI, 4, .inl a0_values))]) [0, 1, 2] (by decide) rfl
      exact W.zret hx hb hr rfl (fun t ht hW => ⟨⟨0, (a0_tokenAt, a0_tokenLong, a0_token, a0_value, a0_values), rfl, hf, by rw [ht]; exact hP9, hD9⟩, hS.F ht⟩) hS.2.2 dX9_takes_24
def p_X9_takesRoad (a0_bytes : Nat → Int32) (a0_bytesLong : Int32) (a0_tokenAt : Int32) (a0_tokenLong : Int32) (a0_token : Int32) (a0_value : Int32) (a0_anew : Nat → Int32) (a0_values : Nat → Int32) (Q : Int32 → Int32 → Int32 → Int32 → Int32 → (Nat → Int32) → (Nat → Int32) → Prop) : Prop :=
  p_X9_spells a0_bytes a0_tokenAt a0_tokenLong a0_token 4 114 111 97 100 0 0 (fun r_1 => if r_1 = 0 then (Q 0 a0_tokenAt a0_tokenLong a0_token a0_value a0_anew a0_values) else (p_X9_goBehind a0_bytes a0_bytesLong a0_tokenAt a0_tokenLong a0_token a0_value (fun u_3 u_4 u_5 u_6 => p_X9_takes a0_bytes a0_bytesLong u_3 u_4 u_5 u_6 a0_values 0 0 5 (fun r_7 u_8 u_9 u_10 u_11 u_12 => if r_7 = 0 then (Q 0 u_8 u_9 u_10 u_11 a0_anew u_12) else (p_X9_takes a0_bytes a0_bytesLong u_8 u_9 u_10 u_11 u_12 1 0 9 (fun r_14 u_15 u_16 u_17 u_18 u_19 => if r_14 = 0 then (Q 0 u_15 u_16 u_17 u_18 a0_anew u_19) else (p_X9_begin 75 a0_anew (u_19 (0 : Int32).toNatClampNeg) (u_19 (1 : Int32).toNatClampNeg) (fun u_21 => if u_17 = 3 then (Q 1 u_15 u_16 u_17 u_18 u_21 u_19) else (Q 0 u_15 u_16 u_17 u_18 u_21 u_19)))))))))
def rmX9_takesRoad : Room := { frames := 5, cells := 0, slots := 0, locals := 112 }
set_option maxHeartbeats 4000000 in
set_option maxRecDepth 100000 in
theorem c_X9_takesRoad (l : Launch) (D : va_G) (cI cZ cO : ClassId) (q_a0 q_a0_told q_a0_kept q_a0_isKept q_a0_refused q_a0_manyBy q_a0_hers q_a0_his q_a0_hand q_a0_bytes q_a0_anew q_a0_values : Nat) (a0_above : Int64) (a0_below : Int64) (a0_bytesLong : Int32) (a0_tokenAt : Int32) (a0_tokenLong : Int32) (a0_token : Int32) (a0_value : Int32) (a0_bytes : Nat → Int32) (a0_anew : Nat → Int32) (a0_values : Nat → Int32) (sz : Nat) (Q : Int32 → Int32 → Int32 → Int32 → Int32 → (Nat → Int32) → (Nat → Int32) → Prop) (hf : p_X9_takesRoad a0_bytes a0_bytesLong a0_tokenAt a0_tokenLong a0_token a0_value a0_anew a0_values Q) : Met l yX9_takesRoad wsX9_takesRoad rmX9_takesRoad (va_Pc [.ref q_a0] (fun U => U.heap.size = sz ∧ va_P D vwCl [(q_a0, .inr (8, [.ref q_a0_told, .ref q_a0_kept, .ref q_a0_isKept, .ref q_a0_refused, .long a0_above, .long a0_below, .ref q_a0_manyBy, .ref q_a0_hers, .ref q_a0_his, .ref q_a0_hand, .ref q_a0_bytes, .int a0_bytesLong, .int a0_tokenAt, .int a0_tokenLong, .int a0_token, .int a0_value, .ref q_a0_anew, .ref q_a0_values])), (q_a0_bytes, .inl (cI, 150, .inl a0_bytes)), (q_a0_anew, .inl (cI, 75, .inl a0_anew)), (q_a0_values, .inl (cI, 4, .inl a0_values))] U.heap ∧ XK D cI cZ cO U ∧ va_D (fun _ => True) [(q_a0, .inr (8, [.ref q_a0_told, .ref q_a0_kept, .ref q_a0_isKept, .ref q_a0_refused, .long a0_above, .long a0_below, .ref q_a0_manyBy, .ref q_a0_hers, .ref q_a0_his, .ref q_a0_hand, .ref q_a0_bytes, .int a0_bytesLong, .int a0_tokenAt, .int a0_tokenLong, .int a0_token, .int a0_value, .ref q_a0_anew, .ref q_a0_values])), (q_a0_bytes, .inl (cI, 150, .inl a0_bytes)), (q_a0_anew, .inl (cI, 75, .inl a0_anew)), (q_a0_values, .inl (cI, 4, .inl a0_values))])) (va_Qi (fun r (u : Int32 × Int32 × Int32 × Int32 × (Nat → Int32) × (Nat → Int32)) => Q r u.1 u.2.1 u.2.2.1 u.2.2.2.1 u.2.2.2.2.1 u.2.2.2.2.2) (fun (u : Int32 × Int32 × Int32 × Int32 × (Nat → Int32) × (Nat → Int32)) t => va_P D vwCl [(q_a0, .inr (8, [.ref q_a0_told, .ref q_a0_kept, .ref q_a0_isKept, .ref q_a0_refused, .long a0_above, .long a0_below, .ref q_a0_manyBy, .ref q_a0_hers, .ref q_a0_his, .ref q_a0_hand, .ref q_a0_bytes, .int a0_bytesLong, .int u.1, .int u.2.1, .int u.2.2.1, .int u.2.2.2.1, .ref q_a0_anew, .ref q_a0_values])), (q_a0_bytes, .inl (cI, 150, .inl a0_bytes)), (q_a0_anew, .inl (cI, 75, .inl u.2.2.2.2.1)), (q_a0_values, .inl (cI, 4, .inl u.2.2.2.2.2))] t.heap ∧ va_D (va_A [(q_a0, .inr (8, [.ref q_a0_told, .ref q_a0_kept, .ref q_a0_isKept, .ref q_a0_refused, .long a0_above, .long a0_below, .ref q_a0_manyBy, .ref q_a0_hers, .ref q_a0_his, .ref q_a0_hand, .ref q_a0_bytes, .int a0_bytesLong, .int a0_tokenAt, .int a0_tokenLong, .int a0_token, .int a0_value, .ref q_a0_anew, .ref q_a0_values])), (q_a0_bytes, .inl (cI, 150, .inl a0_bytes)), (q_a0_anew, .inl (cI, 75, .inl a0_anew)), (q_a0_values, .inl (cI, 4, .inl a0_values))] sz) [(q_a0, .inr (8, [.ref q_a0_told, .ref q_a0_kept, .ref q_a0_isKept, .ref q_a0_refused, .long a0_above, .long a0_below, .ref q_a0_manyBy, .ref q_a0_hers, .ref q_a0_his, .ref q_a0_hand, .ref q_a0_bytes, .int a0_bytesLong, .int u.1, .int u.2.1, .int u.2.2.1, .int u.2.2.2.1, .ref q_a0_anew, .ref q_a0_values])), (q_a0_bytes, .inl (cI, 150, .inl a0_bytes)), (q_a0_anew, .inl (cI, 75, .inl u.2.2.2.2.1)), (q_a0_values, .inl (cI, 4, .inl u.2.2.2.2.2))]) (va_A [(q_a0, .inr (8, [.ref q_a0_told, .ref q_a0_kept, .ref q_a0_isKept, .ref q_a0_refused, .long a0_above, .long a0_below, .ref q_a0_manyBy, .ref q_a0_hers, .ref q_a0_his, .ref q_a0_hand, .ref q_a0_bytes, .int a0_bytesLong, .int a0_tokenAt, .int a0_tokenLong, .int a0_token, .int a0_value, .ref q_a0_anew, .ref q_a0_values])), (q_a0_bytes, .inl (cI, 150, .inl a0_bytes)), (q_a0_anew, .inl (cI, 75, .inl a0_anew)), (q_a0_values, .inl (cI, 4, .inl a0_values))] sz)) 0 0 (va_A [(q_a0, .inr (8, [.ref q_a0_told, .ref q_a0_kept, .ref q_a0_isKept, .ref q_a0_refused, .long a0_above, .long a0_below, .ref q_a0_manyBy, .ref q_a0_hers, .ref q_a0_his, .ref q_a0_hand, .ref q_a0_bytes, .int a0_bytesLong, .int a0_tokenAt, .int a0_tokenLong, .int a0_token, .int a0_value, .ref q_a0_anew, .ref q_a0_values])), (q_a0_bytes, .inl (cI, 150, .inl a0_bytes)), (q_a0_anew, .inl (cI, 75, .inl a0_anew)), (q_a0_values, .inl (cI, 4, .inl a0_values))] sz) := by
  refine Met.ofW (cc := cX9_takesRoad) (maxL := 1) (ret := (some .boolean)) (by decide) rfl ?_
  intro p e s m args below meth c s₁ B hml hv
  obtain ⟨rfl, hsz, hP, hX, hD0⟩ := hv
  have hK := hX.1
  have hx := B.exec
  have hb := B.bytes
  have hr := B.returns
  have hts := atoms_spec (ws := wsX9_takesRoad) B.pre
  have hown : s.vm.findClass RX9 = some m.cls := findClass_of_methodNamed B.named
  have hlocks := B.notSynchronized
  have in_X9 : ∀ w ∈ wsX90, w ∈ wsX9_takesRoad := fun _ h => List.mem_cons_of_mem _ (List.mem_append_right _ h)
  have kf_42 := hts (.fieldLink RX9 42 "LeftCrestModel" "anew" "[I") (by decide +kernel)
  have kf_45 := hts (.fieldLink RX9 45 "LeftCrestModel" "values" "[I") (by decide +kernel)
  have kf_201 := hts (.fieldLink RX9 201 "LeftCrestModel" "token" "I") (by decide +kernel)
  subst hsz
  have hD := hD0.self (sz := s.heap.size)
  generalize hAe : va_A [(q_a0, .inr (8, [.ref q_a0_told, .ref q_a0_kept, .ref q_a0_isKept, .ref q_a0_refused, .long a0_above, .long a0_below, .ref q_a0_manyBy, .ref q_a0_hers, .ref q_a0_his, .ref q_a0_hand, .ref q_a0_bytes, .int a0_bytesLong, .int a0_tokenAt, .int a0_tokenLong, .int a0_token, .int a0_value, .ref q_a0_anew, .ref q_a0_values])), (q_a0_bytes, .inl (cI, 150, .inl a0_bytes)), (q_a0_anew, .inl (cI, 75, .inl a0_anew)), (q_a0_values, .inl (cI, 4, .inl a0_values))] s.heap.size = A at hD ⊢
  have hA : ∀ q : Nat, s.heap.size ≤ q → A q := fun q h => by rw [← hAe]; exact Or.inr h
  have hS : va_S A s.heap s.heap [] := va_S.rf
  have hP : va_P D vwCl [(q_a0, .inr (8, [.ref q_a0_told, .ref q_a0_kept, .ref q_a0_isKept, .ref q_a0_refused, .long a0_above, .long a0_below, .ref q_a0_manyBy, .ref q_a0_hers, .ref q_a0_his, .ref q_a0_hand, .ref q_a0_bytes, .int a0_bytesLong, .int a0_tokenAt, .int a0_tokenLong, .int a0_token, .int a0_value, .ref q_a0_anew, .ref q_a0_values])), (q_a0_bytes, .inl (cI, 150, .inl a0_bytes)), (q_a0_anew, .inl (cI, 75, .inl a0_anew)), (q_a0_values, .inl (cI, 4, .inl a0_values))] s.heap := hP
  generalize hQQ : MQ below _ _ s _ _ _ = QQ
  have hl := lv_entry ([.ref q_a0]) (n := 1) (Nat.le_of_ble_eq_true rfl)
  rw [lg_entry_eq]
  generalize (lg_sl ([.ref q_a0]) ++ List.replicate (1 - (lg_sl ([.ref q_a0])).length) Slot.unset).toArray = ls at hl ⊢
  have hl : lv_has ls 1 [(0, .ref q_a0)] := hl
  unfold p_X9_takesRoad at hf
  refine lv_aload_n hx hb dX9_takesRoad_0 rfl (lv_at hl 0 rfl) ?_
  refine lv_iconst (v := 4) hx hb dX9_takesRoad_1 (by decide) ?_
  refine lv_bipush (v := 114) hx hb dX9_takesRoad_2 (by decide) ?_
  refine lv_bipush (v := 111) hx hb dX9_takesRoad_4 (by decide) ?_
  refine lv_bipush (v := 97) hx hb dX9_takesRoad_6 (by decide) ?_
  refine lv_bipush (v := 100) hx hb dX9_takesRoad_8 (by decide) ?_
  refine lv_iconst (v := 0) hx hb dX9_takesRoad_10 (by decide) ?_
  refine lv_iconst (v := 0) hx hb dX9_takesRoad_11 (by decide) ?_
  refine ya_csi (va_runV (As := [.int 4, .int 114, .int 111, .int 97, .int 100, .int 0, .int 0]) (rest := []) ⟨hx, hb, hml, hown, hts⟩ (c_X9_spells l D cI cZ cO q_a0 q_a0_told q_a0_kept q_a0_isKept q_a0_refused q_a0_manyBy q_a0_hers q_a0_his q_a0_hand q_a0_bytes q_a0_anew q_a0_values a0_above a0_below a0_bytesLong a0_tokenAt a0_tokenLong a0_token a0_value a0_bytes 4 114 111 97 100 0 0 _ hf) (cwV 7 hts gX9_takesRoad_X9_spells rfl rfl rfl (by decide +kernel) ⟨Nat.le_of_ble_eq_true rfl, Nat.le_of_ble_eq_true rfl⟩) (pv_ro (ci := 8) (q0 := 0) (hP.sub [0, 1] rfl) hX rfl rfl) rfl rfl hl.1 rfl (lv_room (Nat.le_of_ble_eq_true rfl)) dX9_takesRoad_12 ⟨Nat.zero_le _, Nat.zero_le _⟩) (fun r_1 hf => ?_)
  refine lv_if_ne (tgt := 20) hx hb dX9_takesRoad_15 (by decide) (fun c_2 => ?_) (fun c_2 => ?_)
  · have hf := it_f c_2 hf
    refine lv_aload_n hx hb dX9_takesRoad_20 rfl (lv_at hl 0 rfl) ?_
    have hPc := hP.sub (ws' := [(q_a0, .inr (8, [.ref q_a0_told, .ref q_a0_kept, .ref q_a0_isKept, .ref q_a0_refused, .long a0_above, .long a0_below, .ref q_a0_manyBy, .ref q_a0_hers, .ref q_a0_his, .ref q_a0_hand, .ref q_a0_bytes, .int a0_bytesLong, .int a0_tokenAt, .int a0_tokenLong, .int a0_token, .int a0_value, .ref q_a0_anew, .ref q_a0_values])), (q_a0_bytes, .inl (cI, 150, .inl a0_bytes))]) [0, 1] rfl
    have hDc := hD.sub (ws' := [(q_a0, .inr (8, [.ref q_a0_told, .ref q_a0_kept, .ref q_a0_isKept, .ref q_a0_refused, .long a0_above, .long a0_below, .ref q_a0_manyBy, .ref q_a0_hers, .ref q_a0_his, .ref q_a0_hand, .ref q_a0_bytes, .int a0_bytesLong, .int a0_tokenAt, .int a0_tokenLong, .int a0_token, .int a0_value, .ref q_a0_anew, .ref q_a0_values])), (q_a0_bytes, .inl (cI, 150, .inl a0_bytes))]) [0, 1] (by decide) rfl
    have hFc := va_free (wc := [(q_a0, .inr (8, [.ref q_a0_told, .ref q_a0_kept, .ref q_a0_isKept, .ref q_a0_refused, .long a0_above, .long a0_below, .ref q_a0_manyBy, .ref q_a0_hers, .ref q_a0_his, .ref q_a0_hand, .ref q_a0_bytes, .int a0_bytesLong, .int a0_tokenAt, .int a0_tokenLong, .int a0_token, .int a0_value, .ref q_a0_anew, .ref q_a0_values])), (q_a0_bytes, .inl (cI, 150, .inl a0_bytes))]) hD hS hA [0, 1] rfl
    refine va_callv (va_runV (As := []) (rest := []) ⟨hx, hb, hml, hown, hts⟩ (c_X9_goBehind l D cI cZ cO q_a0 q_a0_told q_a0_kept q_a0_isKept q_a0_refused q_a0_manyBy q_a0_hers q_a0_his q_a0_hand q_a0_bytes q_a0_anew q_a0_values a0_above a0_below a0_bytesLong a0_tokenAt a0_tokenLong a0_token a0_value a0_bytes s.heap.size  _ hf) (cwV 0 hts gX9_takesRoad_X9_goBehind rfl rfl rfl (by decide +kernel) ⟨Nat.le_of_ble_eq_true rfl, Nat.le_of_ble_eq_true rfl⟩) (pv_rw (ci := 8) (q0 := 0) hPc hDc hX rfl rfl) rfl rfl hl.1 rfl (lv_room (Nat.le_of_ble_eq_true rfl)) dX9_takesRoad_21 ⟨Nat.zero_le _, Nat.zero_le _⟩) hS (fun q _ h => hFc q h) hFc (fun u t H1 locs ht hvm hf hB hz1 hk1 hS => ?_)
    obtain ⟨u_3, u_4, u_5, u_6⟩ := u
    obtain ⟨hP1, hD1⟩ := hB
    rw [ht] at hP1
    clear hvm
    obtain ⟨hP, hD⟩ := va_join (wr := [(q_a0_anew, .inl (cI, 75, .inl a0_anew)), (q_a0_values, .inl (cI, 4, .inl a0_values))]) (w1 := [(q_a0, .inr (8, [.ref q_a0_told, .ref q_a0_kept, .ref q_a0_isKept, .ref q_a0_refused, .long a0_above, .long a0_below, .ref q_a0_manyBy, .ref q_a0_hers, .ref q_a0_his, .ref q_a0_hand, .ref q_a0_bytes, .int a0_bytesLong, .int u_3, .int u_4, .int u_5, .int u_6, .ref q_a0_anew, .ref q_a0_values])), (q_a0_bytes, .inl (cI, 150, .inl a0_bytes))]) hP hD [0, 1] [2, 3] rfl rfl (by decide) (by decide) hk1 hFc hP1 hD1
    clear hz1 hk1 hPc hDc hFc hP1 hD1
    generalize H1 = H at hP hS ⊢
    have hP : va_P D vwCl [(q_a0_anew, .inl (cI, 75, .inl a0_anew)), (q_a0_values, .inl (cI, 4, .inl a0_values)), (q_a0, .inr (8, [.ref q_a0_told, .ref q_a0_kept, .ref q_a0_isKept, .ref q_a0_refused, .long a0_above, .long a0_below, .ref q_a0_manyBy, .ref q_a0_hers, .ref q_a0_his, .ref q_a0_hand, .ref q_a0_bytes, .int a0_bytesLong, .int u_3, .int u_4, .int u_5, .int u_6, .ref q_a0_anew, .ref q_a0_values])), (q_a0_bytes, .inl (cI, 150, .inl a0_bytes))] H := hP
    have hD : va_D A [(q_a0_anew, .inl (cI, 75, .inl a0_anew)), (q_a0_values, .inl (cI, 4, .inl a0_values)), (q_a0, .inr (8, [.ref q_a0_told, .ref q_a0_kept, .ref q_a0_isKept, .ref q_a0_refused, .long a0_above, .long a0_below, .ref q_a0_manyBy, .ref q_a0_hers, .ref q_a0_his, .ref q_a0_hand, .ref q_a0_bytes, .int a0_bytesLong, .int u_3, .int u_4, .int u_5, .int u_6, .ref q_a0_anew, .ref q_a0_values])), (q_a0_bytes, .inl (cI, 150, .inl a0_bytes))] := hD
    refine lv_aload_n hx hb dX9_takesRoad_24 rfl (lv_at hl 0 rfl) ?_
    refine lv_iconst (v := 0) hx hb dX9_takesRoad_25 (by decide) ?_
    refine lv_iconst (v := 0) hx hb dX9_takesRoad_26 (by decide) ?_
    refine lv_iconst (v := 5) hx hb dX9_takesRoad_27 (by decide) ?_
    have hPc := hP.sub (ws' := [(q_a0, .inr (8, [.ref q_a0_told, .ref q_a0_kept, .ref q_a0_isKept, .ref q_a0_refused, .long a0_above, .long a0_below, .ref q_a0_manyBy, .ref q_a0_hers, .ref q_a0_his, .ref q_a0_hand, .ref q_a0_bytes, .int a0_bytesLong, .int u_3, .int u_4, .int u_5, .int u_6, .ref q_a0_anew, .ref q_a0_values])), (q_a0_bytes, .inl (cI, 150, .inl a0_bytes)), (q_a0_values, .inl (cI, 4, .inl a0_values))]) [2, 3, 1] rfl
    have hDc := hD.sub (ws' := [(q_a0, .inr (8, [.ref q_a0_told, .ref q_a0_kept, .ref q_a0_isKept, .ref q_a0_refused, .long a0_above, .long a0_below, .ref q_a0_manyBy, .ref q_a0_hers, .ref q_a0_his, .ref q_a0_hand, .ref q_a0_bytes, .int a0_bytesLong, .int u_3, .int u_4, .int u_5, .int u_6, .ref q_a0_anew, .ref q_a0_values])), (q_a0_bytes, .inl (cI, 150, .inl a0_bytes)), (q_a0_values, .inl (cI, 4, .inl a0_values))]) [2, 3, 1] (by decide) rfl
    have hFc := va_free (wc := [(q_a0, .inr (8, [.ref q_a0_told, .ref q_a0_kept, .ref q_a0_isKept, .ref q_a0_refused, .long a0_above, .long a0_below, .ref q_a0_manyBy, .ref q_a0_hers, .ref q_a0_his, .ref q_a0_hand, .ref q_a0_bytes, .int a0_bytesLong, .int u_3, .int u_4, .int u_5, .int u_6, .ref q_a0_anew, .ref q_a0_values])), (q_a0_bytes, .inl (cI, 150, .inl a0_bytes)), (q_a0_values, .inl (cI, 4, .inl a0_values))]) hD hS hA [2, 3, 1] rfl
    refine va_calli (va_runV (As := [.int 0, .int 0, .int 5]) (rest := []) ⟨hx, hb, hml, hown, hts⟩ (c_X9_takes l D cI cZ cO q_a0 q_a0_told q_a0_kept q_a0_isKept q_a0_refused q_a0_manyBy q_a0_hers q_a0_his q_a0_hand q_a0_bytes q_a0_anew q_a0_values a0_above a0_below a0_bytesLong u_3 u_4 u_5 u_6 a0_bytes a0_values H.size 0 0 5 _ hf) (cwV 3 hts gX9_takesRoad_X9_takes rfl rfl rfl (by decide +kernel) ⟨Nat.le_of_ble_eq_true rfl, Nat.le_of_ble_eq_true rfl⟩) (pv_rw (ci := 8) (q0 := 0) hPc hDc hX rfl rfl) rfl rfl hl.1 rfl (lv_room (Nat.le_of_ble_eq_true rfl)) dX9_takesRoad_28 ⟨Nat.zero_le _, Nat.zero_le _⟩) hS (fun q _ h => hFc q h) hFc (fun r_7 u t H1 locs ht hvm hf hB hz1 hk1 hS => ?_)
    obtain ⟨u_8, u_9, u_10, u_11, u_12⟩ := u
    obtain ⟨hP1, hD1⟩ := hB
    rw [ht] at hP1
    clear hvm
    obtain ⟨hP, hD⟩ := va_join (wr := [(q_a0_anew, .inl (cI, 75, .inl a0_anew))]) (w1 := [(q_a0, .inr (8, [.ref q_a0_told, .ref q_a0_kept, .ref q_a0_isKept, .ref q_a0_refused, .long a0_above, .long a0_below, .ref q_a0_manyBy, .ref q_a0_hers, .ref q_a0_his, .ref q_a0_hand, .ref q_a0_bytes, .int a0_bytesLong, .int u_8, .int u_9, .int u_10, .int u_11, .ref q_a0_anew, .ref q_a0_values])), (q_a0_bytes, .inl (cI, 150, .inl a0_bytes)), (q_a0_values, .inl (cI, 4, .inl u_12))]) hP hD [2, 3, 1] [0] rfl rfl (by decide) (by decide) hk1 hFc hP1 hD1
    clear hz1 hk1 hPc hDc hFc hP1 hD1
    generalize H1 = H at hP hS ⊢
    have hP : va_P D vwCl [(q_a0_anew, .inl (cI, 75, .inl a0_anew)), (q_a0, .inr (8, [.ref q_a0_told, .ref q_a0_kept, .ref q_a0_isKept, .ref q_a0_refused, .long a0_above, .long a0_below, .ref q_a0_manyBy, .ref q_a0_hers, .ref q_a0_his, .ref q_a0_hand, .ref q_a0_bytes, .int a0_bytesLong, .int u_8, .int u_9, .int u_10, .int u_11, .ref q_a0_anew, .ref q_a0_values])), (q_a0_bytes, .inl (cI, 150, .inl a0_bytes)), (q_a0_values, .inl (cI, 4, .inl u_12))] H := hP
    have hD : va_D A [(q_a0_anew, .inl (cI, 75, .inl a0_anew)), (q_a0, .inr (8, [.ref q_a0_told, .ref q_a0_kept, .ref q_a0_isKept, .ref q_a0_refused, .long a0_above, .long a0_below, .ref q_a0_manyBy, .ref q_a0_hers, .ref q_a0_his, .ref q_a0_hand, .ref q_a0_bytes, .int a0_bytesLong, .int u_8, .int u_9, .int u_10, .int u_11, .ref q_a0_anew, .ref q_a0_values])), (q_a0_bytes, .inl (cI, 150, .inl a0_bytes)), (q_a0_values, .inl (cI, 4, .inl u_12))] := hD
    refine lv_if_eq (tgt := 45) hx hb dX9_takesRoad_31 (by decide) (fun c_13 => ?_) (fun c_13 => ?_)
    · have hf := it_t c_13 hf
      refine lv_iconst (v := 0) hx hb dX9_takesRoad_45 (by decide) ?_
      subst hQQ
      have hP9 := hP.sub (ws' := [(q_a0, .inr (8, [.ref q_a0_told, .ref q_a0_kept, .ref q_a0_isKept, .ref q_a0_refused, .long a0_above, .long a0_below, .ref q_a0_manyBy, .ref q_a0_hers, .ref q_a0_his, .ref q_a0_hand, .ref q_a0_bytes, .int a0_bytesLong, .int u_8, .int u_9, .int u_10, .int u_11, .ref q_a0_anew, .ref q_a0_values])), (q_a0_bytes, .inl (cI, 150, .inl a0_bytes)), (q_a0_anew, .inl (cI, 75, .inl a0_anew)), (q_a0_values, .inl (cI, 4, .inl u_12))]) [1, 2, 0, 3] rfl
      have hD9 := hD.sub (ws' := [(q_a0, .inr (8, [.ref q_a0_told, .ref q_a0_kept, .ref q_a0_isKept, .ref q_a0_refused, .long a0_above, .long a0_below, .ref q_a0_manyBy, .ref q_a0_hers, .ref q_a0_his, .ref q_a0_hand, .ref q_a0_bytes, .int a0_bytesLong, .int u_8, .int u_9, .int u_10, .int u_11, .ref q_a0_anew, .ref q_a0_values])), (q_a0_bytes, .inl (cI, 150, .inl a0_bytes)), (q_a0_anew, .inl (cI, 75, .inl a0_anew)), (q_a0_values, .inl (cI, 4, .inl u_12))]) [1, 2, 0, 3] (by decide) rfl
      exact W.zret hx hb hr rfl (fun t ht hW => ⟨⟨0, (u_8, u_9, u_10, u_11, a0_anew, u_12), rfl, hf, by rw [ht]; exact hP9, hD9⟩, hS.F ht⟩) hS.2.2 dX9_takesRoad_46
    · have hf := it_f c_13 hf
      refine lv_aload_n hx hb dX9_takesRoad_34 rfl (lv_at hl 0 rfl) ?_
      refine lv_iconst (v := 1) hx hb dX9_takesRoad_35 (by decide) ?_
      refine lv_iconst (v := 0) hx hb dX9_takesRoad_36 (by decide) ?_
      refine lv_bipush (v := 9) hx hb dX9_takesRoad_37 (by decide) ?_
      have hPc := hP.sub (ws' := [(q_a0, .inr (8, [.ref q_a0_told, .ref q_a0_kept, .ref q_a0_isKept, .ref q_a0_refused, .long a0_above, .long a0_below, .ref q_a0_manyBy, .ref q_a0_hers, .ref q_a0_his, .ref q_a0_hand, .ref q_a0_bytes, .int a0_bytesLong, .int u_8, .int u_9, .int u_10, .int u_11, .ref q_a0_anew, .ref q_a0_values])), (q_a0_bytes, .inl (cI, 150, .inl a0_bytes)), (q_a0_values, .inl (cI, 4, .inl u_12))]) [1, 2, 3] rfl
      have hDc := hD.sub (ws' := [(q_a0, .inr (8, [.ref q_a0_told, .ref q_a0_kept, .ref q_a0_isKept, .ref q_a0_refused, .long a0_above, .long a0_below, .ref q_a0_manyBy, .ref q_a0_hers, .ref q_a0_his, .ref q_a0_hand, .ref q_a0_bytes, .int a0_bytesLong, .int u_8, .int u_9, .int u_10, .int u_11, .ref q_a0_anew, .ref q_a0_values])), (q_a0_bytes, .inl (cI, 150, .inl a0_bytes)), (q_a0_values, .inl (cI, 4, .inl u_12))]) [1, 2, 3] (by decide) rfl
      have hFc := va_free (wc := [(q_a0, .inr (8, [.ref q_a0_told, .ref q_a0_kept, .ref q_a0_isKept, .ref q_a0_refused, .long a0_above, .long a0_below, .ref q_a0_manyBy, .ref q_a0_hers, .ref q_a0_his, .ref q_a0_hand, .ref q_a0_bytes, .int a0_bytesLong, .int u_8, .int u_9, .int u_10, .int u_11, .ref q_a0_anew, .ref q_a0_values])), (q_a0_bytes, .inl (cI, 150, .inl a0_bytes)), (q_a0_values, .inl (cI, 4, .inl u_12))]) hD hS hA [1, 2, 3] rfl
      refine va_calli (va_runV (As := [.int 1, .int 0, .int 9]) (rest := []) ⟨hx, hb, hml, hown, hts⟩ (c_X9_takes l D cI cZ cO q_a0 q_a0_told q_a0_kept q_a0_isKept q_a0_refused q_a0_manyBy q_a0_hers q_a0_his q_a0_hand q_a0_bytes q_a0_anew q_a0_values a0_above a0_below a0_bytesLong u_8 u_9 u_10 u_11 a0_bytes u_12 H.size 1 0 9 _ hf) (cwV 3 hts gX9_takesRoad_X9_takes rfl rfl rfl (by decide +kernel) ⟨Nat.le_of_ble_eq_true rfl, Nat.le_of_ble_eq_true rfl⟩) (pv_rw (ci := 8) (q0 := 0) hPc hDc hX rfl rfl) rfl rfl hl.1 rfl (lv_room (Nat.le_of_ble_eq_true rfl)) dX9_takesRoad_39 ⟨Nat.zero_le _, Nat.zero_le _⟩) hS (fun q _ h => hFc q h) hFc (fun r_14 u t H1 locs ht hvm hf hB hz1 hk1 hS => ?_)
      obtain ⟨u_15, u_16, u_17, u_18, u_19⟩ := u
      obtain ⟨hP1, hD1⟩ := hB
      rw [ht] at hP1
      clear hvm
      obtain ⟨hP, hD⟩ := va_join (wr := [(q_a0_anew, .inl (cI, 75, .inl a0_anew))]) (w1 := [(q_a0, .inr (8, [.ref q_a0_told, .ref q_a0_kept, .ref q_a0_isKept, .ref q_a0_refused, .long a0_above, .long a0_below, .ref q_a0_manyBy, .ref q_a0_hers, .ref q_a0_his, .ref q_a0_hand, .ref q_a0_bytes, .int a0_bytesLong, .int u_15, .int u_16, .int u_17, .int u_18, .ref q_a0_anew, .ref q_a0_values])), (q_a0_bytes, .inl (cI, 150, .inl a0_bytes)), (q_a0_values, .inl (cI, 4, .inl u_19))]) hP hD [1, 2, 3] [0] rfl rfl (by decide) (by decide) hk1 hFc hP1 hD1
      clear hz1 hk1 hPc hDc hFc hP1 hD1
      generalize H1 = H at hP hS ⊢
      have hP : va_P D vwCl [(q_a0_anew, .inl (cI, 75, .inl a0_anew)), (q_a0, .inr (8, [.ref q_a0_told, .ref q_a0_kept, .ref q_a0_isKept, .ref q_a0_refused, .long a0_above, .long a0_below, .ref q_a0_manyBy, .ref q_a0_hers, .ref q_a0_his, .ref q_a0_hand, .ref q_a0_bytes, .int a0_bytesLong, .int u_15, .int u_16, .int u_17, .int u_18, .ref q_a0_anew, .ref q_a0_values])), (q_a0_bytes, .inl (cI, 150, .inl a0_bytes)), (q_a0_values, .inl (cI, 4, .inl u_19))] H := hP
      have hD : va_D A [(q_a0_anew, .inl (cI, 75, .inl a0_anew)), (q_a0, .inr (8, [.ref q_a0_told, .ref q_a0_kept, .ref q_a0_isKept, .ref q_a0_refused, .long a0_above, .long a0_below, .ref q_a0_manyBy, .ref q_a0_hers, .ref q_a0_his, .ref q_a0_hand, .ref q_a0_bytes, .int a0_bytesLong, .int u_15, .int u_16, .int u_17, .int u_18, .ref q_a0_anew, .ref q_a0_values])), (q_a0_bytes, .inl (cI, 150, .inl a0_bytes)), (q_a0_values, .inl (cI, 4, .inl u_19))] := hD
      refine lv_if_ne (tgt := 47) hx hb dX9_takesRoad_42 (by decide) (fun c_20 => ?_) (fun c_20 => ?_)
      · have hf := it_f c_20 hf
        refine lv_aload_n hx hb dX9_takesRoad_47 rfl (lv_at hl 0 rfl) ?_
        refine va_get (D := D) (ci := 8) (v := .ref q_a0_anew) (C := RX9) (T := TX9) (N := 18) hx hb hts in_X9 hown hK hP 1 rfl rfl 16 (by decide) kf_42 (fun _ h9 => h9) rfl dX9_takesRoad_48 ?_
        refine lv_aload_n hx hb dX9_takesRoad_51 rfl (lv_at hl 0 rfl) ?_
        refine va_get (D := D) (ci := 8) (v := .ref q_a0_values) (C := RX9) (T := TX9) (N := 18) hx hb hts in_X9 hown hK hP 1 rfl rfl 17 (by decide) kf_45 (fun _ h9 => h9) rfl dX9_takesRoad_52 ?_
        refine lv_iconst (v := 0) hx hb dX9_takesRoad_55 (by decide) ?_
        refine va_iald hx hb hK hP 3 0 rfl rfl (by unfold vp_in; decide) dX9_takesRoad_56 ?_
        refine lv_aload_n hx hb dX9_takesRoad_57 rfl (lv_at hl 0 rfl) ?_
        refine va_get (D := D) (ci := 8) (v := .ref q_a0_values) (C := RX9) (T := TX9) (N := 18) hx hb hts in_X9 hown hK hP 1 rfl rfl 17 (by decide) kf_45 (fun _ h9 => h9) rfl dX9_takesRoad_58 ?_
        refine lv_iconst (v := 1) hx hb dX9_takesRoad_61 (by decide) ?_
        refine va_iald hx hb hK hP 3 0 rfl rfl (by unfold vp_in; decide) dX9_takesRoad_62 ?_
        have hPc := hP.sub (ws' := [(q_a0_anew, .inl (cI, 75, .inl a0_anew))]) [0] rfl
        have hDc := hD.sub (ws' := [(q_a0_anew, .inl (cI, 75, .inl a0_anew))]) [0] (by decide) rfl
        have hFc := va_free (wc := [(q_a0_anew, .inl (cI, 75, .inl a0_anew))]) hD hS hA [0] rfl
        refine va_callv (va_runS (As := [.ref q_a0_anew, .int (u_19 (0 : Int32).toNatClampNeg), .int (u_19 (1 : Int32).toNatClampNeg)]) (rest := []) ⟨hx, hb, hml, hown, hts⟩ (c_X9_begin l D cI cZ cO q_a0_anew 75 a0_anew H.size (u_19 (0 : Int32).toNatClampNeg) (u_19 (1 : Int32).toNatClampNeg) _ hf) (va_cwS 3 hts gX9_takesRoad_X9_begin rfl rfl rfl (by decide +kernel) ⟨Nat.le_of_ble_eq_true rfl, Nat.le_of_ble_eq_true rfl⟩) (ps_rw hPc hDc hX) rfl rfl hl.1 rfl (lv_room (Nat.le_of_ble_eq_true rfl)) dX9_takesRoad_63 ⟨Nat.zero_le _, Nat.zero_le _⟩) hS (fun q _ h => hFc q h) hFc (fun u t H1 locs ht hvm hf hB hz1 hk1 hS => ?_)
        obtain ⟨u_21, rfl⟩ : ∃ z, z = u := ⟨_, rfl⟩
        obtain ⟨hP1, hD1⟩ := hB
        rw [ht] at hP1
        clear hvm
        obtain ⟨hP, hD⟩ := va_join (wr := [(q_a0, .inr (8, [.ref q_a0_told, .ref q_a0_kept, .ref q_a0_isKept, .ref q_a0_refused, .long a0_above, .long a0_below, .ref q_a0_manyBy, .ref q_a0_hers, .ref q_a0_his, .ref q_a0_hand, .ref q_a0_bytes, .int a0_bytesLong, .int u_15, .int u_16, .int u_17, .int u_18, .ref q_a0_anew, .ref q_a0_values])), (q_a0_bytes, .inl (cI, 150, .inl a0_bytes)), (q_a0_values, .inl (cI, 4, .inl u_19))]) (w1 := [(q_a0_anew, .inl (cI, 75, .inl u_21))]) hP hD [0] [1, 2, 3] rfl rfl (by decide) (by decide) hk1 hFc hP1 hD1
        clear hz1 hk1 hPc hDc hFc hP1 hD1
        generalize H1 = H at hP hS ⊢
        have hP : va_P D vwCl [(q_a0, .inr (8, [.ref q_a0_told, .ref q_a0_kept, .ref q_a0_isKept, .ref q_a0_refused, .long a0_above, .long a0_below, .ref q_a0_manyBy, .ref q_a0_hers, .ref q_a0_his, .ref q_a0_hand, .ref q_a0_bytes, .int a0_bytesLong, .int u_15, .int u_16, .int u_17, .int u_18, .ref q_a0_anew, .ref q_a0_values])), (q_a0_bytes, .inl (cI, 150, .inl a0_bytes)), (q_a0_values, .inl (cI, 4, .inl u_19)), (q_a0_anew, .inl (cI, 75, .inl u_21))] H := hP
        have hD : va_D A [(q_a0, .inr (8, [.ref q_a0_told, .ref q_a0_kept, .ref q_a0_isKept, .ref q_a0_refused, .long a0_above, .long a0_below, .ref q_a0_manyBy, .ref q_a0_hers, .ref q_a0_his, .ref q_a0_hand, .ref q_a0_bytes, .int a0_bytesLong, .int u_15, .int u_16, .int u_17, .int u_18, .ref q_a0_anew, .ref q_a0_values])), (q_a0_bytes, .inl (cI, 150, .inl a0_bytes)), (q_a0_values, .inl (cI, 4, .inl u_19)), (q_a0_anew, .inl (cI, 75, .inl u_21))] := hD
        refine lv_aload_n hx hb dX9_takesRoad_66 rfl (lv_at hl 0 rfl) ?_
        refine va_get (D := D) (ci := 8) (v := .int u_17) (C := RX9) (T := TX9) (N := 18) hx hb hts in_X9 hown hK hP 0 rfl rfl 14 (by decide) kf_201 (fun _ h9 => h9) rfl dX9_takesRoad_67 ?_
        refine lv_iconst (v := 3) hx hb dX9_takesRoad_70 (by decide) ?_
        refine lv_icmp_ne (tgt := 78) hx hb dX9_takesRoad_71 (by decide) (fun c_22 => ?_) (fun c_22 => ?_)
        · have hf := it_f c_22 hf
          refine lv_iconst (v := 0) hx hb dX9_takesRoad_78 (by decide) ?_
          subst hQQ
          have hP9 := hP.sub (ws' := [(q_a0, .inr (8, [.ref q_a0_told, .ref q_a0_kept, .ref q_a0_isKept, .ref q_a0_refused, .long a0_above, .long a0_below, .ref q_a0_manyBy, .ref q_a0_hers, .ref q_a0_his, .ref q_a0_hand, .ref q_a0_bytes, .int a0_bytesLong, .int u_15, .int u_16, .int u_17, .int u_18, .ref q_a0_anew, .ref q_a0_values])), (q_a0_bytes, .inl (cI, 150, .inl a0_bytes)), (q_a0_anew, .inl (cI, 75, .inl u_21)), (q_a0_values, .inl (cI, 4, .inl u_19))]) [0, 1, 3, 2] rfl
          have hD9 := hD.sub (ws' := [(q_a0, .inr (8, [.ref q_a0_told, .ref q_a0_kept, .ref q_a0_isKept, .ref q_a0_refused, .long a0_above, .long a0_below, .ref q_a0_manyBy, .ref q_a0_hers, .ref q_a0_his, .ref q_a0_hand, .ref q_a0_bytes, .int a0_bytesLong, .int u_15, .int u_16, .int u_17, .int u_18, .ref q_a0_anew, .ref q_a0_values])), (q_a0_bytes, .inl (cI, 150, .inl a0_bytes)), (q_a0_anew, .inl (cI, 75, .inl u_21)), (q_a0_values, .inl (cI, 4, .inl u_19))]) [0, 1, 3, 2] (by decide) rfl
          exact W.zret hx hb hr rfl (fun t ht hW => ⟨⟨0, (u_15, u_16, u_17, u_18, u_21, u_19), rfl, hf, by rw [ht]; exact hP9, hD9⟩, hS.F ht⟩) hS.2.2 dX9_takesRoad_79
        · have hf := it_t c_22 hf
          refine lv_iconst (v := 1) hx hb dX9_takesRoad_74 (by decide) ?_
          refine lv_goto (tgt := 79) hx hb dX9_takesRoad_75 (by decide) ?_
          subst hQQ
          have hP9 := hP.sub (ws' := [(q_a0, .inr (8, [.ref q_a0_told, .ref q_a0_kept, .ref q_a0_isKept, .ref q_a0_refused, .long a0_above, .long a0_below, .ref q_a0_manyBy, .ref q_a0_hers, .ref q_a0_his, .ref q_a0_hand, .ref q_a0_bytes, .int a0_bytesLong, .int u_15, .int u_16, .int u_17, .int u_18, .ref q_a0_anew, .ref q_a0_values])), (q_a0_bytes, .inl (cI, 150, .inl a0_bytes)), (q_a0_anew, .inl (cI, 75, .inl u_21)), (q_a0_values, .inl (cI, 4, .inl u_19))]) [0, 1, 3, 2] rfl
          have hD9 := hD.sub (ws' := [(q_a0, .inr (8, [.ref q_a0_told, .ref q_a0_kept, .ref q_a0_isKept, .ref q_a0_refused, .long a0_above, .long a0_below, .ref q_a0_manyBy, .ref q_a0_hers, .ref q_a0_his, .ref q_a0_hand, .ref q_a0_bytes, .int a0_bytesLong, .int u_15, .int u_16, .int u_17, .int u_18, .ref q_a0_anew, .ref q_a0_values])), (q_a0_bytes, .inl (cI, 150, .inl a0_bytes)), (q_a0_anew, .inl (cI, 75, .inl u_21)), (q_a0_values, .inl (cI, 4, .inl u_19))]) [0, 1, 3, 2] (by decide) rfl
          exact W.zret hx hb hr rfl (fun t ht hW => ⟨⟨1, (u_15, u_16, u_17, u_18, u_21, u_19), rfl, hf, by rw [ht]; exact hP9, hD9⟩, hS.F ht⟩) hS.2.2 dX9_takesRoad_79
      · have hf := it_t c_20 hf
        refine lv_iconst (v := 0) hx hb dX9_takesRoad_45 (by decide) ?_
        subst hQQ
        have hP9 := hP.sub (ws' := [(q_a0, .inr (8, [.ref q_a0_told, .ref q_a0_kept, .ref q_a0_isKept, .ref q_a0_refused, .long a0_above, .long a0_below, .ref q_a0_manyBy, .ref q_a0_hers, .ref q_a0_his, .ref q_a0_hand, .ref q_a0_bytes, .int a0_bytesLong, .int u_15, .int u_16, .int u_17, .int u_18, .ref q_a0_anew, .ref q_a0_values])), (q_a0_bytes, .inl (cI, 150, .inl a0_bytes)), (q_a0_anew, .inl (cI, 75, .inl a0_anew)), (q_a0_values, .inl (cI, 4, .inl u_19))]) [1, 2, 0, 3] rfl
        have hD9 := hD.sub (ws' := [(q_a0, .inr (8, [.ref q_a0_told, .ref q_a0_kept, .ref q_a0_isKept, .ref q_a0_refused, .long a0_above, .long a0_below, .ref q_a0_manyBy, .ref q_a0_hers, .ref q_a0_his, .ref q_a0_hand, .ref q_a0_bytes, .int a0_bytesLong, .int u_15, .int u_16, .int u_17, .int u_18, .ref q_a0_anew, .ref q_a0_values])), (q_a0_bytes, .inl (cI, 150, .inl a0_bytes)), (q_a0_anew, .inl (cI, 75, .inl a0_anew)), (q_a0_values, .inl (cI, 4, .inl u_19))]) [1, 2, 0, 3] (by decide) rfl
        exact W.zret hx hb hr rfl (fun t ht hW => ⟨⟨0, (u_15, u_16, u_17, u_18, a0_anew, u_19), rfl, hf, by rw [ht]; exact hP9, hD9⟩, hS.F ht⟩) hS.2.2 dX9_takesRoad_46
  · have hf := it_t c_2 hf
    refine lv_iconst (v := 0) hx hb dX9_takesRoad_18 (by decide) ?_
    subst hQQ
    have hP9 := hP.sub (ws' := [(q_a0, .inr (8, [.ref q_a0_told, .ref q_a0_kept, .ref q_a0_isKept, .ref q_a0_refused, .long a0_above, .long a0_below, .ref q_a0_manyBy, .ref q_a0_hers, .ref q_a0_his, .ref q_a0_hand, .ref q_a0_bytes, .int a0_bytesLong, .int a0_tokenAt, .int a0_tokenLong, .int a0_token, .int a0_value, .ref q_a0_anew, .ref q_a0_values])), (q_a0_bytes, .inl (cI, 150, .inl a0_bytes)), (q_a0_anew, .inl (cI, 75, .inl a0_anew)), (q_a0_values, .inl (cI, 4, .inl a0_values))]) [0, 1, 2, 3] rfl
    have hD9 := hD.sub (ws' := [(q_a0, .inr (8, [.ref q_a0_told, .ref q_a0_kept, .ref q_a0_isKept, .ref q_a0_refused, .long a0_above, .long a0_below, .ref q_a0_manyBy, .ref q_a0_hers, .ref q_a0_his, .ref q_a0_hand, .ref q_a0_bytes, .int a0_bytesLong, .int a0_tokenAt, .int a0_tokenLong, .int a0_token, .int a0_value, .ref q_a0_anew, .ref q_a0_values])), (q_a0_bytes, .inl (cI, 150, .inl a0_bytes)), (q_a0_anew, .inl (cI, 75, .inl a0_anew)), (q_a0_values, .inl (cI, 4, .inl a0_values))]) [0, 1, 2, 3] (by decide) rfl
    exact W.zret hx hb hr rfl (fun t ht hW => ⟨⟨0, (a0_tokenAt, a0_tokenLong, a0_token, a0_value, a0_anew, a0_values), rfl, hf, by rw [ht]; exact hP9, hD9⟩, hS.F ht⟩) hS.2.2 dX9_takesRoad_19
def p_X9_takesBend (a0_bytes : Nat → Int32) (a0_bytesLong : Int32) (a0_tokenAt : Int32) (a0_tokenLong : Int32) (a0_token : Int32) (a0_value : Int32) (a0_anew : Nat → Int32) (a0_values : Nat → Int32) (Q : Int32 → Int32 → Int32 → Int32 → Int32 → (Nat → Int32) → (Nat → Int32) → Prop) : Prop :=
  if (a0_anew (0 : Int32).toNatClampNeg) = 8 then (Q 0 a0_tokenAt a0_tokenLong a0_token a0_value a0_anew a0_values) else (p_X9_goBehind a0_bytes a0_bytesLong a0_tokenAt a0_tokenLong a0_token a0_value (fun u_2 u_3 u_4 u_5 => p_X9_takes a0_bytes a0_bytesLong u_2 u_3 u_4 u_5 a0_values 0 1 9 (fun r_6 u_7 u_8 u_9 u_10 u_11 => if r_6 = 0 then (Q 0 u_7 u_8 u_9 u_10 a0_anew u_11) else (p_X9_takes a0_bytes a0_bytesLong u_7 u_8 u_9 u_10 u_11 1 1 6 (fun r_13 u_14 u_15 u_16 u_17 u_18 => if r_13 = 0 then (Q 0 u_14 u_15 u_16 u_17 a0_anew u_18) else (p_X9_takes a0_bytes a0_bytesLong u_14 u_15 u_16 u_17 u_18 2 0 6 (fun r_20 u_21 u_22 u_23 u_24 u_25 => if r_20 = 0 then (Q 0 u_21 u_22 u_23 u_24 a0_anew u_25) else (p_X9_takes a0_bytes a0_bytesLong u_21 u_22 u_23 u_24 u_25 3 1 9 (fun r_27 u_28 u_29 u_30 u_31 u_32 => if r_27 = 0 then (Q 0 u_28 u_29 u_30 u_31 a0_anew u_32) else (p_X9_layBend 75 a0_anew (u_32 (0 : Int32).toNatClampNeg) (u_32 (1 : Int32).toNatClampNeg) (u_32 (2 : Int32).toNatClampNeg) (u_32 (3 : Int32).toNatClampNeg) (fun u_34 => Q 1 u_28 u_29 u_30 u_31 u_34 u_32)))))))))))
def rmX9_takesBend : Room := { frames := 5, cells := 0, slots := 0, locals := 112 }
set_option maxHeartbeats 4000000 in
set_option maxRecDepth 100000 in
theorem c_X9_takesBend (l : Launch) (D : va_G) (cI cZ cO : ClassId) (q_a0 q_a0_told q_a0_kept q_a0_isKept q_a0_refused q_a0_manyBy q_a0_hers q_a0_his q_a0_hand q_a0_bytes q_a0_anew q_a0_values : Nat) (a0_above : Int64) (a0_below : Int64) (a0_bytesLong : Int32) (a0_tokenAt : Int32) (a0_tokenLong : Int32) (a0_token : Int32) (a0_value : Int32) (a0_bytes : Nat → Int32) (a0_anew : Nat → Int32) (a0_values : Nat → Int32) (sz : Nat) (Q : Int32 → Int32 → Int32 → Int32 → Int32 → (Nat → Int32) → (Nat → Int32) → Prop) (hf : p_X9_takesBend a0_bytes a0_bytesLong a0_tokenAt a0_tokenLong a0_token a0_value a0_anew a0_values Q) : Met l yX9_takesBend wsX9_takesBend rmX9_takesBend (va_Pc [.ref q_a0] (fun U => U.heap.size = sz ∧ va_P D vwCl [(q_a0, .inr (8, [.ref q_a0_told, .ref q_a0_kept, .ref q_a0_isKept, .ref q_a0_refused, .long a0_above, .long a0_below, .ref q_a0_manyBy, .ref q_a0_hers, .ref q_a0_his, .ref q_a0_hand, .ref q_a0_bytes, .int a0_bytesLong, .int a0_tokenAt, .int a0_tokenLong, .int a0_token, .int a0_value, .ref q_a0_anew, .ref q_a0_values])), (q_a0_bytes, .inl (cI, 150, .inl a0_bytes)), (q_a0_anew, .inl (cI, 75, .inl a0_anew)), (q_a0_values, .inl (cI, 4, .inl a0_values))] U.heap ∧ XK D cI cZ cO U ∧ va_D (fun _ => True) [(q_a0, .inr (8, [.ref q_a0_told, .ref q_a0_kept, .ref q_a0_isKept, .ref q_a0_refused, .long a0_above, .long a0_below, .ref q_a0_manyBy, .ref q_a0_hers, .ref q_a0_his, .ref q_a0_hand, .ref q_a0_bytes, .int a0_bytesLong, .int a0_tokenAt, .int a0_tokenLong, .int a0_token, .int a0_value, .ref q_a0_anew, .ref q_a0_values])), (q_a0_bytes, .inl (cI, 150, .inl a0_bytes)), (q_a0_anew, .inl (cI, 75, .inl a0_anew)), (q_a0_values, .inl (cI, 4, .inl a0_values))])) (va_Qi (fun r (u : Int32 × Int32 × Int32 × Int32 × (Nat → Int32) × (Nat → Int32)) => Q r u.1 u.2.1 u.2.2.1 u.2.2.2.1 u.2.2.2.2.1 u.2.2.2.2.2) (fun (u : Int32 × Int32 × Int32 × Int32 × (Nat → Int32) × (Nat → Int32)) t => va_P D vwCl [(q_a0, .inr (8, [.ref q_a0_told, .ref q_a0_kept, .ref q_a0_isKept, .ref q_a0_refused, .long a0_above, .long a0_below, .ref q_a0_manyBy, .ref q_a0_hers, .ref q_a0_his, .ref q_a0_hand, .ref q_a0_bytes, .int a0_bytesLong, .int u.1, .int u.2.1, .int u.2.2.1, .int u.2.2.2.1, .ref q_a0_anew, .ref q_a0_values])), (q_a0_bytes, .inl (cI, 150, .inl a0_bytes)), (q_a0_anew, .inl (cI, 75, .inl u.2.2.2.2.1)), (q_a0_values, .inl (cI, 4, .inl u.2.2.2.2.2))] t.heap ∧ va_D (va_A [(q_a0, .inr (8, [.ref q_a0_told, .ref q_a0_kept, .ref q_a0_isKept, .ref q_a0_refused, .long a0_above, .long a0_below, .ref q_a0_manyBy, .ref q_a0_hers, .ref q_a0_his, .ref q_a0_hand, .ref q_a0_bytes, .int a0_bytesLong, .int a0_tokenAt, .int a0_tokenLong, .int a0_token, .int a0_value, .ref q_a0_anew, .ref q_a0_values])), (q_a0_bytes, .inl (cI, 150, .inl a0_bytes)), (q_a0_anew, .inl (cI, 75, .inl a0_anew)), (q_a0_values, .inl (cI, 4, .inl a0_values))] sz) [(q_a0, .inr (8, [.ref q_a0_told, .ref q_a0_kept, .ref q_a0_isKept, .ref q_a0_refused, .long a0_above, .long a0_below, .ref q_a0_manyBy, .ref q_a0_hers, .ref q_a0_his, .ref q_a0_hand, .ref q_a0_bytes, .int a0_bytesLong, .int u.1, .int u.2.1, .int u.2.2.1, .int u.2.2.2.1, .ref q_a0_anew, .ref q_a0_values])), (q_a0_bytes, .inl (cI, 150, .inl a0_bytes)), (q_a0_anew, .inl (cI, 75, .inl u.2.2.2.2.1)), (q_a0_values, .inl (cI, 4, .inl u.2.2.2.2.2))]) (va_A [(q_a0, .inr (8, [.ref q_a0_told, .ref q_a0_kept, .ref q_a0_isKept, .ref q_a0_refused, .long a0_above, .long a0_below, .ref q_a0_manyBy, .ref q_a0_hers, .ref q_a0_his, .ref q_a0_hand, .ref q_a0_bytes, .int a0_bytesLong, .int a0_tokenAt, .int a0_tokenLong, .int a0_token, .int a0_value, .ref q_a0_anew, .ref q_a0_values])), (q_a0_bytes, .inl (cI, 150, .inl a0_bytes)), (q_a0_anew, .inl (cI, 75, .inl a0_anew)), (q_a0_values, .inl (cI, 4, .inl a0_values))] sz)) 0 0 (va_A [(q_a0, .inr (8, [.ref q_a0_told, .ref q_a0_kept, .ref q_a0_isKept, .ref q_a0_refused, .long a0_above, .long a0_below, .ref q_a0_manyBy, .ref q_a0_hers, .ref q_a0_his, .ref q_a0_hand, .ref q_a0_bytes, .int a0_bytesLong, .int a0_tokenAt, .int a0_tokenLong, .int a0_token, .int a0_value, .ref q_a0_anew, .ref q_a0_values])), (q_a0_bytes, .inl (cI, 150, .inl a0_bytes)), (q_a0_anew, .inl (cI, 75, .inl a0_anew)), (q_a0_values, .inl (cI, 4, .inl a0_values))] sz) := by
  refine Met.ofW (cc := cX9_takesBend) (maxL := 1) (ret := (some .boolean)) (by decide) rfl ?_
  intro p e s m args below meth c s₁ B hml hv
  obtain ⟨rfl, hsz, hP, hX, hD0⟩ := hv
  have hK := hX.1
  have hx := B.exec
  have hb := B.bytes
  have hr := B.returns
  have hts := atoms_spec (ws := wsX9_takesBend) B.pre
  have hown : s.vm.findClass RX9 = some m.cls := findClass_of_methodNamed B.named
  have hlocks := B.notSynchronized
  have in_X9 : ∀ w ∈ wsX90, w ∈ wsX9_takesBend := fun _ h => List.mem_cons_of_mem _ (List.mem_append_right _ h)
  have kf_42 := hts (.fieldLink RX9 42 "LeftCrestModel" "anew" "[I") (by decide +kernel)
  have kf_45 := hts (.fieldLink RX9 45 "LeftCrestModel" "values" "[I") (by decide +kernel)
  subst hsz
  have hD := hD0.self (sz := s.heap.size)
  generalize hAe : va_A [(q_a0, .inr (8, [.ref q_a0_told, .ref q_a0_kept, .ref q_a0_isKept, .ref q_a0_refused, .long a0_above, .long a0_below, .ref q_a0_manyBy, .ref q_a0_hers, .ref q_a0_his, .ref q_a0_hand, .ref q_a0_bytes, .int a0_bytesLong, .int a0_tokenAt, .int a0_tokenLong, .int a0_token, .int a0_value, .ref q_a0_anew, .ref q_a0_values])), (q_a0_bytes, .inl (cI, 150, .inl a0_bytes)), (q_a0_anew, .inl (cI, 75, .inl a0_anew)), (q_a0_values, .inl (cI, 4, .inl a0_values))] s.heap.size = A at hD ⊢
  have hA : ∀ q : Nat, s.heap.size ≤ q → A q := fun q h => by rw [← hAe]; exact Or.inr h
  have hS : va_S A s.heap s.heap [] := va_S.rf
  have hP : va_P D vwCl [(q_a0, .inr (8, [.ref q_a0_told, .ref q_a0_kept, .ref q_a0_isKept, .ref q_a0_refused, .long a0_above, .long a0_below, .ref q_a0_manyBy, .ref q_a0_hers, .ref q_a0_his, .ref q_a0_hand, .ref q_a0_bytes, .int a0_bytesLong, .int a0_tokenAt, .int a0_tokenLong, .int a0_token, .int a0_value, .ref q_a0_anew, .ref q_a0_values])), (q_a0_bytes, .inl (cI, 150, .inl a0_bytes)), (q_a0_anew, .inl (cI, 75, .inl a0_anew)), (q_a0_values, .inl (cI, 4, .inl a0_values))] s.heap := hP
  generalize hQQ : MQ below _ _ s _ _ _ = QQ
  have hl := lv_entry ([.ref q_a0]) (n := 1) (Nat.le_of_ble_eq_true rfl)
  rw [lg_entry_eq]
  generalize (lg_sl ([.ref q_a0]) ++ List.replicate (1 - (lg_sl ([.ref q_a0])).length) Slot.unset).toArray = ls at hl ⊢
  have hl : lv_has ls 1 [(0, .ref q_a0)] := hl
  unfold p_X9_takesBend at hf
  refine lv_aload_n hx hb dX9_takesBend_0 rfl (lv_at hl 0 rfl) ?_
  refine va_get (D := D) (ci := 8) (v := .ref q_a0_anew) (C := RX9) (T := TX9) (N := 18) hx hb hts in_X9 hown hK hP 0 rfl rfl 16 (by decide) kf_42 (fun _ h9 => h9) rfl dX9_takesBend_1 ?_
  refine lv_iconst (v := 0) hx hb dX9_takesBend_4 (by decide) ?_
  refine va_iald hx hb hK hP 2 0 rfl rfl (by unfold vp_in; decide) dX9_takesBend_5 ?_
  refine lv_bipush (v := 8) hx hb dX9_takesBend_6 (by decide) ?_
  refine lv_icmp_ne (tgt := 13) hx hb dX9_takesBend_8 (by decide) (fun c_1 => ?_) (fun c_1 => ?_)
  · have hf := it_f c_1 hf
    refine lv_aload_n hx hb dX9_takesBend_13 rfl (lv_at hl 0 rfl) ?_
    have hPc := hP.sub (ws' := [(q_a0, .inr (8, [.ref q_a0_told, .ref q_a0_kept, .ref q_a0_isKept, .ref q_a0_refused, .long a0_above, .long a0_below, .ref q_a0_manyBy, .ref q_a0_hers, .ref q_a0_his, .ref q_a0_hand, .ref q_a0_bytes, .int a0_bytesLong, .int a0_tokenAt, .int a0_tokenLong, .int a0_token, .int a0_value, .ref q_a0_anew, .ref q_a0_values])), (q_a0_bytes, .inl (cI, 150, .inl a0_bytes))]) [0, 1] rfl
    have hDc := hD.sub (ws' := [(q_a0, .inr (8, [.ref q_a0_told, .ref q_a0_kept, .ref q_a0_isKept, .ref q_a0_refused, .long a0_above, .long a0_below, .ref q_a0_manyBy, .ref q_a0_hers, .ref q_a0_his, .ref q_a0_hand, .ref q_a0_bytes, .int a0_bytesLong, .int a0_tokenAt, .int a0_tokenLong, .int a0_token, .int a0_value, .ref q_a0_anew, .ref q_a0_values])), (q_a0_bytes, .inl (cI, 150, .inl a0_bytes))]) [0, 1] (by decide) rfl
    have hFc := va_free (wc := [(q_a0, .inr (8, [.ref q_a0_told, .ref q_a0_kept, .ref q_a0_isKept, .ref q_a0_refused, .long a0_above, .long a0_below, .ref q_a0_manyBy, .ref q_a0_hers, .ref q_a0_his, .ref q_a0_hand, .ref q_a0_bytes, .int a0_bytesLong, .int a0_tokenAt, .int a0_tokenLong, .int a0_token, .int a0_value, .ref q_a0_anew, .ref q_a0_values])), (q_a0_bytes, .inl (cI, 150, .inl a0_bytes))]) hD hS hA [0, 1] rfl
    refine va_callv (va_runV (As := []) (rest := []) ⟨hx, hb, hml, hown, hts⟩ (c_X9_goBehind l D cI cZ cO q_a0 q_a0_told q_a0_kept q_a0_isKept q_a0_refused q_a0_manyBy q_a0_hers q_a0_his q_a0_hand q_a0_bytes q_a0_anew q_a0_values a0_above a0_below a0_bytesLong a0_tokenAt a0_tokenLong a0_token a0_value a0_bytes s.heap.size  _ hf) (cwV 0 hts gX9_takesBend_X9_goBehind rfl rfl rfl (by decide +kernel) ⟨Nat.le_of_ble_eq_true rfl, Nat.le_of_ble_eq_true rfl⟩) (pv_rw (ci := 8) (q0 := 0) hPc hDc hX rfl rfl) rfl rfl hl.1 rfl (lv_room (Nat.le_of_ble_eq_true rfl)) dX9_takesBend_14 ⟨Nat.zero_le _, Nat.zero_le _⟩) hS (fun q _ h => hFc q h) hFc (fun u t H1 locs ht hvm hf hB hz1 hk1 hS => ?_)
    obtain ⟨u_2, u_3, u_4, u_5⟩ := u
    obtain ⟨hP1, hD1⟩ := hB
    rw [ht] at hP1
    clear hvm
    obtain ⟨hP, hD⟩ := va_join (wr := [(q_a0_anew, .inl (cI, 75, .inl a0_anew)), (q_a0_values, .inl (cI, 4, .inl a0_values))]) (w1 := [(q_a0, .inr (8, [.ref q_a0_told, .ref q_a0_kept, .ref q_a0_isKept, .ref q_a0_refused, .long a0_above, .long a0_below, .ref q_a0_manyBy, .ref q_a0_hers, .ref q_a0_his, .ref q_a0_hand, .ref q_a0_bytes, .int a0_bytesLong, .int u_2, .int u_3, .int u_4, .int u_5, .ref q_a0_anew, .ref q_a0_values])), (q_a0_bytes, .inl (cI, 150, .inl a0_bytes))]) hP hD [0, 1] [2, 3] rfl rfl (by decide) (by decide) hk1 hFc hP1 hD1
    clear hz1 hk1 hPc hDc hFc hP1 hD1
    generalize H1 = H at hP hS ⊢
    have hP : va_P D vwCl [(q_a0_anew, .inl (cI, 75, .inl a0_anew)), (q_a0_values, .inl (cI, 4, .inl a0_values)), (q_a0, .inr (8, [.ref q_a0_told, .ref q_a0_kept, .ref q_a0_isKept, .ref q_a0_refused, .long a0_above, .long a0_below, .ref q_a0_manyBy, .ref q_a0_hers, .ref q_a0_his, .ref q_a0_hand, .ref q_a0_bytes, .int a0_bytesLong, .int u_2, .int u_3, .int u_4, .int u_5, .ref q_a0_anew, .ref q_a0_values])), (q_a0_bytes, .inl (cI, 150, .inl a0_bytes))] H := hP
    have hD : va_D A [(q_a0_anew, .inl (cI, 75, .inl a0_anew)), (q_a0_values, .inl (cI, 4, .inl a0_values)), (q_a0, .inr (8, [.ref q_a0_told, .ref q_a0_kept, .ref q_a0_isKept, .ref q_a0_refused, .long a0_above, .long a0_below, .ref q_a0_manyBy, .ref q_a0_hers, .ref q_a0_his, .ref q_a0_hand, .ref q_a0_bytes, .int a0_bytesLong, .int u_2, .int u_3, .int u_4, .int u_5, .ref q_a0_anew, .ref q_a0_values])), (q_a0_bytes, .inl (cI, 150, .inl a0_bytes))] := hD
    refine lv_aload_n hx hb dX9_takesBend_17 rfl (lv_at hl 0 rfl) ?_
    refine lv_iconst (v := 0) hx hb dX9_takesBend_18 (by decide) ?_
    refine lv_iconst (v := 1) hx hb dX9_takesBend_19 (by decide) ?_
    refine lv_bipush (v := 9) hx hb dX9_takesBend_20 (by decide) ?_
    have hPc := hP.sub (ws' := [(q_a0, .inr (8, [.ref q_a0_told, .ref q_a0_kept, .ref q_a0_isKept, .ref q_a0_refused, .long a0_above, .long a0_below, .ref q_a0_manyBy, .ref q_a0_hers, .ref q_a0_his, .ref q_a0_hand, .ref q_a0_bytes, .int a0_bytesLong, .int u_2, .int u_3, .int u_4, .int u_5, .ref q_a0_anew, .ref q_a0_values])), (q_a0_bytes, .inl (cI, 150, .inl a0_bytes)), (q_a0_values, .inl (cI, 4, .inl a0_values))]) [2, 3, 1] rfl
    have hDc := hD.sub (ws' := [(q_a0, .inr (8, [.ref q_a0_told, .ref q_a0_kept, .ref q_a0_isKept, .ref q_a0_refused, .long a0_above, .long a0_below, .ref q_a0_manyBy, .ref q_a0_hers, .ref q_a0_his, .ref q_a0_hand, .ref q_a0_bytes, .int a0_bytesLong, .int u_2, .int u_3, .int u_4, .int u_5, .ref q_a0_anew, .ref q_a0_values])), (q_a0_bytes, .inl (cI, 150, .inl a0_bytes)), (q_a0_values, .inl (cI, 4, .inl a0_values))]) [2, 3, 1] (by decide) rfl
    have hFc := va_free (wc := [(q_a0, .inr (8, [.ref q_a0_told, .ref q_a0_kept, .ref q_a0_isKept, .ref q_a0_refused, .long a0_above, .long a0_below, .ref q_a0_manyBy, .ref q_a0_hers, .ref q_a0_his, .ref q_a0_hand, .ref q_a0_bytes, .int a0_bytesLong, .int u_2, .int u_3, .int u_4, .int u_5, .ref q_a0_anew, .ref q_a0_values])), (q_a0_bytes, .inl (cI, 150, .inl a0_bytes)), (q_a0_values, .inl (cI, 4, .inl a0_values))]) hD hS hA [2, 3, 1] rfl
    refine va_calli (va_runV (As := [.int 0, .int 1, .int 9]) (rest := []) ⟨hx, hb, hml, hown, hts⟩ (c_X9_takes l D cI cZ cO q_a0 q_a0_told q_a0_kept q_a0_isKept q_a0_refused q_a0_manyBy q_a0_hers q_a0_his q_a0_hand q_a0_bytes q_a0_anew q_a0_values a0_above a0_below a0_bytesLong u_2 u_3 u_4 u_5 a0_bytes a0_values H.size 0 1 9 _ hf) (cwV 3 hts gX9_takesBend_X9_takes rfl rfl rfl (by decide +kernel) ⟨Nat.le_of_ble_eq_true rfl, Nat.le_of_ble_eq_true rfl⟩) (pv_rw (ci := 8) (q0 := 0) hPc hDc hX rfl rfl) rfl rfl hl.1 rfl (lv_room (Nat.le_of_ble_eq_true rfl)) dX9_takesBend_22 ⟨Nat.zero_le _, Nat.zero_le _⟩) hS (fun q _ h => hFc q h) hFc (fun r_6 u t H1 locs ht hvm hf hB hz1 hk1 hS => ?_)
    obtain ⟨u_7, u_8, u_9, u_10, u_11⟩ := u
    obtain ⟨hP1, hD1⟩ := hB
    rw [ht] at hP1
    clear hvm
    obtain ⟨hP, hD⟩ := va_join (wr := [(q_a0_anew, .inl (cI, 75, .inl a0_anew))]) (w1 := [(q_a0, .inr (8, [.ref q_a0_told, .ref q_a0_kept, .ref q_a0_isKept, .ref q_a0_refused, .long a0_above, .long a0_below, .ref q_a0_manyBy, .ref q_a0_hers, .ref q_a0_his, .ref q_a0_hand, .ref q_a0_bytes, .int a0_bytesLong, .int u_7, .int u_8, .int u_9, .int u_10, .ref q_a0_anew, .ref q_a0_values])), (q_a0_bytes, .inl (cI, 150, .inl a0_bytes)), (q_a0_values, .inl (cI, 4, .inl u_11))]) hP hD [2, 3, 1] [0] rfl rfl (by decide) (by decide) hk1 hFc hP1 hD1
    clear hz1 hk1 hPc hDc hFc hP1 hD1
    generalize H1 = H at hP hS ⊢
    have hP : va_P D vwCl [(q_a0_anew, .inl (cI, 75, .inl a0_anew)), (q_a0, .inr (8, [.ref q_a0_told, .ref q_a0_kept, .ref q_a0_isKept, .ref q_a0_refused, .long a0_above, .long a0_below, .ref q_a0_manyBy, .ref q_a0_hers, .ref q_a0_his, .ref q_a0_hand, .ref q_a0_bytes, .int a0_bytesLong, .int u_7, .int u_8, .int u_9, .int u_10, .ref q_a0_anew, .ref q_a0_values])), (q_a0_bytes, .inl (cI, 150, .inl a0_bytes)), (q_a0_values, .inl (cI, 4, .inl u_11))] H := hP
    have hD : va_D A [(q_a0_anew, .inl (cI, 75, .inl a0_anew)), (q_a0, .inr (8, [.ref q_a0_told, .ref q_a0_kept, .ref q_a0_isKept, .ref q_a0_refused, .long a0_above, .long a0_below, .ref q_a0_manyBy, .ref q_a0_hers, .ref q_a0_his, .ref q_a0_hand, .ref q_a0_bytes, .int a0_bytesLong, .int u_7, .int u_8, .int u_9, .int u_10, .ref q_a0_anew, .ref q_a0_values])), (q_a0_bytes, .inl (cI, 150, .inl a0_bytes)), (q_a0_values, .inl (cI, 4, .inl u_11))] := hD
    refine lv_if_eq (tgt := 61) hx hb dX9_takesBend_25 (by decide) (fun c_12 => ?_) (fun c_12 => ?_)
    · have hf := it_t c_12 hf
      refine lv_iconst (v := 0) hx hb dX9_takesBend_61 (by decide) ?_
      subst hQQ
      have hP9 := hP.sub (ws' := [(q_a0, .inr (8, [.ref q_a0_told, .ref q_a0_kept, .ref q_a0_isKept, .ref q_a0_refused, .long a0_above, .long a0_below, .ref q_a0_manyBy, .ref q_a0_hers, .ref q_a0_his, .ref q_a0_hand, .ref q_a0_bytes, .int a0_bytesLong, .int u_7, .int u_8, .int u_9, .int u_10, .ref q_a0_anew, .ref q_a0_values])), (q_a0_bytes, .inl (cI, 150, .inl a0_bytes)), (q_a0_anew, .inl (cI, 75, .inl a0_anew)), (q_a0_values, .inl (cI, 4, .inl u_11))]) [1, 2, 0, 3] rfl
      have hD9 := hD.sub (ws' := [(q_a0, .inr (8, [.ref q_a0_told, .ref q_a0_kept, .ref q_a0_isKept, .ref q_a0_refused, .long a0_above, .long a0_below, .ref q_a0_manyBy, .ref q_a0_hers, .ref q_a0_his, .ref q_a0_hand, .ref q_a0_bytes, .int a0_bytesLong, .int u_7, .int u_8, .int u_9, .int u_10, .ref q_a0_anew, .ref q_a0_values])), (q_a0_bytes, .inl (cI, 150, .inl a0_bytes)), (q_a0_anew, .inl (cI, 75, .inl a0_anew)), (q_a0_values, .inl (cI, 4, .inl u_11))]) [1, 2, 0, 3] (by decide) rfl
      exact W.zret hx hb hr rfl (fun t ht hW => ⟨⟨0, (u_7, u_8, u_9, u_10, a0_anew, u_11), rfl, hf, by rw [ht]; exact hP9, hD9⟩, hS.F ht⟩) hS.2.2 dX9_takesBend_62
    · have hf := it_f c_12 hf
      refine lv_aload_n hx hb dX9_takesBend_28 rfl (lv_at hl 0 rfl) ?_
      refine lv_iconst (v := 1) hx hb dX9_takesBend_29 (by decide) ?_
      refine lv_iconst (v := 1) hx hb dX9_takesBend_30 (by decide) ?_
      refine lv_bipush (v := 6) hx hb dX9_takesBend_31 (by decide) ?_
      have hPc := hP.sub (ws' := [(q_a0, .inr (8, [.ref q_a0_told, .ref q_a0_kept, .ref q_a0_isKept, .ref q_a0_refused, .long a0_above, .long a0_below, .ref q_a0_manyBy, .ref q_a0_hers, .ref q_a0_his, .ref q_a0_hand, .ref q_a0_bytes, .int a0_bytesLong, .int u_7, .int u_8, .int u_9, .int u_10, .ref q_a0_anew, .ref q_a0_values])), (q_a0_bytes, .inl (cI, 150, .inl a0_bytes)), (q_a0_values, .inl (cI, 4, .inl u_11))]) [1, 2, 3] rfl
      have hDc := hD.sub (ws' := [(q_a0, .inr (8, [.ref q_a0_told, .ref q_a0_kept, .ref q_a0_isKept, .ref q_a0_refused, .long a0_above, .long a0_below, .ref q_a0_manyBy, .ref q_a0_hers, .ref q_a0_his, .ref q_a0_hand, .ref q_a0_bytes, .int a0_bytesLong, .int u_7, .int u_8, .int u_9, .int u_10, .ref q_a0_anew, .ref q_a0_values])), (q_a0_bytes, .inl (cI, 150, .inl a0_bytes)), (q_a0_values, .inl (cI, 4, .inl u_11))]) [1, 2, 3] (by decide) rfl
      have hFc := va_free (wc := [(q_a0, .inr (8, [.ref q_a0_told, .ref q_a0_kept, .ref q_a0_isKept, .ref q_a0_refused, .long a0_above, .long a0_below, .ref q_a0_manyBy, .ref q_a0_hers, .ref q_a0_his, .ref q_a0_hand, .ref q_a0_bytes, .int a0_bytesLong, .int u_7, .int u_8, .int u_9, .int u_10, .ref q_a0_anew, .ref q_a0_values])), (q_a0_bytes, .inl (cI, 150, .inl a0_bytes)), (q_a0_values, .inl (cI, 4, .inl u_11))]) hD hS hA [1, 2, 3] rfl
      refine va_calli (va_runV (As := [.int 1, .int 1, .int 6]) (rest := []) ⟨hx, hb, hml, hown, hts⟩ (c_X9_takes l D cI cZ cO q_a0 q_a0_told q_a0_kept q_a0_isKept q_a0_refused q_a0_manyBy q_a0_hers q_a0_his q_a0_hand q_a0_bytes q_a0_anew q_a0_values a0_above a0_below a0_bytesLong u_7 u_8 u_9 u_10 a0_bytes u_11 H.size 1 1 6 _ hf) (cwV 3 hts gX9_takesBend_X9_takes rfl rfl rfl (by decide +kernel) ⟨Nat.le_of_ble_eq_true rfl, Nat.le_of_ble_eq_true rfl⟩) (pv_rw (ci := 8) (q0 := 0) hPc hDc hX rfl rfl) rfl rfl hl.1 rfl (lv_room (Nat.le_of_ble_eq_true rfl)) dX9_takesBend_33 ⟨Nat.zero_le _, Nat.zero_le _⟩) hS (fun q _ h => hFc q h) hFc (fun r_13 u t H1 locs ht hvm hf hB hz1 hk1 hS => ?_)
      obtain ⟨u_14, u_15, u_16, u_17, u_18⟩ := u
      obtain ⟨hP1, hD1⟩ := hB
      rw [ht] at hP1
      clear hvm
      obtain ⟨hP, hD⟩ := va_join (wr := [(q_a0_anew, .inl (cI, 75, .inl a0_anew))]) (w1 := [(q_a0, .inr (8, [.ref q_a0_told, .ref q_a0_kept, .ref q_a0_isKept, .ref q_a0_refused, .long a0_above, .long a0_below, .ref q_a0_manyBy, .ref q_a0_hers, .ref q_a0_his, .ref q_a0_hand, .ref q_a0_bytes, .int a0_bytesLong, .int u_14, .int u_15, .int u_16, .int u_17, .ref q_a0_anew, .ref q_a0_values])), (q_a0_bytes, .inl (cI, 150, .inl a0_bytes)), (q_a0_values, .inl (cI, 4, .inl u_18))]) hP hD [1, 2, 3] [0] rfl rfl (by decide) (by decide) hk1 hFc hP1 hD1
      clear hz1 hk1 hPc hDc hFc hP1 hD1
      generalize H1 = H at hP hS ⊢
      have hP : va_P D vwCl [(q_a0_anew, .inl (cI, 75, .inl a0_anew)), (q_a0, .inr (8, [.ref q_a0_told, .ref q_a0_kept, .ref q_a0_isKept, .ref q_a0_refused, .long a0_above, .long a0_below, .ref q_a0_manyBy, .ref q_a0_hers, .ref q_a0_his, .ref q_a0_hand, .ref q_a0_bytes, .int a0_bytesLong, .int u_14, .int u_15, .int u_16, .int u_17, .ref q_a0_anew, .ref q_a0_values])), (q_a0_bytes, .inl (cI, 150, .inl a0_bytes)), (q_a0_values, .inl (cI, 4, .inl u_18))] H := hP
      have hD : va_D A [(q_a0_anew, .inl (cI, 75, .inl a0_anew)), (q_a0, .inr (8, [.ref q_a0_told, .ref q_a0_kept, .ref q_a0_isKept, .ref q_a0_refused, .long a0_above, .long a0_below, .ref q_a0_manyBy, .ref q_a0_hers, .ref q_a0_his, .ref q_a0_hand, .ref q_a0_bytes, .int a0_bytesLong, .int u_14, .int u_15, .int u_16, .int u_17, .ref q_a0_anew, .ref q_a0_values])), (q_a0_bytes, .inl (cI, 150, .inl a0_bytes)), (q_a0_values, .inl (cI, 4, .inl u_18))] := hD
      refine lv_if_eq (tgt := 61) hx hb dX9_takesBend_36 (by decide) (fun c_19 => ?_) (fun c_19 => ?_)
      · have hf := it_t c_19 hf
        refine lv_iconst (v := 0) hx hb dX9_takesBend_61 (by decide) ?_
        subst hQQ
        have hP9 := hP.sub (ws' := [(q_a0, .inr (8, [.ref q_a0_told, .ref q_a0_kept, .ref q_a0_isKept, .ref q_a0_refused, .long a0_above, .long a0_below, .ref q_a0_manyBy, .ref q_a0_hers, .ref q_a0_his, .ref q_a0_hand, .ref q_a0_bytes, .int a0_bytesLong, .int u_14, .int u_15, .int u_16, .int u_17, .ref q_a0_anew, .ref q_a0_values])), (q_a0_bytes, .inl (cI, 150, .inl a0_bytes)), (q_a0_anew, .inl (cI, 75, .inl a0_anew)), (q_a0_values, .inl (cI, 4, .inl u_18))]) [1, 2, 0, 3] rfl
        have hD9 := hD.sub (ws' := [(q_a0, .inr (8, [.ref q_a0_told, .ref q_a0_kept, .ref q_a0_isKept, .ref q_a0_refused, .long a0_above, .long a0_below, .ref q_a0_manyBy, .ref q_a0_hers, .ref q_a0_his, .ref q_a0_hand, .ref q_a0_bytes, .int a0_bytesLong, .int u_14, .int u_15, .int u_16, .int u_17, .ref q_a0_anew, .ref q_a0_values])), (q_a0_bytes, .inl (cI, 150, .inl a0_bytes)), (q_a0_anew, .inl (cI, 75, .inl a0_anew)), (q_a0_values, .inl (cI, 4, .inl u_18))]) [1, 2, 0, 3] (by decide) rfl
        exact W.zret hx hb hr rfl (fun t ht hW => ⟨⟨0, (u_14, u_15, u_16, u_17, a0_anew, u_18), rfl, hf, by rw [ht]; exact hP9, hD9⟩, hS.F ht⟩) hS.2.2 dX9_takesBend_62
      · have hf := it_f c_19 hf
        refine lv_aload_n hx hb dX9_takesBend_39 rfl (lv_at hl 0 rfl) ?_
        refine lv_iconst (v := 2) hx hb dX9_takesBend_40 (by decide) ?_
        refine lv_iconst (v := 0) hx hb dX9_takesBend_41 (by decide) ?_
        refine lv_bipush (v := 6) hx hb dX9_takesBend_42 (by decide) ?_
        have hPc := hP.sub (ws' := [(q_a0, .inr (8, [.ref q_a0_told, .ref q_a0_kept, .ref q_a0_isKept, .ref q_a0_refused, .long a0_above, .long a0_below, .ref q_a0_manyBy, .ref q_a0_hers, .ref q_a0_his, .ref q_a0_hand, .ref q_a0_bytes, .int a0_bytesLong, .int u_14, .int u_15, .int u_16, .int u_17, .ref q_a0_anew, .ref q_a0_values])), (q_a0_bytes, .inl (cI, 150, .inl a0_bytes)), (q_a0_values, .inl (cI, 4, .inl u_18))]) [1, 2, 3] rfl
        have hDc := hD.sub (ws' := [(q_a0, .inr (8, [.ref q_a0_told, .ref q_a0_kept, .ref q_a0_isKept, .ref q_a0_refused, .long a0_above, .long a0_below, .ref q_a0_manyBy, .ref q_a0_hers, .ref q_a0_his, .ref q_a0_hand, .ref q_a0_bytes, .int a0_bytesLong, .int u_14, .int u_15, .int u_16, .int u_17, .ref q_a0_anew, .ref q_a0_values])), (q_a0_bytes, .inl (cI, 150, .inl a0_bytes)), (q_a0_values, .inl (cI, 4, .inl u_18))]) [1, 2, 3] (by decide) rfl
        have hFc := va_free (wc := [(q_a0, .inr (8, [.ref q_a0_told, .ref q_a0_kept, .ref q_a0_isKept, .ref q_a0_refused, .long a0_above, .long a0_below, .ref q_a0_manyBy, .ref q_a0_hers, .ref q_a0_his, .ref q_a0_hand, .ref q_a0_bytes, .int a0_bytesLong, .int u_14, .int u_15, .int u_16, .int u_17, .ref q_a0_anew, .ref q_a0_values])), (q_a0_bytes, .inl (cI, 150, .inl a0_bytes)), (q_a0_values, .inl (cI, 4, .inl u_18))]) hD hS hA [1, 2, 3] rfl
        refine va_calli (va_runV (As := [.int 2, .int 0, .int 6]) (rest := []) ⟨hx, hb, hml, hown, hts⟩ (c_X9_takes l D cI cZ cO q_a0 q_a0_told q_a0_kept q_a0_isKept q_a0_refused q_a0_manyBy q_a0_hers q_a0_his q_a0_hand q_a0_bytes q_a0_anew q_a0_values a0_above a0_below a0_bytesLong u_14 u_15 u_16 u_17 a0_bytes u_18 H.size 2 0 6 _ hf) (cwV 3 hts gX9_takesBend_X9_takes rfl rfl rfl (by decide +kernel) ⟨Nat.le_of_ble_eq_true rfl, Nat.le_of_ble_eq_true rfl⟩) (pv_rw (ci := 8) (q0 := 0) hPc hDc hX rfl rfl) rfl rfl hl.1 rfl (lv_room (Nat.le_of_ble_eq_true rfl)) dX9_takesBend_44 ⟨Nat.zero_le _, Nat.zero_le _⟩) hS (fun q _ h => hFc q h) hFc (fun r_20 u t H1 locs ht hvm hf hB hz1 hk1 hS => ?_)
        obtain ⟨u_21, u_22, u_23, u_24, u_25⟩ := u
        obtain ⟨hP1, hD1⟩ := hB
        rw [ht] at hP1
        clear hvm
        obtain ⟨hP, hD⟩ := va_join (wr := [(q_a0_anew, .inl (cI, 75, .inl a0_anew))]) (w1 := [(q_a0, .inr (8, [.ref q_a0_told, .ref q_a0_kept, .ref q_a0_isKept, .ref q_a0_refused, .long a0_above, .long a0_below, .ref q_a0_manyBy, .ref q_a0_hers, .ref q_a0_his, .ref q_a0_hand, .ref q_a0_bytes, .int a0_bytesLong, .int u_21, .int u_22, .int u_23, .int u_24, .ref q_a0_anew, .ref q_a0_values])), (q_a0_bytes, .inl (cI, 150, .inl a0_bytes)), (q_a0_values, .inl (cI, 4, .inl u_25))]) hP hD [1, 2, 3] [0] rfl rfl (by decide) (by decide) hk1 hFc hP1 hD1
        clear hz1 hk1 hPc hDc hFc hP1 hD1
        generalize H1 = H at hP hS ⊢
        have hP : va_P D vwCl [(q_a0_anew, .inl (cI, 75, .inl a0_anew)), (q_a0, .inr (8, [.ref q_a0_told, .ref q_a0_kept, .ref q_a0_isKept, .ref q_a0_refused, .long a0_above, .long a0_below, .ref q_a0_manyBy, .ref q_a0_hers, .ref q_a0_his, .ref q_a0_hand, .ref q_a0_bytes, .int a0_bytesLong, .int u_21, .int u_22, .int u_23, .int u_24, .ref q_a0_anew, .ref q_a0_values])), (q_a0_bytes, .inl (cI, 150, .inl a0_bytes)), (q_a0_values, .inl (cI, 4, .inl u_25))] H := hP
        have hD : va_D A [(q_a0_anew, .inl (cI, 75, .inl a0_anew)), (q_a0, .inr (8, [.ref q_a0_told, .ref q_a0_kept, .ref q_a0_isKept, .ref q_a0_refused, .long a0_above, .long a0_below, .ref q_a0_manyBy, .ref q_a0_hers, .ref q_a0_his, .ref q_a0_hand, .ref q_a0_bytes, .int a0_bytesLong, .int u_21, .int u_22, .int u_23, .int u_24, .ref q_a0_anew, .ref q_a0_values])), (q_a0_bytes, .inl (cI, 150, .inl a0_bytes)), (q_a0_values, .inl (cI, 4, .inl u_25))] := hD
        refine lv_if_eq (tgt := 61) hx hb dX9_takesBend_47 (by decide) (fun c_26 => ?_) (fun c_26 => ?_)
        · have hf := it_t c_26 hf
          refine lv_iconst (v := 0) hx hb dX9_takesBend_61 (by decide) ?_
          subst hQQ
          have hP9 := hP.sub (ws' := [(q_a0, .inr (8, [.ref q_a0_told, .ref q_a0_kept, .ref q_a0_isKept, .ref q_a0_refused, .long a0_above, .long a0_below, .ref q_a0_manyBy, .ref q_a0_hers, .ref q_a0_his, .ref q_a0_hand, .ref q_a0_bytes, .int a0_bytesLong, .int u_21, .int u_22, .int u_23, .int u_24, .ref q_a0_anew, .ref q_a0_values])), (q_a0_bytes, .inl (cI, 150, .inl a0_bytes)), (q_a0_anew, .inl (cI, 75, .inl a0_anew)), (q_a0_values, .inl (cI, 4, .inl u_25))]) [1, 2, 0, 3] rfl
          have hD9 := hD.sub (ws' := [(q_a0, .inr (8, [.ref q_a0_told, .ref q_a0_kept, .ref q_a0_isKept, .ref q_a0_refused, .long a0_above, .long a0_below, .ref q_a0_manyBy, .ref q_a0_hers, .ref q_a0_his, .ref q_a0_hand, .ref q_a0_bytes, .int a0_bytesLong, .int u_21, .int u_22, .int u_23, .int u_24, .ref q_a0_anew, .ref q_a0_values])), (q_a0_bytes, .inl (cI, 150, .inl a0_bytes)), (q_a0_anew, .inl (cI, 75, .inl a0_anew)), (q_a0_values, .inl (cI, 4, .inl u_25))]) [1, 2, 0, 3] (by decide) rfl
          exact W.zret hx hb hr rfl (fun t ht hW => ⟨⟨0, (u_21, u_22, u_23, u_24, a0_anew, u_25), rfl, hf, by rw [ht]; exact hP9, hD9⟩, hS.F ht⟩) hS.2.2 dX9_takesBend_62
        · have hf := it_f c_26 hf
          refine lv_aload_n hx hb dX9_takesBend_50 rfl (lv_at hl 0 rfl) ?_
          refine lv_iconst (v := 3) hx hb dX9_takesBend_51 (by decide) ?_
          refine lv_iconst (v := 1) hx hb dX9_takesBend_52 (by decide) ?_
          refine lv_bipush (v := 9) hx hb dX9_takesBend_53 (by decide) ?_
          have hPc := hP.sub (ws' := [(q_a0, .inr (8, [.ref q_a0_told, .ref q_a0_kept, .ref q_a0_isKept, .ref q_a0_refused, .long a0_above, .long a0_below, .ref q_a0_manyBy, .ref q_a0_hers, .ref q_a0_his, .ref q_a0_hand, .ref q_a0_bytes, .int a0_bytesLong, .int u_21, .int u_22, .int u_23, .int u_24, .ref q_a0_anew, .ref q_a0_values])), (q_a0_bytes, .inl (cI, 150, .inl a0_bytes)), (q_a0_values, .inl (cI, 4, .inl u_25))]) [1, 2, 3] rfl
          have hDc := hD.sub (ws' := [(q_a0, .inr (8, [.ref q_a0_told, .ref q_a0_kept, .ref q_a0_isKept, .ref q_a0_refused, .long a0_above, .long a0_below, .ref q_a0_manyBy, .ref q_a0_hers, .ref q_a0_his, .ref q_a0_hand, .ref q_a0_bytes, .int a0_bytesLong, .int u_21, .int u_22, .int u_23, .int u_24, .ref q_a0_anew, .ref q_a0_values])), (q_a0_bytes, .inl (cI, 150, .inl a0_bytes)), (q_a0_values, .inl (cI, 4, .inl u_25))]) [1, 2, 3] (by decide) rfl
          have hFc := va_free (wc := [(q_a0, .inr (8, [.ref q_a0_told, .ref q_a0_kept, .ref q_a0_isKept, .ref q_a0_refused, .long a0_above, .long a0_below, .ref q_a0_manyBy, .ref q_a0_hers, .ref q_a0_his, .ref q_a0_hand, .ref q_a0_bytes, .int a0_bytesLong, .int u_21, .int u_22, .int u_23, .int u_24, .ref q_a0_anew, .ref q_a0_values])), (q_a0_bytes, .inl (cI, 150, .inl a0_bytes)), (q_a0_values, .inl (cI, 4, .inl u_25))]) hD hS hA [1, 2, 3] rfl
          refine va_calli (va_runV (As := [.int 3, .int 1, .int 9]) (rest := []) ⟨hx, hb, hml, hown, hts⟩ (c_X9_takes l D cI cZ cO q_a0 q_a0_told q_a0_kept q_a0_isKept q_a0_refused q_a0_manyBy q_a0_hers q_a0_his q_a0_hand q_a0_bytes q_a0_anew q_a0_values a0_above a0_below a0_bytesLong u_21 u_22 u_23 u_24 a0_bytes u_25 H.size 3 1 9 _ hf) (cwV 3 hts gX9_takesBend_X9_takes rfl rfl rfl (by decide +kernel) ⟨Nat.le_of_ble_eq_true rfl, Nat.le_of_ble_eq_true rfl⟩) (pv_rw (ci := 8) (q0 := 0) hPc hDc hX rfl rfl) rfl rfl hl.1 rfl (lv_room (Nat.le_of_ble_eq_true rfl)) dX9_takesBend_55 ⟨Nat.zero_le _, Nat.zero_le _⟩) hS (fun q _ h => hFc q h) hFc (fun r_27 u t H1 locs ht hvm hf hB hz1 hk1 hS => ?_)
          obtain ⟨u_28, u_29, u_30, u_31, u_32⟩ := u
          obtain ⟨hP1, hD1⟩ := hB
          rw [ht] at hP1
          clear hvm
          obtain ⟨hP, hD⟩ := va_join (wr := [(q_a0_anew, .inl (cI, 75, .inl a0_anew))]) (w1 := [(q_a0, .inr (8, [.ref q_a0_told, .ref q_a0_kept, .ref q_a0_isKept, .ref q_a0_refused, .long a0_above, .long a0_below, .ref q_a0_manyBy, .ref q_a0_hers, .ref q_a0_his, .ref q_a0_hand, .ref q_a0_bytes, .int a0_bytesLong, .int u_28, .int u_29, .int u_30, .int u_31, .ref q_a0_anew, .ref q_a0_values])), (q_a0_bytes, .inl (cI, 150, .inl a0_bytes)), (q_a0_values, .inl (cI, 4, .inl u_32))]) hP hD [1, 2, 3] [0] rfl rfl (by decide) (by decide) hk1 hFc hP1 hD1
          clear hz1 hk1 hPc hDc hFc hP1 hD1
          generalize H1 = H at hP hS ⊢
          have hP : va_P D vwCl [(q_a0_anew, .inl (cI, 75, .inl a0_anew)), (q_a0, .inr (8, [.ref q_a0_told, .ref q_a0_kept, .ref q_a0_isKept, .ref q_a0_refused, .long a0_above, .long a0_below, .ref q_a0_manyBy, .ref q_a0_hers, .ref q_a0_his, .ref q_a0_hand, .ref q_a0_bytes, .int a0_bytesLong, .int u_28, .int u_29, .int u_30, .int u_31, .ref q_a0_anew, .ref q_a0_values])), (q_a0_bytes, .inl (cI, 150, .inl a0_bytes)), (q_a0_values, .inl (cI, 4, .inl u_32))] H := hP
          have hD : va_D A [(q_a0_anew, .inl (cI, 75, .inl a0_anew)), (q_a0, .inr (8, [.ref q_a0_told, .ref q_a0_kept, .ref q_a0_isKept, .ref q_a0_refused, .long a0_above, .long a0_below, .ref q_a0_manyBy, .ref q_a0_hers, .ref q_a0_his, .ref q_a0_hand, .ref q_a0_bytes, .int a0_bytesLong, .int u_28, .int u_29, .int u_30, .int u_31, .ref q_a0_anew, .ref q_a0_values])), (q_a0_bytes, .inl (cI, 150, .inl a0_bytes)), (q_a0_values, .inl (cI, 4, .inl u_32))] := hD
          refine lv_if_ne (tgt := 63) hx hb dX9_takesBend_58 (by decide) (fun c_33 => ?_) (fun c_33 => ?_)
          · have hf := it_f c_33 hf
            refine lv_aload_n hx hb dX9_takesBend_63 rfl (lv_at hl 0 rfl) ?_
            refine va_get (D := D) (ci := 8) (v := .ref q_a0_anew) (C := RX9) (T := TX9) (N := 18) hx hb hts in_X9 hown hK hP 1 rfl rfl 16 (by decide) kf_42 (fun _ h9 => h9) rfl dX9_takesBend_64 ?_
            refine lv_aload_n hx hb dX9_takesBend_67 rfl (lv_at hl 0 rfl) ?_
            refine va_get (D := D) (ci := 8) (v := .ref q_a0_values) (C := RX9) (T := TX9) (N := 18) hx hb hts in_X9 hown hK hP 1 rfl rfl 17 (by decide) kf_45 (fun _ h9 => h9) rfl dX9_takesBend_68 ?_
            refine lv_iconst (v := 0) hx hb dX9_takesBend_71 (by decide) ?_
            refine va_iald hx hb hK hP 3 0 rfl rfl (by unfold vp_in; decide) dX9_takesBend_72 ?_
            refine lv_aload_n hx hb dX9_takesBend_73 rfl (lv_at hl 0 rfl) ?_
            refine va_get (D := D) (ci := 8) (v := .ref q_a0_values) (C := RX9) (T := TX9) (N := 18) hx hb hts in_X9 hown hK hP 1 rfl rfl 17 (by decide) kf_45 (fun _ h9 => h9) rfl dX9_takesBend_74 ?_
            refine lv_iconst (v := 1) hx hb dX9_takesBend_77 (by decide) ?_
            refine va_iald hx hb hK hP 3 0 rfl rfl (by unfold vp_in; decide) dX9_takesBend_78 ?_
            refine lv_aload_n hx hb dX9_takesBend_79 rfl (lv_at hl 0 rfl) ?_
            refine va_get (D := D) (ci := 8) (v := .ref q_a0_values) (C := RX9) (T := TX9) (N := 18) hx hb hts in_X9 hown hK hP 1 rfl rfl 17 (by decide) kf_45 (fun _ h9 => h9) rfl dX9_takesBend_80 ?_
            refine lv_iconst (v := 2) hx hb dX9_takesBend_83 (by decide) ?_
            refine va_iald hx hb hK hP 3 0 rfl rfl (by unfold vp_in; decide) dX9_takesBend_84 ?_
            refine lv_aload_n hx hb dX9_takesBend_85 rfl (lv_at hl 0 rfl) ?_
            refine va_get (D := D) (ci := 8) (v := .ref q_a0_values) (C := RX9) (T := TX9) (N := 18) hx hb hts in_X9 hown hK hP 1 rfl rfl 17 (by decide) kf_45 (fun _ h9 => h9) rfl dX9_takesBend_86 ?_
            refine lv_iconst (v := 3) hx hb dX9_takesBend_89 (by decide) ?_
            refine va_iald hx hb hK hP 3 0 rfl rfl (by unfold vp_in; decide) dX9_takesBend_90 ?_
            have hPc := hP.sub (ws' := [(q_a0_anew, .inl (cI, 75, .inl a0_anew))]) [0] rfl
            have hDc := hD.sub (ws' := [(q_a0_anew, .inl (cI, 75, .inl a0_anew))]) [0] (by decide) rfl
            have hFc := va_free (wc := [(q_a0_anew, .inl (cI, 75, .inl a0_anew))]) hD hS hA [0] rfl
            refine va_callv (va_runS (As := [.ref q_a0_anew, .int (u_32 (0 : Int32).toNatClampNeg), .int (u_32 (1 : Int32).toNatClampNeg), .int (u_32 (2 : Int32).toNatClampNeg), .int (u_32 (3 : Int32).toNatClampNeg)]) (rest := []) ⟨hx, hb, hml, hown, hts⟩ (c_X9_layBend l D cI cZ cO q_a0_anew 75 a0_anew H.size (u_32 (0 : Int32).toNatClampNeg) (u_32 (1 : Int32).toNatClampNeg) (u_32 (2 : Int32).toNatClampNeg) (u_32 (3 : Int32).toNatClampNeg) _ hf) (va_cwS 5 hts gX9_takesBend_X9_layBend rfl rfl rfl (by decide +kernel) ⟨Nat.le_of_ble_eq_true rfl, Nat.le_of_ble_eq_true rfl⟩) (ps_rw hPc hDc hX) rfl rfl hl.1 rfl (lv_room (Nat.le_of_ble_eq_true rfl)) dX9_takesBend_91 ⟨Nat.zero_le _, Nat.zero_le _⟩) hS (fun q _ h => hFc q h) hFc (fun u t H1 locs ht hvm hf hB hz1 hk1 hS => ?_)
            obtain ⟨u_34, rfl⟩ : ∃ z, z = u := ⟨_, rfl⟩
            obtain ⟨hP1, hD1⟩ := hB
            rw [ht] at hP1
            clear hvm
            obtain ⟨hP, hD⟩ := va_join (wr := [(q_a0, .inr (8, [.ref q_a0_told, .ref q_a0_kept, .ref q_a0_isKept, .ref q_a0_refused, .long a0_above, .long a0_below, .ref q_a0_manyBy, .ref q_a0_hers, .ref q_a0_his, .ref q_a0_hand, .ref q_a0_bytes, .int a0_bytesLong, .int u_28, .int u_29, .int u_30, .int u_31, .ref q_a0_anew, .ref q_a0_values])), (q_a0_bytes, .inl (cI, 150, .inl a0_bytes)), (q_a0_values, .inl (cI, 4, .inl u_32))]) (w1 := [(q_a0_anew, .inl (cI, 75, .inl u_34))]) hP hD [0] [1, 2, 3] rfl rfl (by decide) (by decide) hk1 hFc hP1 hD1
            clear hz1 hk1 hPc hDc hFc hP1 hD1
            generalize H1 = H at hP hS ⊢
            have hP : va_P D vwCl [(q_a0, .inr (8, [.ref q_a0_told, .ref q_a0_kept, .ref q_a0_isKept, .ref q_a0_refused, .long a0_above, .long a0_below, .ref q_a0_manyBy, .ref q_a0_hers, .ref q_a0_his, .ref q_a0_hand, .ref q_a0_bytes, .int a0_bytesLong, .int u_28, .int u_29, .int u_30, .int u_31, .ref q_a0_anew, .ref q_a0_values])), (q_a0_bytes, .inl (cI, 150, .inl a0_bytes)), (q_a0_values, .inl (cI, 4, .inl u_32)), (q_a0_anew, .inl (cI, 75, .inl u_34))] H := hP
            have hD : va_D A [(q_a0, .inr (8, [.ref q_a0_told, .ref q_a0_kept, .ref q_a0_isKept, .ref q_a0_refused, .long a0_above, .long a0_below, .ref q_a0_manyBy, .ref q_a0_hers, .ref q_a0_his, .ref q_a0_hand, .ref q_a0_bytes, .int a0_bytesLong, .int u_28, .int u_29, .int u_30, .int u_31, .ref q_a0_anew, .ref q_a0_values])), (q_a0_bytes, .inl (cI, 150, .inl a0_bytes)), (q_a0_values, .inl (cI, 4, .inl u_32)), (q_a0_anew, .inl (cI, 75, .inl u_34))] := hD
            refine lv_iconst (v := 1) hx hb dX9_takesBend_94 (by decide) ?_
            subst hQQ
            have hP9 := hP.sub (ws' := [(q_a0, .inr (8, [.ref q_a0_told, .ref q_a0_kept, .ref q_a0_isKept, .ref q_a0_refused, .long a0_above, .long a0_below, .ref q_a0_manyBy, .ref q_a0_hers, .ref q_a0_his, .ref q_a0_hand, .ref q_a0_bytes, .int a0_bytesLong, .int u_28, .int u_29, .int u_30, .int u_31, .ref q_a0_anew, .ref q_a0_values])), (q_a0_bytes, .inl (cI, 150, .inl a0_bytes)), (q_a0_anew, .inl (cI, 75, .inl u_34)), (q_a0_values, .inl (cI, 4, .inl u_32))]) [0, 1, 3, 2] rfl
            have hD9 := hD.sub (ws' := [(q_a0, .inr (8, [.ref q_a0_told, .ref q_a0_kept, .ref q_a0_isKept, .ref q_a0_refused, .long a0_above, .long a0_below, .ref q_a0_manyBy, .ref q_a0_hers, .ref q_a0_his, .ref q_a0_hand, .ref q_a0_bytes, .int a0_bytesLong, .int u_28, .int u_29, .int u_30, .int u_31, .ref q_a0_anew, .ref q_a0_values])), (q_a0_bytes, .inl (cI, 150, .inl a0_bytes)), (q_a0_anew, .inl (cI, 75, .inl u_34)), (q_a0_values, .inl (cI, 4, .inl u_32))]) [0, 1, 3, 2] (by decide) rfl
            exact W.zret hx hb hr rfl (fun t ht hW => ⟨⟨1, (u_28, u_29, u_30, u_31, u_34, u_32), rfl, hf, by rw [ht]; exact hP9, hD9⟩, hS.F ht⟩) hS.2.2 dX9_takesBend_95
          · have hf := it_t c_33 hf
            refine lv_iconst (v := 0) hx hb dX9_takesBend_61 (by decide) ?_
            subst hQQ
            have hP9 := hP.sub (ws' := [(q_a0, .inr (8, [.ref q_a0_told, .ref q_a0_kept, .ref q_a0_isKept, .ref q_a0_refused, .long a0_above, .long a0_below, .ref q_a0_manyBy, .ref q_a0_hers, .ref q_a0_his, .ref q_a0_hand, .ref q_a0_bytes, .int a0_bytesLong, .int u_28, .int u_29, .int u_30, .int u_31, .ref q_a0_anew, .ref q_a0_values])), (q_a0_bytes, .inl (cI, 150, .inl a0_bytes)), (q_a0_anew, .inl (cI, 75, .inl a0_anew)), (q_a0_values, .inl (cI, 4, .inl u_32))]) [1, 2, 0, 3] rfl
            have hD9 := hD.sub (ws' := [(q_a0, .inr (8, [.ref q_a0_told, .ref q_a0_kept, .ref q_a0_isKept, .ref q_a0_refused, .long a0_above, .long a0_below, .ref q_a0_manyBy, .ref q_a0_hers, .ref q_a0_his, .ref q_a0_hand, .ref q_a0_bytes, .int a0_bytesLong, .int u_28, .int u_29, .int u_30, .int u_31, .ref q_a0_anew, .ref q_a0_values])), (q_a0_bytes, .inl (cI, 150, .inl a0_bytes)), (q_a0_anew, .inl (cI, 75, .inl a0_anew)), (q_a0_values, .inl (cI, 4, .inl u_32))]) [1, 2, 0, 3] (by decide) rfl
            exact W.zret hx hb hr rfl (fun t ht hW => ⟨⟨0, (u_28, u_29, u_30, u_31, a0_anew, u_32), rfl, hf, by rw [ht]; exact hP9, hD9⟩, hS.F ht⟩) hS.2.2 dX9_takesBend_62
  · have hf := it_t c_1 hf
    refine lv_iconst (v := 0) hx hb dX9_takesBend_11 (by decide) ?_
    subst hQQ
    have hP9 := hP.sub (ws' := [(q_a0, .inr (8, [.ref q_a0_told, .ref q_a0_kept, .ref q_a0_isKept, .ref q_a0_refused, .long a0_above, .long a0_below, .ref q_a0_manyBy, .ref q_a0_hers, .ref q_a0_his, .ref q_a0_hand, .ref q_a0_bytes, .int a0_bytesLong, .int a0_tokenAt, .int a0_tokenLong, .int a0_token, .int a0_value, .ref q_a0_anew, .ref q_a0_values])), (q_a0_bytes, .inl (cI, 150, .inl a0_bytes)), (q_a0_anew, .inl (cI, 75, .inl a0_anew)), (q_a0_values, .inl (cI, 4, .inl a0_values))]) [0, 1, 2, 3] rfl
    have hD9 := hD.sub (ws' := [(q_a0, .inr (8, [.ref q_a0_told, .ref q_a0_kept, .ref q_a0_isKept, .ref q_a0_refused, .long a0_above, .long a0_below, .ref q_a0_manyBy, .ref q_a0_hers, .ref q_a0_his, .ref q_a0_hand, .ref q_a0_bytes, .int a0_bytesLong, .int a0_tokenAt, .int a0_tokenLong, .int a0_token, .int a0_value, .ref q_a0_anew, .ref q_a0_values])), (q_a0_bytes, .inl (cI, 150, .inl a0_bytes)), (q_a0_anew, .inl (cI, 75, .inl a0_anew)), (q_a0_values, .inl (cI, 4, .inl a0_values))]) [0, 1, 2, 3] (by decide) rfl
    exact W.zret hx hb hr rfl (fun t ht hW => ⟨⟨0, (a0_tokenAt, a0_tokenLong, a0_token, a0_value, a0_anew, a0_values), rfl, hf, by rw [ht]; exact hP9, hD9⟩, hS.F ht⟩) hS.2.2 dX9_takesBend_12
def p_X9_takesMud (a0_bytes : Nat → Int32) (a0_bytesLong : Int32) (a0_tokenAt : Int32) (a0_tokenLong : Int32) (a0_token : Int32) (a0_value : Int32) (a0_anew : Nat → Int32) (a0_values : Nat → Int32) (Q : Int32 → Int32 → Int32 → Int32 → Int32 → (Nat → Int32) → (Nat → Int32) → Prop) : Prop :=
  p_X9_goBehind a0_bytes a0_bytesLong a0_tokenAt a0_tokenLong a0_token a0_value (fun u_1 u_2 u_3 u_4 => p_X9_takes a0_bytes a0_bytesLong u_1 u_2 u_3 u_4 a0_values 0 0 ((a0_anew (0 : Int32).toNatClampNeg) - 1) (fun r_5 u_6 u_7 u_8 u_9 u_10 => if r_5 = 0 then (Q 0 u_6 u_7 u_8 u_9 a0_anew u_10) else (Q 1 u_6 u_7 u_8 u_9 (upd a0_anew ((17 : Int32).toNatClampNeg) ((a0_anew (17 : Int32).toNatClampNeg) ||| (1 <<< ((u_10 (0 : Int32).toNatClampNeg) &&& 31)))) u_10)))
def rmX9_takesMud : Room := { frames := 5, cells := 0, slots := 0, locals := 112 }
set_option maxHeartbeats 4000000 in
set_option maxRecDepth 100000 in
theorem c_X9_takesMud (l : Launch) (D : va_G) (cI cZ cO : ClassId) (q_a0 q_a0_told q_a0_kept q_a0_isKept q_a0_refused q_a0_manyBy q_a0_hers q_a0_his q_a0_hand q_a0_bytes q_a0_anew q_a0_values : Nat) (a0_above : Int64) (a0_below : Int64) (a0_bytesLong : Int32) (a0_tokenAt : Int32) (a0_tokenLong : Int32) (a0_token : Int32) (a0_value : Int32) (a0_bytes : Nat → Int32) (a0_anew : Nat → Int32) (a0_values : Nat → Int32) (sz : Nat) (Q : Int32 → Int32 → Int32 → Int32 → Int32 → (Nat → Int32) → (Nat → Int32) → Prop) (hf : p_X9_takesMud a0_bytes a0_bytesLong a0_tokenAt a0_tokenLong a0_token a0_value a0_anew a0_values Q) : Met l yX9_takesMud wsX9_takesMud rmX9_takesMud (va_Pc [.ref q_a0] (fun U => U.heap.size = sz ∧ va_P D vwCl [(q_a0, .inr (8, [.ref q_a0_told, .ref q_a0_kept, .ref q_a0_isKept, .ref q_a0_refused, .long a0_above, .long a0_below, .ref q_a0_manyBy, .ref q_a0_hers, .ref q_a0_his, .ref q_a0_hand, .ref q_a0_bytes, .int a0_bytesLong, .int a0_tokenAt, .int a0_tokenLong, .int a0_token, .int a0_value, .ref q_a0_anew, .ref q_a0_values])), (q_a0_bytes, .inl (cI, 150, .inl a0_bytes)), (q_a0_anew, .inl (cI, 75, .inl a0_anew)), (q_a0_values, .inl (cI, 4, .inl a0_values))] U.heap ∧ XK D cI cZ cO U ∧ va_D (fun _ => True) [(q_a0, .inr (8, [.ref q_a0_told, .ref q_a0_kept, .ref q_a0_isKept, .ref q_a0_refused, .long a0_above, .long a0_below, .ref q_a0_manyBy, .ref q_a0_hers, .ref q_a0_his, .ref q_a0_hand, .ref q_a0_bytes, .int a0_bytesLong, .int a0_tokenAt, .int a0_tokenLong, .int a0_token, .int a0_value, .ref q_a0_anew, .ref q_a0_values])), (q_a0_bytes, .inl (cI, 150, .inl a0_bytes)), (q_a0_anew, .inl (cI, 75, .inl a0_anew)), (q_a0_values, .inl (cI, 4, .inl a0_values))])) (va_Qi (fun r (u : Int32 × Int32 × Int32 × Int32 × (Nat → Int32) × (Nat → Int32)) => Q r u.1 u.2.1 u.2.2.1 u.2.2.2.1 u.2.2.2.2.1 u.2.2.2.2.2) (fun (u : Int32 × Int32 × Int32 × Int32 × (Nat → Int32) × (Nat → Int32)) t => va_P D vwCl [(q_a0, .inr (8, [.ref q_a0_told, .ref q_a0_kept, .ref q_a0_isKept, .ref q_a0_refused, .long a0_above, .long a0_below, .ref q_a0_manyBy, .ref q_a0_hers, .ref q_a0_his, .ref q_a0_hand, .ref q_a0_bytes, .int a0_bytesLong, .int u.1, .int u.2.1, .int u.2.2.1, .int u.2.2.2.1, .ref q_a0_anew, .ref q_a0_values])), (q_a0_bytes, .inl (cI, 150, .inl a0_bytes)), (q_a0_anew, .inl (cI, 75, .inl u.2.2.2.2.1)), (q_a0_values, .inl (cI, 4, .inl u.2.2.2.2.2))] t.heap ∧ va_D (va_A [(q_a0, .inr (8, [.ref q_a0_told, .ref q_a0_kept, .ref q_a0_isKept, .ref q_a0_refused, .long a0_above, .long a0_below, .ref q_a0_manyBy, .ref q_a0_hers, .ref q_a0_his, .ref q_a0_hand, .ref q_a0_bytes, .int a0_bytesLong, .int a0_tokenAt, .int a0_tokenLong, .int a0_token, .int a0_value, .ref q_a0_anew, .ref q_a0_values])), (q_a0_bytes, .inl (cI, 150, .inl a0_bytes)), (q_a0_anew, .inl (cI, 75, .inl a0_anew)), (q_a0_values, .inl (cI, 4, .inl a0_values))] sz) [(q_a0, .inr (8, [.ref q_a0_told, .ref q_a0_kept, .ref q_a0_isKept, .ref q_a0_refused, .long a0_above, .long a0_below, .ref q_a0_manyBy, .ref q_a0_hers, .ref q_a0_his, .ref q_a0_hand, .ref q_a0_bytes, .int a0_bytesLong, .int u.1, .int u.2.1, .int u.2.2.1, .int u.2.2.2.1, .ref q_a0_anew, .ref q_a0_values])), (q_a0_bytes, .inl (cI, 150, .inl a0_bytes)), (q_a0_anew, .inl (cI, 75, .inl u.2.2.2.2.1)), (q_a0_values, .inl (cI, 4, .inl u.2.2.2.2.2))]) (va_A [(q_a0, .inr (8, [.ref q_a0_told, .ref q_a0_kept, .ref q_a0_isKept, .ref q_a0_refused, .long a0_above, .long a0_below, .ref q_a0_manyBy, .ref q_a0_hers, .ref q_a0_his, .ref q_a0_hand, .ref q_a0_bytes, .int a0_bytesLong, .int a0_tokenAt, .int a0_tokenLong, .int a0_token, .int a0_value, .ref q_a0_anew, .ref q_a0_values])), (q_a0_bytes, .inl (cI, 150, .inl a0_bytes)), (q_a0_anew, .inl (cI, 75, .inl a0_anew)), (q_a0_values, .inl (cI, 4, .inl a0_values))] sz)) 0 0 (va_A [(q_a0, .inr (8, [.ref q_a0_told, .ref q_a0_kept, .ref q_a0_isKept, .ref q_a0_refused, .long a0_above, .long a0_below, .ref q_a0_manyBy, .ref q_a0_hers, .ref q_a0_his, .ref q_a0_hand, .ref q_a0_bytes, .int a0_bytesLong, .int a0_tokenAt, .int a0_tokenLong, .int a0_token, .int a0_value, .ref q_a0_anew, .ref q_a0_values])), (q_a0_bytes, .inl (cI, 150, .inl a0_bytes)), (q_a0_anew, .inl (cI, 75, .inl a0_anew)), (q_a0_values, .inl (cI, 4, .inl a0_values))] sz) := by
  refine Met.ofW (cc := cX9_takesMud) (maxL := 1) (ret := (some .boolean)) (by decide) rfl ?_
  intro p e s m args below meth c s₁ B hml hv
  obtain ⟨rfl, hsz, hP, hX, hD0⟩ := hv
  have hK := hX.1
  have hx := B.exec
  have hb := B.bytes
  have hr := B.returns
  have hts := atoms_spec (ws := wsX9_takesMud) B.pre
  have hown : s.vm.findClass RX9 = some m.cls := findClass_of_methodNamed B.named
  have hlocks := B.notSynchronized
  have in_X9 : ∀ w ∈ wsX90, w ∈ wsX9_takesMud := fun _ h => List.mem_cons_of_mem _ (List.mem_append_right _ h)
  have kf_42 := hts (.fieldLink RX9 42 "LeftCrestModel" "anew" "[I") (by decide +kernel)
  have kf_45 := hts (.fieldLink RX9 45 "LeftCrestModel" "values" "[I") (by decide +kernel)
  subst hsz
  have hD := hD0.self (sz := s.heap.size)
  generalize hAe : va_A [(q_a0, .inr (8, [.ref q_a0_told, .ref q_a0_kept, .ref q_a0_isKept, .ref q_a0_refused, .long a0_above, .long a0_below, .ref q_a0_manyBy, .ref q_a0_hers, .ref q_a0_his, .ref q_a0_hand, .ref q_a0_bytes, .int a0_bytesLong, .int a0_tokenAt, .int a0_tokenLong, .int a0_token, .int a0_value, .ref q_a0_anew, .ref q_a0_values])), (q_a0_bytes, .inl (cI, 150, .inl a0_bytes)), (q_a0_anew, .inl (cI, 75, .inl a0_anew)), (q_a0_values, .inl (cI, 4, .inl a0_values))] s.heap.size = A at hD ⊢
  have hA : ∀ q : Nat, s.heap.size ≤ q → A q := fun q h => by rw [← hAe]; exact Or.inr h
  have hS : va_S A s.heap s.heap [] := va_S.rf
  have hP : va_P D vwCl [(q_a0, .inr (8, [.ref q_a0_told, .ref q_a0_kept, .ref q_a0_isKept, .ref q_a0_refused, .long a0_above, .long a0_below, .ref q_a0_manyBy, .ref q_a0_hers, .ref q_a0_his, .ref q_a0_hand, .ref q_a0_bytes, .int a0_bytesLong, .int a0_tokenAt, .int a0_tokenLong, .int a0_token, .int a0_value, .ref q_a0_anew, .ref q_a0_values])), (q_a0_bytes, .inl (cI, 150, .inl a0_bytes)), (q_a0_anew, .inl (cI, 75, .inl a0_anew)), (q_a0_values, .inl (cI, 4, .inl a0_values))] s.heap := hP
  generalize hQQ : MQ below _ _ s _ _ _ = QQ
  have hl := lv_entry ([.ref q_a0]) (n := 1) (Nat.le_of_ble_eq_true rfl)
  rw [lg_entry_eq]
  generalize (lg_sl ([.ref q_a0]) ++ List.replicate (1 - (lg_sl ([.ref q_a0])).length) Slot.unset).toArray = ls at hl ⊢
  have hl : lv_has ls 1 [(0, .ref q_a0)] := hl
  unfold p_X9_takesMud at hf
  refine lv_aload_n hx hb dX9_takesMud_0 rfl (lv_at hl 0 rfl) ?_
  have hPc := hP.sub (ws' := [(q_a0, .inr (8, [.ref q_a0_told, .ref q_a0_kept, .ref q_a0_isKept, .ref q_a0_refused, .long a0_above, .long a0_below, .ref q_a0_manyBy, .ref q_a0_hers, .ref q_a0_his, .ref q_a0_hand, .ref q_a0_bytes, .int a0_bytesLong, .int a0_tokenAt, .int a0_tokenLong, .int a0_token, .int a0_value, .ref q_a0_anew, .ref q_a0_values])), (q_a0_bytes, .inl (cI, 150, .inl a0_bytes))]) [0, 1] rfl
  have hDc := hD.sub (ws' := [(q_a0, .inr (8, [.ref q_a0_told, .ref q_a0_kept, .ref q_a0_isKept, .ref q_a0_refused, .long a0_above, .long a0_below, .ref q_a0_manyBy, .ref q_a0_hers, .ref q_a0_his, .ref q_a0_hand, .ref q_a0_bytes, .int a0_bytesLong, .int a0_tokenAt, .int a0_tokenLong, .int a0_token, .int a0_value, .ref q_a0_anew, .ref q_a0_values])), (q_a0_bytes, .inl (cI, 150, .inl a0_bytes))]) [0, 1] (by decide) rfl
  have hFc := va_free (wc := [(q_a0, .inr (8, [.ref q_a0_told, .ref q_a0_kept, .ref q_a0_isKept, .ref q_a0_refused, .long a0_above, .long a0_below, .ref q_a0_manyBy, .ref q_a0_hers, .ref q_a0_his, .ref q_a0_hand, .ref q_a0_bytes, .int a0_bytesLong, .int a0_tokenAt, .int a0_tokenLong, .int a0_token, .int a0_value, .ref q_a0_anew, .ref q_a0_values])), (q_a0_bytes, .inl (cI, 150, .inl a0_bytes))]) hD hS hA [0, 1] rfl
  refine va_callv (va_runV (As := []) (rest := []) ⟨hx, hb, hml, hown, hts⟩ (c_X9_goBehind l D cI cZ cO q_a0 q_a0_told q_a0_kept q_a0_isKept q_a0_refused q_a0_manyBy q_a0_hers q_a0_his q_a0_hand q_a0_bytes q_a0_anew q_a0_values a0_above a0_below a0_bytesLong a0_tokenAt a0_tokenLong a0_token a0_value a0_bytes s.heap.size  _ hf) (cwV 0 hts gX9_takesMud_X9_goBehind rfl rfl rfl (by decide +kernel) ⟨Nat.le_of_ble_eq_true rfl, Nat.le_of_ble_eq_true rfl⟩) (pv_rw (ci := 8) (q0 := 0) hPc hDc hX rfl rfl) rfl rfl hl.1 rfl (lv_room (Nat.le_of_ble_eq_true rfl)) dX9_takesMud_1 ⟨Nat.zero_le _, Nat.zero_le _⟩) hS (fun q _ h => hFc q h) hFc (fun u t H1 locs ht hvm hf hB hz1 hk1 hS => ?_)
  obtain ⟨u_1, u_2, u_3, u_4⟩ := u
  obtain ⟨hP1, hD1⟩ := hB
  rw [ht] at hP1
  clear hvm
  obtain ⟨hP, hD⟩ := va_join (wr := [(q_a0_anew, .inl (cI, 75, .inl a0_anew)), (q_a0_values, .inl (cI, 4, .inl a0_values))]) (w1 := [(q_a0, .inr (8, [.ref q_a0_told, .ref q_a0_kept, .ref q_a0_isKept, .ref q_a0_refused, .long a0_above, .long a0_below, .ref q_a0_manyBy, .ref q_a0_hers, .ref q_a0_his, .ref q_a0_hand, .ref q_a0_bytes, .int a0_bytesLong, .int u_1, .int u_2, .int u_3, .int u_4, .ref q_a0_anew, .ref q_a0_values])), (q_a0_bytes, .inl (cI, 150, .inl a0_bytes))]) hP hD [0, 1] [2, 3] rfl rfl (by decide) (by decide) hk1 hFc hP1 hD1
  clear hz1 hk1 hPc hDc hFc hP1 hD1
  generalize H1 = H at hP hS ⊢
  have hP : va_P D vwCl [(q_a0_anew, .inl (cI, 75, .inl a0_anew)), (q_a0_values, .inl (cI, 4, .inl a0_values)), (q_a0, .inr (8, [.ref q_a0_told, .ref q_a0_kept, .ref q_a0_isKept, .ref q_a0_refused, .long a0_above, .long a0_below, .ref q_a0_manyBy, .ref q_a0_hers, .ref q_a0_his, .ref q_a0_hand, .ref q_a0_bytes, .int a0_bytesLong, .int u_1, .int u_2, .int u_3, .int u_4, .ref q_a0_anew, .ref q_a0_values])), (q_a0_bytes, .inl (cI, 150, .inl a0_bytes))] H := hP
  have hD : va_D A [(q_a0_anew, .inl (cI, 75, .inl a0_anew)), (q_a0_values, .inl (cI, 4, .inl a0_values)), (q_a0, .inr (8, [.ref q_a0_told, .ref q_a0_kept, .ref q_a0_isKept, .ref q_a0_refused, .long a0_above, .long a0_below, .ref q_a0_manyBy, .ref q_a0_hers, .ref q_a0_his, .ref q_a0_hand, .ref q_a0_bytes, .int a0_bytesLong, .int u_1, .int u_2, .int u_3, .int u_4, .ref q_a0_anew, .ref q_a0_values])), (q_a0_bytes, .inl (cI, 150, .inl a0_bytes))] := hD
  refine lv_aload_n hx hb dX9_takesMud_4 rfl (lv_at hl 0 rfl) ?_
  refine lv_iconst (v := 0) hx hb dX9_takesMud_5 (by decide) ?_
  refine lv_iconst (v := 0) hx hb dX9_takesMud_6 (by decide) ?_
  refine lv_aload_n hx hb dX9_takesMud_7 rfl (lv_at hl 0 rfl) ?_
  refine va_get (D := D) (ci := 8) (v := .ref q_a0_anew) (C := RX9) (T := TX9) (N := 18) hx hb hts in_X9 hown hK hP 2 rfl rfl 16 (by decide) kf_42 (fun _ h9 => h9) rfl dX9_takesMud_8 ?_
  refine lv_iconst (v := 0) hx hb dX9_takesMud_11 (by decide) ?_
  refine va_iald hx hb hK hP 0 0 rfl rfl (by unfold vp_in; decide) dX9_takesMud_12 ?_
  refine lv_iconst (v := 1) hx hb dX9_takesMud_13 (by decide) ?_
  refine lv_isub hx hb dX9_takesMud_14 ?_
  have hPc := hP.sub (ws' := [(q_a0, .inr (8, [.ref q_a0_told, .ref q_a0_kept, .ref q_a0_isKept, .ref q_a0_refused, .long a0_above, .long a0_below, .ref q_a0_manyBy, .ref q_a0_hers, .ref q_a0_his, .ref q_a0_hand, .ref q_a0_bytes, .int a0_bytesLong, .int u_1, .int u_2, .int u_3, .int u_4, .ref q_a0_anew, .ref q_a0_values])), (q_a0_bytes, .inl (cI, 150, .inl a0_bytes)), (q_a0_values, .inl (cI, 4, .inl a0_values))]) [2, 3, 1] rfl
  have hDc := hD.sub (ws' := [(q_a0, .inr (8, [.ref q_a0_told, .ref q_a0_kept, .ref q_a0_isKept, .ref q_a0_refused, .long a0_above, .long a0_below, .ref q_a0_manyBy, .ref q_a0_hers, .ref q_a0_his, .ref q_a0_hand, .ref q_a0_bytes, .int a0_bytesLong, .int u_1, .int u_2, .int u_3, .int u_4, .ref q_a0_anew, .ref q_a0_values])), (q_a0_bytes, .inl (cI, 150, .inl a0_bytes)), (q_a0_values, .inl (cI, 4, .inl a0_values))]) [2, 3, 1] (by decide) rfl
  have hFc := va_free (wc := [(q_a0, .inr (8, [.ref q_a0_told, .ref q_a0_kept, .ref q_a0_isKept, .ref q_a0_refused, .long a0_above, .long a0_below, .ref q_a0_manyBy, .ref q_a0_hers, .ref q_a0_his, .ref q_a0_hand, .ref q_a0_bytes, .int a0_bytesLong, .int u_1, .int u_2, .int u_3, .int u_4, .ref q_a0_anew, .ref q_a0_values])), (q_a0_bytes, .inl (cI, 150, .inl a0_bytes)), (q_a0_values, .inl (cI, 4, .inl a0_values))]) hD hS hA [2, 3, 1] rfl
  refine va_calli (va_runV (As := [.int 0, .int 0, .int ((a0_anew (0 : Int32).toNatClampNeg) - 1)]) (rest := []) ⟨hx, hb, hml, hown, hts⟩ (c_X9_takes l D cI cZ cO q_a0 q_a0_told q_a0_kept q_a0_isKept q_a0_refused q_a0_manyBy q_a0_hers q_a0_his q_a0_hand q_a0_bytes q_a0_anew q_a0_values a0_above a0_below a0_bytesLong u_1 u_2 u_3 u_4 a0_bytes a0_values H.size 0 0 ((a0_anew (0 : Int32).toNatClampNeg) - 1) _ hf) (cwV 3 hts gX9_takesMud_X9_takes rfl rfl rfl (by decide +kernel) ⟨Nat.le_of_ble_eq_true rfl, Nat.le_of_ble_eq_true rfl⟩) (pv_rw (ci := 8) (q0 := 0) hPc hDc hX rfl rfl) rfl rfl hl.1 rfl (lv_room (Nat.le_of_ble_eq_true rfl)) dX9_takesMud_15 ⟨Nat.zero_le _, Nat.zero_le _⟩) hS (fun q _ h => hFc q h) hFc (fun r_5 u t H1 locs ht hvm hf hB hz1 hk1 hS => ?_)
  obtain ⟨u_6, u_7, u_8, u_9, u_10⟩ := u
  obtain ⟨hP1, hD1⟩ := hB
  rw [ht] at hP1
  clear hvm
  obtain ⟨hP, hD⟩ := va_join (wr := [(q_a0_anew, .inl (cI, 75, .inl a0_anew))]) (w1 := [(q_a0, .inr (8, [.ref q_a0_told, .ref q_a0_kept, .ref q_a0_isKept, .ref q_a0_refused, .long a0_above, .long a0_below, .ref q_a0_manyBy, .ref q_a0_hers, .ref q_a0_his, .ref q_a0_hand, .ref q_a0_bytes, .int a0_bytesLong, .int u_6, .int u_7, .int u_8, .int u_9, .ref q_a0_anew, .ref q_a0_values])), (q_a0_bytes, .inl (cI, 150, .inl a0_bytes)), (q_a0_values, .inl (cI, 4, .inl u_10))]) hP hD [2, 3, 1] [0] rfl rfl (by decide) (by decide) hk1 hFc hP1 hD1
  clear hz1 hk1 hPc hDc hFc hP1 hD1
  generalize H1 = H at hP hS ⊢
  have hP : va_P D vwCl [(q_a0_anew, .inl (cI, 75, .inl a0_anew)), (q_a0, .inr (8, [.ref q_a0_told, .ref q_a0_kept, .ref q_a0_isKept, .ref q_a0_refused, .long a0_above, .long a0_below, .ref q_a0_manyBy, .ref q_a0_hers, .ref q_a0_his, .ref q_a0_hand, .ref q_a0_bytes, .int a0_bytesLong, .int u_6, .int u_7, .int u_8, .int u_9, .ref q_a0_anew, .ref q_a0_values])), (q_a0_bytes, .inl (cI, 150, .inl a0_bytes)), (q_a0_values, .inl (cI, 4, .inl u_10))] H := hP
  have hD : va_D A [(q_a0_anew, .inl (cI, 75, .inl a0_anew)), (q_a0, .inr (8, [.ref q_a0_told, .ref q_a0_kept, .ref q_a0_isKept, .ref q_a0_refused, .long a0_above, .long a0_below, .ref q_a0_manyBy, .ref q_a0_hers, .ref q_a0_his, .ref q_a0_hand, .ref q_a0_bytes, .int a0_bytesLong, .int u_6, .int u_7, .int u_8, .int u_9, .ref q_a0_anew, .ref q_a0_values])), (q_a0_bytes, .inl (cI, 150, .inl a0_bytes)), (q_a0_values, .inl (cI, 4, .inl u_10))] := hD
  refine lv_if_ne (tgt := 23) hx hb dX9_takesMud_18 (by decide) (fun c_11 => ?_) (fun c_11 => ?_)
  · have hf := it_f c_11 hf
    refine lv_aload_n hx hb dX9_takesMud_23 rfl (lv_at hl 0 rfl) ?_
    refine va_get (D := D) (ci := 8) (v := .ref q_a0_anew) (C := RX9) (T := TX9) (N := 18) hx hb hts in_X9 hown hK hP 1 rfl rfl 16 (by decide) kf_42 (fun _ h9 => h9) rfl dX9_takesMud_24 ?_
    refine lv_bipush (v := 17) hx hb dX9_takesMud_27 (by decide) ?_
    refine lv_dup2_11 hx hb dX9_takesMud_29 rfl rfl ?_
    refine va_iald hx hb hK hP 0 0 rfl rfl (by unfold vp_in; decide) dX9_takesMud_30 ?_
    refine lv_iconst (v := 1) hx hb dX9_takesMud_31 (by decide) ?_
    refine lv_aload_n hx hb dX9_takesMud_32 rfl (lv_at hl 0 rfl) ?_
    refine va_get (D := D) (ci := 8) (v := .ref q_a0_values) (C := RX9) (T := TX9) (N := 18) hx hb hts in_X9 hown hK hP 1 rfl rfl 17 (by decide) kf_45 (fun _ h9 => h9) rfl dX9_takesMud_33 ?_
    refine lv_iconst (v := 0) hx hb dX9_takesMud_36 (by decide) ?_
    refine va_iald hx hb hK hP 3 0 rfl rfl (by unfold vp_in; decide) dX9_takesMud_37 ?_
    refine lv_ishl hx hb dX9_takesMud_38 ?_
    refine lv_ior hx hb dX9_takesMud_39 ?_
    refine va_iast hx hb hK hP hD hS 0 0 rfl rfl (by unfold vp_in; decide) dX9_takesMud_40 (fun H locs hP hD hS => ?_)
    have hP : va_P D vwCl [(q_a0_anew, .inl (cI, 75, .inl (upd a0_anew ((17 : Int32).toNatClampNeg) ((a0_anew (17 : Int32).toNatClampNeg) ||| (1 <<< ((u_10 (0 : Int32).toNatClampNeg) &&& 31)))))), (q_a0, .inr (8, [.ref q_a0_told, .ref q_a0_kept, .ref q_a0_isKept, .ref q_a0_refused, .long a0_above, .long a0_below, .ref q_a0_manyBy, .ref q_a0_hers, .ref q_a0_his, .ref q_a0_hand, .ref q_a0_bytes, .int a0_bytesLong, .int u_6, .int u_7, .int u_8, .int u_9, .ref q_a0_anew, .ref q_a0_values])), (q_a0_bytes, .inl (cI, 150, .inl a0_bytes)), (q_a0_values, .inl (cI, 4, .inl u_10))] H := hP
    have hD : va_D A [(q_a0_anew, .inl (cI, 75, .inl (upd a0_anew ((17 : Int32).toNatClampNeg) ((a0_anew (17 : Int32).toNatClampNeg) ||| (1 <<< ((u_10 (0 : Int32).toNatClampNeg) &&& 31)))))), (q_a0, .inr (8, [.ref q_a0_told, .ref q_a0_kept, .ref q_a0_isKept, .ref q_a0_refused, .long a0_above, .long a0_below, .ref q_a0_manyBy, .ref q_a0_hers, .ref q_a0_his, .ref q_a0_hand, .ref q_a0_bytes, .int a0_bytesLong, .int u_6, .int u_7, .int u_8, .int u_9, .ref q_a0_anew, .ref q_a0_values])), (q_a0_bytes, .inl (cI, 150, .inl a0_bytes)), (q_a0_values, .inl (cI, 4, .inl u_10))] := hD
    refine lv_iconst (v := 1) hx hb dX9_takesMud_41 (by decide) ?_
    subst hQQ
    have hP9 := hP.sub (ws' := [(q_a0, .inr (8, [.ref q_a0_told, .ref q_a0_kept, .ref q_a0_isKept, .ref q_a0_refused, .long a0_above, .long a0_below, .ref q_a0_manyBy, .ref q_a0_hers, .ref q_a0_his, .ref q_a0_hand, .ref q_a0_bytes, .int a0_bytesLong, .int u_6, .int u_7, .int u_8, .int u_9, .ref q_a0_anew, .ref q_a0_values])), (q_a0_bytes, .inl (cI, 150, .inl a0_bytes)), (q_a0_anew, .inl (cI, 75, .inl (upd a0_anew ((17 : Int32).toNatClampNeg) ((a0_anew (17 : Int32).toNatClampNeg) ||| (1 <<< ((u_10 (0 : Int32).toNatClampNeg) &&& 31)))))), (q_a0_values, .inl (cI, 4, .inl u_10))]) [1, 2, 0, 3] rfl
    have hD9 := hD.sub (ws' := [(q_a0, .inr (8, [.ref q_a0_told, .ref q_a0_kept, .ref q_a0_isKept, .ref q_a0_refused, .long a0_above, .long a0_below, .ref q_a0_manyBy, .ref q_a0_hers, .ref q_a0_his, .ref q_a0_hand, .ref q_a0_bytes, .int a0_bytesLong, .int u_6, .int u_7, .int u_8, .int u_9, .ref q_a0_anew, .ref q_a0_values])), (q_a0_bytes, .inl (cI, 150, .inl a0_bytes)), (q_a0_anew, .inl (cI, 75, .inl (upd a0_anew ((17 : Int32).toNatClampNeg) ((a0_anew (17 : Int32).toNatClampNeg) ||| (1 <<< ((u_10 (0 : Int32).toNatClampNeg) &&& 31)))))), (q_a0_values, .inl (cI, 4, .inl u_10))]) [1, 2, 0, 3] (by decide) rfl
    exact W.zret hx hb hr rfl (fun t ht hW => ⟨⟨1, (u_6, u_7, u_8, u_9, upd a0_anew ((17 : Int32).toNatClampNeg) ((a0_anew (17 : Int32).toNatClampNeg) ||| (1 <<< ((u_10 (0 : Int32).toNatClampNeg) &&& 31))), u_10), rfl, hf, by rw [ht]; exact hP9, hD9⟩, hS.F ht⟩) hS.2.2 dX9_takesMud_42
  · have hf := it_t c_11 hf
    refine lv_iconst (v := 0) hx hb dX9_takesMud_21 (by decide) ?_
    subst hQQ
    have hP9 := hP.sub (ws' := [(q_a0, .inr (8, [.ref q_a0_told, .ref q_a0_kept, .ref q_a0_isKept, .ref q_a0_refused, .long a0_above, .long a0_below, .ref q_a0_manyBy, .ref q_a0_hers, .ref q_a0_his, .ref q_a0_hand, .ref q_a0_bytes, .int a0_bytesLong, .int u_6, .int u_7, .int u_8, .int u_9, .ref q_a0_anew, .ref q_a0_values])), (q_a0_bytes, .inl (cI, 150, .inl a0_bytes)), (q_a0_anew, .inl (cI, 75, .inl a0_anew)), (q_a0_values, .inl (cI, 4, .inl u_10))]) [1, 2, 0, 3] rfl
    have hD9 := hD.sub (ws' := [(q_a0, .inr (8, [.ref q_a0_told, .ref q_a0_kept, .ref q_a0_isKept, .ref q_a0_refused, .long a0_above, .long a0_below, .ref q_a0_manyBy, .ref q_a0_hers, .ref q_a0_his, .ref q_a0_hand, .ref q_a0_bytes, .int a0_bytesLong, .int u_6, .int u_7, .int u_8, .int u_9, .ref q_a0_anew, .ref q_a0_values])), (q_a0_bytes, .inl (cI, 150, .inl a0_bytes)), (q_a0_anew, .inl (cI, 75, .inl a0_anew)), (q_a0_values, .inl (cI, 4, .inl u_10))]) [1, 2, 0, 3] (by decide) rfl
    exact W.zret hx hb hr rfl (fun t ht hW => ⟨⟨0, (u_6, u_7, u_8, u_9, a0_anew, u_10), rfl, hf, by rw [ht]; exact hP9, hD9⟩, hS.F ht⟩) hS.2.2 dX9_takesMud_22
def p_X9_takesDrive (a0_bytes : Nat → Int32) (a0_bytesLong : Int32) (a0_tokenAt : Int32) (a0_tokenLong : Int32) (a0_token : Int32) (a0_value : Int32) (a0_anew : Nat → Int32) (a0_values : Nat → Int32) (Q : Int32 → Int32 → Int32 → Int32 → Int32 → (Nat → Int32) → (Nat → Int32) → Prop) : Prop :=
  p_X9_goBehind a0_bytes a0_bytesLong a0_tokenAt a0_tokenLong a0_token a0_value (fun u_1 u_2 u_3 u_4 => p_X9_takes a0_bytes a0_bytesLong u_1 u_2 u_3 u_4 a0_values 0 1 ((a0_anew (0 : Int32).toNatClampNeg) - (a0_anew (4 : Int32).toNatClampNeg)) (fun r_5 u_6 u_7 u_8 u_9 u_10 => if r_5 = 0 then (Q 0 u_6 u_7 u_8 u_9 a0_anew u_10) else (p_X9_goDrive 75 a0_anew (u_10 (0 : Int32).toNatClampNeg) (fun r_12 u_13 => if r_12 ≤ 0 then (Q 0 u_6 u_7 u_8 u_9 u_13 u_10) else (Q 1 u_6 u_7 u_8 u_9 u_13 u_10)))))
def rmX9_takesDrive : Room := { frames := 5, cells := 0, slots := 0, locals := 112 }
set_option maxHeartbeats 4000000 in
set_option maxRecDepth 100000 in
theorem c_X9_takesDrive (l : Launch) (D : va_G) (cI cZ cO : ClassId) (q_a0 q_a0_told q_a0_kept q_a0_isKept q_a0_refused q_a0_manyBy q_a0_hers q_a0_his q_a0_hand q_a0_bytes q_a0_anew q_a0_values : Nat) (a0_above : Int64) (a0_below : Int64) (a0_bytesLong : Int32) (a0_tokenAt : Int32) (a0_tokenLong : Int32) (a0_token : Int32) (a0_value : Int32) (a0_bytes : Nat → Int32) (a0_anew : Nat → Int32) (a0_values : Nat → Int32) (sz : Nat) (Q : Int32 → Int32 → Int32 → Int32 → Int32 → (Nat → Int32) → (Nat → Int32) → Prop) (hf : p_X9_takesDrive a0_bytes a0_bytesLong a0_tokenAt a0_tokenLong a0_token a0_value a0_anew a0_values Q) : Met l yX9_takesDrive wsX9_takesDrive rmX9_takesDrive (va_Pc [.ref q_a0] (fun U => U.heap.size = sz ∧ va_P D vwCl [(q_a0, .inr (8, [.ref q_a0_told, .ref q_a0_kept, .ref q_a0_isKept, .ref q_a0_refused, .long a0_above, .long a0_below, .ref q_a0_manyBy, .ref q_a0_hers, .ref q_a0_his, .ref q_a0_hand, .ref q_a0_bytes, .int a0_bytesLong, .int a0_tokenAt, .int a0_tokenLong, .int a0_token, .int a0_value, .ref q_a0_anew, .ref q_a0_values])), (q_a0_bytes, .inl (cI, 150, .inl a0_bytes)), (q_a0_anew, .inl (cI, 75, .inl a0_anew)), (q_a0_values, .inl (cI, 4, .inl a0_values))] U.heap ∧ XK D cI cZ cO U ∧ va_D (fun _ => True) [(q_a0, .inr (8, [.ref q_a0_told, .ref q_a0_kept, .ref q_a0_isKept, .ref q_a0_refused, .long a0_above, .long a0_below, .ref q_a0_manyBy, .ref q_a0_hers, .ref q_a0_his, .ref q_a0_hand, .ref q_a0_bytes, .int a0_bytesLong, .int a0_tokenAt, .int a0_tokenLong, .int a0_token, .int a0_value, .ref q_a0_anew, .ref q_a0_values])), (q_a0_bytes, .inl (cI, 150, .inl a0_bytes)), (q_a0_anew, .inl (cI, 75, .inl a0_anew)), (q_a0_values, .inl (cI, 4, .inl a0_values))])) (va_Qi (fun r (u : Int32 × Int32 × Int32 × Int32 × (Nat → Int32) × (Nat → Int32)) => Q r u.1 u.2.1 u.2.2.1 u.2.2.2.1 u.2.2.2.2.1 u.2.2.2.2.2) (fun (u : Int32 × Int32 × Int32 × Int32 × (Nat → Int32) × (Nat → Int32)) t => va_P D vwCl [(q_a0, .inr (8, [.ref q_a0_told, .ref q_a0_kept, .ref q_a0_isKept, .ref q_a0_refused, .long a0_above, .long a0_below, .ref q_a0_manyBy, .ref q_a0_hers, .ref q_a0_his, .ref q_a0_hand, .ref q_a0_bytes, .int a0_bytesLong, .int u.1, .int u.2.1, .int u.2.2.1, .int u.2.2.2.1, .ref q_a0_anew, .ref q_a0_values])), (q_a0_bytes, .inl (cI, 150, .inl a0_bytes)), (q_a0_anew, .inl (cI, 75, .inl u.2.2.2.2.1)), (q_a0_values, .inl (cI, 4, .inl u.2.2.2.2.2))] t.heap ∧ va_D (va_A [(q_a0, .inr (8, [.ref q_a0_told, .ref q_a0_kept, .ref q_a0_isKept, .ref q_a0_refused, .long a0_above, .long a0_below, .ref q_a0_manyBy, .ref q_a0_hers, .ref q_a0_his, .ref q_a0_hand, .ref q_a0_bytes, .int a0_bytesLong, .int a0_tokenAt, .int a0_tokenLong, .int a0_token, .int a0_value, .ref q_a0_anew, .ref q_a0_values])), (q_a0_bytes, .inl (cI, 150, .inl a0_bytes)), (q_a0_anew, .inl (cI, 75, .inl a0_anew)), (q_a0_values, .inl (cI, 4, .inl a0_values))] sz) [(q_a0, .inr (8, [.ref q_a0_told, .ref q_a0_kept, .ref q_a0_isKept, .ref q_a0_refused, .long a0_above, .long a0_below, .ref q_a0_manyBy, .ref q_a0_hers, .ref q_a0_his, .ref q_a0_hand, .ref q_a0_bytes, .int a0_bytesLong, .int u.1, .int u.2.1, .int u.2.2.1, .int u.2.2.2.1, .ref q_a0_anew, .ref q_a0_values])), (q_a0_bytes, .inl (cI, 150, .inl a0_bytes)), (q_a0_anew, .inl (cI, 75, .inl u.2.2.2.2.1)), (q_a0_values, .inl (cI, 4, .inl u.2.2.2.2.2))]) (va_A [(q_a0, .inr (8, [.ref q_a0_told, .ref q_a0_kept, .ref q_a0_isKept, .ref q_a0_refused, .long a0_above, .long a0_below, .ref q_a0_manyBy, .ref q_a0_hers, .ref q_a0_his, .ref q_a0_hand, .ref q_a0_bytes, .int a0_bytesLong, .int a0_tokenAt, .int a0_tokenLong, .int a0_token, .int a0_value, .ref q_a0_anew, .ref q_a0_values])), (q_a0_bytes, .inl (cI, 150, .inl a0_bytes)), (q_a0_anew, .inl (cI, 75, .inl a0_anew)), (q_a0_values, .inl (cI, 4, .inl a0_values))] sz)) 0 0 (va_A [(q_a0, .inr (8, [.ref q_a0_told, .ref q_a0_kept, .ref q_a0_isKept, .ref q_a0_refused, .long a0_above, .long a0_below, .ref q_a0_manyBy, .ref q_a0_hers, .ref q_a0_his, .ref q_a0_hand, .ref q_a0_bytes, .int a0_bytesLong, .int a0_tokenAt, .int a0_tokenLong, .int a0_token, .int a0_value, .ref q_a0_anew, .ref q_a0_values])), (q_a0_bytes, .inl (cI, 150, .inl a0_bytes)), (q_a0_anew, .inl (cI, 75, .inl a0_anew)), (q_a0_values, .inl (cI, 4, .inl a0_values))] sz) := by
  refine Met.ofW (cc := cX9_takesDrive) (maxL := 1) (ret := (some .boolean)) (by decide) rfl ?_
  intro p e s m args below meth c s₁ B hml hv
  obtain ⟨rfl, hsz, hP, hX, hD0⟩ := hv
  have hK := hX.1
  have hx := B.exec
  have hb := B.bytes
  have hr := B.returns
  have hts := atoms_spec (ws := wsX9_takesDrive) B.pre
  have hown : s.vm.findClass RX9 = some m.cls := findClass_of_methodNamed B.named
  have hlocks := B.notSynchronized
  have in_X9 : ∀ w ∈ wsX90, w ∈ wsX9_takesDrive := fun _ h => List.mem_cons_of_mem _ (List.mem_append_right _ h)
  have kf_42 := hts (.fieldLink RX9 42 "LeftCrestModel" "anew" "[I") (by decide +kernel)
  have kf_45 := hts (.fieldLink RX9 45 "LeftCrestModel" "values" "[I") (by decide +kernel)
  subst hsz
  have hD := hD0.self (sz := s.heap.size)
  generalize hAe : va_A [(q_a0, .inr (8, [.ref q_a0_told, .ref q_a0_kept, .ref q_a0_isKept, .ref q_a0_refused, .long a0_above, .long a0_below, .ref q_a0_manyBy, .ref q_a0_hers, .ref q_a0_his, .ref q_a0_hand, .ref q_a0_bytes, .int a0_bytesLong, .int a0_tokenAt, .int a0_tokenLong, .int a0_token, .int a0_value, .ref q_a0_anew, .ref q_a0_values])), (q_a0_bytes, .inl (cI, 150, .inl a0_bytes)), (q_a0_anew, .inl (cI, 75, .inl a0_anew)), (q_a0_values, .inl (cI, 4, .inl a0_values))] s.heap.size = A at hD ⊢
  have hA : ∀ q : Nat, s.heap.size ≤ q → A q := fun q h => by rw [← hAe]; exact Or.inr h
  have hS : va_S A s.heap s.heap [] := va_S.rf
  have hP : va_P D vwCl [(q_a0, .inr (8, [.ref q_a0_told, .ref q_a0_kept, .ref q_a0_isKept, .ref q_a0_refused, .long a0_above, .long a0_below, .ref q_a0_manyBy, .ref q_a0_hers, .ref q_a0_his, .ref q_a0_hand, .ref q_a0_bytes, .int a0_bytesLong, .int a0_tokenAt, .int a0_tokenLong, .int a0_token, .int a0_value, .ref q_a0_anew, .ref q_a0_values])), (q_a0_bytes, .inl (cI, 150, .inl a0_bytes)), (q_a0_anew, .inl (cI, 75, .inl a0_anew)), (q_a0_values, .inl (cI, 4, .inl a0_values))] s.heap := hP
  generalize hQQ : MQ below _ _ s _ _ _ = QQ
  have hl := lv_entry ([.ref q_a0]) (n := 1) (Nat.le_of_ble_eq_true rfl)
  rw [lg_entry_eq]
  generalize (lg_sl ([.ref q_a0]) ++ List.replicate (1 - (lg_sl ([.ref q_a0])).length) Slot.unset).toArray = ls at hl ⊢
  have hl : lv_has ls 1 [(0, .ref q_a0)] := hl
  unfold p_X9_takesDrive at hf
  refine lv_aload_n hx hb dX9_takesDrive_0 rfl (lv_at hl 0 rfl) ?_
  have hPc := hP.sub (ws' := [(q_a0, .inr (8, [.ref q_a0_told, .ref q_a0_kept, .ref q_a0_isKept, .ref q_a0_refused, .long a0_above, .long a0_below, .ref q_a0_manyBy, .ref q_a0_hers, .ref q_a0_his, .ref q_a0_hand, .ref q_a0_bytes, .int a0_bytesLong, .int a0_tokenAt, .int a0_tokenLong, .int a0_token, .int a0_value, .ref q_a0_anew, .ref q_a0_values])), (q_a0_bytes, .inl (cI, 150, .inl a0_bytes))]) [0, 1] rfl
  have hDc := hD.sub (ws' := [(q_a0, .inr (8, [.ref q_a0_told, .ref q_a0_kept, .ref q_a0_isKept, .ref q_a0_refused, .long a0_above, .long a0_below, .ref q_a0_manyBy, .ref q_a0_hers, .ref q_a0_his, .ref q_a0_hand, .ref q_a0_bytes, .int a0_bytesLong, .int a0_tokenAt, .int a0_tokenLong, .int a0_token, .int a0_value, .ref q_a0_anew, .ref q_a0_values])), (q_a0_bytes, .inl (cI, 150, .inl a0_bytes))]) [0, 1] (by decide) rfl
  have hFc := va_free (wc := [(q_a0, .inr (8, [.ref q_a0_told, .ref q_a0_kept, .ref q_a0_isKept, .ref q_a0_refused, .long a0_above, .long a0_below, .ref q_a0_manyBy, .ref q_a0_hers, .ref q_a0_his, .ref q_a0_hand, .ref q_a0_bytes, .int a0_bytesLong, .int a0_tokenAt, .int a0_tokenLong, .int a0_token, .int a0_value, .ref q_a0_anew, .ref q_a0_values])), (q_a0_bytes, .inl (cI, 150, .inl a0_bytes))]) hD hS hA [0, 1] rfl
  refine va_callv (va_runV (As := []) (rest := []) ⟨hx, hb, hml, hown, hts⟩ (c_X9_goBehind l D cI cZ cO q_a0 q_a0_told q_a0_kept q_a0_isKept q_a0_refused q_a0_manyBy q_a0_hers q_a0_his q_a0_hand q_a0_bytes q_a0_anew q_a0_values a0_above a0_below a0_bytesLong a0_tokenAt a0_tokenLong a0_token a0_value a0_bytes s.heap.size  _ hf) (cwV 0 hts gX9_takesDrive_X9_goBehind rfl rfl rfl (by decide +kernel) ⟨Nat.le_of_ble_eq_true rfl, Nat.le_of_ble_eq_true rfl⟩) (pv_rw (ci := 8) (q0 := 0) hPc hDc hX rfl rfl) rfl rfl hl.1 rfl (lv_room (Nat.le_of_ble_eq_true rfl)) dX9_takesDrive_1 ⟨Nat.zero_le _, Nat.zero_le _⟩) hS (fun q _ h => hFc q h) hFc (fun u t H1 locs ht hvm hf hB hz1 hk1 hS => ?_)
  obtain ⟨u_1, u_2, u_3, u_4⟩ := u
  obtain ⟨hP1, hD1⟩ := hB
  rw [ht] at hP1
  clear hvm
  obtain ⟨hP, hD⟩ := va_join (wr := [(q_a0_anew, .inl (cI, 75, .inl a0_anew)), (q_a0_values, .inl (cI, 4, .inl a0_values))]) (w1 := [(q_a0, .inr (8, [.ref q_a0_told, .ref q_a0_kept, .ref q_a0_isKept, .ref q_a0_refused, .long a0_above, .long a0_below, .ref q_a0_manyBy, .ref q_a0_hers, .ref q_a0_his, .ref q_a0_hand, .ref q_a0_bytes, .int a0_bytesLong, .int u_1, .int u_2, .int u_3, .int u_4, .ref q_a0_anew, .ref q_a0_values])), (q_a0_bytes, .inl (cI, 150, .inl a0_bytes))]) hP hD [0, 1] [2, 3] rfl rfl (by decide) (by decide) hk1 hFc hP1 hD1
  clear hz1 hk1 hPc hDc hFc hP1 hD1
  generalize H1 = H at hP hS ⊢
  have hP : va_P D vwCl [(q_a0_anew, .inl (cI, 75, .inl a0_anew)), (q_a0_values, .inl (cI, 4, .inl a0_values)), (q_a0, .inr (8, [.ref q_a0_told, .ref q_a0_kept, .ref q_a0_isKept, .ref q_a0_refused, .long a0_above, .long a0_below, .ref q_a0_manyBy, .ref q_a0_hers, .ref q_a0_his, .ref q_a0_hand, .ref q_a0_bytes, .int a0_bytesLong, .int u_1, .int u_2, .int u_3, .int u_4, .ref q_a0_anew, .ref q_a0_values])), (q_a0_bytes, .inl (cI, 150, .inl a0_bytes))] H := hP
  have hD : va_D A [(q_a0_anew, .inl (cI, 75, .inl a0_anew)), (q_a0_values, .inl (cI, 4, .inl a0_values)), (q_a0, .inr (8, [.ref q_a0_told, .ref q_a0_kept, .ref q_a0_isKept, .ref q_a0_refused, .long a0_above, .long a0_below, .ref q_a0_manyBy, .ref q_a0_hers, .ref q_a0_his, .ref q_a0_hand, .ref q_a0_bytes, .int a0_bytesLong, .int u_1, .int u_2, .int u_3, .int u_4, .ref q_a0_anew, .ref q_a0_values])), (q_a0_bytes, .inl (cI, 150, .inl a0_bytes))] := hD
  refine lv_aload_n hx hb dX9_takesDrive_4 rfl (lv_at hl 0 rfl) ?_
  refine lv_iconst (v := 0) hx hb dX9_takesDrive_5 (by decide) ?_
  refine lv_iconst (v := 1) hx hb dX9_takesDrive_6 (by decide) ?_
  refine lv_aload_n hx hb dX9_takesDrive_7 rfl (lv_at hl 0 rfl) ?_
  refine va_get (D := D) (ci := 8) (v := .ref q_a0_anew) (C := RX9) (T := TX9) (N := 18) hx hb hts in_X9 hown hK hP 2 rfl rfl 16 (by decide) kf_42 (fun _ h9 => h9) rfl dX9_takesDrive_8 ?_
  refine lv_iconst (v := 0) hx hb dX9_takesDrive_11 (by decide) ?_
  refine va_iald hx hb hK hP 0 0 rfl rfl (by unfold vp_in; decide) dX9_takesDrive_12 ?_
  refine lv_aload_n hx hb dX9_takesDrive_13 rfl (lv_at hl 0 rfl) ?_
  refine va_get (D := D) (ci := 8) (v := .ref q_a0_anew) (C := RX9) (T := TX9) (N := 18) hx hb hts in_X9 hown hK hP 2 rfl rfl 16 (by decide) kf_42 (fun _ h9 => h9) rfl dX9_takesDrive_14 ?_
  refine lv_iconst (v := 4) hx hb dX9_takesDrive_17 (by decide) ?_
  refine va_iald hx hb hK hP 0 0 rfl rfl (by unfold vp_in; decide) dX9_takesDrive_18 ?_
  refine lv_isub hx hb dX9_takesDrive_19 ?_
  have hPc := hP.sub (ws' := [(q_a0, .inr (8, [.ref q_a0_told, .ref q_a0_kept, .ref q_a0_isKept, .ref q_a0_refused, .long a0_above, .long a0_below, .ref q_a0_manyBy, .ref q_a0_hers, .ref q_a0_his, .ref q_a0_hand, .ref q_a0_bytes, .int a0_bytesLong, .int u_1, .int u_2, .int u_3, .int u_4, .ref q_a0_anew, .ref q_a0_values])), (q_a0_bytes, .inl (cI, 150, .inl a0_bytes)), (q_a0_values, .inl (cI, 4, .inl a0_values))]) [2, 3, 1] rfl
  have hDc := hD.sub (ws' := [(q_a0, .inr (8, [.ref q_a0_told, .ref q_a0_kept, .ref q_a0_isKept, .ref q_a0_refused, .long a0_above, .long a0_below, .ref q_a0_manyBy, .ref q_a0_hers, .ref q_a0_his, .ref q_a0_hand, .ref q_a0_bytes, .int a0_bytesLong, .int u_1, .int u_2, .int u_3, .int u_4, .ref q_a0_anew, .ref q_a0_values])), (q_a0_bytes, .inl (cI, 150, .inl a0_bytes)), (q_a0_values, .inl (cI, 4, .inl a0_values))]) [2, 3, 1] (by decide) rfl
  have hFc := va_free (wc := [(q_a0, .inr (8, [.ref q_a0_told, .ref q_a0_kept, .ref q_a0_isKept, .ref q_a0_refused, .long a0_above, .long a0_below, .ref q_a0_manyBy, .ref q_a0_hers, .ref q_a0_his, .ref q_a0_hand, .ref q_a0_bytes, .int a0_bytesLong, .int u_1, .int u_2, .int u_3, .int u_4, .ref q_a0_anew, .ref q_a0_values])), (q_a0_bytes, .inl (cI, 150, .inl a0_bytes)), (q_a0_values, .inl (cI, 4, .inl a0_values))]) hD hS hA [2, 3, 1] rfl
  refine va_calli (va_runV (As := [.int 0, .int 1, .int ((a0_anew (0 : Int32).toNatClampNeg) - (a0_anew (4 : Int32).toNatClampNeg))]) (rest := []) ⟨hx, hb, hml, hown, hts⟩ (c_X9_takes l D cI cZ cO q_a0 q_a0_told q_a0_kept q_a0_isKept q_a0_refused q_a0_manyBy q_a0_hers q_a0_his q_a0_hand q_a0_bytes q_a0_anew q_a0_values a0_above a0_below a0_bytesLong u_1 u_2 u_3 u_4 a0_bytes a0_values H.size 0 1 ((a0_anew (0 : Int32).toNatClampNeg) - (a0_anew (4 : Int32).toNatClampNeg)) _ hf) (cwV 3 hts gX9_takesDrive_X9_takes rfl rfl rfl (by decide +kernel) ⟨Nat.le_of_ble_eq_true rfl, Nat.le_of_ble_eq_true rfl⟩) (pv_rw (ci := 8) (q0 := 0) hPc hDc hX rfl rfl) rfl rfl hl.1 rfl (lv_room (Nat.le_of_ble_eq_true rfl)) dX9_takesDrive_20 ⟨Nat.zero_le _, Nat.zero_le _⟩) hS (fun q _ h => hFc q h) hFc (fun r_5 u t H1 locs ht hvm hf hB hz1 hk1 hS => ?_)
  obtain ⟨u_6, u_7, u_8, u_9, u_10⟩ := u
  obtain ⟨hP1, hD1⟩ := hB
  rw [ht] at hP1
  clear hvm
  obtain ⟨hP, hD⟩ := va_join (wr := [(q_a0_anew, .inl (cI, 75, .inl a0_anew))]) (w1 := [(q_a0, .inr (8, [.ref q_a0_told, .ref q_a0_kept, .ref q_a0_isKept, .ref q_a0_refused, .long a0_above, .long a0_below, .ref q_a0_manyBy, .ref q_a0_hers, .ref q_a0_his, .ref q_a0_hand, .ref q_a0_bytes, .int a0_bytesLong, .int u_6, .int u_7, .int u_8, .int u_9, .ref q_a0_anew, .ref q_a0_values])), (q_a0_bytes, .inl (cI, 150, .inl a0_bytes)), (q_a0_values, .inl (cI, 4, .inl u_10))]) hP hD [2, 3, 1] [0] rfl rfl (by decide) (by decide) hk1 hFc hP1 hD1
  clear hz1 hk1 hPc hDc hFc hP1 hD1
  generalize H1 = H at hP hS ⊢
  have hP : va_P D vwCl [(q_a0_anew, .inl (cI, 75, .inl a0_anew)), (q_a0, .inr (8, [.ref q_a0_told, .ref q_a0_kept, .ref q_a0_isKept, .ref q_a0_refused, .long a0_above, .long a0_below, .ref q_a0_manyBy, .ref q_a0_hers, .ref q_a0_his, .ref q_a0_hand, .ref q_a0_bytes, .int a0_bytesLong, .int u_6, .int u_7, .int u_8, .int u_9, .ref q_a0_anew, .ref q_a0_values])), (q_a0_bytes, .inl (cI, 150, .inl a0_bytes)), (q_a0_values, .inl (cI, 4, .inl u_10))] H := hP
  have hD : va_D A [(q_a0_anew, .inl (cI, 75, .inl a0_anew)), (q_a0, .inr (8, [.ref q_a0_told, .ref q_a0_kept, .ref q_a0_isKept, .ref q_a0_refused, .long a0_above, .long a0_below, .ref q_a0_manyBy, .ref q_a0_hers, .ref q_a0_his, .ref q_a0_hand, .ref q_a0_bytes, .int a0_bytesLong, .int u_6, .int u_7, .int u_8, .int u_9, .ref q_a0_anew, .ref q_a0_values])), (q_a0_bytes, .inl (cI, 150, .inl a0_bytes)), (q_a0_values, .inl (cI, 4, .inl u_10))] := hD
  refine lv_if_ne (tgt := 28) hx hb dX9_takesDrive_23 (by decide) (fun c_11 => ?_) (fun c_11 => ?_)
  · have hf := it_f c_11 hf
    refine lv_aload_n hx hb dX9_takesDrive_28 rfl (lv_at hl 0 rfl) ?_
    refine va_get (D := D) (ci := 8) (v := .ref q_a0_anew) (C := RX9) (T := TX9) (N := 18) hx hb hts in_X9 hown hK hP 1 rfl rfl 16 (by decide) kf_42 (fun _ h9 => h9) rfl dX9_takesDrive_29 ?_
    refine lv_aload_n hx hb dX9_takesDrive_32 rfl (lv_at hl 0 rfl) ?_
    refine va_get (D := D) (ci := 8) (v := .ref q_a0_values) (C := RX9) (T := TX9) (N := 18) hx hb hts in_X9 hown hK hP 1 rfl rfl 17 (by decide) kf_45 (fun _ h9 => h9) rfl dX9_takesDrive_33 ?_
    refine lv_iconst (v := 0) hx hb dX9_takesDrive_36 (by decide) ?_
    refine va_iald hx hb hK hP 3 0 rfl rfl (by unfold vp_in; decide) dX9_takesDrive_37 ?_
    have hPc := hP.sub (ws' := [(q_a0_anew, .inl (cI, 75, .inl a0_anew))]) [0] rfl
    have hDc := hD.sub (ws' := [(q_a0_anew, .inl (cI, 75, .inl a0_anew))]) [0] (by decide) rfl
    have hFc := va_free (wc := [(q_a0_anew, .inl (cI, 75, .inl a0_anew))]) hD hS hA [0] rfl
    refine va_calli (va_runS (As := [.ref q_a0_anew, .int (u_10 (0 : Int32).toNatClampNeg)]) (rest := []) ⟨hx, hb, hml, hown, hts⟩ (c_X9_goDrive l D cI cZ cO q_a0_anew 75 a0_anew H.size (u_10 (0 : Int32).toNatClampNeg) _ hf) (va_cwS 2 hts gX9_takesDrive_X9_goDrive rfl rfl rfl (by decide +kernel) ⟨Nat.le_of_ble_eq_true rfl, Nat.le_of_ble_eq_true rfl⟩) (ps_rw hPc hDc hX) rfl rfl hl.1 rfl (lv_room (Nat.le_of_ble_eq_true rfl)) dX9_takesDrive_38 ⟨Nat.zero_le _, Nat.zero_le _⟩) hS (fun q _ h => hFc q h) hFc (fun r_12 u t H1 locs ht hvm hf hB hz1 hk1 hS => ?_)
    obtain ⟨u_13, rfl⟩ : ∃ z, z = u := ⟨_, rfl⟩
    obtain ⟨hP1, hD1⟩ := hB
    rw [ht] at hP1
    clear hvm
    obtain ⟨hP, hD⟩ := va_join (wr := [(q_a0, .inr (8, [.ref q_a0_told, .ref q_a0_kept, .ref q_a0_isKept, .ref q_a0_refused, .long a0_above, .long a0_below, .ref q_a0_manyBy, .ref q_a0_hers, .ref q_a0_his, .ref q_a0_hand, .ref q_a0_bytes, .int a0_bytesLong, .int u_6, .int u_7, .int u_8, .int u_9, .ref q_a0_anew, .ref q_a0_values])), (q_a0_bytes, .inl (cI, 150, .inl a0_bytes)), (q_a0_values, .inl (cI, 4, .inl u_10))]) (w1 := [(q_a0_anew, .inl (cI, 75, .inl u_13))]) hP hD [0] [1, 2, 3] rfl rfl (by decide) (by decide) hk1 hFc hP1 hD1
    clear hz1 hk1 hPc hDc hFc hP1 hD1
    generalize H1 = H at hP hS ⊢
    have hP : va_P D vwCl [(q_a0, .inr (8, [.ref q_a0_told, .ref q_a0_kept, .ref q_a0_isKept, .ref q_a0_refused, .long a0_above, .long a0_below, .ref q_a0_manyBy, .ref q_a0_hers, .ref q_a0_his, .ref q_a0_hand, .ref q_a0_bytes, .int a0_bytesLong, .int u_6, .int u_7, .int u_8, .int u_9, .ref q_a0_anew, .ref q_a0_values])), (q_a0_bytes, .inl (cI, 150, .inl a0_bytes)), (q_a0_values, .inl (cI, 4, .inl u_10)), (q_a0_anew, .inl (cI, 75, .inl u_13))] H := hP
    have hD : va_D A [(q_a0, .inr (8, [.ref q_a0_told, .ref q_a0_kept, .ref q_a0_isKept, .ref q_a0_refused, .long a0_above, .long a0_below, .ref q_a0_manyBy, .ref q_a0_hers, .ref q_a0_his, .ref q_a0_hand, .ref q_a0_bytes, .int a0_bytesLong, .int u_6, .int u_7, .int u_8, .int u_9, .ref q_a0_anew, .ref q_a0_values])), (q_a0_bytes, .inl (cI, 150, .inl a0_bytes)), (q_a0_values, .inl (cI, 4, .inl u_10)), (q_a0_anew, .inl (cI, 75, .inl u_13))] := hD
    refine lv_if_le (tgt := 48) hx hb dX9_takesDrive_41 (by decide) (fun c_14 => ?_) (fun c_14 => ?_)
    · have hf := it_t c_14 hf
      refine lv_iconst (v := 0) hx hb dX9_takesDrive_48 (by decide) ?_
      subst hQQ
      have hP9 := hP.sub (ws' := [(q_a0, .inr (8, [.ref q_a0_told, .ref q_a0_kept, .ref q_a0_isKept, .ref q_a0_refused, .long a0_above, .long a0_below, .ref q_a0_manyBy, .ref q_a0_hers, .ref q_a0_his, .ref q_a0_hand, .ref q_a0_bytes, .int a0_bytesLong, .int u_6, .int u_7, .int u_8, .int u_9, .ref q_a0_anew, .ref q_a0_values])), (q_a0_bytes, .inl (cI, 150, .inl a0_bytes)), (q_a0_anew, .inl (cI, 75, .inl u_13)), (q_a0_values, .inl (cI, 4, .inl u_10))]) [0, 1, 3, 2] rfl
      have hD9 := hD.sub (ws' := [(q_a0, .inr (8, [.ref q_a0_told, .ref q_a0_kept, .ref q_a0_isKept, .ref q_a0_refused, .long a0_above, .long a0_below, .ref q_a0_manyBy, .ref q_a0_hers, .ref q_a0_his, .ref q_a0_hand, .ref q_a0_bytes, .int a0_bytesLong, .int u_6, .int u_7, .int u_8, .int u_9, .ref q_a0_anew, .ref q_a0_values])), (q_a0_bytes, .inl (cI, 150, .inl a0_bytes)), (q_a0_anew, .inl (cI, 75, .inl u_13)), (q_a0_values, .inl (cI, 4, .inl u_10))]) [0, 1, 3, 2] (by decide) rfl
      exact W.zret hx hb hr rfl (fun t ht hW => ⟨⟨0, (u_6, u_7, u_8, u_9, u_13, u_10), rfl, hf, by rw [ht]; exact hP9, hD9⟩, hS.F ht⟩) hS.2.2 dX9_takesDrive_49
    · have hf := it_f c_14 hf
      refine lv_iconst (v := 1) hx hb dX9_takesDrive_44 (by decide) ?_
      refine lv_goto (tgt := 49) hx hb dX9_takesDrive_45 (by decide) ?_
      subst hQQ
      have hP9 := hP.sub (ws' := [(q_a0, .inr (8, [.ref q_a0_told, .ref q_a0_kept, .ref q_a0_isKept, .ref q_a0_refused, .long a0_above, .long a0_below, .ref q_a0_manyBy, .ref q_a0_hers, .ref q_a0_his, .ref q_a0_hand, .ref q_a0_bytes, .int a0_bytesLong, .int u_6, .int u_7, .int u_8, .int u_9, .ref q_a0_anew, .ref q_a0_values])), (q_a0_bytes, .inl (cI, 150, .inl a0_bytes)), (q_a0_anew, .inl (cI, 75, .inl u_13)), (q_a0_values, .inl (cI, 4, .inl u_10))]) [0, 1, 3, 2] rfl
      have hD9 := hD.sub (ws' := [(q_a0, .inr (8, [.ref q_a0_told, .ref q_a0_kept, .ref q_a0_isKept, .ref q_a0_refused, .long a0_above, .long a0_below, .ref q_a0_manyBy, .ref q_a0_hers, .ref q_a0_his, .ref q_a0_hand, .ref q_a0_bytes, .int a0_bytesLong, .int u_6, .int u_7, .int u_8, .int u_9, .ref q_a0_anew, .ref q_a0_values])), (q_a0_bytes, .inl (cI, 150, .inl a0_bytes)), (q_a0_anew, .inl (cI, 75, .inl u_13)), (q_a0_values, .inl (cI, 4, .inl u_10))]) [0, 1, 3, 2] (by decide) rfl
      exact W.zret hx hb hr rfl (fun t ht hW => ⟨⟨1, (u_6, u_7, u_8, u_9, u_13, u_10), rfl, hf, by rw [ht]; exact hP9, hD9⟩, hS.F ht⟩) hS.2.2 dX9_takesDrive_49
  · have hf := it_t c_11 hf
    refine lv_iconst (v := 0) hx hb dX9_takesDrive_26 (by decide) ?_
    subst hQQ
    have hP9 := hP.sub (ws' := [(q_a0, .inr (8, [.ref q_a0_told, .ref q_a0_kept, .ref q_a0_isKept, .ref q_a0_refused, .long a0_above, .long a0_below, .ref q_a0_manyBy, .ref q_a0_hers, .ref q_a0_his, .ref q_a0_hand, .ref q_a0_bytes, .int a0_bytesLong, .int u_6, .int u_7, .int u_8, .int u_9, .ref q_a0_anew, .ref q_a0_values])), (q_a0_bytes, .inl (cI, 150, .inl a0_bytes)), (q_a0_anew, .inl (cI, 75, .inl a0_anew)), (q_a0_values, .inl (cI, 4, .inl u_10))]) [1, 2, 0, 3] rfl
    have hD9 := hD.sub (ws' := [(q_a0, .inr (8, [.ref q_a0_told, .ref q_a0_kept, .ref q_a0_isKept, .ref q_a0_refused, .long a0_above, .long a0_below, .ref q_a0_manyBy, .ref q_a0_hers, .ref q_a0_his, .ref q_a0_hand, .ref q_a0_bytes, .int a0_bytesLong, .int u_6, .int u_7, .int u_8, .int u_9, .ref q_a0_anew, .ref q_a0_values])), (q_a0_bytes, .inl (cI, 150, .inl a0_bytes)), (q_a0_anew, .inl (cI, 75, .inl a0_anew)), (q_a0_values, .inl (cI, 4, .inl u_10))]) [1, 2, 0, 3] (by decide) rfl
    exact W.zret hx hb hr rfl (fun t ht hW => ⟨⟨0, (u_6, u_7, u_8, u_9, a0_anew, u_10), rfl, hf, by rw [ht]; exact hP9, hD9⟩, hS.F ht⟩) hS.2.2 dX9_takesDrive_27
