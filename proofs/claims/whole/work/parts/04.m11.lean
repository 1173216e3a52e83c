def jX9_reads_157 (a0_refused : Nat → Int32) (x2 : Int32) (Q : Int32 → (Nat → Int32) → Prop) (v_1 : Int32) (v_2 : Int32) : Prop :=
  if x2 = 0 then (Q v_1 a0_refused) else (Q v_2 a0_refused)
def jX9_reads_134 (k_13 : Int32 → Int32 → Int32 → Prop) (v_11 : Int32) (v_12 : Int32) (v_14 : Int32) (t_15 : Int32) : Prop :=
  if v_11 ≤ v_14 then (k_13 t_15 v_11 (v_12 + 1)) else (k_13 t_15 v_14 (v_12 + 1))
def jX9_reads_121 (k_13 : Int32 → Int32 → Int32 → Prop) (v_10 : Int32) (v_11 : Int32) (v_12 : Int32) (v_17 : Int32) : Prop :=
  if v_11 ≤ v_17 then (jX9_reads_134 k_13 v_11 v_12 v_17 v_10) else (jX9_reads_134 k_13 v_11 v_12 v_17 v_12)
def bX9_reads_75 (a0_told : Nat → Int32) (k_13 : Int32 → Int32 → Int32 → Prop) (v_10 : Int32) (v_11 : Int32) (v_12 : Int32) (k_22 : Int32 → Int32 → Prop) (v_20 : Int32) (v_21 : Int32) : Prop :=
  p_X9_many a0_told (fun r_23 => if r_23 ≤ v_21 then (jX9_reads_121 k_13 v_10 v_11 v_12 v_20) else (p_X9_has v_12 v_21 (fun r_25 => if r_25 = 0 then (p_X9_cost a0_told v_21 0 (fun r_27 => k_22 (v_20 + r_27) (v_21 + 1))) else (p_X9_noteOf a0_told v_21 (fun r_28 => p_X9_cost a0_told v_21 r_28 (fun r_29 => k_22 (v_20 + r_29) (v_21 + 1)))))))
def jX9_reads_65 (a0_told : Nat → Int32) (k_13 : Int32 → Int32 → Int32 → Prop) (v_10 : Int32) (v_11 : Int32) (v_12 : Int32) (t_19 : Int32) : Prop :=
  lq2 (bX9_reads_75 a0_told k_13 v_10 v_11 v_12) 1000 t_19 (a0_told (4 : Int32).toNatClampNeg)
def bX9_reads_38 (a0_told : Nat → Int32) (a0_refused : Nat → Int32) (x1 : Int32) (x2 : Int32) (Q : Int32 → (Nat → Int32) → Prop) (k_13 : Int32 → Int32 → Int32 → Prop) (v_10 : Int32) (v_11 : Int32) (v_12 : Int32) : Prop :=
  p_X9_many a0_told (fun r_30 => if (1 <<< (r_30 &&& 31)) ≤ v_12 then (jX9_reads_157 a0_refused x2 Q v_10 v_11) else (p_X9_canRead a0_told v_12 x1 (fun r_32 => if r_32 = 0 then (jX9_reads_65 a0_told k_13 v_10 v_11 v_12 1000000) else (jX9_reads_65 a0_told k_13 v_10 v_11 v_12 0))))
def p_X9_reads (a0_told : Nat → Int32) (a0_refused : Nat → Int32) (x1 : Int32) (x2 : Int32) (Q : Int32 → (Nat → Int32) → Prop) : Prop :=
  p_X9_in x1.toInt64 0 9 (fun r_4 => if r_4 = 0 then (p_X9_bad a0_refused (-2) (fun r_6 u_7 => Q r_6 u_7)) else (p_X9_in x2.toInt64 0 1 (fun r_8 => if r_8 = 0 then (p_X9_bad a0_refused (-2) (fun r_34 u_35 => Q r_34 u_35)) else (lq3 (bX9_reads_38 a0_told a0_refused x1 x2 Q) 1000 0 1000000 0))))
def rmX9_reads : Room := { frames := 4, cells := 0, slots := 0, locals := 93 }
set_option maxHeartbeats 4000000 in
set_option maxRecDepth 100000 in
theorem c_X9_reads (l : Launch) (D : va_G) (cI cZ cO : ClassId) (q_a0 q_a0_told q_a0_kept q_a0_isKept q_a0_refused q_a0_manyBy q_a0_hers q_a0_his q_a0_hand q_a0_bytes q_a0_anew q_a0_values : Nat) (a0_above : Int64) (a0_below : Int64) (a0_bytesLong : Int32) (a0_tokenAt : Int32) (a0_tokenLong : Int32) (a0_token : Int32) (a0_value : Int32) (a0_told : Nat → Int32) (a0_refused : Nat → Int32) (sz : Nat) (x1 : Int32) (x2 : Int32) (Q : Int32 → (Nat → Int32) → Prop) (hf : p_X9_reads a0_told a0_refused x1 x2 Q) : Met l yX9_reads wsX9_reads rmX9_reads (va_Pc [.ref q_a0, .int x1, .int x2] (fun U => U.heap.size = sz ∧ va_P D vwCl [(q_a0, .inr (8, [.ref q_a0_told, .ref q_a0_kept, .ref q_a0_isKept, .ref q_a0_refused, .long a0_above, .long a0_below, .ref q_a0_manyBy, .ref q_a0_hers, .ref q_a0_his, .ref q_a0_hand, .ref q_a0_bytes, .int a0_bytesLong, .int a0_tokenAt, .int a0_tokenLong, .int a0_token, .int a0_value, .ref q_a0_anew, .ref q_a0_values])), (q_a0_told, .inl (cI, 163, .inl a0_told)), (q_a0_refused, .inl (cI, 3, .inl a0_refused))] U.heap ∧ XK D cI cZ cO U ∧ va_D (fun _ => True) [(q_a0, .inr (8, [.ref q_a0_told, .ref q_a0_kept, .ref q_a0_isKept, .ref q_a0_refused, .long a0_above, .long a0_below, .ref q_a0_manyBy, .ref q_a0_hers, .ref q_a0_his, .ref q_a0_hand, .ref q_a0_bytes, .int a0_bytesLong, .int a0_tokenAt, .int a0_tokenLong, .int a0_token, .int a0_value, .ref q_a0_anew, .ref q_a0_values])), (q_a0_told, .inl (cI, 163, .inl a0_told)), (q_a0_refused, .inl (cI, 3, .inl a0_refused))])) (va_Qi (fun r (u : (Nat → Int32)) => Q r u) (fun (u : (Nat → Int32)) t => va_P D vwCl [(q_a0, .inr (8, [.ref q_a0_told, .ref q_a0_kept, .ref q_a0_isKept, .ref q_a0_refused, .long a0_above, .long a0_below, .ref q_a0_manyBy, .ref q_a0_hers, .ref q_a0_his, .ref q_a0_hand, .ref q_a0_bytes, .int a0_bytesLong, .int a0_tokenAt, .int a0_tokenLong, .int a0_token, .int a0_value, .ref q_a0_anew, .ref q_a0_values])), (q_a0_told, .inl (cI, 163, .inl a0_told)), (q_a0_refused, .inl (cI, 3, .inl u))] t.heap ∧ va_D (va_A [(q_a0, .inr (8, [.ref q_a0_told, .ref q_a0_kept, .ref q_a0_isKept, .ref q_a0_refused, .long a0_above, .long a0_below, .ref q_a0_manyBy, .ref q_a0_hers, .ref q_a0_his, .ref q_a0_hand, .ref q_a0_bytes, .int a0_bytesLong, .int a0_tokenAt, .int a0_tokenLong, .int a0_token, .int a0_value, .ref q_a0_anew, .ref q_a0_values])), (q_a0_told, .inl (cI, 163, .inl a0_told)), (q_a0_refused, .inl (cI, 3, .inl a0_refused))] sz) [(q_a0, .inr (8, [.ref q_a0_told, .ref q_a0_kept, .ref q_a0_isKept, .ref q_a0_refused, .long a0_above, .long a0_below, .ref q_a0_manyBy, .ref q_a0_hers, .ref q_a0_his, .ref q_a0_hand, .ref q_a0_bytes, .int a0_bytesLong, .int a0_tokenAt, .int a0_tokenLong, .int a0_token, .int a0_value, .ref q_a0_anew, .ref q_a0_values])), (q_a0_told, .inl (cI, 163, .inl a0_told)), (q_a0_refused, .inl (cI, 3, .inl u))]) (va_A [(q_a0, .inr (8, [.ref q_a0_told, .ref q_a0_kept, .ref q_a0_isKept, .ref q_a0_refused, .long a0_above, .long a0_below, .ref q_a0_manyBy, .ref q_a0_hers, .ref q_a0_his, .ref q_a0_hand, .ref q_a0_bytes, .int a0_bytesLong, .int a0_tokenAt, .int a0_tokenLong, .int a0_token, .int a0_value, .ref q_a0_anew, .ref q_a0_values])), (q_a0_told, .inl (cI, 163, .inl a0_told)), (q_a0_refused, .inl (cI, 3, .inl a0_refused))] sz)) 0 0 (va_A [(q_a0, .inr (8, [.ref q_a0_told, .ref q_a0_kept, .ref q_a0_isKept, .ref q_a0_refused, .long a0_above, .long a0_below, .ref q_a0_manyBy, .ref q_a0_hers, .ref q_a0_his, .ref q_a0_hand, .ref q_a0_bytes, .int a0_bytesLong, .int a0_tokenAt, .int a0_tokenLong, .int a0_token, .int a0_value, .ref q_a0_anew, .ref q_a0_values])), (q_a0_told, .inl (cI, 163, .inl a0_told)), (q_a0_refused, .inl (cI, 3, .inl a0_refused))] sz) := by
  refine Met.ofW (cc := cX9_reads) (maxL := 8) (ret := (some .int)) (by decide) rfl ?_
  intro p e s m args below meth c s₁ B hml hv
  obtain ⟨rfl, hsz, hP, hX, hD0⟩ := hv
  have hK := hX.1
  have hx := B.exec
  have hb := B.bytes
  have hr := B.returns
  have hts := atoms_spec (ws := wsX9_reads) B.pre
  have hown : s.vm.findClass RX9 = some m.cls := findClass_of_methodNamed B.named
  have hlocks := B.notSynchronized
  have in_X9 : ∀ w ∈ wsX90, w ∈ wsX9_reads := fun _ h => List.mem_cons_of_mem _ (List.mem_append_right _ h)
  have kc_64 := hts (.constantLong RX9 64 (9)) (by decide +kernel)
  have kc_137 := hts (.constant RX9 137 (1000000)) (by decide +kernel)
  have kf_7 := hts (.fieldLink RX9 7 "LeftCrestModel" "told" "[I") (by decide +kernel)
  subst hsz
  have hD := hD0.self (sz := s.heap.size)
  generalize hAe : va_A [(q_a0, .inr (8, [.ref q_a0_told, .ref q_a0_kept, .ref q_a0_isKept, .ref q_a0_refused, .long a0_above, .long a0_below, .ref q_a0_manyBy, .ref q_a0_hers, .ref q_a0_his, .ref q_a0_hand, .ref q_a0_bytes, .int a0_bytesLong, .int a0_tokenAt, .int a0_tokenLong, .int a0_token, .int a0_value, .ref q_a0_anew, .ref q_a0_values])), (q_a0_told, .inl (cI, 163, .inl a0_told)), (q_a0_refused, .inl (cI, 3, .inl a0_refused))] s.heap.size = A at hD ⊢
  have hA : ∀ q : Nat, s.heap.size ≤ q → A q := fun q h => by rw [← hAe]; exact Or.inr h
  have hS : va_S A s.heap s.heap [] := va_S.rf
  have hP : va_P D vwCl [(q_a0, .inr (8, [.ref q_a0_told, .ref q_a0_kept, .ref q_a0_isKept, .ref q_a0_refused, .long a0_above, .long a0_below, .ref q_a0_manyBy, .ref q_a0_hers, .ref q_a0_his, .ref q_a0_hand, .ref q_a0_bytes, .int a0_bytesLong, .int a0_tokenAt, .int a0_tokenLong, .int a0_token, .int a0_value, .ref q_a0_anew, .ref q_a0_values])), (q_a0_told, .inl (cI, 163, .inl a0_told)), (q_a0_refused, .inl (cI, 3, .inl a0_refused))] s.heap := hP
  generalize hQQ : MQ below _ _ s _ _ _ = QQ
  have hl := lv_entry ([.ref q_a0, .int x1, .int x2]) (n := 8) (Nat.le_of_ble_eq_true rfl)
  rw [lg_entry_eq]
  generalize (lg_sl ([.ref q_a0, .int x1, .int x2]) ++ List.replicate (8 - (lg_sl ([.ref q_a0, .int x1, .int x2])).length) Slot.unset).toArray = ls at hl ⊢
  have hl : lv_has ls 8 [(0, .ref q_a0), (1, .int x1), (2, .int x2)] := hl
  have hj_157 : ∀ (v_1 : Int32) (v_2 : Int32) (H : Heap) (locs : List Loc), jX9_reads_157 a0_refused x2 Q v_1 v_2 → va_P D vwCl [(q_a0, .inr (8, [.ref q_a0_told, .ref q_a0_kept, .ref q_a0_isKept, .ref q_a0_refused, .long a0_above, .long a0_below, .ref q_a0_manyBy, .ref q_a0_hers, .ref q_a0_his, .ref q_a0_hand, .ref q_a0_bytes, .int a0_bytesLong, .int a0_tokenAt, .int a0_tokenLong, .int a0_token, .int a0_value, .ref q_a0_anew, .ref q_a0_values])), (q_a0_told, .inl (cI, 163, .inl a0_told)), (q_a0_refused, .inl (cI, 3, .inl a0_refused))] H → va_D A [(q_a0, .inr (8, [.ref q_a0_told, .ref q_a0_kept, .ref q_a0_isKept, .ref q_a0_refused, .long a0_above, .long a0_below, .ref q_a0_manyBy, .ref q_a0_hers, .ref q_a0_his, .ref q_a0_hand, .ref q_a0_bytes, .int a0_bytesLong, .int a0_tokenAt, .int a0_tokenLong, .int a0_token, .int a0_value, .ref q_a0_anew, .ref q_a0_values])), (q_a0_told, .inl (cI, 163, .inl a0_told)), (q_a0_refused, .inl (cI, 3, .inl a0_refused))] → va_S A s.heap H locs → ∀ ls : Array Slot, lv_has ls 8 [(2, .int x2), (3, .int v_1), (4, .int v_2)] → W p l e (headSpec wsX9_reads rmX9_reads).room s m ([.ref q_a0, .int x1, .int x2] : List Value).toArray below meth c H locs 0 0 QQ (F0 m 157 ls []) := by
    intro v_1 v_2 H locs hf hP hD hS ls hl
    unfold jX9_reads_157 at hf
    refine lv_iload_n hx hb dX9_reads_157 rfl (lv_at hl 0 rfl) ?_
    refine lv_if_ne (tgt := 165) hx hb dX9_reads_158 (by decide) (fun c_3 => ?_) (fun c_3 => ?_)
    · have hf := it_f c_3 hf
      refine lv_iload hx hb dX9_reads_165 (lv_at hl 2 rfl) ?_
      subst hQQ
      have hP9 := hP.sub (ws' := [(q_a0, .inr (8, [.ref q_a0_told, .ref q_a0_kept, .ref q_a0_isKept, .ref q_a0_refused, .long a0_above, .long a0_below, .ref q_a0_manyBy, .ref q_a0_hers, .ref q_a0_his, .ref q_a0_hand, .ref q_a0_bytes, .int a0_bytesLong, .int a0_tokenAt, .int a0_tokenLong, .int a0_token, .int a0_value, .ref q_a0_anew, .ref q_a0_values])), (q_a0_told, .inl (cI, 163, .inl a0_told)), (q_a0_refused, .inl (cI, 3, .inl a0_refused))]) [0, 1, 2] rfl
      have hD9 := hD.sub (ws' := [(q_a0, .inr (8, [.ref q_a0_told, .ref q_a0_kept, .ref q_a0_isKept, .ref q_a0_refused, .long a0_above, .long a0_below, .ref q_a0_manyBy, .ref q_a0_hers, .ref q_a0_his, .ref q_a0_hand, .ref q_a0_bytes, .int a0_bytesLong, .int a0_tokenAt, .int a0_tokenLong, .int a0_token, .int a0_value, .ref q_a0_anew, .ref q_a0_values])), (q_a0_told, .inl (cI, 163, .inl a0_told)), (q_a0_refused, .inl (cI, 3, .inl a0_refused))]) [0, 1, 2] (by decide) rfl
      exact W.iret hx hb hr (fun t ht hW => ⟨⟨v_2, a0_refused, rfl, hf, by rw [ht]; exact hP9, hD9⟩, hS.F ht⟩) hS.2.2 dX9_reads_167
    · have hf := it_t c_3 hf
      refine lv_iload_n hx hb dX9_reads_161 rfl (lv_at hl 1 rfl) ?_
      refine lv_goto (tgt := 167) hx hb dX9_reads_162 (by decide) ?_
      subst hQQ
      have hP9 := hP.sub (ws' := [(q_a0, .inr (8, [.ref q_a0_told, .ref q_a0_kept, .ref q_a0_isKept, .ref q_a0_refused, .long a0_above, .long a0_below, .ref q_a0_manyBy, .ref q_a0_hers, .ref q_a0_his, .ref q_a0_hand, .ref q_a0_bytes, .int a0_bytesLong, .int a0_tokenAt, .int a0_tokenLong, .int a0_token, .int a0_value, .ref q_a0_anew, .ref q_a0_values])), (q_a0_told, .inl (cI, 163, .inl a0_told)), (q_a0_refused, .inl (cI, 3, .inl a0_refused))]) [0, 1, 2] rfl
      have hD9 := hD.sub (ws' := [(q_a0, .inr (8, [.ref q_a0_told, .ref q_a0_kept, .ref q_a0_isKept, .ref q_a0_refused, .long a0_above, .long a0_below, .ref q_a0_manyBy, .ref q_a0_hers, .ref q_a0_his, .ref q_a0_hand, .ref q_a0_bytes, .int a0_bytesLong, .int a0_tokenAt, .int a0_tokenLong, .int a0_token, .int a0_value, .ref q_a0_anew, .ref q_a0_values])), (q_a0_told, .inl (cI, 163, .inl a0_told)), (q_a0_refused, .inl (cI, 3, .inl a0_refused))]) [0, 1, 2] (by decide) rfl
      exact W.iret hx hb hr (fun t ht hW => ⟨⟨v_1, a0_refused, rfl, hf, by rw [ht]; exact hP9, hD9⟩, hS.F ht⟩) hS.2.2 dX9_reads_167
  unfold p_X9_reads at hf
  refine lv_iload_n hx hb dX9_reads_0 rfl (lv_at hl 1 rfl) ?_
  refine lv_i2l hx hb dX9_reads_1 rfl ?_
  refine lv_lconst (v := 0) hx hb dX9_reads_2 (by decide) ?_
  refine lv_ldc2 (v := 9) hx hb hown kc_64 dX9_reads_3 ?_
  refine ya_csi (va_runS (As := [.long x1.toInt64, .long 0, .long 9]) (rest := []) ⟨hx, hb, hml, hown, hts⟩ (c_X9_in l D cI cZ cO  x1.toInt64 0 9 _ hf) (va_cwS 3 hts gX9_reads_X9_in rfl rfl rfl (by decide +kernel) ⟨Nat.le_of_ble_eq_true rfl, Nat.le_of_ble_eq_true rfl⟩) (ps_ro va_P0 hX) rfl rfl hl.1 rfl (lv_room (Nat.le_of_ble_eq_true rfl)) dX9_reads_6 ⟨Nat.zero_le _, Nat.zero_le _⟩) (fun r_4 hf => ?_)
  refine lv_if_eq (tgt := 22) hx hb dX9_reads_9 (by decide) (fun c_5 => ?_) (fun c_5 => ?_)
  · have hf := it_t c_5 hf
    refine lv_aload_n hx hb dX9_reads_22 rfl (lv_at hl 0 rfl) ?_
    refine lv_bipush (v := (-2)) hx hb dX9_reads_23 (by decide) ?_
    have hPc := hP.sub (ws' := [(q_a0, .inr (8, [.ref q_a0_told, .ref q_a0_kept, .ref q_a0_isKept, .ref q_a0_refused, .long a0_above, .long a0_below, .ref q_a0_manyBy, .ref q_a0_hers, .ref q_a0_his, .ref q_a0_hand, .ref q_a0_bytes, .int a0_bytesLong, .int a0_tokenAt, .int a0_tokenLong, .int a0_token, .int a0_value, .ref q_a0_anew, .ref q_a0_values])), (q_a0_refused, .inl (cI, 3, .inl a0_refused))]) [0, 2] rfl
    have hDc := hD.sub (ws' := [(q_a0, .inr (8, [.ref q_a0_told, .ref q_a0_kept, .ref q_a0_isKept, .ref q_a0_refused, .long a0_above, .long a0_below, .ref q_a0_manyBy, .ref q_a0_hers, .ref q_a0_his, .ref q_a0_hand, .ref q_a0_bytes, .int a0_bytesLong, .int a0_tokenAt, .int a0_tokenLong, .int a0_token, .int a0_value, .ref q_a0_anew, .ref q_a0_values])), (q_a0_refused, .inl (cI, 3, .inl a0_refused))]) [0, 2] (by decide) rfl
    have hFc := va_free (wc := [(q_a0, .inr (8, [.ref q_a0_told, .ref q_a0_kept, .ref q_a0_isKept, .ref q_a0_refused, .long a0_above, .long a0_below, .ref q_a0_manyBy, .ref q_a0_hers, .ref q_a0_his, .ref q_a0_hand, .ref q_a0_bytes, .int a0_bytesLong, .int a0_tokenAt, .int a0_tokenLong, .int a0_token, .int a0_value, .ref q_a0_anew, .ref q_a0_values])), (q_a0_refused, .inl (cI, 3, .inl a0_refused))]) hD hS hA [0, 2] rfl
    refine va_calli (va_runV (As := [.int (-2)]) (rest := []) ⟨hx, hb, hml, hown, hts⟩ (c_X9_bad l D cI cZ cO q_a0 q_a0_told q_a0_kept q_a0_isKept q_a0_refused q_a0_manyBy q_a0_hers q_a0_his q_a0_hand q_a0_bytes q_a0_anew q_a0_values a0_above a0_below a0_bytesLong a0_tokenAt a0_tokenLong a0_token a0_value a0_refused s.heap.size (-2) _ hf) (cwV 1 hts gX9_reads_X9_bad rfl rfl rfl (by decide +kernel) ⟨Nat.le_of_ble_eq_true rfl, Nat.le_of_ble_eq_true rfl⟩) (pv_rw (ci := 8) (q0 := 0) hPc hDc hX rfl rfl) rfl rfl hl.1 rfl (lv_room (Nat.le_of_ble_eq_true rfl)) dX9_reads_25 ⟨Nat.zero_le _, Nat.zero_le _⟩) hS (fun q _ h => hFc q h) hFc (fun r_6 u t H1 locs ht hvm hf hB hz1 hk1 hS => ?_)
    obtain ⟨u_7, rfl⟩ : ∃ z, z = u := ⟨_, rfl⟩
    obtain ⟨hP1, hD1⟩ := hB
    rw [ht] at hP1
    clear hvm
    obtain ⟨hP, hD⟩ := va_join (wr := [(q_a0_told, .inl (cI, 163, .inl a0_told))]) (w1 := [(q_a0, .inr (8, [.ref q_a0_told, .ref q_a0_kept, .ref q_a0_isKept, .ref q_a0_refused, .long a0_above, .long a0_below, .ref q_a0_manyBy, .ref q_a0_hers, .ref q_a0_his, .ref q_a0_hand, .ref q_a0_bytes, .int a0_bytesLong, .int a0_tokenAt, .int a0_tokenLong, .int a0_token, .int a0_value, .ref q_a0_anew, .ref q_a0_values])), (q_a0_refused, .inl (cI, 3, .inl u_7))]) hP hD [0, 2] [1] rfl rfl (by decide) (by decide) hk1 hFc hP1 hD1
    clear hz1 hk1 hPc hDc hFc hP1 hD1
    generalize H1 = H at hP hS ⊢
    have hP : va_P D vwCl [(q_a0_told, .inl (cI, 163, .inl a0_told)), (q_a0, .inr (8, [.ref q_a0_told, .ref q_a0_kept, .ref q_a0_isKept, .ref q_a0_refused, .long a0_above, .long a0_below, .ref q_a0_manyBy, .ref q_a0_hers, .ref q_a0_his, .ref q_a0_hand, .ref q_a0_bytes, .int a0_bytesLong, .int a0_tokenAt, .int a0_tokenLong, .int a0_token, .int a0_value, .ref q_a0_anew, .ref q_a0_values])), (q_a0_refused, .inl (cI, 3, .inl u_7))] H := hP
    have hD : va_D A [(q_a0_told, .inl (cI, 163, .inl a0_told)), (q_a0, .inr (8, [.ref q_a0_told, .ref q_a0_kept, .ref q_a0_isKept, .ref q_a0_refused, .long a0_above, .long a0_below, .ref q_a0_manyBy, .ref q_a0_hers, .ref q_a0_his, .ref q_a0_hand, .ref q_a0_bytes, .int a0_bytesLong, .int a0_tokenAt, .int a0_tokenLong, .int a0_token, .int a0_value, .ref q_a0_anew, .ref q_a0_values])), (q_a0_refused, .inl (cI, 3, .inl u_7))] := hD
    subst hQQ
    have hP9 := hP.sub (ws' := [(q_a0, .inr (8, [.ref q_a0_told, .ref q_a0_kept, .ref q_a0_isKept, .ref q_a0_refused, .long a0_above, .long a0_below, .ref q_a0_manyBy, .ref q_a0_hers, .ref q_a0_his, .ref q_a0_hand, .ref q_a0_bytes, .int a0_bytesLong, .int a0_tokenAt, .int a0_tokenLong, .int a0_token, .int a0_value, .ref q_a0_anew, .ref q_a0_values])), (q_a0_told, .inl (cI, 163, .inl a0_told)), (q_a0_refused, .inl (cI, 3, .inl u_7))]) [1, 0, 2] rfl
    have hD9 := hD.sub (ws' := [(q_a0, .inr (8, [.ref q_a0_told, .ref q_a0_kept, .ref q_a0_isKept, .ref q_a0_refused, .long a0_above, .long a0_below, .ref q_a0_manyBy, .ref q_a0_hers, .ref q_a0_his, .ref q_a0_hand, .ref q_a0_bytes, .int a0_bytesLong, .int a0_tokenAt, .int a0_tokenLong, .int a0_token, .int a0_value, .ref q_a0_anew, .ref q_a0_values])), (q_a0_told, .inl (cI, 163, .inl a0_told)), (q_a0_refused, .inl (cI, 3, .inl u_7))]) [1, 0, 2] (by decide) rfl
    exact W.iret hx hb hr (fun t ht hW => ⟨⟨r_6, u_7, rfl, hf, by rw [ht]; exact hP9, hD9⟩, hS.F ht⟩) hS.2.2 dX9_reads_28
  · have hf := it_f c_5 hf
    refine lv_iload_n hx hb dX9_reads_12 rfl (lv_at hl 2 rfl) ?_
    refine lv_i2l hx hb dX9_reads_13 rfl ?_
    refine lv_lconst (v := 0) hx hb dX9_reads_14 (by decide) ?_
    refine lv_lconst (v := 1) hx hb dX9_reads_15 (by decide) ?_
    refine ya_csi (va_runS (As := [.long x2.toInt64, .long 0, .long 1]) (rest := []) ⟨hx, hb, hml, hown, hts⟩ (c_X9_in l D cI cZ cO  x2.toInt64 0 1 _ hf) (va_cwS 3 hts gX9_reads_X9_in rfl rfl rfl (by decide +kernel) ⟨Nat.le_of_ble_eq_true rfl, Nat.le_of_ble_eq_true rfl⟩) (ps_ro va_P0 hX) rfl rfl hl.1 rfl (lv_room (Nat.le_of_ble_eq_true rfl)) dX9_reads_16 ⟨Nat.zero_le _, Nat.zero_le _⟩) (fun r_8 hf => ?_)
    refine lv_if_ne (tgt := 29) hx hb dX9_reads_19 (by decide) (fun c_9 => ?_) (fun c_9 => ?_)
    · have hf := it_f c_9 hf
      refine lv_iconst (v := 0) hx hb dX9_reads_29 (by decide) ?_
      refine lv_istore_n (lv' := [(3, .int 0), (0, .ref q_a0), (1, .int x1), (2, .int x2)]) hx hb dX9_reads_30 rfl hl (by decide) rfl (fun ls hl => ?_)
      refine lv_ldc (v := 1000000) hx hb hown kc_137 dX9_reads_31 ?_
      refine lv_istore (lv' := [(4, .int 1000000), (3, .int 0), (0, .ref q_a0), (1, .int x1), (2, .int x2)]) hx hb dX9_reads_33 hl (by decide) rfl (fun ls hl => ?_)
      refine lv_iconst (v := 0) hx hb dX9_reads_35 (by decide) ?_
      refine lv_istore (lv' := [(5, .int 0), (4, .int 1000000), (3, .int 0), (0, .ref q_a0), (1, .int x1), (2, .int x2)]) hx hb dX9_reads_36 hl (by decide) rfl (fun ls hl => ?_)
      have hlp_38 : ∀ (n_38 : Nat) (v_10 : Int32) (v_11 : Int32) (v_12 : Int32) (H : Heap) (locs : List Loc) (ls : Array Slot), lq3 (bX9_reads_38 a0_told a0_refused x1 x2 Q) n_38 v_10 v_11 v_12 → va_P D vwCl [(q_a0, .inr (8, [.ref q_a0_told, .ref q_a0_kept, .ref q_a0_isKept, .ref q_a0_refused, .long a0_above, .long a0_below, .ref q_a0_manyBy, .ref q_a0_hers, .ref q_a0_his, .ref q_a0_hand, .ref q_a0_bytes, .int a0_bytesLong, .int a0_tokenAt, .int a0_tokenLong, .int a0_token, .int a0_value, .ref q_a0_anew, .ref q_a0_values])), (q_a0_told, .inl (cI, 163, .inl a0_told)), (q_a0_refused, .inl (cI, 3, .inl a0_refused))] H → va_D A [(q_a0, .inr (8, [.ref q_a0_told, .ref q_a0_kept, .ref q_a0_isKept, .ref q_a0_refused, .long a0_above, .long a0_below, .ref q_a0_manyBy, .ref q_a0_hers, .ref q_a0_his, .ref q_a0_hand, .ref q_a0_bytes, .int a0_bytesLong, .int a0_tokenAt, .int a0_tokenLong, .int a0_token, .int a0_value, .ref q_a0_anew, .ref q_a0_values])), (q_a0_told, .inl (cI, 163, .inl a0_told)), (q_a0_refused, .inl (cI, 3, .inl a0_refused))] → va_S A s.heap H locs → lv_has ls 8 [(0, .ref q_a0), (1, .int x1), (2, .int x2), (3, .int v_10), (4, .int v_11), (5, .int v_12)] → W p l e (headSpec wsX9_reads rmX9_reads).room s m ([.ref q_a0, .int x1, .int x2] : List Value).toArray below meth c H locs 0 0 QQ (F0 m 38 ls []) := by
        intro n_38
        induction n_38 with
        | zero => intro v_10 v_11 v_12 H locs ls hf; exact (lq3_0 hf).elim
        | succ n_38 ih =>
          have ih_38 := ih
          intro v_10 v_11 v_12 H locs ls hf hP hD hS hl
          have hj_134 : ∀ (v_14 : Int32) (t_15 : Int32) (H : Heap) (locs : List Loc), jX9_reads_134 (lq3 (bX9_reads_38 a0_told a0_refused x1 x2 Q) n_38) v_11 v_12 v_14 t_15 → va_P D vwCl [(q_a0, .inr (8, [.ref q_a0_told, .ref q_a0_kept, .ref q_a0_isKept, .ref q_a0_refused, .long a0_above, .long a0_below, .ref q_a0_manyBy, .ref q_a0_hers, .ref q_a0_his, .ref q_a0_hand, .ref q_a0_bytes, .int a0_bytesLong, .int a0_tokenAt, .int a0_tokenLong, .int a0_token, .int a0_value, .ref q_a0_anew, .ref q_a0_values])), (q_a0_told, .inl (cI, 163, .inl a0_told)), (q_a0_refused, .inl (cI, 3, .inl a0_refused))] H → va_D A [(q_a0, .inr (8, [.ref q_a0_told, .ref q_a0_kept, .ref q_a0_isKept, .ref q_a0_refused, .long a0_above, .long a0_below, .ref q_a0_manyBy, .ref q_a0_hers, .ref q_a0_his, .ref q_a0_hand, .ref q_a0_bytes, .int a0_bytesLong, .int a0_tokenAt, .int a0_tokenLong, .int a0_token, .int a0_value, .ref q_a0_anew, .ref q_a0_values])), (q_a0_told, .inl (cI, 163, .inl a0_told)), (q_a0_refused, .inl (cI, 3, .inl a0_refused))] → va_S A s.heap H locs → ∀ ls : Array Slot, lv_has ls 8 [(0, .ref q_a0), (1, .int x1), (2, .int x2), (4, .int v_11), (5, .int v_12), (6, .int v_14)] → W p l e (headSpec wsX9_reads rmX9_reads).room s m ([.ref q_a0, .int x1, .int x2] : List Value).toArray below meth c H locs 0 0 QQ (F0 m 134 ls [.int t_15]) := by
            intro v_14 t_15 H locs hf hP hD hS ls hl
            unfold jX9_reads_134 at hf
            refine lv_istore_n (lv' := [(3, .int t_15), (0, .ref q_a0), (1, .int x1), (2, .int x2), (4, .int v_11), (5, .int v_12), (6, .int v_14)]) hx hb dX9_reads_134 rfl hl (by decide) rfl (fun ls hl => ?_)
            refine lv_iload hx hb dX9_reads_135 (lv_at hl 6 rfl) ?_
            refine lv_iload hx hb dX9_reads_137 (lv_at hl 4 rfl) ?_
            refine lv_icmp_ge (tgt := 147) hx hb dX9_reads_139 (by decide) (fun c_16 => ?_) (fun c_16 => ?_)
            · have hf := it_t c_16 hf
              refine lv_iload hx hb dX9_reads_147 (lv_at hl 4 rfl) ?_
              refine lv_istore (lv' := [(4, .int v_11), (3, .int t_15), (0, .ref q_a0), (1, .int x1), (2, .int x2), (5, .int v_12), (6, .int v_14)]) hx hb dX9_reads_149 hl (by decide) rfl (fun ls hl => ?_)
              refine lv_iinc (v := v_12 + 1) (lv' := [(5, .int (v_12 + 1)), (4, .int v_11), (3, .int t_15), (0, .ref q_a0), (1, .int x1), (2, .int x2), (6, .int v_14)]) hx hb dX9_reads_151 hl (k := 5) rfl rfl (by decide) rfl (fun ls hl => ?_)
              refine lv_goto (tgt := 38) hx hb dX9_reads_154 (by decide) ?_
              exact ih t_15 v_11 (v_12 + 1) _ _ ls hf (hP.sub [0, 1, 2] rfl) (hD.sub [0, 1, 2] (by decide) rfl) hS (lv_sub hl [3, 4, 5, 2, 1, 0] rfl)
            · have hf := it_f c_16 hf
              refine lv_iload hx hb dX9_reads_142 (lv_at hl 6 rfl) ?_
              refine lv_goto (tgt := 149) hx hb dX9_reads_144 (by decide) ?_
              refine lv_istore (lv' := [(4, .int v_14), (3, .int t_15), (0, .ref q_a0), (1, .int x1), (2, .int x2), (5, .int v_12), (6, .int v_14)]) hx hb dX9_reads_149 hl (by decide) rfl (fun ls hl => ?_)
              refine lv_iinc (v := v_12 + 1) (lv' := [(5, .int (v_12 + 1)), (4, .int v_14), (3, .int t_15), (0, .ref q_a0), (1, .int x1), (2, .int x2), (6, .int v_14)]) hx hb dX9_reads_151 hl (k := 5) rfl rfl (by decide) rfl (fun ls hl => ?_)
              refine lv_goto (tgt := 38) hx hb dX9_reads_154 (by decide) ?_
              exact ih t_15 v_14 (v_12 + 1) _ _ ls hf (hP.sub [0, 1, 2] rfl) (hD.sub [0, 1, 2] (by decide) rfl) hS (lv_sub hl [3, 4, 5, 2, 1, 0] rfl)
          have hj_121 : ∀ (v_17 : Int32) (H : Heap) (locs : List Loc), jX9_reads_121 (lq3 (bX9_reads_38 a0_told a0_refused x1 x2 Q) n_38) v_10 v_11 v_12 v_17 → va_P D vwCl [(q_a0, .inr (8, [.ref q_a0_told, .ref q_a0_kept, .ref q_a0_isKept, .ref q_a0_refused, .long a0_above, .long a0_below, .ref q_a0_manyBy, .ref q_a0_hers, .ref q_a0_his, .ref q_a0_hand, .ref q_a0_bytes, .int a0_bytesLong, .int a0_tokenAt, .int a0_tokenLong, .int a0_token, .int a0_value, .ref q_a0_anew, .ref q_a0_values])), (q_a0_told, .inl (cI, 163, .inl a0_told)), (q_a0_refused, .inl (cI, 3, .inl a0_refused))] H → va_D A [(q_a0, .inr (8, [.ref q_a0_told, .ref q_a0_kept, .ref q_a0_isKept, .ref q_a0_refused, .long a0_above, .long a0_below, .ref q_a0_manyBy, .ref q_a0_hers, .ref q_a0_his, .ref q_a0_hand, .ref q_a0_bytes, .int a0_bytesLong, .int a0_tokenAt, .int a0_tokenLong, .int a0_token, .int a0_value, .ref q_a0_anew, .ref q_a0_values])), (q_a0_told, .inl (cI, 163, .inl a0_told)), (q_a0_refused, .inl (cI, 3, .inl a0_refused))] → va_S A s.heap H locs → ∀ ls : Array Slot, lv_has ls 8 [(0, .ref q_a0), (1, .int x1), (2, .int x2), (3, .int v_10), (4, .int v_11), (5, .int v_12), (6, .int v_17)] → W p l e (headSpec wsX9_reads rmX9_reads).room s m ([.ref q_a0, .int x1, .int x2] : List Value).toArray below meth c H locs 0 0 QQ (F0 m 121 ls []) := by
            intro v_17 H locs hf hP hD hS ls hl
            unfold jX9_reads_121 at hf
            refine lv_iload hx hb dX9_reads_121 (lv_at hl 6 rfl) ?_
            refine lv_iload hx hb dX9_reads_123 (lv_at hl 4 rfl) ?_
            refine lv_icmp_ge (tgt := 133) hx hb dX9_reads_125 (by decide) (fun c_18 => ?_) (fun c_18 => ?_)
            · have hf := it_t c_18 hf
              refine lv_iload_n hx hb dX9_reads_133 rfl (lv_at hl 3 rfl) ?_
              exact hj_134 v_17 v_10 _ _ hf (hP.sub [0, 1, 2] rfl) (hD.sub [0, 1, 2] (by decide) rfl) hS ls (lv_sub hl [0, 1, 2, 4, 5, 6] rfl)
            · have hf := it_f c_18 hf
              refine lv_iload hx hb dX9_reads_128 (lv_at hl 5 rfl) ?_
              refine lv_goto (tgt := 134) hx hb dX9_reads_130 (by decide) ?_
              exact hj_134 v_17 v_12 _ _ hf (hP.sub [0, 1, 2] rfl) (hD.sub [0, 1, 2] (by decide) rfl) hS ls (lv_sub hl [0, 1, 2, 4, 5, 6] rfl)
          have hj_65 : ∀ (t_19 : Int32) (H : Heap) (locs : List Loc), jX9_reads_65 a0_told (lq3 (bX9_reads_38 a0_told a0_refused x1 x2 Q) n_38) v_10 v_11 v_12 t_19 → va_P D vwCl [(q_a0, .inr (8, [.ref q_a0_told, .ref q_a0_kept, .ref q_a0_isKept, .ref q_a0_refused, .long a0_above, .long a0_below, .ref q_a0_manyBy, .ref q_a0_hers, .ref q_a0_his, .ref q_a0_hand, .ref q_a0_bytes, .int a0_bytesLong, .int a0_tokenAt, .int a0_tokenLong, .int a0_token, .int a0_value, .ref q_a0_anew, .ref q_a0_values])), (q_a0_told, .inl (cI, 163, .inl a0_told)), (q_a0_refused, .inl (cI, 3, .inl a0_refused))] H → va_D A [(q_a0, .inr (8, [.ref q_a0_told, .ref q_a0_kept, .ref q_a0_isKept, .ref q_a0_refused, .long a0_above, .long a0_below, .ref q_a0_manyBy, .ref q_a0_hers, .ref q_a0_his, .ref q_a0_hand, .ref q_a0_bytes, .int a0_bytesLong, .int a0_tokenAt, .int a0_tokenLong, .int a0_token, .int a0_value, .ref q_a0_anew, .ref q_a0_values])), (q_a0_told, .inl (cI, 163, .inl a0_told)), (q_a0_refused, .inl (cI, 3, .inl a0_refused))] → va_S A s.heap H locs → ∀ ls : Array Slot, lv_has ls 8 [(0, .ref q_a0), (1, .int x1), (2, .int x2), (3, .int v_10), (4, .int v_11), (5, .int v_12)] → W p l e (headSpec wsX9_reads rmX9_reads).room s m ([.ref q_a0, .int x1, .int x2] : List Value).toArray below meth c H locs 0 0 QQ (F0 m 65 ls [.int t_19]) := by
            intro t_19 H locs hf hP hD hS ls hl
            unfold jX9_reads_65 at hf
            refine lv_istore (lv' := [(6, .int t_19), (0, .ref q_a0), (1, .int x1), (2, .int x2), (3, .int v_10), (4, .int v_11), (5, .int v_12)]) hx hb dX9_reads_65 hl (by decide) rfl (fun ls hl => ?_)
            refine lv_aload_n hx hb dX9_reads_67 rfl (lv_at hl 1 rfl) ?_
            refine va_get (D := D) (ci := 8) (v := .ref q_a0_told) (C := RX9) (T := TX9) (N := 18) hx hb hts in_X9 hown hK hP 0 rfl rfl 0 (by decide) kf_7 (fun _ h9 => h9) rfl dX9_reads_68 ?_
            refine lv_iconst (v := 4) hx hb dX9_reads_71 (by decide) ?_
            refine va_iald hx hb hK hP 1 0 rfl rfl (by unfold vp_in; decide) dX9_reads_72 ?_
            refine lv_istore (lv' := [(7, .int (a0_told (4 : Int32).toNatClampNeg)), (6, .int t_19), (0, .ref q_a0), (1, .int x1), (2, .int x2), (3, .int v_10), (4, .int v_11), (5, .int v_12)]) hx hb dX9_reads_73 hl (by decide) rfl (fun ls hl => ?_)
            have hlp_75 : ∀ (n_75 : Nat) (v_20 : Int32) (v_21 : Int32) (H : Heap) (locs : List Loc) (ls : Array Slot), lq2 (bX9_reads_75 a0_told (lq3 (bX9_reads_38 a0_told a0_refused x1 x2 Q) n_38) v_10 v_11 v_12) n_75 v_20 v_21 → va_P D vwCl [(q_a0, .inr (8, [.ref q_a0_told, .ref q_a0_kept, .ref q_a0_isKept, .ref q_a0_refused, .long a0_above, .long a0_below, .ref q_a0_manyBy, .ref q_a0_hers, .ref q_a0_his, .ref q_a0_hand, .ref q_a0_bytes, .int a0_bytesLong, .int a0_tokenAt, .int a0_tokenLong, .int a0_token, .int a0_value, .ref q_a0_anew, .ref q_a0_values])), (q_a0_told, .inl (cI, 163, .inl a0_told)), (q_a0_refused, .inl (cI, 3, .inl a0_refused))] H → va_D A [(q_a0, .inr (8, [.ref q_a0_told, .ref q_a0_kept, .ref q_a0_isKept, .ref q_a0_refused, .long a0_above, .long a0_below, .ref q_a0_manyBy, .ref q_a0_hers, .ref q_a0_his, .ref q_a0_hand, .ref q_a0_bytes, .int a0_bytesLong, .int a0_tokenAt, .int a0_tokenLong, .int a0_token, .int a0_value, .ref q_a0_anew, .ref q_a0_values])), (q_a0_told, .inl (cI, 163, .inl a0_told)), (q_a0_refused, .inl (cI, 3, .inl a0_refused))] → va_S A s.heap H locs → lv_has ls 8 [(0, .ref q_a0), (1, .int x1), (2, .int x2), (3, .int v_10), (4, .int v_11), (5, .int v_12), (6, .int v_20), (7, .int v_21)] → W p l e (headSpec wsX9_reads rmX9_reads).room s m ([.ref q_a0, .int x1, .int x2] : List Value).toArray below meth c H locs 0 0 QQ (F0 m 75 ls []) := by
              intro n_75
              induction n_75 with
              | zero => intro v_20 v_21 H locs ls hf; exact (lq2_0 hf).elim
              | succ n_75 ih =>
                have ih_75 := ih
                intro v_20 v_21 H locs ls hf hP hD hS hl
                have hf := lq2_s hf
                unfold bX9_reads_75 at hf
                refine lv_iload hx hb dX9_reads_75 (lv_at hl 7 rfl) ?_
                refine lv_aload_n hx hb dX9_reads_77 rfl (lv_at hl 0 rfl) ?_
                refine ya_csi (va_runV (As := []) (rest := [.int v_21]) ⟨hx, hb, hml, hown, hts⟩ (c_X9_many l D cI cZ cO q_a0 q_a0_told q_a0_kept q_a0_isKept q_a0_refused q_a0_manyBy q_a0_hers q_a0_his q_a0_hand q_a0_bytes q_a0_anew q_a0_values a0_above a0_below a0_bytesLong a0_tokenAt a0_tokenLong a0_token a0_value a0_told  _ hf) (cwV 0 hts gX9_reads_X9_many rfl rfl rfl (by decide +kernel) ⟨Nat.le_of_ble_eq_true rfl, Nat.le_of_ble_eq_true rfl⟩) (pv_ro (ci := 8) (q0 := 0) (hP.sub [0, 1] rfl) hX rfl rfl) rfl rfl hl.1 rfl (lv_room (Nat.le_of_ble_eq_true rfl)) dX9_reads_78 ⟨Nat.zero_le _, Nat.zero_le _⟩) (fun r_23 hf => ?_)
                refine lv_icmp_ge (tgt := 121) hx hb dX9_reads_81 (by decide) (fun c_24 => ?_) (fun c_24 => ?_)
                · have hf := it_t c_24 hf
                  exact hj_121 v_20 _ _ hf (hP.sub [0, 1, 2] rfl) (hD.sub [0, 1, 2] (by decide) rfl) hS ls (lv_sub hl [0, 1, 2, 3, 4, 5, 6] rfl)
                · have hf := it_f c_24 hf
                  refine lv_iload hx hb dX9_reads_84 (lv_at hl 6 rfl) ?_
                  refine lv_aload_n hx hb dX9_reads_86 rfl (lv_at hl 0 rfl) ?_
                  refine lv_iload hx hb dX9_reads_87 (lv_at hl 7 rfl) ?_
                  refine lv_iload hx hb dX9_reads_89 (lv_at hl 5 rfl) ?_
                  refine lv_iload hx hb dX9_reads_91 (lv_at hl 7 rfl) ?_
                  refine ya_csi (va_runS (As := [.int v_12, .int v_21]) (rest := [.int v_21, .ref q_a0, .int v_20]) ⟨hx, hb, hml, hown, hts⟩ (c_X9_has l D cI cZ cO  v_12 v_21 _ hf) (va_cwS 2 hts gX9_reads_X9_has rfl rfl rfl (by decide +kernel) ⟨Nat.le_of_ble_eq_true rfl, Nat.le_of_ble_eq_true rfl⟩) (ps_ro va_P0 hX) rfl rfl hl.1 rfl (lv_room (Nat.le_of_ble_eq_true rfl)) dX9_reads_93 ⟨Nat.zero_le _, Nat.zero_le _⟩) (fun r_25 hf => ?_)
                  refine lv_if_eq (tgt := 108) hx hb dX9_reads_96 (by decide) (fun c_26 => ?_) (fun c_26 => ?_)
                  · have hf := it_t c_26 hf
                    refine lv_iconst (v := 0) hx hb dX9_reads_108 (by decide) ?_
                    refine ya_csi (va_runV (As := [.int v_21, .int 0]) (rest := [.int v_20]) ⟨hx, hb, hml, hown, hts⟩ (c_X9_cost l D cI cZ cO q_a0 q_a0_told q_a0_kept q_a0_isKept q_a0_refused q_a0_manyBy q_a0_hers q_a0_his q_a0_hand q_a0_bytes q_a0_anew q_a0_values a0_above a0_below a0_bytesLong a0_tokenAt a0_tokenLong a0_token a0_value a0_told v_21 0 _ hf) (cwV 2 hts gX9_reads_X9_cost rfl rfl rfl (by decide +kernel) ⟨Nat.le_of_ble_eq_true rfl, Nat.le_of_ble_eq_true rfl⟩) (pv_ro (ci := 8) (q0 := 0) (hP.sub [0, 1] rfl) hX rfl rfl) rfl rfl hl.1 rfl (lv_room (Nat.le_of_ble_eq_true rfl)) dX9_reads_109 ⟨Nat.zero_le _, Nat.zero_le _⟩) (fun r_27 hf => ?_)
                    refine lv_iadd hx hb dX9_reads_112 ?_
                    refine lv_istore (lv' := [(6, .int (v_20 + r_27)), (0, .ref q_a0), (1, .int x1), (2, .int x2), (3, .int v_10), (4, .int v_11), (5, .int v_12), (7, .int v_21)]) hx hb dX9_reads_113 hl (by decide) rfl (fun ls hl => ?_)
                    refine lv_iinc (v := v_21 + 1) (lv' := [(7, .int (v_21 + 1)), (6, .int (v_20 + r_27)), (0, .ref q_a0), (1, .int x1), (2, .int x2), (3, .int v_10), (4, .int v_11), (5, .int v_12)]) hx hb dX9_reads_115 hl (k := 7) rfl rfl (by decide) rfl (fun ls hl => ?_)
                    refine lv_goto (tgt := 75) hx hb dX9_reads_118 (by decide) ?_
                    exact ih (v_20 + r_27) (v_21 + 1) _ _ ls hf (hP.sub [0, 1, 2] rfl) (hD.sub [0, 1, 2] (by decide) rfl) hS (lv_sub hl [2, 3, 4, 5, 6, 7, 1, 0] rfl)
                  · have hf := it_f c_26 hf
                    refine lv_aload_n hx hb dX9_reads_99 rfl (lv_at hl 0 rfl) ?_
                    refine lv_iload hx hb dX9_reads_100 (lv_at hl 7 rfl) ?_
                    refine ya_csi (va_runV (As := [.int v_21]) (rest := [.int v_21, .ref q_a0, .int v_20]) ⟨hx, hb, hml, hown, hts⟩ (c_X9_noteOf l D cI cZ cO q_a0 q_a0_told q_a0_kept q_a0_isKept q_a0_refused q_a0_manyBy q_a0_hers q_a0_his q_a0_hand q_a0_bytes q_a0_anew q_a0_values a0_above a0_below a0_bytesLong a0_tokenAt a0_tokenLong a0_token a0_value a0_told v_21 _ hf) (cwV 1 hts gX9_reads_X9_noteOf rfl rfl rfl (by decide +kernel) ⟨Nat.le_of_ble_eq_true rfl, Nat.le_of_ble_eq_true rfl⟩) (pv_ro (ci := 8) (q0 := 0) (hP.sub [0, 1] rfl) hX rfl rfl) rfl rfl hl.1 rfl (lv_room (Nat.le_of_ble_eq_true rfl)) dX9_reads_102 ⟨Nat.zero_le _, Nat.zero_le _⟩) (fun r_28 hf => ?_)
                    refine lv_goto (tgt := 109) hx hb dX9_reads_105 (by decide) ?_
                    refine ya_csi (va_runV (As := [.int v_21, .int r_28]) (rest := [.int v_20]) ⟨hx, hb, hml, hown, hts⟩ (c_X9_cost l D cI cZ cO q_a0 q_a0_told q_a0_kept q_a0_isKept q_a0_refused q_a0_manyBy q_a0_hers q_a0_his q_a0_hand q_a0_bytes q_a0_anew q_a0_values a0_above a0_below a0_bytesLong a0_tokenAt a0_tokenLong a0_token a0_value a0_told v_21 r_28 _ hf) (cwV 2 hts gX9_reads_X9_cost rfl rfl rfl (by decide +kernel) ⟨Nat.le_of_ble_eq_true rfl, Nat.le_of_ble_eq_true rfl⟩) (pv_ro (ci := 8) (q0 := 0) (hP.sub [0, 1] rfl) hX rfl rfl) rfl rfl hl.1 rfl (lv_room (Nat.le_of_ble_eq_true rfl)) dX9_reads_109 ⟨Nat.zero_le _, Nat.zero_le _⟩) (fun r_29 hf => ?_)
                    refine lv_iadd hx hb dX9_reads_112 ?_
                    refine lv_istore (lv' := [(6, .int (v_20 + r_29)), (0, .ref q_a0), (1, .int x1), (2, .int x2), (3, .int v_10), (4, .int v_11), (5, .int v_12), (7, .int v_21)]) hx hb dX9_reads_113 hl (by decide) rfl (fun ls hl => ?_)
                    refine lv_iinc (v := v_21 + 1) (lv' := [(7, .int (v_21 + 1)), (6, .int (v_20 + r_29)), (0, .ref q_a0), (1, .int x1), (2, .int x2), (3, .int v_10), (4, .int v_11), (5, .int v_12)]) hx hb dX9_reads_115 hl (k := 7) rfl rfl (by decide) rfl (fun ls hl => ?_)
                    refine lv_goto (tgt := 75) hx hb dX9_reads_118 (by decide) ?_
                    exact ih (v_20 + r_29) (v_21 + 1) _ _ ls hf (hP.sub [0, 1, 2] rfl) (hD.sub [0, 1, 2] (by decide) rfl) hS (lv_sub hl [2, 3, 4, 5, 6, 7, 1, 0] rfl)
            exact hlp_75 1000 t_19 (a0_told (4 : Int32).toNatClampNeg) _ _ ls hf (hP.sub [0, 1, 2] rfl) (hD.sub [0, 1, 2] (by decide) rfl) hS (lv_sub hl [2, 3, 4, 5, 6, 7, 1, 0] rfl)
          have hf := lq3_s hf
          unfold bX9_reads_38 at hf
          refine lv_iload hx hb dX9_reads_38 (lv_at hl 5 rfl) ?_
          refine lv_iconst (v := 1) hx hb dX9_reads_40 (by decide) ?_
          refine lv_aload_n hx hb dX9_reads_41 rfl (lv_at hl 0 rfl) ?_
          refine ya_csi (va_runV (As := []) (rest := [.int 1, .int v_12]) ⟨hx, hb, hml, hown, hts⟩ (c_X9_many l D cI cZ cO q_a0 q_a0_told q_a0_kept q_a0_isKept q_a0_refused q_a0_manyBy q_a0_hers q_a0_his q_a0_hand q_a0_bytes q_a0_anew q_a0_values a0_above a0_below a0_bytesLong a0_tokenAt a0_tokenLong a0_token a0_value a0_told  _ hf) (cwV 0 hts gX9_reads_X9_many rfl rfl rfl (by decide +kernel) ⟨Nat.le_of_ble_eq_true rfl, Nat.le_of_ble_eq_true rfl⟩) (pv_ro (ci := 8) (q0 := 0) (hP.sub [0, 1] rfl) hX rfl rfl) rfl rfl hl.1 rfl (lv_room (Nat.le_of_ble_eq_true rfl)) dX9_reads_42 ⟨Nat.zero_le _, Nat.zero_le _⟩) (fun r_30 hf => ?_)
          refine lv_ishl hx hb dX9_reads_45 ?_
          refine lv_icmp_ge (tgt := 157) hx hb dX9_reads_46 (by decide) (fun c_31 => ?_) (fun c_31 => ?_)
          · have hf := it_t c_31 hf
            exact hj_157 v_10 v_11 _ _ hf (hP.sub [0, 1, 2] rfl) (hD.sub [0, 1, 2] (by decide) rfl) hS ls (lv_sub hl [2, 3, 4] rfl)
          · have hf := it_f c_31 hf
            refine lv_aload_n hx hb dX9_reads_49 rfl (lv_at hl 0 rfl) ?_
            refine lv_iload hx hb dX9_reads_50 (lv_at hl 5 rfl) ?_
            refine lv_iload_n hx hb dX9_reads_52 rfl (lv_at hl 1 rfl) ?_
            refine ya_csi (va_runV (As := [.int v_12, .int x1]) (rest := []) ⟨hx, hb, hml, hown, hts⟩ (c_X9_canRead l D cI cZ cO q_a0 q_a0_told q_a0_kept q_a0_isKept q_a0_refused q_a0_manyBy q_a0_hers q_a0_his q_a0_hand q_a0_bytes q_a0_anew q_a0_values a0_above a0_below a0_bytesLong a0_tokenAt a0_tokenLong a0_token a0_value a0_told v_12 x1 _ hf) (cwV 2 hts gX9_reads_X9_canRead rfl rfl rfl (by decide +kernel) ⟨Nat.le_of_ble_eq_true rfl, Nat.le_of_ble_eq_true rfl⟩) (pv_ro (ci := 8) (q0 := 0) (hP.sub [0, 1] rfl) hX rfl rfl) rfl rfl hl.1 rfl (lv_room (Nat.le_of_ble_eq_true rfl)) dX9_reads_53 ⟨Nat.zero_le _, Nat.zero_le _⟩) (fun r_32 hf => ?_)
            refine lv_if_eq (tgt := 63) hx hb dX9_reads_56 (by decide) (fun c_33 => ?_) (fun c_33 => ?_)
            · have hf := it_t c_33 hf
              refine lv_ldc (v := 1000000) hx hb hown kc_137 dX9_reads_63 ?_
              exact hj_65 1000000 _ _ hf (hP.sub [0, 1, 2] rfl) (hD.sub [0, 1, 2] (by decide) rfl) hS ls (lv_sub hl [0, 1, 2, 3, 4, 5] rfl)
            · have hf := it_f c_33 hf
              refine lv_iconst (v := 0) hx hb dX9_reads_59 (by decide) ?_
              refine lv_goto (tgt := 65) hx hb dX9_reads_60 (by decide) ?_
              exact hj_65 0 _ _ hf (hP.sub [0, 1, 2] rfl) (hD.sub [0, 1, 2] (by decide) rfl) hS ls (lv_sub hl [0, 1, 2, 3, 4, 5] rfl)
      exact hlp_38 1000 0 1000000 0 _ _ ls hf (hP.sub [0, 1, 2] rfl) (hD.sub [0, 1, 2] (by decide) rfl) hS (lv_sub hl [3, 4, 5, 2, 1, 0] rfl)
    · have hf := it_t c_9 hf
      refine lv_aload_n hx hb dX9_reads_22 rfl (lv_at hl 0 rfl) ?_
      refine lv_bipush (v := (-2)) hx hb dX9_reads_23 (by decide) ?_
      have hPc := hP.sub (ws' := [(q_a0, .inr (8, [.ref q_a0_told, .ref q_a0_kept, .ref q_a0_isKept, .ref q_a0_refused, .long a0_above, .long a0_below, .ref q_a0_manyBy, .ref q_a0_hers, .ref q_a0_his, .ref q_a0_hand, .ref q_a0_bytes, .int a0_bytesLong, .int a0_tokenAt, .int a0_tokenLong, .int a0_token, .int a0_value, .ref q_a0_anew, .ref q_a0_values])), (q_a0_refused, .inl (cI, 3, .inl a0_refused))]) [0, 2] rfl
      have hDc := hD.sub (ws' := [(q_a0, .inr (8, [.ref q_a0_told, .ref q_a0_kept, .ref q_a0_isKept, .ref q_a0_refused, .long a0_above, .long a0_below, .ref q_a0_manyBy, .ref q_a0_hers, .ref q_a0_his, .ref q_a0_hand, .ref q_a0_bytes, .int a0_bytesLong, .int a0_tokenAt, .int a0_tokenLong, .int a0_token, .int a0_value, .ref q_a0_anew, .ref q_a0_values])), (q_a0_refused, .inl (cI, 3, .inl a0_refused))]) [0, 2] (by decide) rfl
      have hFc := va_free (wc := [(q_a0, .inr (8, [.ref q_a0_told, .ref q_a0_kept, .ref q_a0_isKept, .ref q_a0_refused, .long a0_above, .long a0_below, .ref q_a0_manyBy, .ref q_a0_hers, .ref q_a0_his, .ref q_a0_hand, .ref q_a0_bytes, .int a0_bytesLong, .int a0_tokenAt, .int a0_tokenLong, .int a0_token, .int a0_value, .ref q_a0_anew, .ref q_a0_values])), (q_a0_refused, .inl (cI, 3, .inl a0_refused))]) hD hS hA [0, 2] rfl
      refine va_calli (va_runV (As := [.int (-2)]) (rest := []) ⟨hx, hb, hml, hown, hts⟩ (c_X9_bad l D cI cZ cO q_a0 q_a0_told q_a0_kept q_a0_isKept q_a0_refused q_a0_manyBy q_a0_hers q_a0_his q_a0_hand q_a0_bytes q_a0_anew q_a0_values a0_above a0_below a0_bytesLong a0_tokenAt a0_tokenLong a0_token a0_value a0_refused s.heap.size (-2) _ hf) (cwV 1 hts gX9_reads_X9_bad rfl rfl rfl (by decide +kernel) ⟨Nat.le_of_ble_eq_true rfl, Nat.le_of_ble_eq_true rfl⟩) (pv_rw (ci := 8) (q0 := 0) hPc hDc hX rfl rfl) rfl rfl hl.1 rfl (lv_room (Nat.le_of_ble_eq_true rfl)) dX9_reads_25 ⟨Nat.zero_le _, Nat.zero_le _⟩) hS (fun q _ h => hFc q h) hFc (fun r_34 u t H1 locs ht hvm hf hB hz1 hk1 hS => ?_)
      obtain ⟨u_35, rfl⟩ : ∃ z, z = u := ⟨_, rfl⟩
      obtain ⟨hP1, hD1⟩ := hB
      rw [ht] at hP1
      clear hvm
      obtain ⟨hP, hD⟩ := va_join (wr := [(q_a0_told, .inl (cI, 163, .inl a0_told))]) (w1 := [(q_a0, .inr (8, [.ref q_a0_told, .ref q_a0_kept, .ref q_a0_isKept, .ref q_a0_refused, .long a0_above, .long a0_below, .ref q_a0_manyBy, .ref q_a0_hers, .ref q_a0_his, .ref q_a0_hand, .ref q_a0_bytes, .int a0_bytesLong, .int a0_tokenAt, .int a0_tokenLong, .int a0_token, .int a0_value, .ref q_a0_anew, .ref q_a0_values])), (q_a0_refused, .inl (cI, 3, .inl u_35))]) hP hD [0, 2] [1] rfl rfl (by decide) (by decide) hk1 hFc hP1 hD1
      clear hz1 hk1 hPc hDc hFc hP1 hD1
      generalize H1 = H at hP hS ⊢
      have hP : va_P D vwCl [(q_a0_told, .inl (cI, 163, .inl a0_told)), (q_a0, .inr (8, [.ref q_a0_told, .ref q_a0_kept, .ref q_a0_isKept, .ref q_a0_refused, .long a0_above, .long a0_below, .ref q_a0_manyBy, .ref q_a0_hers, .ref q_a0_his, .ref q_a0_hand, .ref q_a0_bytes, .int a0_bytesLong, .int a0_tokenAt, .int a0_tokenLong, .int a0_token, .int a0_value, .ref q_a0_anew, .ref q_a0_values])), (q_a0_refused, .inl (cI, 3, .inl u_35))] H := hP
      have hD : va_D A [(q_a0_told, .inl (cI, 163, .inl a0_told)), (q_a0, .inr (8, [.ref q_a0_told, .ref q_a0_kept, .ref q_a0_isKept, .ref q_a0_refused, .long a0_above, .long a0_below, .ref q_a0_manyBy, .ref q_a0_hers, .ref q_a0_his, .ref q_a0_hand, .ref q_a0_bytes, .int a0_bytesLong, .int a0_tokenAt, .int a0_tokenLong, .int a0_token, .int a0_value, .ref q_a0_anew, .ref q_a0_values])), (q_a0_refused, .inl (cI, 3, .inl u_35))] := hD
      subst hQQ
      have hP9 := hP.sub (ws' := [(q_a0, .inr (8, [.ref q_a0_told, .ref q_a0_kept, .ref q_a0_isKept, .ref q_a0_refused, .long a0_above, .long a0_below, .ref q_a0_manyBy, .ref q_a0_hers, .ref q_a0_his, .ref q_a0_hand, .ref q_a0_bytes, .int a0_bytesLong, .int a0_tokenAt, .int a0_tokenLong, .int a0_token, .int a0_value, .ref q_a0_anew, .ref q_a0_values])), (q_a0_told, .inl (cI, 163, .inl a0_told)), (q_a0_refused, .inl (cI, 3, .inl u_35))]) [1, 0, 2] rfl
      have hD9 := hD.sub (ws' := [(q_a0, .inr (8, [.ref q_a0_told, .ref q_a0_kept, .ref q_a0_isKept, .ref q_a0_refused, .long a0_above, .long a0_below, .ref q_a0_manyBy, .ref q_a0_hers, .ref q_a0_his, .ref q_a0_hand, .ref q_a0_bytes, .int a0_bytesLong, .int a0_tokenAt, .int a0_tokenLong, .int a0_token, .int a0_value, .ref q_a0_anew, .ref q_a0_values])), (q_a0_told, .inl (cI, 163, .inl a0_told)), (q_a0_refused, .inl (cI, 3, .inl u_35))]) [1, 0, 2] (by decide) rfl
      exact W.iret hx hb hr (fun t ht hW => ⟨⟨r_34, u_35, rfl, hf, by rw [ht]; exact hP9, hD9⟩, hS.F ht⟩) hS.2.2 dX9_reads_28
def p_X9_wrong (a0_told : Nat → Int32) (a0_refused : Nat → Int32) (x1 : Int32) (Q : Int32 → (Nat → Int32) → Prop) : Prop :=
  p_X9_isBend a0_told x1 (fun r_1 => if r_1 = 0 then (p_X9_bad a0_refused (-1000) (fun r_3 u_4 => Q r_3 u_4)) else (p_X9_noteOf a0_told x1 (fun r_5 => p_X9_cost a0_told x1 r_5 (fun r_6 => p_X9_cost a0_told x1 0 (fun r_7 => Q (r_6 - r_7) a0_refused)))))
def rmX9_wrong : Room := { frames := 4, cells := 0, slots := 0, locals := 93 }
set_option maxHeartbeats 4000000 in
set_option maxRecDepth 100000 in
theorem c_X9_wrong (l : Launch) (D : va_G) (cI cZ cO : ClassId) (q_a0 q_a0_told q_a0_kept q_a0_isKept q_a0_refused q_a0_manyBy q_a0_hers q_a0_his q_a0_hand q_a0_bytes q_a0_anew q_a0_values : Nat) (a0_above : Int64) (a0_below : Int64) (a0_bytesLong : Int32) (a0_tokenAt : Int32) (a0_tokenLong : Int32) (a0_token : Int32) (a0_value : Int32) (a0_told : Nat → Int32) (a0_refused : Nat → Int32) (sz : Nat) (x1 : Int32) (Q : Int32 → (Nat → Int32) → Prop) (hf : p_X9_wrong a0_told a0_refused x1 Q) : Met l yX9_wrong wsX9_wrong rmX9_wrong (va_Pc [.ref q_a0, .int x1] (fun U => U.heap.size = sz ∧ va_P D vwCl [(q_a0, .inr (8, [.ref q_a0_told, .ref q_a0_kept, .ref q_a0_isKept, .ref q_a0_refused, .long a0_above, .long a0_below, .ref q_a0_manyBy, .ref q_a0_hers, .ref q_a0_his, .ref q_a0_hand, .ref q_a0_bytes, .int a0_bytesLong, .int a0_tokenAt, .int a0_tokenLong, .int a0_token, .int a0_value, .ref q_a0_anew, .ref q_a0_values])), (q_a0_told, .inl (cI, 163, .inl a0_told)), (q_a0_refused, .inl (cI, 3, .inl a0_refused))] U.heap ∧ XK D cI cZ cO U ∧ va_D (fun _ => True) [(q_a0, .inr (8, [.ref q_a0_told, .ref q_a0_kept, .ref q_a0_isKept, .ref q_a0_refused, .long a0_above, .long a0_below, .ref q_a0_manyBy, .ref q_a0_hers, .ref q_a0_his, .ref q_a0_hand, .ref q_a0_bytes, .int a0_bytesLong, .int a0_tokenAt, .int a0_tokenLong, .int a0_token, .int a0_value, .ref q_a0_anew, .ref q_a0_values])), (q_a0_told, .inl (cI, 163, .inl a0_told)), (q_a0_refused, .inl (cI, 3, .inl a0_refused))])) (va_Qi (fun r (u : (Nat → Int32)) => Q r u) (fun (u : (Nat → Int32)) t => va_P D vwCl [(q_a0, .inr (8, [.ref q_a0_told, .ref q_a0_kept, .ref q_a0_isKept, .ref q_a0_refused, .long a0_above, .long a0_below, .ref q_a0_manyBy, .ref q_a0_hers, .ref q_a0_his, .ref q_a0_hand, .ref q_a0_bytes, .int a0_bytesLong, .int a0_tokenAt, .int a0_tokenLong, .int a0_token, .int a0_value, .ref q_a0_anew, .ref q_a0_values])), (q_a0_told, .inl (cI, 163, .inl a0_told)), (q_a0_refused, .inl (cI, 3, .inl u))] t.heap ∧ va_D (va_A [(q_a0, .inr (8, [.ref q_a0_told, .ref q_a0_kept, .ref q_a0_isKept, .ref q_a0_refused, .long a0_above, .long a0_below, .ref q_a0_manyBy, .ref q_a0_hers, .ref q_a0_his, .ref q_a0_hand, .ref q_a0_bytes, .int a0_bytesLong, .int a0_tokenAt, .int a0_tokenLong, .int a0_token, .int a0_value, .ref q_a0_anew, .ref q_a0_values])), (q_a0_told, .inl (cI, 163, .inl a0_told)), (q_a0_refused, .inl (cI, 3, .inl a0_refused))] sz) [(q_a0, .inr (8, [.ref q_a0_told, .ref q_a0_kept, .ref q_a0_isKept, .ref q_a0_refused, .long a0_above, .long a0_below, .ref q_a0_manyBy, .ref q_a0_hers, .ref q_a0_his, .ref q_a0_hand, .ref q_a0_bytes, .int a0_bytesLong, .int a0_tokenAt, .int a0_tokenLong, .int a0_token, .int a0_value, .ref q_a0_anew, .ref q_a0_values])), (q_a0_told, .inl (cI, 163, .inl a0_told)), (q_a0_refused, .inl (cI, 3, .inl u))]) (va_A [(q_a0, .inr (8, [.ref q_a0_told, .ref q_a0_kept, .ref q_a0_isKept, .ref q_a0_refused, .long a0_above, .long a0_below, .ref q_a0_manyBy, .ref q_a0_hers, .ref q_a0_his, .ref q_a0_hand, .ref q_a0_bytes, .int a0_bytesLong, .int a0_tokenAt, .int a0_tokenLong, .int a0_token, .int a0_value, .ref q_a0_anew, .ref q_a0_values])), (q_a0_told, .inl (cI, 163, .inl a0_told)), (q_a0_refused, .inl (cI, 3, .inl a0_refused))] sz)) 0 0 (va_A [(q_a0, .inr (8, [.ref q_a0_told, .ref q_a0_kept, .ref q_a0_isKept, .ref q_a0_refused, .long a0_above, .long a0_below, .ref q_a0_manyBy, .ref q_a0_hers, .ref q_a0_his, .ref q_a0_hand, .ref q_a0_bytes, .int a0_bytesLong, .int a0_tokenAt, .int a0_tokenLong, .int a0_token, .int a0_value, .ref q_a0_anew, .ref q_a0_values])), (q_a0_told, .inl (cI, 163, .inl a0_told)), (q_a0_refused, .inl (cI, 3, .inl a0_refused))] sz) := by
  refine Met.ofW (cc := cX9_wrong) (maxL := 2) (ret := (some .int)) (by decide) rfl ?_
  intro p e s m args below meth c s₁ B hml hv
  obtain ⟨rfl, hsz, hP, hX, hD0⟩ := hv
  have hK := hX.1
  have hx := B.exec
  have hb := B.bytes
  have hr := B.returns
  have hts := atoms_spec (ws := wsX9_wrong) B.pre
  have hown : s.vm.findClass RX9 = some m.cls := findClass_of_methodNamed B.named
  have hlocks := B.notSynchronized
  subst hsz
  have hD := hD0.self (sz := s.heap.size)
  generalize hAe : va_A [(q_a0, .inr (8, [.ref q_a0_told, .ref q_a0_kept, .ref q_a0_isKept, .ref q_a0_refused, .long a0_above, .long a0_below, .ref q_a0_manyBy, .ref q_a0_hers, .ref q_a0_his, .ref q_a0_hand, .ref q_a0_bytes, .int a0_bytesLong, .int a0_tokenAt, .int a0_tokenLong, .int a0_token, .int a0_value, .ref q_a0_anew, .ref q_a0_values])), (q_a0_told, .inl (cI, 163, .inl a0_told)), (q_a0_refused, .inl (cI, 3, .inl a0_refused))] s.heap.size = A at hD ⊢
  have hA : ∀ q : Nat, s.heap.size ≤ q → A q := fun q h => by rw [← hAe]; exact Or.inr h
  have hS : va_S A s.heap s.heap [] := va_S.rf
  have hP : va_P D vwCl [(q_a0, .inr (8, [.ref q_a0_told, .ref q_a0_kept, .ref q_a0_isKept, .ref q_a0_refused, .long a0_above, .long a0_below, .ref q_a0_manyBy, .ref q_a0_hers, .ref q_a0_his, .ref q_a0_hand, .ref q_a0_bytes, .int a0_bytesLong, .int a0_tokenAt, .int a0_tokenLong, .int a0_token, .int a0_value, .ref q_a0_anew, .ref q_a0_values])), (q_a0_told, .inl (cI, 163, .inl a0_told)), (q_a0_refused, .inl (cI, 3, .inl a0_refused))] s.heap := hP
  generalize hQQ : MQ below _ _ s _ _ _ = QQ
  have hl := lv_entry ([.ref q_a0, .int x1]) (n := 2) (Nat.le_of_ble_eq_true rfl)
  rw [lg_entry_eq]
  generalize (lg_sl ([.ref q_a0, .int x1]) ++ List.replicate (2 - (lg_sl ([.ref q_a0, .int x1])).length) Slot.unset).toArray = ls at hl ⊢
  have hl : lv_has ls 2 [(0, .ref q_a0), (1, .int x1)] := hl
  unfold p_X9_wrong at hf
  refine lv_aload_n hx hb dX9_wrong_0 rfl (lv_at hl 0 rfl) ?_
  refine lv_iload_n hx hb dX9_wrong_1 rfl (lv_at hl 1 rfl) ?_
  refine ya_csi (va_runV (As := [.int x1]) (rest := []) ⟨hx, hb, hml, hown, hts⟩ (c_X9_isBend l D cI cZ cO q_a0 q_a0_told q_a0_kept q_a0_isKept q_a0_refused q_a0_manyBy q_a0_hers q_a0_his q_a0_hand q_a0_bytes q_a0_anew q_a0_values a0_above a0_below a0_bytesLong a0_tokenAt a0_tokenLong a0_token a0_value a0_told x1 _ hf) (cwV 1 hts gX9_wrong_X9_isBend rfl rfl rfl (by decide +kernel) ⟨Nat.le_of_ble_eq_true rfl, Nat.le_of_ble_eq_true rfl⟩) (pv_ro (ci := 8) (q0 := 0) (hP.sub [0, 1] rfl) hX rfl rfl) rfl rfl hl.1 rfl (lv_room (Nat.le_of_ble_eq_true rfl)) dX9_wrong_2 ⟨Nat.zero_le _, Nat.zero_le _⟩) (fun r_1 hf => ?_)
  refine lv_if_eq (tgt := 28) hx hb dX9_wrong_5 (by decide) (fun c_2 => ?_) (fun c_2 => ?_)
  · have hf := it_t c_2 hf
    refine lv_aload_n hx hb dX9_wrong_28 rfl (lv_at hl 0 rfl) ?_
    refine lv_sipush (v := (-1000)) hx hb dX9_wrong_29 (by decide) ?_
    have hPc := hP.sub (ws' := [(q_a0, .inr (8, [.ref q_a0_told, .ref q_a0_kept, .ref q_a0_isKept, .ref q_a0_refused, .long a0_above, .long a0_below, .ref q_a0_manyBy, .ref q_a0_hers, .ref q_a0_his, .ref q_a0_hand, .ref q_a0_bytes, .int a0_bytesLong, .int a0_tokenAt, .int a0_tokenLong, .int a0_token, .int a0_value, .ref q_a0_anew, .ref q_a0_values])), (q_a0_refused, .inl (cI, 3, .inl a0_refused))]) [0, 2] rfl
    have hDc := hD.sub (ws' := [(q_a0, .inr (8, [.ref q_a0_told, .ref q_a0_kept, .ref q_a0_isKept, .ref q_a0_refused, .long a0_above, .long a0_below, .ref q_a0_manyBy, .ref q_a0_hers, .ref q_a0_his, .ref q_a0_hand, .ref q_a0_bytes, .int a0_bytesLong, .int a0_tokenAt, .int a0_tokenLong, .int a0_token, .int a0_value, .ref q_a0_anew, .ref q_a0_values])), (q_a0_refused, .inl (cI, 3, .inl a0_refused))]) [0, 2] (by decide) rfl
    have hFc := va_free (wc := [(q_a0, .inr (8, [.ref q_a0_told, .ref q_a0_kept, .ref q_a0_isKept, .ref q_a0_refused, .long a0_above, .long a0_below, .ref q_a0_manyBy, .ref q_a0_hers, .ref q_a0_his, .ref q_a0_hand, .ref q_a0_bytes, .int a0_bytesLong, .int a0_tokenAt, .int a0_tokenLong, .int a0_token, .int a0_value, .ref q_a0_anew, .ref q_a0_values])), (q_a0_refused, .inl (cI, 3, .inl a0_refused))]) hD hS hA [0, 2] rfl
    refine va_calli (va_runV (As := [.int (-1000)]) (rest := []) ⟨hx, hb, hml, hown, hts⟩ (c_X9_bad l D cI cZ cO q_a0 q_a0_told q_a0_kept q_a0_isKept q_a0_refused q_a0_manyBy q_a0_hers q_a0_his q_a0_hand q_a0_bytes q_a0_anew q_a0_values a0_above a0_below a0_bytesLong a0_tokenAt a0_tokenLong a0_token a0_value a0_refused s.heap.size (-1000) _ hf) (cwV 1 hts gX9_wrong_X9_bad rfl rfl rfl (by decide +kernel) ⟨Nat.le_of_ble_eq_true rfl, Nat.le_of_ble_eq_true rfl⟩) (pv_rw (ci := 8) (q0 := 0) hPc hDc hX rfl rfl) rfl rfl hl.1 rfl (lv_room (Nat.le_of_ble_eq_true rfl)) dX9_wrong_32 ⟨Nat.zero_le _, Nat.zero_le _⟩) hS (fun q _ h => hFc q h) hFc (fun r_3 u t H1 locs ht hvm hf hB hz1 hk1 hS => ?_)
    obtain ⟨u_4, rfl⟩ : ∃ z, z = u := ⟨_, rfl⟩
    obtain ⟨hP1, hD1⟩ := hB
    rw [ht] at hP1
    clear hvm
    obtain ⟨hP, hD⟩ := va_join (wr := [(q_a0_told, .inl (cI, 163, .inl a0_told))]) (w1 := [(q_a0, .inr (8, [.ref q_a0_told, .ref q_a0_kept, .ref q_a0_isKept, .ref q_a0_refused, .long a0_above, .long a0_below, .ref q_a0_manyBy, .ref q_a0_hers, .ref q_a0_his, .ref q_a0_hand, .ref q_a0_bytes, .int a0_bytesLong, .int a0_tokenAt, .int a0_tokenLong, .int a0_token, .int a0_value, .ref q_a0_anew, .ref q_a0_values])), (q_a0_refused, .inl (cI, 3, .inl u_4))]) hP hD [0, 2] [1] rfl rfl (by decide) (by decide) hk1 hFc hP1 hD1
    clear hz1 hk1 hPc hDc hFc hP1 hD1
    generalize H1 = H at hP hS ⊢
    have hP : va_P D vwCl [(q_a0_told, .inl (cI, 163, .inl a0_told)), (q_a0, .inr (8, [.ref q_a0_told, .ref q_a0_kept, .ref q_a0_isKept, .ref q_a0_refused, .long a0_above, .long a0_below, .ref q_a0_manyBy, .ref q_a0_hers, .ref q_a0_his, .ref q_a0_hand, .ref q_a0_bytes, .int a0_bytesLong, .int a0_tokenAt, .int a0_tokenLong, .int a0_token, .int a0_value, .ref q_a0_anew, .ref q_a0_values])), (q_a0_refused, .inl (cI, 3, .inl u_4))] H := hP
    have hD : va_D A [(q_a0_told, .inl (cI, 163, .inl a0_told)), (q_a0, .inr (8, [.ref q_a0_told, .ref q_a0_kept, .ref q_a0_isKept, .ref q_a0_refused, .long a0_above, .long a0_below, .ref q_a0_manyBy, .ref q_a0_hers, .ref q_a0_his, .ref q_a0_hand, .ref q_a0_bytes, .int a0_bytesLong, .int a0_tokenAt, .int a0_tokenLong, .int a0_token, .int a0_value, .ref q_a0_anew, .ref q_a0_values])), (q_a0_refused, .inl (cI, 3, .inl u_4))] := hD
    subst hQQ
    have hP9 := hP.sub (ws' := [(q_a0, .inr (8, [.ref q_a0_told, .ref q_a0_kept, .ref q_a0_isKept, .ref q_a0_refused, .long a0_above, .long a0_below, .ref q_a0_manyBy, .ref q_a0_hers, .ref q_a0_his, .ref q_a0_hand, .ref q_a0_bytes, .int a0_bytesLong, .int a0_tokenAt, .int a0_tokenLong, .int a0_token, .int a0_value, .ref q_a0_anew, .ref q_a0_values])), (q_a0_told, .inl (cI, 163, .inl a0_told)), (q_a0_refused, .inl (cI, 3, .inl u_4))]) [1, 0, 2] rfl
    have hD9 := hD.sub (ws' := [(q_a0, .inr (8, [.ref q_a0_told, .ref q_a0_kept, .ref q_a0_isKept, .ref q_a0_refused, .long a0_above, .long a0_below, .ref q_a0_manyBy, .ref q_a0_hers, .ref q_a0_his, .ref q_a0_hand, .ref q_a0_bytes, .int a0_bytesLong, .int a0_tokenAt, .int a0_tokenLong, .int a0_token, .int a0_value, .ref q_a0_anew, .ref q_a0_values])), (q_a0_told, .inl (cI, 163, .inl a0_told)), (q_a0_refused, .inl (cI, 3, .inl u_4))]) [1, 0, 2] (by decide) rfl
    exact W.iret hx hb hr (fun t ht hW => ⟨⟨r_3, u_4, rfl, hf, by rw [ht]; exact hP9, hD9⟩, hS.F ht⟩) hS.2.2 dX9_wrong_35
  · have hf := it_f c_2 hf
    refine lv_aload_n hx hb dX9_wrong_8 rfl (lv_at hl 0 rfl) ?_
    refine lv_iload_n hx hb dX9_wrong_9 rfl (lv_at hl 1 rfl) ?_
    refine lv_aload_n hx hb dX9_wrong_10 rfl (lv_at hl 0 rfl) ?_
    refine lv_iload_n hx hb dX9_wrong_11 rfl (lv_at hl 1 rfl) ?_
    refine ya_csi (va_runV (As := [.int x1]) (rest := [.int x1, .ref q_a0]) ⟨hx, hb, hml, hown, hts⟩ (c_X9_noteOf l D cI cZ cO q_a0 q_a0_told q_a0_kept q_a0_isKept q_a0_refused q_a0_manyBy q_a0_hers q_a0_his q_a0_hand q_a0_bytes q_a0_anew q_a0_values a0_above a0_below a0_bytesLong a0_tokenAt a0_tokenLong a0_token a0_value a0_told x1 _ hf) (cwV 1 hts gX9_wrong_X9_noteOf rfl rfl rfl (by decide +kernel) ⟨Nat.le_of_ble_eq_true rfl, Nat.le_of_ble_eq_true rfl⟩) (pv_ro (ci := 8) (q0 := 0) (hP.sub [0, 1] rfl) hX rfl rfl) rfl rfl hl.1 rfl (lv_room (Nat.le_of_ble_eq_true rfl)) dX9_wrong_12 ⟨Nat.zero_le _, Nat.zero_le _⟩) (fun r_5 hf => ?_)
    refine ya_csi (va_runV (As := [.int x1, .int r_5]) (rest := []) ⟨hx, hb, hml, hown, hts⟩ (c_X9_cost l D cI cZ cO q_a0 q_a0_told q_a0_kept q_a0_isKept q_a0_refused q_a0_manyBy q_a0_hers q_a0_his q_a0_hand q_a0_bytes q_a0_anew q_a0_values a0_above a0_below a0_bytesLong a0_tokenAt a0_tokenLong a0_token a0_value a0_told x1 r_5 _ hf) (cwV 2 hts gX9_wrong_X9_cost rfl rfl rfl (by decide +kernel) ⟨Nat.le_of_ble_eq_true rfl, Nat.le_of_ble_eq_true rfl⟩) (pv_ro (ci := 8) (q0 := 0) (hP.sub [0, 1] rfl) hX rfl rfl) rfl rfl hl.1 rfl (lv_room (Nat.le_of_ble_eq_true rfl)) dX9_wrong_15 ⟨Nat.zero_le _, Nat.zero_le _⟩) (fun r_6 hf => ?_)
    refine lv_aload_n hx hb dX9_wrong_18 rfl (lv_at hl 0 rfl) ?_
    refine lv_iload_n hx hb dX9_wrong_19 rfl (lv_at hl 1 rfl) ?_
    refine lv_iconst (v := 0) hx hb dX9_wrong_20 (by decide) ?_
    refine ya_csi (va_runV (As := [.int x1, .int 0]) (rest := [.int r_6]) ⟨hx, hb, hml, hown, hts⟩ (c_X9_cost l D cI cZ cO q_a0 q_a0_told q_a0_kept q_a0_isKept q_a0_refused q_a0_manyBy q_a0_hers q_a0_his q_a0_hand q_a0_bytes q_a0_anew q_a0_values a0_above a0_below a0_bytesLong a0_tokenAt a0_tokenLong a0_token a0_value a0_told x1 0 _ hf) (cwV 2 hts gX9_wrong_X9_cost rfl rfl rfl (by decide +kernel) ⟨Nat.le_of_ble_eq_true rfl, Nat.le_of_ble_eq_true rfl⟩) (pv_ro (ci := 8) (q0 := 0) (hP.sub [0, 1] rfl) hX rfl rfl) rfl rfl hl.1 rfl (lv_room (Nat.le_of_ble_eq_true rfl)) dX9_wrong_21 ⟨Nat.zero_le _, Nat.zero_le _⟩) (fun r_7 hf => ?_)
    refine lv_isub hx hb dX9_wrong_24 ?_
    refine lv_goto (tgt := 35) hx hb dX9_wrong_25 (by decide) ?_
    subst hQQ
    have hP9 := hP.sub (ws' := [(q_a0, .inr (8, [.ref q_a0_told, .ref q_a0_kept, .ref q_a0_isKept, .ref q_a0_refused, .long a0_above, .long a0_below, .ref q_a0_manyBy, .ref q_a0_hers, .ref q_a0_his, .ref q_a0_hand, .ref q_a0_bytes, .int a0_bytesLong, .int a0_tokenAt, .int a0_tokenLong, .int a0_token, .int a0_value, .ref q_a0_anew, .ref q_a0_values])), (q_a0_told, .inl (cI, 163, .inl a0_told)), (q_a0_refused, .inl (cI, 3, .inl a0_refused))]) [0, 1, 2] rfl
    have hD9 := hD.sub (ws' := [(q_a0, .inr (8, [.ref q_a0_told, .ref q_a0_kept, .ref q_a0_isKept, .ref q_a0_refused, .long a0_above, .long a0_below, .ref q_a0_manyBy, .ref q_a0_hers, .ref q_a0_his, .ref q_a0_hand, .ref q_a0_bytes, .int a0_bytesLong, .int a0_tokenAt, .int a0_tokenLong, .int a0_token, .int a0_value, .ref q_a0_anew, .ref q_a0_values])), (q_a0_told, .inl (cI, 163, .inl a0_told)), (q_a0_refused, .inl (cI, 3, .inl a0_refused))]) [0, 1, 2] (by decide) rfl
    exact W.iret hx hb hr (fun t ht hW => ⟨⟨(r_6 - r_7), a0_refused, rfl, hf, by rw [ht]; exact hP9, hD9⟩, hS.F ht⟩) hS.2.2 dX9_wrong_35
def jX9_turned_80 (k_4 : Int32 → Int32 → Int32 → Prop) (v_2 : Int32) (v_3 : Int32) (v_5 : Int32) (t_6 : Int32) : Prop :=
  if v_5 ≤ v_2 then (k_4 t_6 v_2 (v_3 + 1)) else (k_4 t_6 v_5 (v_3 + 1))
def bX9_turned_6 (a0_told : Nat → Int32) (Q : Int32 → Prop) (k_4 : Int32 → Int32 → Int32 → Prop) (v_1 : Int32) (v_2 : Int32) (v_3 : Int32) : Prop :=
  p_X9_many a0_told (fun r_8 => if r_8 ≤ (v_3 + 1) then (Q v_1) else (p_X9_noteOf a0_told v_3 (fun r_10 => p_X9_cost a0_told v_3 r_10 (fun r_11 => p_X9_noteOf a0_told (v_3 + 1) (fun r_12 => p_X9_cost a0_told (v_3 + 1) r_12 (fun r_13 => p_X9_noteOf a0_told (v_3 + 1) (fun r_14 => p_X9_cost a0_told v_3 r_14 (fun r_15 => p_X9_noteOf a0_told v_3 (fun r_16 => p_X9_cost a0_told (v_3 + 1) r_16 (fun r_17 => if (((r_11 + r_13) - r_15) - r_17) ≤ v_2 then (jX9_turned_80 k_4 v_2 v_3 (((r_11 + r_13) - r_15) - r_17) v_1) else (jX9_turned_80 k_4 v_2 v_3 (((r_11 + r_13) - r_15) - r_17) v_3)))))))))))
def p_X9_turned (a0_told : Nat → Int32) (Q : Int32 → Prop) : Prop :=
  lq3 (bX9_turned_6 a0_told Q) 1000 (-1) 0 0
def rmX9_turned : Room := { frames := 4, cells := 0, slots := 0, locals := 93 }
set_option maxHeartbeats 4000000 in
set_option maxRecDepth 100000 in
theorem c_X9_turned (l : Launch) (D : va_G) (cI cZ cO : ClassId) (q_a0 q_a0_told q_a0_kept q_a0_isKept q_a0_refused q_a0_manyBy q_a0_hers q_a0_his q_a0_hand q_a0_bytes q_a0_anew q_a0_values : Nat) (a0_above : Int64) (a0_below : Int64) (a0_bytesLong : Int32) (a0_tokenAt : Int32) (a0_tokenLong : Int32) (a0_token : Int32) (a0_value : Int32) (a0_told : Nat → Int32) (Q : Int32 → Prop) (hf : p_X9_turned a0_told Q) : Met l yX9_turned wsX9_turned rmX9_turned (va_Pc [.ref q_a0] (fun U => va_P D vwCl [(q_a0, .inr (8, [.ref q_a0_told, .ref q_a0_kept, .ref q_a0_isKept, .ref q_a0_refused, .long a0_above, .long a0_below, .ref q_a0_manyBy, .ref q_a0_hers, .ref q_a0_his, .ref q_a0_hand, .ref q_a0_bytes, .int a0_bytesLong, .int a0_tokenAt, .int a0_tokenLong, .int a0_token, .int a0_value, .ref q_a0_anew, .ref q_a0_values])), (q_a0_told, .inl (cI, 163, .inl a0_told))] U.heap ∧ XK D cI cZ cO U)) (vp_Si Q) 0 0 (fun _ => False) := by
  refine Met.ofW (cc := cX9_turned) (maxL := 5) (ret := (some .int)) (by decide) rfl ?_
  intro p e s m args below meth c s₁ B hml hv
  obtain ⟨rfl, hP, hX⟩ := hv
  have hK := hX.1
  have hx := B.exec
  have hb := B.bytes
  have hr := B.returns
  have hts := atoms_spec (ws := wsX9_turned) B.pre
  have hown : s.vm.findClass RX9 = some m.cls := findClass_of_methodNamed B.named
  have hlocks := B.notSynchronized
  generalize hQQ : MQ below _ _ s _ _ _ = QQ
  have hl := lv_entry ([.ref q_a0]) (n := 5) (Nat.le_of_ble_eq_true rfl)
  rw [lg_entry_eq]
  generalize (lg_sl ([.ref q_a0]) ++ List.replicate (5 - (lg_sl ([.ref q_a0])).length) Slot.unset).toArray = ls at hl ⊢
  have hl : lv_has ls 5 [(0, .ref q_a0)] := hl
  unfold p_X9_turned at hf
  refine lv_iconst (v := (-1)) hx hb dX9_turned_0 (by decide) ?_
  refine lv_istore_n (lv' := [(1, .int (-1)), (0, .ref q_a0)]) hx hb dX9_turned_1 rfl hl (by decide) rfl (fun ls hl => ?_)
  refine lv_iconst (v := 0) hx hb dX9_turned_2 (by decide) ?_
  refine lv_istore_n (lv' := [(2, .int 0), (1, .int (-1)), (0, .ref q_a0)]) hx hb dX9_turned_3 rfl hl (by decide) rfl (fun ls hl => ?_)
  refine lv_iconst (v := 0) hx hb dX9_turned_4 (by decide) ?_
  refine lv_istore_n (lv' := [(3, .int 0), (2, .int 0), (1, .int (-1)), (0, .ref q_a0)]) hx hb dX9_turned_5 rfl hl (by decide) rfl (fun ls hl => ?_)
  have hlp_6 : ∀ (n_6 : Nat) (v_1 : Int32) (v_2 : Int32) (v_3 : Int32) (ls : Array Slot), lq3 (bX9_turned_6 a0_told Q) n_6 v_1 v_2 v_3 → lv_has ls 5 [(0, .ref q_a0), (1, .int v_1), (2, .int v_2), (3, .int v_3)] → W p l e (headSpec wsX9_turned rmX9_turned).room s m ([.ref q_a0] : List Value).toArray below meth c s.heap [] 0 0 QQ (F0 m 6 ls []) := by
    intro n_6
    induction n_6 with
    | zero => intro v_1 v_2 v_3 ls hf; exact (lq3_0 hf).elim
    | succ n_6 ih =>
      have ih_6 := ih
      intro v_1 v_2 v_3 ls hf hl
      have hj_80 : ∀ (v_5 : Int32) (t_6 : Int32), jX9_turned_80 (lq3 (bX9_turned_6 a0_told Q) n_6) v_2 v_3 v_5 t_6 → ∀ ls : Array Slot, lv_has ls 5 [(0, .ref q_a0), (2, .int v_2), (3, .int v_3), (4, .int v_5)] → W p l e (headSpec wsX9_turned rmX9_turned).room s m ([.ref q_a0] : List Value).toArray below meth c s.heap [] 0 0 QQ (F0 m 80 ls [.int t_6]) := by
        intro v_5 t_6 hf ls hl
        unfold jX9_turned_80 at hf
        refine lv_istore_n (lv' := [(1, .int t_6), (0, .ref q_a0), (2, .int v_2), (3, .int v_3), (4, .int v_5)]) hx hb dX9_turned_80 rfl hl (by decide) rfl (fun ls hl => ?_)
        refine lv_iload hx hb dX9_turned_81 (lv_at hl 4 rfl) ?_
        refine lv_iload_n hx hb dX9_turned_83 rfl (lv_at hl 2 rfl) ?_
        refine lv_icmp_le (tgt := 92) hx hb dX9_turned_84 (by decide) (fun c_7 => ?_) (fun c_7 => ?_)
        · have hf := it_t c_7 hf
          refine lv_iload_n hx hb dX9_turned_92 rfl (lv_at hl 2 rfl) ?_
          refine lv_istore_n (lv' := [(2, .int v_2), (1, .int t_6), (0, .ref q_a0), (3, .int v_3), (4, .int v_5)]) hx hb dX9_turned_93 rfl hl (by decide) rfl (fun ls hl => ?_)
          refine lv_iinc (v := v_3 + 1) (lv' := [(3, .int (v_3 + 1)), (2, .int v_2), (1, .int t_6), (0, .ref q_a0), (4, .int v_5)]) hx hb dX9_turned_94 hl (k := 3) rfl rfl (by decide) rfl (fun ls hl => ?_)
          refine lv_goto (tgt := 6) hx hb dX9_turned_97 (by decide) ?_
          exact ih t_6 v_2 (v_3 + 1) ls hf (lv_sub hl [3, 2, 1, 0] rfl)
        · have hf := it_f c_7 hf
          refine lv_iload hx hb dX9_turned_87 (lv_at hl 4 rfl) ?_
          refine lv_goto (tgt := 93) hx hb dX9_turned_89 (by decide) ?_
          refine lv_istore_n (lv' := [(2, .int v_5), (1, .int t_6), (0, .ref q_a0), (3, .int v_3), (4, .int v_5)]) hx hb dX9_turned_93 rfl hl (by decide) rfl (fun ls hl => ?_)
          refine lv_iinc (v := v_3 + 1) (lv' := [(3, .int (v_3 + 1)), (2, .int v_5), (1, .int t_6), (0, .ref q_a0), (4, .int v_5)]) hx hb dX9_turned_94 hl (k := 3) rfl rfl (by decide) rfl (fun ls hl => ?_)
          refine lv_goto (tgt := 6) hx hb dX9_turned_97 (by decide) ?_
          exact ih t_6 v_5 (v_3 + 1) ls hf (lv_sub hl [3, 2, 1, 0] rfl)
      have hf := lq3_s hf
      unfold bX9_turned_6 at hf
      refine lv_iload_n hx hb dX9_turned_6 rfl (lv_at hl 3 rfl) ?_
      refine lv_iconst (v := 1) hx hb dX9_turned_7 (by decide) ?_
      refine lv_iadd hx hb dX9_turned_8 ?_
      refine lv_aload_n hx hb dX9_turned_9 rfl (lv_at hl 0 rfl) ?_
      refine ya_csi (va_runV (As := []) (rest := [.int (v_3 + 1)]) ⟨hx, hb, hml, hown, hts⟩ (c_X9_many l D cI cZ cO q_a0 q_a0_told q_a0_kept q_a0_isKept q_a0_refused q_a0_manyBy q_a0_hers q_a0_his q_a0_hand q_a0_bytes q_a0_anew q_a0_values a0_above a0_below a0_bytesLong a0_tokenAt a0_tokenLong a0_token a0_value a0_told  _ hf) (cwV 0 hts gX9_turned_X9_many rfl rfl rfl (by decide +kernel) ⟨Nat.le_of_ble_eq_true rfl, Nat.le_of_ble_eq_true rfl⟩) (pv_ro (ci := 8) (q0 := 0) (hP.sub [0, 1] rfl) hX rfl rfl) rfl rfl hl.1 rfl (lv_room (Nat.le_of_ble_eq_true rfl)) dX9_turned_10 ⟨Nat.zero_le _, Nat.zero_le _⟩) (fun r_8 hf => ?_)
      refine lv_icmp_ge (tgt := 100) hx hb dX9_turned_13 (by decide) (fun c_9 => ?_) (fun c_9 => ?_)
      · have hf := it_t c_9 hf
        refine lv_iload_n hx hb dX9_turned_100 rfl (lv_at hl 1 rfl) ?_
        subst hQQ
        exact W.iret hx hb hr (fun t ht hW => ⟨_, rfl, hf, ht⟩) (fun _ h => absurd h List.not_mem_nil) dX9_turned_101
      · have hf := it_f c_9 hf
        refine lv_aload_n hx hb dX9_turned_16 rfl (lv_at hl 0 rfl) ?_
        refine lv_iload_n hx hb dX9_turned_17 rfl (lv_at hl 3 rfl) ?_
        refine lv_aload_n hx hb dX9_turned_18 rfl (lv_at hl 0 rfl) ?_
        refine lv_iload_n hx hb dX9_turned_19 rfl (lv_at hl 3 rfl) ?_
        refine ya_csi (va_runV (As := [.int v_3]) (rest := [.int v_3, .ref q_a0]) ⟨hx, hb, hml, hown, hts⟩ (c_X9_noteOf l D cI cZ cO q_a0 q_a0_told q_a0_kept q_a0_isKept q_a0_refused q_a0_manyBy q_a0_hers q_a0_his q_a0_hand q_a0_bytes q_a0_anew q_a0_values a0_above a0_below a0_bytesLong a0_tokenAt a0_tokenLong a0_token a0_value a0_told v_3 _ hf) (cwV 1 hts gX9_turned_X9_noteOf rfl rfl rfl (by decide +kernel) ⟨Nat.le_of_ble_eq_true rfl, Nat.le_of_ble_eq_true rfl⟩) (pv_ro (ci := 8) (q0 := 0) (hP.sub [0, 1] rfl) hX rfl rfl) rfl rfl hl.1 rfl (lv_room (Nat.le_of_ble_eq_true rfl)) dX9_turned_20 ⟨Nat.zero_le _, Nat.zero_le _⟩) (fun r_10 hf => ?_)
        refine ya_csi (va_runV (As := [.int v_3, .int r_10]) (rest := []) ⟨hx, hb, hml, hown, hts⟩ (c_X9_cost l D cI cZ cO q_a0 q_a0_told q_a0_kept q_a0_isKept q_a0_refused q_a0_manyBy q_a0_hers q_a0_his q_a0_hand q_a0_bytes q_a0_anew q_a0_values a0_above a0_below a0_bytesLong a0_tokenAt a0_tokenLong a0_token a0_value a0_told v_3 r_10 _ hf) (cwV 2 hts gX9_turned_X9_cost rfl rfl rfl (by decide +kernel) ⟨Nat.le_of_ble_eq_true rfl, Nat.le_of_ble_eq_true rfl⟩) (pv_ro (ci := 8) (q0 := 0) (hP.sub [0, 1] rfl) hX rfl rfl) rfl rfl hl.1 rfl (lv_room (Nat.le_of_ble_eq_true rfl)) dX9_turned_23 ⟨Nat.zero_le _, Nat.zero_le _⟩) (fun r_11 hf => ?_)
        refine lv_aload_n hx hb dX9_turned_26 rfl (lv_at hl 0 rfl) ?_
        refine lv_iload_n hx hb dX9_turned_27 rfl (lv_at hl 3 rfl) ?_
        refine lv_iconst (v := 1) hx hb dX9_turned_28 (by decide) ?_
        refine lv_iadd hx hb dX9_turned_29 ?_
        refine lv_aload_n hx hb dX9_turned_30 rfl (lv_at hl 0 rfl) ?_
        refine lv_iload_n hx hb dX9_turned_31 rfl (lv_at hl 3 rfl) ?_
        refine lv_iconst (v := 1) hx hb dX9_turned_32 (by decide) ?_
        refine lv_iadd hx hb dX9_turned_33 ?_
        refine ya_csi (va_runV (As := [.int (v_3 + 1)]) (rest := [.int (v_3 + 1), .ref q_a0, .int r_11]) ⟨hx, hb, hml, hown, hts⟩ (c_X9_noteOf l D cI cZ cO q_a0 q_a0_told q_a0_kept q_a0_isKept q_a0_refused q_a0_manyBy q_a0_hers q_a0_his q_a0_hand q_a0_bytes q_a0_anew q_a0_values a0_above a0_below a0_bytesLong a0_tokenAt a0_tokenLong a0_token a0_value a0_told (v_3 + 1) _ hf) (cwV 1 hts gX9_turned_X9_noteOf rfl rfl rfl (by decide +kernel) ⟨Nat.le_of_ble_eq_true rfl, Nat.le_of_ble_eq_true rfl⟩) (pv_ro (ci := 8) (q0 := 0) (hP.sub [0, 1] rfl) hX rfl rfl) rfl rfl hl.1 rfl (lv_room (Nat.le_of_ble_eq_true rfl)) dX9_turned_34 ⟨Nat.zero_le _, Nat.zero_le _⟩) (fun r_12 hf => ?_)
        refine ya_csi (va_runV (As := [.int (v_3 + 1), .int r_12]) (rest := [.int r_11]) ⟨hx, hb, hml, hown, hts⟩ (c_X9_cost l D cI cZ cO q_a0 q_a0_told q_a0_kept q_a0_isKept q_a0_refused q_a0_manyBy q_a0_hers q_a0_his q_a0_hand q_a0_bytes q_a0_anew q_a0_values a0_above a0_below a0_bytesLong a0_tokenAt a0_tokenLong a0_token a0_value a0_told (v_3 + 1) r_12 _ hf) (cwV 2 hts gX9_turned_X9_cost rfl rfl rfl (by decide +kernel) ⟨Nat.le_of_ble_eq_true rfl, Nat.le_of_ble_eq_true rfl⟩) (pv_ro (ci := 8) (q0 := 0) (hP.sub [0, 1] rfl) hX rfl rfl) rfl rfl hl.1 rfl (lv_room (Nat.le_of_ble_eq_true rfl)) dX9_turned_37 ⟨Nat.zero_le _, Nat.zero_le _⟩) (fun r_13 hf => ?_)
        refine lv_iadd hx hb dX9_turned_40 ?_
        refine lv_aload_n hx hb dX9_turned_41 rfl (lv_at hl 0 rfl) ?_
        refine lv_iload_n hx hb dX9_turned_42 rfl (lv_at hl 3 rfl) ?_
        refine lv_aload_n hx hb dX9_turned_43 rfl (lv_at hl 0 rfl) ?_
        refine lv_iload_n hx hb dX9_turned_44 rfl (lv_at hl 3 rfl) ?_
        refine lv_iconst (v := 1) hx hb dX9_turned_45 (by decide) ?_
        refine lv_iadd hx hb dX9_turned_46 ?_
        refine ya_csi (va_runV (As := [.int (v_3 + 1)]) (rest := [.int v_3, .ref q_a0, .int (r_11 + r_13)]) ⟨hx, hb, hml, hown, hts⟩ (c_X9_noteOf l D cI cZ cO q_a0 q_a0_told q_a0_kept q_a0_isKept q_a0_refused q_a0_manyBy q_a0_hers q_a0_his q_a0_hand q_a0_bytes q_a0_anew q_a0_values a0_above a0_below a0_bytesLong a0_tokenAt a0_tokenLong a0_token a0_value a0_told (v_3 + 1) _ hf) (cwV 1 hts gX9_turned_X9_noteOf rfl rfl rfl (by decide +kernel) ⟨Nat.le_of_ble_eq_true rfl, Nat.le_of_ble_eq_true rfl⟩) (pv_ro (ci := 8) (q0 := 0) (hP.sub [0, 1] rfl) hX rfl rfl) rfl rfl hl.1 rfl (lv_room (Nat.le_of_ble_eq_true rfl)) dX9_turned_47 ⟨Nat.zero_le _, Nat.zero_le _⟩) (fun r_14 hf => ?_)
        refine ya_csi (va_runV (As := [.int v_3, .int r_14]) (rest := [.int (r_11 + r_13)]) ⟨hx, hb, hml, hown, hts⟩ (c_X9_cost l D cI cZ cO q_a0 q_a0_told q_a0_kept q_a0_isKept q_a0_refused q_a0_manyBy q_a0_hers q_a0_his q_a0_hand q_a0_bytes q_a0_anew q_a0_values a0_above a0_below a0_bytesLong a0_tokenAt a0_tokenLong a0_token a0_value a0_told v_3 r_14 _ hf) (cwV 2 hts gX9_turned_X9_cost rfl rfl rfl (by decide +kernel) ⟨Nat.le_of_ble_eq_true rfl, Nat.le_of_ble_eq_true rfl⟩) (pv_ro (ci := 8) (q0 := 0) (hP.sub [0, 1] rfl) hX rfl rfl) rfl rfl hl.1 rfl (lv_room (Nat.le_of_ble_eq_true rfl)) dX9_turned_50 ⟨Nat.zero_le _, Nat.zero_le _⟩) (fun r_15 hf => ?_)
        refine lv_isub hx hb dX9_turned_53 ?_
        refine lv_aload_n hx hb dX9_turned_54 rfl (lv_at hl 0 rfl) ?_
        refine lv_iload_n hx hb dX9_turned_55 rfl (lv_at hl 3 rfl) ?_
        refine lv_iconst (v := 1) hx hb dX9_turned_56 (by decide) ?_
        refine lv_iadd hx hb dX9_turned_57 ?_
        refine lv_aload_n hx hb dX9_turned_58 rfl (lv_at hl 0 rfl) ?_
        refine lv_iload_n hx hb dX9_turned_59 rfl (lv_at hl 3 rfl) ?_
        refine ya_csi (va_runV (As := [.int v_3]) (rest := [.int (v_3 + 1), .ref q_a0, .int ((r_11 + r_13) - r_15)]) ⟨hx, hb, hml, hown, hts⟩ (c_X9_noteOf l D cI cZ cO q_a0 q_a0_told q_a0_kept q_a0_isKept q_a0_refused q_a0_manyBy q_a0_hers q_a0_his q_a0_hand q_a0_bytes q_a0_anew q_a0_values a0_above a0_below a0_bytesLong a0_tokenAt a0_tokenLong a0_token a0_value a0_told v_3 _ hf) (cwV 1 hts gX9_turned_X9_noteOf rfl rfl rfl (by decide +kernel) ⟨Nat.le_of_ble_eq_true rfl, Nat.le_of_ble_eq_true rfl⟩) (pv_ro (ci := 8) (q0 := 0) (hP.sub [0, 1] rfl) hX rfl rfl) rfl rfl hl.1 rfl (lv_room (Nat.le_of_ble_eq_true rfl)) dX9_turned_60 ⟨Nat.zero_le _, Nat.zero_le _⟩) (fun r_16 hf => ?_)
        refine ya_csi (va_runV (As := [.int (v_3 + 1), .int r_16]) (rest := [.int ((r_11 + r_13) - r_15)]) ⟨hx, hb, hml, hown, hts⟩ (c_X9_cost l D cI cZ cO q_a0 q_a0_told q_a0_kept q_a0_isKept q_a0_refused q_a0_manyBy q_a0_hers q_a0_his q_a0_hand q_a0_bytes q_a0_anew q_a0_values a0_above a0_below a0_bytesLong a0_tokenAt a0_tokenLong a0_token a0_value a0_told (v_3 + 1) r_16 _ hf) (cwV 2 hts gX9_turned_X9_cost rfl rfl rfl (by decide +kernel) ⟨Nat.le_of_ble_eq_true rfl, Nat.le_of_ble_eq_true rfl⟩) (pv_ro (ci := 8) (q0 := 0) (hP.sub [0, 1] rfl) hX rfl rfl) rfl rfl hl.1 rfl (lv_room (Nat.le_of_ble_eq_true rfl)) dX9_turned_63 ⟨Nat.zero_le _, Nat.zero_le _⟩) (fun r_17 hf => ?_)
        refine lv_isub hx hb dX9_turned_66 ?_
        refine lv_istore (lv' := [(4, .int (((r_11 + r_13) - r_15) - r_17)), (0, .ref q_a0), (1, .int v_1), (2, .int v_2), (3, .int v_3)]) hx hb dX9_turned_67 hl (by decide) rfl (fun ls hl => ?_)
        refine lv_iload hx hb dX9_turned_69 (lv_at hl 0 rfl) ?_
        refine lv_iload_n hx hb dX9_turned_71 rfl (lv_at hl 3 rfl) ?_
        refine lv_icmp_le (tgt := 79) hx hb dX9_turned_72 (by decide) (fun c_18 => ?_) (fun c_18 => ?_)
        · have hf := it_t c_18 hf
          refine lv_iload_n hx hb dX9_turned_79 rfl (lv_at hl 2 rfl) ?_
          exact hj_80 (((r_11 + r_13) - r_15) - r_17) v_1 hf ls (lv_sub hl [1, 3, 4, 0] rfl)
        · have hf := it_f c_18 hf
          refine lv_iload_n hx hb dX9_turned_75 rfl (lv_at hl 4 rfl) ?_
          refine lv_goto (tgt := 80) hx hb dX9_turned_76 (by decide) ?_
          exact hj_80 (((r_11 + r_13) - r_15) - r_17) v_3 hf ls (lv_sub hl [1, 3, 4, 0] rfl)
  exact hlp_6 1000 (-1) 0 0 ls hf (lv_sub hl [3, 2, 1, 0] rfl)
def p_X9_felt (a0_told : Nat → Int32) (a0_refused : Nat → Int32) (x1 : Int32) (Q : Int32 → (Nat → Int32) → (Nat → Int32) → Prop) : Prop :=
  p_X9_in x1.toInt64 1 6 (fun r_1 => if r_1 = 0 then (p_X9_bad a0_refused (-2) (fun r_6 u_7 => Q r_6 a0_told u_7)) else (if (a0_told (1 : Int32).toNatClampNeg) = 3 then (p_X9_full a0_refused (fun r_4 u_5 => Q r_4 a0_told u_5)) else (vp_in (42 + (a0_told (1 : Int32).toNatClampNeg)) 163 ∧ (Q ((upd (upd a0_told ((42 + (a0_told (1 : Int32).toNatClampNeg)).toNatClampNeg) x1) ((1 : Int32).toNatClampNeg) (((upd a0_told ((42 + (a0_told (1 : Int32).toNatClampNeg)).toNatClampNeg) x1) (1 : Int32).toNatClampNeg) + 1)) (1 : Int32).toNatClampNeg) (upd (upd a0_told ((42 + (a0_told (1 : Int32).toNatClampNeg)).toNatClampNeg) x1) ((1 : Int32).toNatClampNeg) (((upd a0_told ((42 + (a0_told (1 : Int32).toNatClampNeg)).toNatClampNeg) x1) (1 : Int32).toNatClampNeg) + 1)) a0_refused))))
def rmX9_felt : Room := { frames := 1, cells := 0, slots := 0, locals := 25 }
set_option maxHeartbeats 4000000 in
set_option maxRecDepth 100000 in
theorem c_X9_felt (l : Launch) (D : va_G) (cI cZ cO : ClassId) (q_a0 q_a0_told q_a0_kept q_a0_isKept q_a0_refused q_a0_manyBy q_a0_hers q_a0_his q_a0_hand q_a0_bytes q_a0_anew q_a0_values : Nat) (a0_above : Int64) (a0_below : Int64) (a0_bytesLong : Int32) (a0_tokenAt : Int32) (a0_tokenLong : Int32) (a0_token : Int32) (a0_value : Int32) (a0_told : Nat → Int32) (a0_refused : Nat → Int32) (sz : Nat) (x1 : Int32) (Q : Int32 → (Nat → Int32) → (Nat → Int32) → Prop) (hf : p_X9_felt a0_told a0_refused x1 Q) : Met l yX9_felt wsX9_felt rmX9_felt (va_Pc [.ref q_a0, .int x1] (fun U => U.heap.size = sz ∧ va_P D vwCl [(q_a0, .inr (8, [.ref q_a0_told, .ref q_a0_kept, .ref q_a0_isKept, .ref q_a0_refused, .long a0_above, .long a0_below, .ref q_a0_manyBy, .ref q_a0_hers, .ref q_a0_his, .ref q_a0_hand, .ref q_a0_bytes, .int a0_bytesLong, .int a0_tokenAt, .int a0_tokenLong, .int a0_token, .int a0_value, .ref q_a0_anew, .ref q_a0_values])), (q_a0_told, .inl (cI, 163, .inl a0_told)), (q_a0_refused, .inl (cI, 3, .inl a0_refused))] U.heap ∧ XK D cI cZ cO U ∧ va_D (fun _ => True) [(q_a0, .inr (8, [.ref q_a0_told, .ref q_a0_kept, .ref q_a0_isKept, .ref q_a0_refused, .long a0_above, .long a0_below, .ref q_a0_manyBy, .ref q_a0_hers, .ref q_a0_his, .ref q_a0_hand, .ref q_a0_bytes, .int a0_bytesLong, .int a0_tokenAt, .int a0_tokenLong, .int a0_token, .int a0_value, .ref q_a0_anew, .ref q_a0_values])), (q_a0_told, .inl (cI, 163, .inl a0_told)), (q_a0_refused, .inl (cI, 3, .inl a0_refused))])) (va_Qi (fun r (u : (Nat → Int32) × (Nat → Int32)) => Q r u.1 u.2) (fun (u : (Nat → Int32) × (Nat → Int32)) t => va_P D vwCl [(q_a0, .inr (8, [.ref q_a0_told, .ref q_a0_kept, .ref q_a0_isKept, .ref q_a0_refused, .long a0_above, .long a0_below, .ref q_a0_manyBy, .ref q_a0_hers, .ref q_a0_his, .ref q_a0_hand, .ref q_a0_bytes, .int a0_bytesLong, .int a0_tokenAt, .int a0_tokenLong, .int a0_token, .int a0_value, .ref q_a0_anew, .ref q_a0_values])), (q_a0_told, .inl (cI, 163, .inl u.1)), (q_a0_refused, .inl (cI, 3, .inl u.2))] t.heap ∧ va_D (va_A [(q_a0, .inr (8, [.ref q_a0_told, .ref q_a0_kept, .ref q_a0_isKept, .ref q_a0_refused, .long a0_above, .long a0_below, .ref q_a0_manyBy, .ref q_a0_hers, .ref q_a0_his, .ref q_a0_hand, .ref q_a0_bytes, .int a0_bytesLong, .int a0_tokenAt, .int a0_tokenLong, .int a0_token, .int a0_value, .ref q_a0_anew, .ref q_a0_values])), (q_a0_told, .inl (cI, 163, .inl a0_told)), (q_a0_refused, .inl (cI, 3, .inl a0_refused))] sz) [(q_a0, .inr (8, [.ref q_a0_told, .ref q_a0_kept, .ref q_a0_isKept, .ref q_a0_refused, .long a0_above, .long a0_below, .ref q_a0_manyBy, .ref q_a0_hers, .ref q_a0_his, .ref q_a0_hand, .ref q_a0_bytes, .int a0_bytesLong, .int a0_tokenAt, .int a0_tokenLong, .int a0_token, .int a0_value, .ref q_a0_anew, .ref q_a0_values])), (q_a0_told, .inl (cI, 163, .inl u.1)), (q_a0_refused, .inl (cI, 3, .inl u.2))]) (va_A [(q_a0, .inr (8, [.ref q_a0_told, .ref q_a0_kept, .ref q_a0_isKept, .ref q_a0_refused, .long a0_above, .long a0_below, .ref q_a0_manyBy, .ref q_a0_hers, .ref q_a0_his, .ref q_a0_hand, .ref q_a0_bytes, .int a0_bytesLong, .int a0_tokenAt, .int a0_tokenLong, .int a0_token, .int a0_value, .ref q_a0_anew, .ref q_a0_values])), (q_a0_told, .inl (cI, 163, .inl a0_told)), (q_a0_refused, .inl (cI, 3, .inl a0_refused))] sz)) 0 0 (va_A [(q_a0, .inr (8, [.ref q_a0_told, .ref q_a0_kept, .ref q_a0_isKept, .ref q_a0_refused, .long a0_above, .long a0_below, .ref q_a0_manyBy, .ref q_a0_hers, .ref q_a0_his, .ref q_a0_hand, .ref q_a0_bytes, .int a0_bytesLong, .int a0_tokenAt, .int a0_tokenLong, .int a0_token, .int a0_value, .ref q_a0_anew, .ref q_a0_values])), (q_a0_told, .inl (cI, 163, .inl a0_told)), (q_a0_refused, .inl (cI, 3, .inl a0_refused))] sz) := by
  refine Met.ofW (cc := cX9_felt) (maxL := 2) (ret := (some .int)) (by decide) rfl ?_
  intro p e s m args below meth c s₁ B hml hv
  obtain ⟨rfl, hsz, hP, hX, hD0⟩ := hv
  have hK := hX.1
  have hx := B.exec
  have hb := B.bytes
  have hr := B.returns
  have hts := atoms_spec (ws := wsX9_felt) B.pre
  have hown : s.vm.findClass RX9 = some m.cls := findClass_of_methodNamed B.named
  have hlocks := B.notSynchronized
  have in_X9 : ∀ w ∈ wsX90, w ∈ wsX9_felt := fun _ h => List.mem_cons_of_mem _ (List.mem_append_right _ h)
  have kc_62 := hts (.constantLong RX9 62 (6)) (by decide +kernel)
  have kf_7 := hts (.fieldLink RX9 7 "LeftCrestModel" "told" "[I") (by decide +kernel)
  subst hsz
  have hD := hD0.self (sz := s.heap.size)
  generalize hAe : va_A [(q_a0, .inr (8, [.ref q_a0_told, .ref q_a0_kept, .ref q_a0_isKept, .ref q_a0_refused, .long a0_above, .long a0_below, .ref q_a0_manyBy, .ref q_a0_hers, .ref q_a0_his, .ref q_a0_hand, .ref q_a0_bytes, .int a0_bytesLong, .int a0_tokenAt, .int a0_tokenLong, .int a0_token, .int a0_value, .ref q_a0_anew, .ref q_a0_values])), (q_a0_told, .inl (cI, 163, .inl a0_told)), (q_a0_refused, .inl (cI, 3, .inl a0_refused))] s.heap.size = A at hD ⊢
  have hA : ∀ q : Nat, s.heap.size ≤ q → A q := fun q h => by rw [← hAe]; exact Or.inr h
  have hS : va_S A s.heap s.heap [] := va_S.rf
  have hP : va_P D vwCl [(q_a0, .inr (8, [.ref q_a0_told, .ref q_a0_kept, .ref q_a0_isKept, .ref q_a0_refused, .long a0_above, .long a0_below, .ref q_a0_manyBy, .ref q_a0_hers, .ref q_a0_his, .ref q_a0_hand, .ref q_a0_bytes, .int a0_bytesLong, .int a0_tokenAt, .int a0_tokenLong, .int a0_token, .int a0_value, .ref q_a0_anew, .ref q_a0_values])), (q_a0_told, .inl (cI, 163, .inl a0_told)), (q_a0_refused, .inl (cI, 3, .inl a0_refused))] s.heap := hP
  generalize hQQ : MQ below _ _ s _ _ _ = QQ
  have hl := lv_entry ([.ref q_a0, .int x1]) (n := 2) (Nat.le_of_ble_eq_true rfl)
  rw [lg_entry_eq]
  generalize (lg_sl ([.ref q_a0, .int x1]) ++ List.replicate (2 - (lg_sl ([.ref q_a0, .int x1])).length) Slot.unset).toArray = ls at hl ⊢
  have hl : lv_has ls 2 [(0, .ref q_a0), (1, .int x1)] := hl
  unfold p_X9_felt at hf
  refine lv_iload_n hx hb dX9_felt_0 rfl (lv_at hl 1 rfl) ?_
  refine lv_i2l hx hb dX9_felt_1 rfl ?_
  refine lv_lconst (v := 1) hx hb dX9_felt_2 (by decide) ?_
  refine lv_ldc2 (v := 6) hx hb hown kc_62 dX9_felt_3 ?_
  refine ya_csi (va_runS (As := [.long x1.toInt64, .long 1, .long 6]) (rest := []) ⟨hx, hb, hml, hown, hts⟩ (c_X9_in l D cI cZ cO  x1.toInt64 1 6 _ hf) (va_cwS 3 hts gX9_felt_X9_in rfl rfl rfl (by decide +kernel) ⟨Nat.le_of_ble_eq_true rfl, Nat.le_of_ble_eq_true rfl⟩) (ps_ro va_P0 hX) rfl rfl hl.1 rfl (lv_room (Nat.le_of_ble_eq_true rfl)) dX9_felt_6 ⟨Nat.zero_le _, Nat.zero_le _⟩) (fun r_1 hf => ?_)
  refine lv_if_ne (tgt := 19) hx hb dX9_felt_9 (by decide) (fun c_2 => ?_) (fun c_2 => ?_)
  · have hf := it_f c_2 hf
    refine lv_aload_n hx hb dX9_felt_19 rfl (lv_at hl 0 rfl) ?_
    refine va_get (D := D) (ci := 8) (v := .ref q_a0_told) (C := RX9) (T := TX9) (N := 18) hx hb hts in_X9 hown hK hP 0 rfl rfl 0 (by decide) kf_7 (fun _ h9 => h9) rfl dX9_felt_20 ?_
    refine lv_iconst (v := 1) hx hb dX9_felt_23 (by decide) ?_
    refine va_iald hx hb hK hP 1 0 rfl rfl (by unfold vp_in; decide) dX9_felt_24 ?_
    refine lv_iconst (v := 3) hx hb dX9_felt_25 (by decide) ?_
    refine lv_icmp_ne (tgt := 34) hx hb dX9_felt_26 (by decide) (fun c_3 => ?_) (fun c_3 => ?_)
    · have hf := it_f c_3 hf
      refine lv_aload_n hx hb dX9_felt_34 rfl (lv_at hl 0 rfl) ?_
      refine va_get (D := D) (ci := 8) (v := .ref q_a0_told) (C := RX9) (T := TX9) (N := 18) hx hb hts in_X9 hown hK hP 0 rfl rfl 0 (by decide) kf_7 (fun _ h9 => h9) rfl dX9_felt_35 ?_
      refine lv_bipush (v := 42) hx hb dX9_felt_38 (by decide) ?_
      refine lv_aload_n hx hb dX9_felt_40 rfl (lv_at hl 0 rfl) ?_
      refine va_get (D := D) (ci := 8) (v := .ref q_a0_told) (C := RX9) (T := TX9) (N := 18) hx hb hts in_X9 hown hK hP 0 rfl rfl 0 (by decide) kf_7 (fun _ h9 => h9) rfl dX9_felt_41 ?_
      refine lv_iconst (v := 1) hx hb dX9_felt_44 (by decide) ?_
      refine va_iald hx hb hK hP 1 0 rfl rfl (by unfold vp_in; decide) dX9_felt_45 ?_
      refine lv_iadd hx hb dX9_felt_46 ?_
      refine lv_iload_n hx hb dX9_felt_47 rfl (lv_at hl 1 rfl) ?_
      refine va_iast hx hb hK hP hD hS 1 0 rfl rfl hf.1 dX9_felt_48 (fun H locs hP hD hS => ?_)
      have hP : va_P D vwCl [(q_a0, .inr (8, [.ref q_a0_told, .ref q_a0_kept, .ref q_a0_isKept, .ref q_a0_refused, .long a0_above, .long a0_below, .ref q_a0_manyBy, .ref q_a0_hers, .ref q_a0_his, .ref q_a0_hand, .ref q_a0_bytes, .int a0_bytesLong, .int a0_tokenAt, .int a0_tokenLong, .int a0_token, .int a0_value, .ref q_a0_anew, .ref q_a0_values])), (q_a0_told, .inl (cI, 163, .inl (upd a0_told ((42 + (a0_told (1 : Int32).toNatClampNeg)).toNatClampNeg) x1))), (q_a0_refused, .inl (cI, 3, .inl a0_refused))] H := hP
      have hD : va_D A [(q_a0, .inr (8, [.ref q_a0_told, .ref q_a0_kept, .ref q_a0_isKept, .ref q_a0_refused, .long a0_above, .long a0_below, .ref q_a0_manyBy, .ref q_a0_hers, .ref q_a0_his, .ref q_a0_hand, .ref q_a0_bytes, .int a0_bytesLong, .int a0_tokenAt, .int a0_tokenLong, .int a0_token, .int a0_value, .ref q_a0_anew, .ref q_a0_values])), (q_a0_told, .inl (cI, 163, .inl (upd a0_told ((42 + (a0_told (1 : Int32).toNatClampNeg)).toNatClampNeg) x1))), (q_a0_refused, .inl (cI, 3, .inl a0_refused))] := hD
      have hf := hf.2
      refine lv_aload_n hx hb dX9_felt_49 rfl (lv_at hl 0 rfl) ?_
      refine va_get (D := D) (ci := 8) (v := .ref q_a0_told) (C := RX9) (T := TX9) (N := 18) hx hb hts in_X9 hown hK hP 0 rfl rfl 0 (by decide) kf_7 (fun _ h9 => h9) rfl dX9_felt_50 ?_
      refine lv_iconst (v := 1) hx hb dX9_felt_53 (by decide) ?_
      refine lv_dup2_11 hx hb dX9_felt_54 rfl rfl ?_
      refine va_iald hx hb hK hP 1 0 rfl rfl (by unfold vp_in; decide) dX9_felt_55 ?_
      refine lv_iconst (v := 1) hx hb dX9_felt_56 (by decide) ?_
      refine lv_iadd hx hb dX9_felt_57 ?_
      refine va_iast hx hb hK hP hD hS 1 0 rfl rfl (by unfold vp_in; decide) dX9_felt_58 (fun H locs hP hD hS => ?_)
      have hP : va_P D vwCl [(q_a0, .inr (8, [.ref q_a0_told, .ref q_a0_kept, .ref q_a0_isKept, .ref q_a0_refused, .long a0_above, .long a0_below, .ref q_a0_manyBy, .ref q_a0_hers, .ref q_a0_his, .ref q_a0_hand, .ref q_a0_bytes, .int a0_bytesLong, .int a0_tokenAt, .int a0_tokenLong, .int a0_token, .int a0_value, .ref q_a0_anew, .ref q_a0_values])), (q_a0_told, .inl (cI, 163, .inl (upd (upd a0_told ((42 + (a0_told (1 : Int32).toNatClampNeg)).toNatClampNeg) x1) ((1 : Int32).toNatClampNeg) (((upd a0_told ((42 + (a0_told (1 : Int32).toNatClampNeg)).toNatClampNeg) x1) (1 : Int32).toNatClampNeg) + 1)))), (q_a0_refused, .inl (cI, 3, .inl a0_refused))] H := hP
      have hD : va_D A [(q_a0, .inr (8, [.ref q_a0_told, .ref q_a0_kept, .ref q_a0_isKept, .ref q_a0_refused, .long a0_above, .long a0_below, .ref q_a0_manyBy, .ref q_a0_hers, .ref q_a0_his, .ref q_a0_hand, .ref q_a0_bytes, .int a0_bytesLong, .int a0_tokenAt, .int a0_tokenLong, .int a0_token, .int a0_value, .ref q_a0_anew, .ref q_a0_values])), (q_a0_told, .inl (cI, 163, .inl (upd (upd a0_told ((42 + (a0_told (1 : Int32).toNatClampNeg)).toNatClampNeg) x1) ((1 : Int32).toNatClampNeg) (((upd a0_told ((42 + (a0_told (1 : Int32).toNatClampNeg)).toNatClampNeg) x1) (1 : Int32).toNatClampNeg) + 1)))), (q_a0_refused, .inl (cI, 3, .inl a0_refused))] := hD
      refine lv_aload_n hx hb dX9_felt_59 rfl (lv_at hl 0 rfl) ?_
      refine va_get (D := D) (ci := 8) (v := .ref q_a0_told) (C := RX9) (T := TX9) (N := 18) hx hb hts in_X9 hown hK hP 0 rfl rfl 0 (by decide) kf_7 (fun _ h9 => h9) rfl dX9_felt_60 ?_
      refine lv_iconst (v := 1) hx hb dX9_felt_63 (by decide) ?_
      refine va_iald hx hb hK hP 1 0 rfl rfl (by unfold vp_in; decide) dX9_felt_64 ?_
      subst hQQ
      have hP9 := hP.sub (ws' := [(q_a0, .inr (8, [.ref q_a0_told, .ref q_a0_kept, .ref q_a0_isKept, .ref q_a0_refused, .long a0_above, .long a0_below, .ref q_a0_manyBy, .ref q_a0_hers, .ref q_a0_his, .ref q_a0_hand, .ref q_a0_bytes, .int a0_bytesLong, .int a0_tokenAt, .int a0_tokenLong, .int a0_token, .int a0_value, .ref q_a0_anew, .ref q_a0_values])), (q_a0_told, .inl (cI, 163, .inl (upd (upd a0_told ((42 + (a0_told (1 : Int32).toNatClampNeg)).toNatClampNeg) x1) ((1 : Int32).toNatClampNeg) (((upd a0_told ((42 + (a0_told (1 : Int32).toNatClampNeg)).toNatClampNeg) x1) (1 : Int32).toNatClampNeg) + 1)))), (q_a0_refused, .inl (cI, 3, .inl a0_refused))]) [0, 1, 2] rfl
      have hD9 := hD.sub (ws' := [(q_a0, .inr (8, [.ref q_a0_told, .ref q_a0_kept, .ref q_a0_isKept, .ref q_a0_refused, .long a0_above, .long a0_below, .ref q_a0_manyBy, .ref q_a0_hers, .ref q_a0_his, .ref q_a0_hand, .ref q_a0_bytes, .int a0_bytesLong, .int a0_tokenAt, .int a0_tokenLong, .int a0_token, .int a0_value, .ref q_a0_anew, .ref q_a0_values])), (q_a0_told, .inl (cI, 163, .inl (upd (upd a0_told ((42 + (a0_told (1 : Int32).toNatClampNeg)).toNatClampNeg) x1) ((1 : Int32).toNatClampNeg) (((upd a0_told ((42 + (a0_told (1 : Int32).toNatClampNeg)).toNatClampNeg) x1) (1 : Int32).toNatClampNeg) + 1)))), (q_a0_refused, .inl (cI, 3, .inl a0_refused))]) [0, 1, 2] (by decide) rfl
      exact W.iret hx hb hr (fun t ht hW => ⟨⟨((upd (upd a0_told ((42 + (a0_told (1 : Int32).toNatClampNeg)).toNatClampNeg) x1) ((1 : Int32).toNatClampNeg) (((upd a0_told ((42 + (a0_told (1 : Int32).toNatClampNeg)).toNatClampNeg) x1) (1 : Int32).toNatClampNeg) + 1)) (1 : Int32).toNatClampNeg), (upd (upd a0_told ((42 + (a0_told (1 : Int32).toNatClampNeg)).toNatClampNeg) x1) ((1 : Int32).toNatClampNeg) (((upd a0_told ((42 + (a0_told (1 : Int32).toNatClampNeg)).toNatClampNeg) x1) (1 : Int32).toNatClampNeg) + 1), a0_refused), rfl, hf, by rw [ht]; exact hP9, hD9⟩, hS.F ht⟩) hS.2.2 dX9_felt_65
    · have hf := it_t c_3 hf
      refine lv_aload_n hx hb dX9_felt_29 rfl (lv_at hl 0 rfl) ?_
      have hPc := hP.sub (ws' := [(q_a0, .inr (8, [.ref q_a0_told, .ref q_a0_kept, .ref q_a0_isKept, .ref q_a0_refused, .long a0_above, .long a0_below, .ref q_a0_manyBy, .ref q_a0_hers, .ref q_a0_his, .ref q_a0_hand, .ref q_a0_bytes, .int a0_bytesLong, .int a0_tokenAt, .int a0_tokenLong, .int a0_token, .int a0_value, .ref q_a0_anew, .ref q_a0_values])), (q_a0_refused, .inl (cI, 3, .inl a0_refused))]) [0, 2] rfl
      have hDc := hD.sub (ws' := [(q_a0, .inr (8, [.ref q_a0_told, .ref q_a0_kept, .ref q_a0_isKept, .ref q_a0_refused, .long a0_above, .long a0_below, .ref q_a0_manyBy, .ref q_a0_hers, .ref q_a0_his, .ref q_a0_hand, .ref q_a0_bytes, .int a0_bytesLong, .int a0_tokenAt, .int a0_tokenLong, .int a0_token, .int a0_value, .ref q_a0_anew, .ref q_a0_values])), (q_a0_refused, .inl (cI, 3, .inl a0_refused))]) [0, 2] (by decide) rfl
      have hFc := va_free (wc := [(q_a0, .inr (8, [.ref q_a0_told, .ref q_a0_kept, .ref q_a0_isKept, .ref q_a0_refused, .long a0_above, .long a0_below, .ref q_a0_manyBy, .ref q_a0_hers, .ref q_a0_his, .ref q_a0_hand, .ref q_a0_bytes, .int a0_bytesLong, .int a0_tokenAt, .int a0_tokenLong, .int a0_token, .int a0_value, .ref q_a0_anew, .ref q_a0_values])), (q_a0_refused, .inl (cI, 3, .inl a0_refused))]) hD hS hA [0, 2] rfl
      refine va_calli (va_runV (As := []) (rest := []) ⟨hx, hb, hml, hown, hts⟩ (c_X9_full l D cI cZ cO q_a0 q_a0_told q_a0_kept q_a0_isKept q_a0_refused q_a0_manyBy q_a0_hers q_a0_his q_a0_hand q_a0_bytes q_a0_anew q_a0_values a0_above a0_below a0_bytesLong a0_tokenAt a0_tokenLong a0_token a0_value a0_refused s.heap.size  _ hf) (cwV 0 hts gX9_felt_X9_full rfl rfl rfl (by decide +kernel) ⟨Nat.le_of_ble_eq_true rfl, Nat.le_of_ble_eq_true rfl⟩) (pv_rw (ci := 8) (q0 := 0) hPc hDc hX rfl rfl) rfl rfl hl.1 rfl (lv_room (Nat.le_of_ble_eq_true rfl)) dX9_felt_30 ⟨Nat.zero_le _, Nat.zero_le _⟩) hS (fun q _ h => hFc q h) hFc (fun r_4 u t H1 locs ht hvm hf hB hz1 hk1 hS => ?_)
      obtain ⟨u_5, rfl⟩ : ∃ z, z = u := ⟨_, rfl⟩
      obtain ⟨hP1, hD1⟩ := hB
      rw [ht] at hP1
      clear hvm
      obtain ⟨hP, hD⟩ := va_join (wr := [(q_a0_told, .inl (cI, 163, .inl a0_told))]) (w1 := [(q_a0, .inr (8, [.ref q_a0_told, .ref q_a0_kept, .ref q_a0_isKept, .ref q_a0_refused, .long a0_above, .long a0_below, .ref q_a0_manyBy, .ref q_a0_hers, .ref q_a0_his, .ref q_a0_hand, .ref q_a0_bytes, .int a0_bytesLong, .int a0_tokenAt, .int a0_tokenLong, .int a0_token, .int a0_value, .ref q_a0_anew, .ref q_a0_values])), (q_a0_refused, .inl (cI, 3, .inl u_5))]) hP hD [0, 2] [1] rfl rfl (by decide) (by decide) hk1 hFc hP1 hD1
      clear hz1 hk1 hPc hDc hFc hP1 hD1
      generalize H1 = H at hP hS ⊢
      have hP : va_P D vwCl [(q_a0_told, .inl (cI, 163, .inl a0_told)), (q_a0, .inr (8, [.ref q_a0_told, .ref q_a0_kept, .ref q_a0_isKept, .ref q_a0_refused, .long a0_above, .long a0_below, .ref q_a0_manyBy, .ref q_a0_hers, .ref q_a0_his, .ref q_a0_hand, .ref q_a0_bytes, .int a0_bytesLong, .int a0_tokenAt, .int a0_tokenLong, .int a0_token, .int a0_value, .ref q_a0_anew, .ref q_a0_values])), (q_a0_refused, .inl (cI, 3, .inl u_5))] H := hP
      have hD : va_D A [(q_a0_told, .inl (cI, 163, .inl a0_told)), (q_a0, .inr (8, [.ref q_a0_told, .ref q_a0_kept, .ref q_a0_isKept, .ref q_a0_refused, .long a0_above, .long a0_below, .ref q_a0_manyBy, .ref q_a0_hers, .ref q_a0_his, .ref q_a0_hand, .ref q_a0_bytes, .int a0_bytesLong, .int a0_tokenAt, .int a0_tokenLong, .int a0_token, .int a0_value, .ref q_a0_anew, .ref q_a0_values])), (q_a0_refused, .inl (cI, 3, .inl u_5))] := hD
      subst hQQ
      have hP9 := hP.sub (ws' := [(q_a0, .inr (8, [.ref q_a0_told, .ref q_a0_kept, .ref q_a0_isKept, .ref q_a0_refused, .long a0_above, .long a0_below, .ref q_a0_manyBy, .ref q_a0_hers, .ref q_a0_his, .ref q_a0_hand, .ref q_a0_bytes, .int a0_bytesLong, .int a0_tokenAt, .int a0_tokenLong, .int a0_token, .int a0_value, .ref q_a0_anew, .ref q_a0_values])), (q_a0_told, .inl (cI, 163, .inl a0_told)), (q_a0_refused, .inl (cI, 3, .inl u_5))]) [1, 0, 2] rfl
      have hD9 := hD.sub (ws' := [(q_a0, .inr (8, [.ref q_a0_told, .ref q_a0_kept, .ref q_a0_isKept, .ref q_a0_refused, .long a0_above, .long a0_below, .ref q_a0_manyBy, .ref q_a0_hers, .ref q_a0_his, .ref q_a0_hand, .ref q_a0_bytes, .int a0_bytesLong, .int a0_tokenAt, .int a0_tokenLong, .int a0_token, .int a0_value, .ref q_a0_anew, .ref q_a0_values])), (q_a0_told, .inl (cI, 163, .inl a0_told)), (q_a0_refused, .inl (cI, 3, .inl u_5))]) [1, 0, 2] (by decide) rfl
      exact W.iret hx hb hr (fun t ht hW => ⟨⟨r_4, (a0_told, u_5), rfl, hf, by rw [ht]; exact hP9, hD9⟩, hS.F ht⟩) hS.2.2 dX9_felt_33
  · have hf := it_t c_2 hf
    refine lv_aload_n hx hb dX9_felt_12 rfl (lv_at hl 0 rfl) ?_
    refine lv_bipush (v := (-2)) hx hb dX9_felt_13 (by decide) ?_
    have hPc := hP.sub (ws' := [(q_a0, .inr (8, [.ref q_a0_told, .ref q_a0_kept, .ref q_a0_isKept, .ref q_a0_refused, .long a0_above, .long a0_below, .ref q_a0_manyBy, .ref q_a0_hers, .ref q_a0_his, .ref q_a0_hand, .ref q_a0_bytes, .int a0_bytesLong, .int a0_tokenAt, .int a0_tokenLong, .int a0_token, .int a0_value, .ref q_a0_anew, .ref q_a0_values])), (q_a0_refused, .inl (cI, 3, .inl a0_refused))]) [0, 2] rfl
    have hDc := hD.sub (ws' := [(q_a0, .inr (8, [.ref q_a0_told, .ref q_a0_kept, .ref q_a0_isKept, .ref q_a0_refused, .long a0_above, .long a0_below, .ref q_a0_manyBy, .ref q_a0_hers, .ref q_a0_his, .ref q_a0_hand, .ref q_a0_bytes, .int a0_bytesLong, .int a0_tokenAt, .int a0_tokenLong, .int a0_token, .int a0_value, .ref q_a0_anew, .ref q_a0_values])), (q_a0_refused, .inl (cI, 3, .inl a0_refused))]) [0, 2] (by decide) rfl
    have hFc := va_free (wc := [(q_a0, .inr (8, [.ref q_a0_told, .ref q_a0_kept, .ref q_a0_isKept, .ref q_a0_refused, .long a0_above, .long a0_below, .ref q_a0_manyBy, .ref q_a0_hers, .ref q_a0_his, .ref q_a0_hand, .ref q_a0_bytes, .int a0_bytesLong, .int a0_tokenAt, .int a0_tokenLong, .int a0_token, .int a0_value, .ref q_a0_anew, .ref q_a0_values])), (q_a0_refused, .inl (cI, 3, .inl a0_refused))]) hD hS hA [0, 2] rfl
    refine va_calli (va_runV (As := [.int (-2)]) (rest := []) ⟨hx, hb, hml, hown, hts⟩ (c_X9_bad l D cI cZ cO q_a0 q_a0_told q_a0_kept q_a0_isKept q_a0_refused q_a0_manyBy q_a0_hers q_a0_his q_a0_hand q_a0_bytes q_a0_anew q_a0_values a0_above a0_below a0_bytesLong a0_tokenAt a0_tokenLong a0_token a0_value a0_refused s.heap.size (-2) _ hf) (cwV 1 hts gX9_felt_X9_bad rfl rfl rfl (by decide +kernel) ⟨Nat.le_of_ble_eq_true rfl, Nat.le_of_ble_eq_true rfl⟩) (pv_rw (ci := 8) (q0 := 0) hPc hDc hX rfl rfl) rfl rfl hl.1 rfl (lv_room (Nat.le_of_ble_eq_true rfl)) dX9_felt_15 ⟨Nat.zero_le _, Nat.zero_le _⟩) hS (fun q _ h => hFc q h) hFc (fun r_6 u t H1 locs ht hvm hf hB hz1 hk1 hS => ?_)
    obtain ⟨u_7, rfl⟩ : ∃ z, z = u := ⟨_, rfl⟩
    obtain ⟨hP1, hD1⟩ := hB
    rw [ht] at hP1
    clear hvm
    obtain ⟨hP, hD⟩ := va_join (wr := [(q_a0_told, .inl (cI, 163, .inl a0_told))]) (w1 := [(q_a0, .inr (8, [.ref q_a0_told, .ref q_a0_kept, .ref q_a0_isKept, .ref q_a0_refused, .long a0_above, .long a0_below, .ref q_a0_manyBy, .ref q_a0_hers, .ref q_a0_his, .ref q_a0_hand, .ref q_a0_bytes, .int a0_bytesLong, .int a0_tokenAt, .int a0_tokenLong, .int a0_token, .int a0_value, .ref q_a0_anew, .ref q_a0_values])), (q_a0_refused, .inl (cI, 3, .inl u_7))]) hP hD [0, 2] [1] rfl rfl (by decide) (by decide) hk1 hFc hP1 hD1
    clear hz1 hk1 hPc hDc hFc hP1 hD1
    generalize H1 = H at hP hS ⊢
    have hP : va_P D vwCl [(q_a0_told, .inl (cI, 163, .inl a0_told)), (q_a0, .inr (8, [.ref q_a0_told, .ref q_a0_kept, .ref q_a0_isKept, .ref q_a0_refused, .long a0_above, .long a0_below, .ref q_a0_manyBy, .ref q_a0_hers, .ref q_a0_his, .ref q_a0_hand, .ref q_a0_bytes, .int a0_bytesLong, .int a0_tokenAt, .int a0_tokenLong, .int a0_token, .int a0_value, .ref q_a0_anew, .ref q_a0_values])), (q_a0_refused, .inl (cI, 3, .inl u_7))] H := hP
    have hD : va_D A [(q_a0_told, .inl (cI, 163, .inl a0_told)), (q_a0, .inr (8, [.ref q_a0_told, .ref q_a0_kept, .ref q_a0_isKept, .ref q_a0_refused, .long a0_above, .long a0_below, .ref q_a0_manyBy, .ref q_a0_hers, .ref q_a0_his, .ref q_a0_hand, .ref q_a0_bytes, .int a0_bytesLong, .int a0_tokenAt, .int a0_tokenLong, .int a0_token, .int a0_value, .ref q_a0_anew, .ref q_a0_values])), (q_a0_refused, .inl (cI, 3, .inl u_7))] := hD
    subst hQQ
    have hP9 := hP.sub (ws' := [(q_a0, .inr (8, [.ref q_a0_told, .ref q_a0_kept, .ref q_a0_isKept, .ref q_a0_refused, .long a0_above, .long a0_below, .ref q_a0_manyBy, .ref q_a0_hers, .ref q_a0_his, .ref q_a0_hand, .ref q_a0_bytes, .int a0_bytesLong, .int a0_tokenAt, .int a0_tokenLong, .int a0_token, .int a0_value, .ref q_a0_anew, .ref q_a0_values])), (q_a0_told, .inl (cI, 163, .inl a0_told)), (q_a0_refused, .inl (cI, 3, .inl u_7))]) [1, 0, 2] rfl
    have hD9 := hD.sub (ws' := [(q_a0, .inr (8, [.ref q_a0_told, .ref q_a0_kept, .ref q_a0_isKept, .ref q_a0_refused, .long a0_above, .long a0_below, .ref q_a0_manyBy, .ref q_a0_hers, .ref q_a0_his, .ref q_a0_hand, .ref q_a0_bytes, .int a0_bytesLong, .int a0_tokenAt, .int a0_tokenLong, .int a0_token, .int a0_value, .ref q_a0_anew, .ref q_a0_values])), (q_a0_told, .inl (cI, 163, .inl a0_told)), (q_a0_refused, .inl (cI, 3, .inl u_7))]) [1, 0, 2] (by decide) rfl
    exact W.iret hx hb hr (fun t ht hW => ⟨⟨r_6, (a0_told, u_7), rfl, hf, by rw [ht]; exact hP9, hD9⟩, hS.F ht⟩) hS.2.2 dX9_felt_18
def jX9_places_99 (k_3 : Int32 → Int32 → Prop) (v_1 : Int32) (v_2 : Int32) (v_4 : Int32) : Prop :=
  if v_4 = 0 then (k_3 (v_1 ||| 0) (v_2 + 1)) else (k_3 (v_1 ||| (1 <<< (v_2 &&& 31))) (v_2 + 1))
def bX9_places_46 (a0_told : Nat → Int32) (k_3 : Int32 → Int32 → Prop) (v_1 : Int32) (v_2 : Int32) (v_6 : Int32) (k_10 : Int32 → Int32 → Prop) (v_8 : Int32) (v_9 : Int32) : Prop :=
  if (a0_told (1 : Int32).toNatClampNeg) ≤ v_9 then (jX9_places_99 k_3 v_1 v_2 v_8) else (if v_8 = 0 then (jX9_places_99 k_3 v_1 v_2 v_8) else (p_X9_holdsOf 163 a0_told (v_6 + v_9) (fun r_13 => vp_in (42 + v_9) 163 ∧ (if r_13 = (a0_told (42 + v_9).toNatClampNeg) then (k_10 1 (v_9 + 1)) else (k_10 0 (v_9 + 1))))))
def jX9_places_41 (a0_told : Nat → Int32) (k_3 : Int32 → Int32 → Prop) (v_1 : Int32) (v_2 : Int32) (v_6 : Int32) (t_7 : Int32) : Prop :=
  lq2 (bX9_places_46 a0_told k_3 v_1 v_2 v_6) 1000 t_7 0
def jX9_places_36 (a0_told : Nat → Int32) (k_3 : Int32 → Int32 → Prop) (v_1 : Int32) (v_2 : Int32) (v_15 : Int32) : Prop :=
  jX9_places_41 a0_told k_3 v_1 v_2 v_15 1
def bX9_places_4 (a0_told : Nat → Int32) (Q : Int32 → Prop) (k_3 : Int32 → Int32 → Prop) (v_1 : Int32) (v_2 : Int32) : Prop :=
  p_X9_many a0_told (fun r_16 => if r_16 ≤ v_2 then (Q v_1) else (if 0 ≤ ((v_2 - (a0_told (1 : Int32).toNatClampNeg)) + 1) then (jX9_places_36 a0_told k_3 v_1 v_2 ((v_2 - (a0_told (1 : Int32).toNatClampNeg)) + 1)) else (if (a0_told (1 : Int32).toNatClampNeg) = 0 then (jX9_places_36 a0_told k_3 v_1 v_2 ((v_2 - (a0_told (1 : Int32).toNatClampNeg)) + 1)) else (jX9_places_41 a0_told k_3 v_1 v_2 ((v_2 - (a0_told (1 : Int32).toNatClampNeg)) + 1) 0))))
def p_X9_places (a0_told : Nat → Int32) (Q : Int32 → Prop) : Prop :=
  lq2 (bX9_places_4 a0_told Q) 1000 0 0
def rmX9_places : Room := { frames := 1, cells := 0, slots := 0, locals := 22 }
set_option maxHeartbeats 4000000 in
set_option maxRecDepth 100000 in
theorem c_X9_places (l : Launch) (D : va_G) (cI cZ cO : ClassId) (q_a0 q_a0_told q_a0_kept q_a0_isKept q_a0_refused q_a0_manyBy q_a0_hers q_a0_his q_a0_hand q_a0_bytes q_a0_anew q_a0_values : Nat) (a0_above : Int64) (a0_below : Int64) (a0_bytesLong : Int32) (a0_tokenAt : Int32) (a0_tokenLong : Int32) (a0_token : Int32) (a0_value : Int32) (a0_told : Nat → Int32) (Q : Int32 → Prop) (hf : p_X9_places a0_told Q) : Met l yX9_places wsX9_places rmX9_places (va_Pc [.ref q_a0] (fun U => va_P D vwCl [(q_a0, .inr (8, [.ref q_a0_told, .ref q_a0_kept, .ref q_a0_isKept, .ref q_a0_refused, .long a0_above, .long a0_below, .ref q_a0_manyBy, .ref q_a0_hers, .ref q_a0_his, .ref q_a0_hand, .ref q_a0_bytes, .int a0_bytesLong, .int a0_tokenAt, .int a0_tokenLong, .int a0_token, .int a0_value, .ref q_a0_anew, .ref q_a0_values])), (q_a0_told, .inl (cI, 163, .inl a0_told))] U.heap ∧ XK D cI cZ cO U)) (vp_Si Q) 0 0 (fun _ => False) := by
  refine Met.ofW (cc := cX9_places) (maxL := 6) (ret := (some .int)) (by decide) rfl ?_
  intro p e s m args below meth c s₁ B hml hv
  obtain ⟨rfl, hP, hX⟩ := hv
  have hK := hX.1
  have hx := B.exec
  have hb := B.bytes
  have hr := B.returns
  have hts := atoms_spec (ws := wsX9_places) B.pre
  have hown : s.vm.findClass RX9 = some m.cls := findClass_of_methodNamed B.named
  have hlocks := B.notSynchronized
  have in_X9 : ∀ w ∈ wsX90, w ∈ wsX9_places := fun _ h => List.mem_cons_of_mem _ (List.mem_append_right _ h)
  have kf_7 := hts (.fieldLink RX9 7 "LeftCrestModel" "told" "[I") (by decide +kernel)
  generalize hQQ : MQ below _ _ s _ _ _ = QQ
  have hl := lv_entry ([.ref q_a0]) (n := 6) (Nat.le_of_ble_eq_true rfl)
  rw [lg_entry_eq]
  generalize (lg_sl ([.ref q_a0]) ++ List.replicate (6 - (lg_sl ([.ref q_a0])).length) Slot.unset).toArray = ls at hl ⊢
  have hl : lv_has ls 6 [(0, .ref q_a0)] := hl
  unfold p_X9_places at hf
  refine lv_iconst (v := 0) hx hb dX9_places_0 (by decide) ?_
  refine lv_istore_n (lv' := [(1, .int 0), (0, .ref q_a0)]) hx hb dX9_places_1 rfl hl (by decide) rfl (fun ls hl => ?_)
  refine lv_iconst (v := 0) hx hb dX9_places_2 (by decide) ?_
  refine lv_istore_n (lv' := [(2, .int 0), (1, .int 0), (0, .ref q_a0)]) hx hb dX9_places_3 rfl hl (by decide) rfl (fun ls hl => ?_)
  have hlp_4 : ∀ (n_4 : Nat) (v_1 : Int32) (v_2 : Int32) (ls : Array Slot), lq2 (bX9_places_4 a0_told Q) n_4 v_1 v_2 → lv_has ls 6 [(0, .ref q_a0), (1, .int v_1), (2, .int v_2)] → W p l e (headSpec wsX9_places rmX9_places).room s m ([.ref q_a0] : List Value).toArray below meth c s.heap [] 0 0 QQ (F0 m 4 ls []) := by
    intro n_4
    induction n_4 with
    | zero => intro v_1 v_2 ls hf; exact (lq2_0 hf).elim
    | succ n_4 ih =>
      have ih_4 := ih
      intro v_1 v_2 ls hf hl
      have hj_99 : ∀ (v_4 : Int32), jX9_places_99 (lq2 (bX9_places_4 a0_told Q) n_4) v_1 v_2 v_4 → ∀ ls : Array Slot, lv_has ls 6 [(0, .ref q_a0), (1, .int v_1), (2, .int v_2), (4, .int v_4)] → W p l e (headSpec wsX9_places rmX9_places).room s m ([.ref q_a0] : List Value).toArray below meth c s.heap [] 0 0 QQ (F0 m 99 ls []) := by
        intro v_4 hf ls hl
        unfold jX9_places_99 at hf
        refine lv_iload_n hx hb dX9_places_99 rfl (lv_at hl 1 rfl) ?_
        refine lv_iload hx hb dX9_places_100 (lv_at hl 3 rfl) ?_
        refine lv_if_eq (tgt := 111) hx hb dX9_places_102 (by decide) (fun c_5 => ?_) (fun c_5 => ?_)
        · have hf := it_t c_5 hf
          refine lv_iconst (v := 0) hx hb dX9_places_111 (by decide) ?_
          refine lv_ior hx hb dX9_places_112 ?_
          refine lv_istore_n (lv' := [(1, .int (v_1 ||| 0)), (0, .ref q_a0), (2, .int v_2), (4, .int v_4)]) hx hb dX9_places_113 rfl hl (by decide) rfl (fun ls hl => ?_)
          refine lv_iinc (v := v_2 + 1) (lv' := [(2, .int (v_2 + 1)), (1, .int (v_1 ||| 0)), (0, .ref q_a0), (4, .int v_4)]) hx hb dX9_places_114 hl (k := 2) rfl rfl (by decide) rfl (fun ls hl => ?_)
          refine lv_goto (tgt := 4) hx hb dX9_places_117 (by decide) ?_
          exact ih (v_1 ||| 0) (v_2 + 1) ls hf (lv_sub hl [2, 1, 0] rfl)
        · have hf := it_f c_5 hf
          refine lv_iconst (v := 1) hx hb dX9_places_105 (by decide) ?_
          refine lv_iload_n hx hb dX9_places_106 rfl (lv_at hl 2 rfl) ?_
          refine lv_ishl hx hb dX9_places_107 ?_
          refine lv_goto (tgt := 112) hx hb dX9_places_108 (by decide) ?_
          refine lv_ior hx hb dX9_places_112 ?_
          refine lv_istore_n (lv' := [(1, .int (v_1 ||| (1 <<< (v_2 &&& 31)))), (0, .ref q_a0), (2, .int v_2), (4, .int v_4)]) hx hb dX9_places_113 rfl hl (by decide) rfl (fun ls hl => ?_)
          refine lv_iinc (v := v_2 + 1) (lv' := [(2, .int (v_2 + 1)), (1, .int (v_1 ||| (1 <<< (v_2 &&& 31)))), (0, .ref q_a0), (4, .int v_4)]) hx hb dX9_places_114 hl (k := 2) rfl rfl (by decide) rfl (fun ls hl => ?_)
          refine lv_goto (tgt := 4) hx hb dX9_places_117 (by decide) ?_
          exact ih (v_1 ||| (1 <<< (v_2 &&& 31))) (v_2 + 1) ls hf (lv_sub hl [2, 1, 0] rfl)
      have hj_41 : ∀ (v_6 : Int32) (t_7 : Int32), jX9_places_41 a0_told (lq2 (bX9_places_4 a0_told Q) n_4) v_1 v_2 v_6 t_7 → ∀ ls : Array Slot, lv_has ls 6 [(0, .ref q_a0), (1, .int v_1), (2, .int v_2), (3, .int v_6)] → W p l e (headSpec wsX9_places rmX9_places).room s m ([.ref q_a0] : List Value).toArray below meth c s.heap [] 0 0 QQ (F0 m 41 ls [.int t_7]) := by
        intro v_6 t_7 hf ls hl
        unfold jX9_places_41 at hf
        refine lv_istore (lv' := [(4, .int t_7), (0, .ref q_a0), (1, .int v_1), (2, .int v_2), (3, .int v_6)]) hx hb dX9_places_41 hl (by decide) rfl (fun ls hl => ?_)
        refine lv_iconst (v := 0) hx hb dX9_places_43 (by decide) ?_
        refine lv_istore (lv' := [(5, .int 0), (4, .int t_7), (0, .ref q_a0), (1, .int v_1), (2, .int v_2), (3, .int v_6)]) hx hb dX9_places_44 hl (by decide) rfl (fun ls hl => ?_)
        have hlp_46 : ∀ (n_46 : Nat) (v_8 : Int32) (v_9 : Int32) (ls : Array Slot), lq2 (bX9_places_46 a0_told (lq2 (bX9_places_4 a0_told Q) n_4) v_1 v_2 v_6) n_46 v_8 v_9 → lv_has ls 6 [(0, .ref q_a0), (1, .int v_1), (2, .int v_2), (3, .int v_6), (4, .int v_8), (5, .int v_9)] → W p l e (headSpec wsX9_places rmX9_places).room s m ([.ref q_a0] : List Value).toArray below meth c s.heap [] 0 0 QQ (F0 m 46 ls []) := by
          intro n_46
          induction n_46 with
          | zero => intro v_8 v_9 ls hf; exact (lq2_0 hf).elim
          | succ n_46 ih =>
            have ih_46 := ih
            intro v_8 v_9 ls hf hl
            have hf := lq2_s hf
            unfold bX9_places_46 at hf
            refine lv_iload hx hb dX9_places_46 (lv_at hl 5 rfl) ?_
            refine lv_aload_n hx hb dX9_places_48 rfl (lv_at hl 0 rfl) ?_
            refine va_get (D := D) (ci := 8) (v := .ref q_a0_told) (C := RX9) (T := TX9) (N := 18) hx hb hts in_X9 hown hK hP 0 rfl rfl 0 (by decide) kf_7 (fun _ h9 => h9) rfl dX9_places_49 ?_
            refine lv_iconst (v := 1) hx hb dX9_places_52 (by decide) ?_
            refine va_iald hx hb hK hP 1 0 rfl rfl (by unfold vp_in; decide) dX9_places_53 ?_
            refine lv_icmp_ge (tgt := 99) hx hb dX9_places_54 (by decide) (fun c_11 => ?_) (fun c_11 => ?_)
            · have hf := it_t c_11 hf
              exact hj_99 v_8 hf ls (lv_sub hl [0, 1, 2, 4] rfl)
            · have hf := it_f c_11 hf
              refine lv_iload hx hb dX9_places_57 (lv_at hl 4 rfl) ?_
              refine lv_if_eq (tgt := 99) hx hb dX9_places_59 (by decide) (fun c_12 => ?_) (fun c_12 => ?_)
              · have hf := it_t c_12 hf
                exact hj_99 v_8 hf ls (lv_sub hl [0, 1, 2, 4] rfl)
              · have hf := it_f c_12 hf
                refine lv_aload_n hx hb dX9_places_62 rfl (lv_at hl 0 rfl) ?_
                refine va_get (D := D) (ci := 8) (v := .ref q_a0_told) (C := RX9) (T := TX9) (N := 18) hx hb hts in_X9 hown hK hP 0 rfl rfl 0 (by decide) kf_7 (fun _ h9 => h9) rfl dX9_places_63 ?_
                refine lv_iload_n hx hb dX9_places_66 rfl (lv_at hl 3 rfl) ?_
                refine lv_iload hx hb dX9_places_67 (lv_at hl 5 rfl) ?_
                refine lv_iadd hx hb dX9_places_69 ?_
                refine ya_csi (va_runS (As := [.ref q_a0_told, .int (v_6 + v_9)]) (rest := []) ⟨hx, hb, hml, hown, hts⟩ (c_X9_holdsOf l D cI cZ cO q_a0_told 163 a0_told (v_6 + v_9) _ hf) (va_cwS 2 hts gX9_places_X9_holdsOf rfl rfl rfl (by decide +kernel) ⟨Nat.le_of_ble_eq_true rfl, Nat.le_of_ble_eq_true rfl⟩) (ps_ro (hP.sub [1] rfl) hX) rfl rfl hl.1 rfl (lv_room (Nat.le_of_ble_eq_true rfl)) dX9_places_70 ⟨Nat.zero_le _, Nat.zero_le _⟩) (fun r_13 hf => ?_)
                refine lv_aload_n hx hb dX9_places_73 rfl (lv_at hl 0 rfl) ?_
                refine va_get (D := D) (ci := 8) (v := .ref q_a0_told) (C := RX9) (T := TX9) (N := 18) hx hb hts in_X9 hown hK hP 0 rfl rfl 0 (by decide) kf_7 (fun _ h9 => h9) rfl dX9_places_74 ?_
                refine lv_bipush (v := 42) hx hb dX9_places_77 (by decide) ?_
                refine lv_iload hx hb dX9_places_79 (lv_at hl 5 rfl) ?_
                refine lv_iadd hx hb dX9_places_81 ?_
                refine va_iald hx hb hK hP 1 0 rfl rfl hf.1 dX9_places_82 ?_
                have hf := hf.2
                refine lv_icmp_ne (tgt := 90) hx hb dX9_places_83 (by decide) (fun c_14 => ?_) (fun c_14 => ?_)
                · have hf := it_f c_14 hf
                  refine lv_iconst (v := 0) hx hb dX9_places_90 (by decide) ?_
                  refine lv_istore (lv' := [(4, .int 0), (0, .ref q_a0), (1, .int v_1), (2, .int v_2), (3, .int v_6), (5, .int v_9)]) hx hb dX9_places_91 hl (by decide) rfl (fun ls hl => ?_)
                  refine lv_iinc (v := v_9 + 1) (lv' := [(5, .int (v_9 + 1)), (4, .int 0), (0, .ref q_a0), (1, .int v_1), (2, .int v_2), (3, .int v_6)]) hx hb dX9_places_93 hl (k := 5) rfl rfl (by decide) rfl (fun ls hl => ?_)
                  refine lv_goto (tgt := 46) hx hb dX9_places_96 (by decide) ?_
                  exact ih 0 (v_9 + 1) ls hf (lv_sub hl [2, 3, 4, 5, 1, 0] rfl)
                · have hf := it_t c_14 hf
                  refine lv_iconst (v := 1) hx hb dX9_places_86 (by decide) ?_
                  refine lv_goto (tgt := 91) hx hb dX9_places_87 (by decide) ?_
                  refine lv_istore (lv' := [(4, .int 1), (0, .ref q_a0), (1, .int v_1), (2, .int v_2), (3, .int v_6), (5, .int v_9)]) hx hb dX9_places_91 hl (by decide) rfl (fun ls hl => ?_)
                  refine lv_iinc (v := v_9 + 1) (lv' := [(5, .int (v_9 + 1)), (4, .int 1), (0, .ref q_a0), (1, .int v_1), (2, .int v_2), (3, .int v_6)]) hx hb dX9_places_93 hl (k := 5) rfl rfl (by decide) rfl (fun ls hl => ?_)
                  refine lv_goto (tgt := 46) hx hb dX9_places_96 (by decide) ?_
                  exact ih 1 (v_9 + 1) ls hf (lv_sub hl [2, 3, 4, 5, 1, 0] rfl)
        exact hlp_46 1000 t_7 0 ls hf (lv_sub hl [2, 3, 4, 5, 1, 0] rfl)
      have hj_36 : ∀ (v_15 : Int32), jX9_places_36 a0_told (lq2 (bX9_places_4 a0_told Q) n_4) v_1 v_2 v_15 → ∀ ls : Array Slot, lv_has ls 6 [(0, .ref q_a0), (1, .int v_1), (2, .int v_2), (3, .int v_15)] → W p l e (headSpec wsX9_places rmX9_places).room s m ([.ref q_a0] : List Value).toArray below meth c s.heap [] 0 0 QQ (F0 m 36 ls []) := by
        intro v_15 hf ls hl
        unfold jX9_places_36 at hf
        refine lv_iconst (v := 1) hx hb dX9_places_36 (by decide) ?_
        refine lv_goto (tgt := 41) hx hb dX9_places_37 (by decide) ?_
        exact hj_41 v_15 1 hf ls (lv_sub hl [0, 1, 2, 3] rfl)
      have hf := lq2_s hf
      unfold bX9_places_4 at hf
      refine lv_iload_n hx hb dX9_places_4 rfl (lv_at hl 2 rfl) ?_
      refine lv_aload_n hx hb dX9_places_5 rfl (lv_at hl 0 rfl) ?_
      refine ya_csi (va_runV (As := []) (rest := [.int v_2]) ⟨hx, hb, hml, hown, hts⟩ (c_X9_many l D cI cZ cO q_a0 q_a0_told q_a0_kept q_a0_isKept q_a0_refused q_a0_manyBy q_a0_hers q_a0_his q_a0_hand q_a0_bytes q_a0_anew q_a0_values a0_above a0_below a0_bytesLong a0_tokenAt a0_tokenLong a0_token a0_value a0_told  _ hf) (cwV 0 hts gX9_places_X9_many rfl rfl rfl (by decide +kernel) ⟨Nat.le_of_ble_eq_true rfl, Nat.le_of_ble_eq_true rfl⟩) (pv_ro (ci := 8) (q0 := 0) (hP.sub [0, 1] rfl) hX rfl rfl) rfl rfl hl.1 rfl (lv_room (Nat.le_of_ble_eq_true rfl)) dX9_places_6 ⟨Nat.zero_le _, Nat.zero_le _⟩) (fun r_16 hf => ?_)
      refine lv_icmp_ge (tgt := 120) hx hb dX9_places_9 (by decide) (fun c_17 => ?_) (fun c_17 => ?_)
      · have hf := it_t c_17 hf
        refine lv_iload_n hx hb dX9_places_120 rfl (lv_at hl 1 rfl) ?_
        subst hQQ
        exact W.iret hx hb hr (fun t ht hW => ⟨_, rfl, hf, ht⟩) (fun _ h => absurd h List.not_mem_nil) dX9_places_121
      · have hf := it_f c_17 hf
        refine lv_iload_n hx hb dX9_places_12 rfl (lv_at hl 2 rfl) ?_
        refine lv_aload_n hx hb dX9_places_13 rfl (lv_at hl 0 rfl) ?_
        refine va_get (D := D) (ci := 8) (v := .ref q_a0_told) (C := RX9) (T := TX9) (N := 18) hx hb hts in_X9 hown hK hP 0 rfl rfl 0 (by decide) kf_7 (fun _ h9 => h9) rfl dX9_places_14 ?_
        refine lv_iconst (v := 1) hx hb dX9_places_17 (by decide) ?_
        refine va_iald hx hb hK hP 1 0 rfl rfl (by unfold vp_in; decide) dX9_places_18 ?_
        refine lv_isub hx hb dX9_places_19 ?_
        refine lv_iconst (v := 1) hx hb dX9_places_20 (by decide) ?_
        refine lv_iadd hx hb dX9_places_21 ?_
        refine lv_istore_n (lv' := [(3, .int ((v_2 - (a0_told (1 : Int32).toNatClampNeg)) + 1)), (0, .ref q_a0), (1, .int v_1), (2, .int v_2)]) hx hb dX9_places_22 rfl hl (by decide) rfl (fun ls hl => ?_)
        refine lv_iload_n hx hb dX9_places_23 rfl (lv_at hl 0 rfl) ?_
        refine lv_if_ge (tgt := 36) hx hb dX9_places_24 (by decide) (fun c_18 => ?_) (fun c_18 => ?_)
        · have hf := it_t c_18 hf
          exact hj_36 ((v_2 - (a0_told (1 : Int32).toNatClampNeg)) + 1) hf ls (lv_sub hl [1, 2, 3, 0] rfl)
        · have hf := it_f c_18 hf
          refine lv_aload_n hx hb dX9_places_27 rfl (lv_at hl 1 rfl) ?_
          refine va_get (D := D) (ci := 8) (v := .ref q_a0_told) (C := RX9) (T := TX9) (N := 18) hx hb hts in_X9 hown hK hP 0 rfl rfl 0 (by decide) kf_7 (fun _ h9 => h9) rfl dX9_places_28 ?_
          refine lv_iconst (v := 1) hx hb dX9_places_31 (by decide) ?_
          refine va_iald hx hb hK hP 1 0 rfl rfl (by unfold vp_in; decide) dX9_places_32 ?_
          refine lv_if_ne (tgt := 40) hx hb dX9_places_33 (by decide) (fun c_19 => ?_) (fun c_19 => ?_)
          · have hf := it_f c_19 hf
            refine lv_iconst (v := 0) hx hb dX9_places_40 (by decide) ?_
            exact hj_41 ((v_2 - (a0_told (1 : Int32).toNatClampNeg)) + 1) 0 hf ls (lv_sub hl [1, 2, 3, 0] rfl)
          · have hf := it_t c_19 hf
            exact hj_36 ((v_2 - (a0_told (1 : Int32).toNatClampNeg)) + 1) hf ls (lv_sub hl [1, 2, 3, 0] rfl)
  exact hlp_4 1000 0 0 ls hf (lv_sub hl [2, 1, 0] rfl)
def p_X9_where (a0_told : Nat → Int32) (Q : Int32 → Prop) : Prop :=
  p_X9_places a0_told (fun r_1 => Q r_1)
def rmX9_where : Room := { frames := 2, cells := 0, slots := 0, locals := 47 }
set_option maxHeartbeats 4000000 in
set_option maxRecDepth 100000 in
theorem c_X9_where (l : Launch) (D : va_G) (cI cZ cO : ClassId) (q_a0 q_a0_told q_a0_kept q_a0_isKept q_a0_refused q_a0_manyBy q_a0_hers q_a0_his q_a0_hand q_a0_bytes q_a0_anew q_a0_values : Nat) (a0_above : Int64) (a0_below : Int64) (a0_bytesLong : Int32) (a0_tokenAt : Int32) (a0_tokenLong : Int32) (a0_token : Int32) (a0_value : Int32) (a0_told : Nat → Int32) (Q : Int32 → Prop) (hf : p_X9_where a0_told Q) : Met l yX9_where wsX9_where rmX9_where (va_Pc [.ref q_a0] (fun U => va_P D vwCl [(q_a0, .inr (8, [.ref q_a0_told, .ref q_a0_kept, .ref q_a0_isKept, .ref q_a0_refused, .long a0_above, .long a0_below, .ref q_a0_manyBy, .ref q_a0_hers, .ref q_a0_his, .ref q_a0_hand, .ref q_a0_bytes, .int a0_bytesLong, .int a0_tokenAt, .int a0_tokenLong, .int a0_token, .int a0_value, .ref q_a0_anew, .ref q_a0_values])), (q_a0_told, .inl (cI, 163, .inl a0_told))] U.heap ∧ XK D cI cZ cO U)) (vp_Si Q) 0 0 (fun _ => False) := by
  refine Met.ofW (cc := cX9_where) (maxL := 1) (ret := (some .int)) (by decide) rfl ?_
  intro p e s m args below meth c s₁ B hml hv
  obtain ⟨rfl, hP, hX⟩ := hv
  have hK := hX.1
  have hx := B.exec
  have hb := B.bytes
  have hr := B.returns
  have hts := atoms_spec (ws := wsX9_where) B.pre
  have hown : s.vm.findClass RX9 = some m.cls := findClass_of_methodNamed B.named
  have hlocks := B.notSynchronized
  generalize hQQ : MQ below _ _ s _ _ _ = QQ
  have hl := lv_entry ([.ref q_a0]) (n := 1) (Nat.le_of_ble_eq_true rfl)
  rw [lg_entry_eq]
  generalize (lg_sl ([.ref q_a0]) ++ List.replicate (1 - (lg_sl ([.ref q_a0])).length) Slot.unset).toArray = ls at hl ⊢
  have hl : lv_has ls 1 [(0, .ref q_a0)] := hl
  unfold p_X9_where at hf
  refine lv_aload_n hx hb dX9_where_0 rfl (lv_at hl 0 rfl) ?_
  refine ya_csi (va_runV (As := []) (rest := []) ⟨hx, hb, hml, hown, hts⟩ (c_X9_places l D cI cZ cO q_a0 q_a0_told q_a0_kept q_a0_isKept q_a0_refused q_a0_manyBy q_a0_hers q_a0_his q_a0_hand q_a0_bytes q_a0_anew q_a0_values a0_above a0_below a0_bytesLong a0_tokenAt a0_tokenLong a0_token a0_value a0_told  _ hf) (cwV 0 hts gX9_where_X9_places rfl rfl rfl (by decide +kernel) ⟨Nat.le_of_ble_eq_true rfl, Nat.le_of_ble_eq_true rfl⟩) (pv_ro (ci := 8) (q0 := 0) (hP.sub [0, 1] rfl) hX rfl rfl) rfl rfl hl.1 rfl (lv_room (Nat.le_of_ble_eq_true rfl)) dX9_where_1 ⟨Nat.zero_le _, Nat.zero_le _⟩) (fun r_1 hf => ?_)
  subst hQQ
  exact W.iret hx hb hr (fun t ht hW => ⟨_, rfl, hf, ht⟩) (fun _ h => absurd h List.not_mem_nil) dX9_where_4
def bX9_next_9 (a0_told : Nat → Int32) (Q : Int32 → Prop) (r_1 : Int32) (k_4 : Int32 → Int32 → Prop) (v_2 : Int32) (v_3 : Int32) : Prop :=
  p_X9_many a0_told (fun r_5 => if r_5 ≤ (v_3 + 1) then (p_X9_bits v_2 (fun r_7 => Q r_7)) else (p_X9_has r_1 v_3 (fun r_8 => if r_8 = 0 then (k_4 (v_2 ||| 0) (v_3 + 1)) else (p_X9_holdsOf 163 a0_told (v_3 + 1) (fun r_10 => k_4 (v_2 ||| (1 <<< (r_10 &&& 31))) (v_3 + 1))))))
def p_X9_next (a0_told : Nat → Int32) (Q : Int32 → Prop) : Prop :=
  p_X9_places a0_told (fun r_1 => lq2 (bX9_next_9 a0_told Q r_1) 1000 0 0)
def rmX9_next : Room := { frames := 2, cells := 0, slots := 0, locals := 47 }
set_option maxHeartbeats 4000000 in
set_option maxRecDepth 100000 in
theorem c_X9_next (l : Launch) (D : va_G) (cI cZ cO : ClassId) (q_a0 q_a0_told q_a0_kept q_a0_isKept q_a0_refused q_a0_manyBy q_a0_hers q_a0_his q_a0_hand q_a0_bytes q_a0_anew q_a0_values : Nat) (a0_above : Int64) (a0_below : Int64) (a0_bytesLong : Int32) (a0_tokenAt : Int32) (a0_tokenLong : Int32) (a0_token : Int32) (a0_value : Int32) (a0_told : Nat → Int32) (Q : Int32 → Prop) (hf : p_X9_next a0_told Q) : Met l yX9_next wsX9_next rmX9_next (va_Pc [.ref q_a0] (fun U => va_P D vwCl [(q_a0, .inr (8, [.ref q_a0_told, .ref q_a0_kept, .ref q_a0_isKept, .ref q_a0_refused, .long a0_above, .long a0_below, .ref q_a0_manyBy, .ref q_a0_hers, .ref q_a0_his, .ref q_a0_hand, .ref q_a0_bytes, .int a0_bytesLong, .int a0_tokenAt, .int a0_tokenLong, .int a0_token, .int a0_value, .ref q_a0_anew, .ref q_a0_values])), (q_a0_told, .inl (cI, 163, .inl a0_told))] U.heap ∧ XK D cI cZ cO U)) (vp_Si Q) 0 0 (fun _ => False) := by
  refine Met.ofW (cc := cX9_next) (maxL := 4) (ret := (some .int)) (by decide) rfl ?_
  intro p e s m args below meth c s₁ B hml hv
  obtain ⟨rfl, hP, hX⟩ := hv
  have hK := hX.1
  have hx := B.exec
  have hb := B.bytes
  have hr := B.returns
  have hts := atoms_spec (ws := wsX9_next) B.pre
  have hown : s.vm.findClass RX9 = some m.cls := findClass_of_methodNamed B.named
  have hlocks := B.notSynchronized
  have in_X9 : ∀ w ∈ wsX90, w ∈ wsX9_next := fun _ h => List.mem_cons_of_mem _ (List.mem_append_right _ h)
  have kf_7 := hts (.fieldLink RX9 7 "LeftCrestModel" "told" "[I") (by decide +kernel)
  generalize hQQ : MQ below _ _ s _ _ _ = QQ
  have hl := lv_entry ([.ref q_a0]) (n := 4) (Nat.le_of_ble_eq_true rfl)
  rw [lg_entry_eq]
  generalize (lg_sl ([.ref q_a0]) ++ List.replicate (4 - (lg_sl ([.ref q_a0])).length) Slot.unset).toArray = ls at hl ⊢
  have hl : lv_has ls 4 [(0, .ref q_a0)] := hl
  unfold p_X9_next at hf
  refine lv_iconst (v := 0) hx hb dX9_next_0 (by decide) ?_
  refine lv_istore_n (lv' := [(1, .int 0), (0, .ref q_a0)]) hx hb dX9_next_1 rfl hl (by decide) rfl (fun ls hl => ?_)
  refine lv_aload_n hx hb dX9_next_2 rfl (lv_at hl 1 rfl) ?_
  refine ya_csi (va_runV (As := []) (rest := []) ⟨hx, hb, hml, hown, hts⟩ (c_X9_places l D cI cZ cO q_a0 q_a0_told q_a0_kept q_a0_isKept q_a0_refused q_a0_manyBy q_a0_hers q_a0_his q_a0_hand q_a0_bytes q_a0_anew q_a0_values a0_above a0_below a0_bytesLong a0_tokenAt a0_tokenLong a0_token a0_value a0_told  _ hf) (cwV 0 hts gX9_next_X9_places rfl rfl rfl (by decide +kernel) ⟨Nat.le_of_ble_eq_true rfl, Nat.le_of_ble_eq_true rfl⟩) (pv_ro (ci := 8) (q0 := 0) (hP.sub [0, 1] rfl) hX rfl rfl) rfl rfl hl.1 rfl (lv_room (Nat.le_of_ble_eq_true rfl)) dX9_next_3 ⟨Nat.zero_le _, Nat.zero_le _⟩) (fun r_1 hf => ?_)
  refine lv_istore_n (lv' := [(2, .int r_1), (1, .int 0), (0, .ref q_a0)]) hx hb dX9_next_6 rfl hl (by decide) rfl (fun ls hl => ?_)
  refine lv_iconst (v := 0) hx hb dX9_next_7 (by decide) ?_
  refine lv_istore_n (lv' := [(3, .int 0), (2, .int r_1), (1, .int 0), (0, .ref q_a0)]) hx hb dX9_next_8 rfl hl (by decide) rfl (fun ls hl => ?_)
  have hlp_9 : ∀ (n_9 : Nat) (v_2 : Int32) (v_3 : Int32) (ls : Array Slot), lq2 (bX9_next_9 a0_told Q r_1) n_9 v_2 v_3 → lv_has ls 4 [(0, .ref q_a0), (1, .int v_2), (2, .int r_1), (3, .int v_3)] → W p l e (headSpec wsX9_next rmX9_next).room s m ([.ref q_a0] : List Value).toArray below meth c s.heap [] 0 0 QQ (F0 m 9 ls []) := by
    intro n_9
    induction n_9 with
    | zero => intro v_2 v_3 ls hf; exact (lq2_0 hf).elim
    | succ n_9 ih =>
      have ih_9 := ih
      intro v_2 v_3 ls hf hl
      have hf := lq2_s hf
      unfold bX9_next_9 at hf
      refine lv_iload_n hx hb dX9_next_9 rfl (lv_at hl 3 rfl) ?_
      refine lv_iconst (v := 1) hx hb dX9_next_10 (by decide) ?_
      refine lv_iadd hx hb dX9_next_11 ?_
      refine lv_aload_n hx hb dX9_next_12 rfl (lv_at hl 0 rfl) ?_
      refine ya_csi (va_runV (As := []) (rest := [.int (v_3 + 1)]) ⟨hx, hb, hml, hown, hts⟩ (c_X9_many l D cI cZ cO q_a0 q_a0_told q_a0_kept q_a0_isKept q_a0_refused q_a0_manyBy q_a0_hers q_a0_his q_a0_hand q_a0_bytes q_a0_anew q_a0_values a0_above a0_below a0_bytesLong a0_tokenAt a0_tokenLong a0_token a0_value a0_told  _ hf) (cwV 0 hts gX9_next_X9_many rfl rfl rfl (by decide +kernel) ⟨Nat.le_of_ble_eq_true rfl, Nat.le_of_ble_eq_true rfl⟩) (pv_ro (ci := 8) (q0 := 0) (hP.sub [0, 1] rfl) hX rfl rfl) rfl rfl hl.1 rfl (lv_room (Nat.le_of_ble_eq_true rfl)) dX9_next_13 ⟨Nat.zero_le _, Nat.zero_le _⟩) (fun r_5 hf => ?_)
      refine lv_icmp_ge (tgt := 52) hx hb dX9_next_16 (by decide) (fun c_6 => ?_) (fun c_6 => ?_)
      · have hf := it_t c_6 hf
        refine lv_iload_n hx hb dX9_next_52 rfl (lv_at hl 1 rfl) ?_
        refine ya_csi (va_runS (As := [.int v_2]) (rest := []) ⟨hx, hb, hml, hown, hts⟩ (c_X9_bits l D cI cZ cO  v_2 _ hf) (va_cwS 1 hts gX9_next_X9_bits rfl rfl rfl (by decide +kernel) ⟨Nat.le_of_ble_eq_true rfl, Nat.le_of_ble_eq_true rfl⟩) (ps_ro va_P0 hX) rfl rfl hl.1 rfl (lv_room (Nat.le_of_ble_eq_true rfl)) dX9_next_53 ⟨Nat.zero_le _, Nat.zero_le _⟩) (fun r_7 hf => ?_)
        subst hQQ
        exact W.iret hx hb hr (fun t ht hW => ⟨_, rfl, hf, ht⟩) (fun _ h => absurd h List.not_mem_nil) dX9_next_56
      · have hf := it_f c_6 hf
        refine lv_iload_n hx hb dX9_next_19 rfl (lv_at hl 1 rfl) ?_
        refine lv_iload_n hx hb dX9_next_20 rfl (lv_at hl 2 rfl) ?_
        refine lv_iload_n hx hb dX9_next_21 rfl (lv_at hl 3 rfl) ?_
        refine ya_csi (va_runS (As := [.int r_1, .int v_3]) (rest := [.int v_2]) ⟨hx, hb, hml, hown, hts⟩ (c_X9_has l D cI cZ cO  r_1 v_3 _ hf) (va_cwS 2 hts gX9_next_X9_has rfl rfl rfl (by decide +kernel) ⟨Nat.le_of_ble_eq_true rfl, Nat.le_of_ble_eq_true rfl⟩) (ps_ro va_P0 hX) rfl rfl hl.1 rfl (lv_room (Nat.le_of_ble_eq_true rfl)) dX9_next_22 ⟨Nat.zero_le _, Nat.zero_le _⟩) (fun r_8 hf => ?_)
        refine lv_if_eq (tgt := 43) hx hb dX9_next_25 (by decide) (fun c_9 => ?_) (fun c_9 => ?_)
        · have hf := it_t c_9 hf
          refine lv_iconst (v := 0) hx hb dX9_next_43 (by decide) ?_
          refine lv_ior hx hb dX9_next_44 ?_
          refine lv_istore_n (lv' := [(1, .int (v_2 ||| 0)), (0, .ref q_a0), (2, .int r_1), (3, .int v_3)]) hx hb dX9_next_45 rfl hl (by decide) rfl (fun ls hl => ?_)
          refine lv_iinc (v := v_3 + 1) (lv' := [(3, .int (v_3 + 1)), (1, .int (v_2 ||| 0)), (0, .ref q_a0), (2, .int r_1)]) hx hb dX9_next_46 hl (k := 3) rfl rfl (by decide) rfl (fun ls hl => ?_)
          refine lv_goto (tgt := 9) hx hb dX9_next_49 (by decide) ?_
          exact ih (v_2 ||| 0) (v_3 + 1) ls hf (lv_sub hl [2, 1, 3, 0] rfl)
        · have hf := it_f c_9 hf
          refine lv_iconst (v := 1) hx hb dX9_next_28 (by decide) ?_
          refine lv_aload_n hx hb dX9_next_29 rfl (lv_at hl 0 rfl) ?_
          refine va_get (D := D) (ci := 8) (v := .ref q_a0_told) (C := RX9) (T := TX9) (N := 18) hx hb hts in_X9 hown hK hP 0 rfl rfl 0 (by decide) kf_7 (fun _ h9 => h9) rfl dX9_next_30 ?_
          refine lv_iload_n hx hb dX9_next_33 rfl (lv_at hl 3 rfl) ?_
          refine lv_iconst (v := 1) hx hb dX9_next_34 (by decide) ?_
          refine lv_iadd hx hb dX9_next_35 ?_
          refine ya_csi (va_runS (As := [.ref q_a0_told, .int (v_3 + 1)]) (rest := [.int 1, .int v_2]) ⟨hx, hb, hml, hown, hts⟩ (c_X9_holdsOf l D cI cZ cO q_a0_told 163 a0_told (v_3 + 1) _ hf) (va_cwS 2 hts gX9_next_X9_holdsOf rfl rfl rfl (by decide +kernel) ⟨Nat.le_of_ble_eq_true rfl, Nat.le_of_ble_eq_true rfl⟩) (ps_ro (hP.sub [1] rfl) hX) rfl rfl hl.1 rfl (lv_room (Nat.le_of_ble_eq_true rfl)) dX9_next_36 ⟨Nat.zero_le _, Nat.zero_le _⟩) (fun r_10 hf => ?_)
          refine lv_ishl hx hb dX9_next_39 ?_
          refine lv_goto (tgt := 44) hx hb dX9_next_40 (by decide) ?_
          refine lv_ior hx hb dX9_next_44 ?_
          refine lv_istore_n (lv' := [(1, .int (v_2 ||| (1 <<< (r_10 &&& 31)))), (0, .ref q_a0), (2, .int r_1), (3, .int v_3)]) hx hb dX9_next_45 rfl hl (by decide) rfl (fun ls hl => ?_)
          refine lv_iinc (v := v_3 + 1) (lv' := [(3, .int (v_3 + 1)), (1, .int (v_2 ||| (1 <<< (r_10 &&& 31)))), (0, .ref q_a0), (2, .int r_1)]) hx hb dX9_next_46 hl (k := 3) rfl rfl (by decide) rfl (fun ls hl => ?_)
          refine lv_goto (tgt := 9) hx hb dX9_next_49 (by decide) ?_
          exact ih (v_2 ||| (1 <<< (r_10 &&& 31))) (v_3 + 1) ls hf (lv_sub hl [2, 1, 3, 0] rfl)
  exact hlp_9 1000 0 0 ls hf (lv_sub hl [3, 2, 1, 0] rfl)
def p_X9_seen (a0_told : Nat → Int32) (a0_refused : Nat → Int32) (x1 : Int32) (x2 : Int32) (x3 : Int32) (x4 : Int32) (x5 : Int32) (Q : Int32 → (Nat → Int32) → (Nat → Int32) → Prop) : Prop :=
  p_X9_isNote x1 (fun r_1 => if r_1 = 0 then (p_X9_bad a0_refused (-2) (fun r_3 u_4 => Q r_3 a0_told u_4)) else (p_X9_in x2.toInt64 1 6 (fun r_5 => if r_5 = 0 then (p_X9_bad a0_refused (-2) (fun r_7 u_8 => Q r_7 a0_told u_8)) else (p_X9_isFog x3 (fun r_9 => if r_9 = 0 then (p_X9_bad a0_refused (-2) (fun r_11 u_12 => Q r_11 a0_told u_12)) else (p_X9_in x4.toInt64 0 1 (fun r_13 => if r_13 = 0 then (p_X9_bad a0_refused (-2) (fun r_15 u_16 => Q r_15 a0_told u_16)) else (p_X9_in x5.toInt64 1 7 (fun r_17 => if r_17 = 0 then (p_X9_bad a0_refused (-2) (fun r_22 u_23 => Q r_22 a0_told u_23)) else (if (a0_told (2 : Int32).toNatClampNeg) = 6 then (p_X9_full a0_refused (fun r_20 u_21 => Q r_20 a0_told u_21)) else (vp_in (45 + (5 * (a0_told (2 : Int32).toNatClampNeg))) 163 ∧ (vp_in ((45 + (5 * (a0_told (2 : Int32).toNatClampNeg))) + 1) 163 ∧ (vp_in ((45 + (5 * (a0_told (2 : Int32).toNatClampNeg))) + 2) 163 ∧ (vp_in ((45 + (5 * (a0_told (2 : Int32).toNatClampNeg))) + 3) 163 ∧ (vp_in ((45 + (5 * (a0_told (2 : Int32).toNatClampNeg))) + 4) 163 ∧ (Q ((upd (upd (upd (upd (upd (upd a0_told ((45 + (5 * (a0_told (2 : Int32).toNatClampNeg))).toNatClampNeg) x1) (((45 + (5 * (a0_told (2 : Int32).toNatClampNeg))) + 1).toNatClampNeg) x2) (((45 + (5 * (a0_told (2 : Int32).toNatClampNeg))) + 2).toNatClampNeg) x3) (((45 + (5 * (a0_told (2 : Int32).toNatClampNeg))) + 3).toNatClampNeg) x4) (((45 + (5 * (a0_told (2 : Int32).toNatClampNeg))) + 4).toNatClampNeg) x5) ((2 : Int32).toNatClampNeg) (((upd (upd (upd (upd (upd a0_told ((45 + (5 * (a0_told (2 : Int32).toNatClampNeg))).toNatClampNeg) x1) (((45 + (5 * (a0_told (2 : Int32).toNatClampNeg))) + 1).toNatClampNeg) x2) (((45 + (5 * (a0_told (2 : Int32).toNatClampNeg))) + 2).toNatClampNeg) x3) (((45 + (5 * (a0_told (2 : Int32).toNatClampNeg))) + 3).toNatClampNeg) x4) (((45 + (5 * (a0_told (2 : Int32).toNatClampNeg))) + 4).toNatClampNeg) x5) (2 : Int32).toNatClampNeg) + 1)) (2 : Int32).toNatClampNeg) (upd (upd (upd (upd (upd (upd a0_told ((45 + (5 * (a0_told (2 : Int32).toNatClampNeg))).toNatClampNeg) x1) (((45 + (5 * (a0_told (2 : Int32).toNatClampNeg))) + 1).toNatClampNeg) x2) (((45 + (5 * (a0_told (2 : Int32).toNatClampNeg))) + 2).toNatClampNeg) x3) (((45 + (5 * (a0_told (2 : Int32).toNatClampNeg))) + 3).toNatClampNeg) x4) (((45 + (5 * (a0_told (2 : Int32).toNatClampNeg))) + 4).toNatClampNeg) x5) ((2 : Int32).toNatClampNeg) (((upd (upd (upd (upd (upd a0_told ((45 + (5 * (a0_told (2 : Int32).toNatClampNeg))).toNatClampNeg) x1) (((45 + (5 * (a0_told (2 : Int32).toNatClampNeg))) + 1).toNatClampNeg) x2) (((45 + (5 * (a0_told (2 : Int32).toNatClampNeg))) + 2).toNatClampNeg) x3) (((45 + (5 * (a0_told (2 : Int32).toNatClampNeg))) + 3).toNatClampNeg) x4) (((45 + (5 * (a0_told (2 : Int32).toNatClampNeg))) + 4).toNatClampNeg) x5) (2 : Int32).toNatClampNeg) + 1)) a0_refused))))))))))))))))
def rmX9_seen : Room := { frames := 2, cells := 0, slots := 0, locals := 45 }
set_option maxHeartbeats 4000000 in
set_option maxRecDepth 100000 in
theorem c_X9_seen (l : Launch) (D : va_G) (cI cZ cO : ClassId) (q_a0 q_a0_told q_a0_kept q_a0_isKept q_a0_refused q_a0_manyBy q_a0_hers q_a0_his q_a0_hand q_a0_bytes q_a0_anew q_a0_values : Nat) (a0_above : Int64) (a0_below : Int64) (a0_bytesLong : Int32) (a0_tokenAt : Int32) (a0_tokenLong : Int32) (a0_token : Int32) (a0_value : Int32) (a0_told : Nat → Int32) (a0_refused : Nat → Int32) (sz : Nat) (x1 : Int32) (x2 : Int32) (x3 : Int32) (x4 : Int32) (x5 : Int32) (Q : Int32 → (Nat → Int32) → (Nat → Int32) → Prop) (hf : p_X9_seen a0_told a0_refused x1 x2 x3 x4 x5 Q) : Met l yX9_seen wsX9_seen rmX9_seen (va_Pc [.ref q_a0, .int x1, .int x2, .int x3, .int x4, .int x5] (fun U => U.heap.size = sz ∧ va_P D vwCl [(q_a0, .inr (8, [.ref q_a0_told, .ref q_a0_kept, .ref q_a0_isKept, .ref q_a0_refused, .long a0_above, .long a0_below, .ref q_a0_manyBy, .ref q_a0_hers, .ref q_a0_his, .ref q_a0_hand, .ref q_a0_bytes, .int a0_bytesLong, .int a0_tokenAt, .int a0_tokenLong, .int a0_token, .int a0_value, .ref q_a0_anew, .ref q_a0_values])), (q_a0_told, .inl (cI, 163, .inl a0_told)), (q_a0_refused, .inl (cI, 3, .inl a0_refused))] U.heap ∧ XK D cI cZ cO U ∧ va_D (fun _ => True) [(q_a0, .inr (8, [.ref q_a0_told, .ref q_a0_kept, .ref q_a0_isKept, .ref q_a0_refused, .long a0_above, .long a0_below, .ref q_a0_manyBy, .ref q_a0_hers, .ref q_a0_his, .ref q_a0_hand, .ref q_a0_bytes, .int a0_bytesLong, .int a0_tokenAt, .int a0_tokenLong, .int a0_token, .int a0_value, .ref q_a0_anew, .ref q_a0_values])), (q_a0_told, .inl (cI, 163, .inl a0_told)), (q_a0_refused, .inl (cI, 3, .inl a0_refused))])) (va_Qi (fun r (u : (Nat → Int32) × (Nat → Int32)) => Q r u.1 u.2) (fun (u : (Nat → Int32) × (Nat → Int32)) t => va_P D vwCl [(q_a0, .inr (8, [.ref q_a0_told, .ref q_a0_kept, .ref q_a0_isKept, .ref q_a0_refused, .long a0_above, .long a0_below, .ref q_a0_manyBy, .ref q_a0_hers, .ref q_a0_his, .ref q_a0_hand, .ref q_a0_bytes, .int a0_bytesLong, .int a0_tokenAt, .int a0_tokenLong, .int a0_token, .int a0_value, .ref q_a0_anew, .ref q_a0_values])), (q_a0_told, .inl (cI, 163, .inl u.1)), (q_a0_refused, .inl (cI, 3, .inl u.2))] t.heap ∧ va_D (va_A [(q_a0, .inr (8, [.ref q_a0_told, .ref q_a0_kept, .ref q_a0_isKept, .ref q_a0_refused, .long a0_above, .long a0_below, .ref q_a0_manyBy, .ref q_a0_hers, .ref q_a0_his, .ref q_a0_hand, .ref q_a0_bytes, .int a0_bytesLong, .int a0_tokenAt, .int a0_tokenLong, .int a0_token, .int a0_value, .ref q_a0_anew, .ref q_a0_values])), (q_a0_told, .inl (cI, 163, .inl a0_told)), (q_a0_refused, .inl (cI, 3, .inl a0_refused))] sz) [(q_a0, .inr (8, [.ref q_a0_told, .ref q_a0_kept, .ref q_a0_isKept, .ref q_a0_refused, .long a0_above, .long a0_below, .ref q_a0_manyBy, .ref q_a0_hers, .ref q_a0_his, .ref q_a0_hand, .ref q_a0_bytes, .int a0_bytesLong, .int a0_tokenAt, .int a0_tokenLong, .int a0_token, .int a0_value, .ref q_a0_anew, .ref q_a0_values])), (q_a0_told, .inl (cI, 163, .inl u.1)), (q_a0_refused, .inl (cI, 3, .inl u.2))]) (va_A [(q_a0, .inr (8, [.ref q_a0_told, .ref q_a0_kept, .ref q_a0_isKept, .ref q_a0_refused, .long a0_above, .long a0_below, .ref q_a0_manyBy, .ref q_a0_hers, .ref q_a0_his, .ref q_a0_hand, .ref q_a0_bytes, .int a0_bytesLong, .int a0_tokenAt, .int a0_tokenLong, .int a0_token, .int a0_value, .ref q_a0_anew, .ref q_a0_values])), (q_a0_told, .inl (cI, 163, .inl a0_told)), (q_a0_refused, .inl (cI, 3, .inl a0_refused))] sz)) 0 0 (va_A [(q_a0, .inr (8, [.ref q_a0_told, .ref q_a0_kept, .ref q_a0_isKept, .ref q_a0_refused, .long a0_above, .long a0_below, .ref q_a0_manyBy, .ref q_a0_hers, .ref q_a0_his, .ref q_a0_hand, .ref q_a0_bytes, .int a0_bytesLong, .int a0_tokenAt, .int a0_tokenLong, .int a0_token, .int a0_value, .ref q_a0_anew, .ref q_a0_values])), (q_a0_told, .inl (cI, 163, .inl a0_told)), (q_a0_refused, .inl (cI, 3, .inl a0_refused))] sz) := by
  refine Met.ofW (cc := cX9_seen) (maxL := 7) (ret := (some .int)) (by decide) rfl ?_
  intro p e s m args below meth c s₁ B hml hv
  obtain ⟨rfl, hsz, hP, hX, hD0⟩ := hv
  have hK := hX.1
  have hx := B.exec
  have hb := B.bytes
  have hr := B.returns
  have hts := atoms_spec (ws := wsX9_seen) B.pre
  have hown : s.vm.findClass RX9 = some m.cls := findClass_of_methodNamed B.named
  have hlocks := B.notSynchronized
  have in_X9 : ∀ w ∈ wsX90, w ∈ wsX9_seen := fun _ h => List.mem_cons_of_mem _ (List.mem_append_right _ h)
  have kc_62 := hts (.constantLong RX9 62 (6)) (by decide +kernel)
  have kc_153 := hts (.constantLong RX9 153 (7)) (by decide +kernel)
  have kf_7 := hts (.fieldLink RX9 7 "LeftCrestModel" "told" "[I") (by decide +kernel)
  subst hsz
  have hD := hD0.self (sz := s.heap.size)
  generalize hAe : va_A [(q_a0, .inr (8, [.ref q_a0_told, .ref q_a0_kept, .ref q_a0_isKept, .ref q_a0_refused, .long a0_above, .long a0_below, .ref q_a0_manyBy, .ref q_a0_hers, .ref q_a0_his, .ref q_a0_hand, .ref q_a0_bytes, .int a0_bytesLong, .int a0_tokenAt, .int a0_tokenLong, .int a0_token, .int a0_value, .ref q_a0_anew, .ref q_a0_values])), (q_a0_told, .inl (cI, 163, .inl a0_told)), (q_a0_refused, .inl (cI, 3, .inl a0_refused))] s.heap.size = A at hD ⊢
  have hA : ∀ q : Nat, s.heap.size ≤ q → A q := fun q h => by rw [← hAe]; exact Or.inr h
  have hS : va_S A s.heap s.heap [] := va_S.rf
  have hP : va_P D vwCl [(q_a0, .inr (8, [.ref q_a0_told, .ref q_a0_kept, .ref q_a0_isKept, .ref q_a0_refused, .long a0_above, .long a0_below, .ref q_a0_manyBy, .ref q_a0_hers, .ref q_a0_his, .ref q_a0_hand, .ref q_a0_bytes, .int a0_bytesLong, .int a0_tokenAt, .int a0_tokenLong, .int a0_token, .int a0_value, .ref q_a0_anew, .ref q_a0_values])), (q_a0_told, .inl (cI, 163, .inl a0_told)), (q_a0_refused, .inl (cI, 3, .inl a0_refused))] s.heap := hP
  generalize hQQ : MQ below _ _ s _ _ _ = QQ
  have hl := lv_entry ([.ref q_a0, .int x1, .int x2, .int x3, .int x4, .int x5]) (n := 7) (Nat.le_of_ble_eq_true rfl)
  rw [lg_entry_eq]
  generalize (lg_sl ([.ref q_a0, .int x1, .int x2, .int x3, .int x4, .int x5]) ++ List.replicate (7 - (lg_sl ([.ref q_a0, .int x1, .int x2, .int x3, .int x4, .int x5])).length) Slot.unset).toArray = ls at hl ⊢
  have hl : lv_has ls 7 [(0, .ref q_a0), (1, .int x1), (2, .int x2), (3, .int x3), (4, .int x4), (5, .int x5)] := hl
  unfold p_X9_seen at hf
  refine lv_iload_n hx hb dX9_seen_0 rfl (lv_at hl 1 rfl) ?_
  refine ya_csi (va_runS (As := [.int x1]) (rest := []) ⟨hx, hb, hml, hown, hts⟩ (c_X9_isNote l D cI cZ cO  x1 _ hf) (va_cwS 1 hts gX9_seen_X9_isNote rfl rfl rfl (by decide +kernel) ⟨Nat.le_of_ble_eq_true rfl, Nat.le_of_ble_eq_true rfl⟩) (ps_ro va_P0 hX) rfl rfl hl.1 rfl (lv_room (Nat.le_of_ble_eq_true rfl)) dX9_seen_1 ⟨Nat.zero_le _, Nat.zero_le _⟩) (fun r_1 hf => ?_)
  refine lv_if_eq (tgt := 50) hx hb dX9_seen_4 (by decide) (fun c_2 => ?_) (fun c_2 => ?_)
  · have hf := it_t c_2 hf
    refine lv_aload_n hx hb dX9_seen_50 rfl (lv_at hl 0 rfl) ?_
    refine lv_bipush (v := (-2)) hx hb dX9_seen_51 (by decide) ?_
    have hPc := hP.sub (ws' := [(q_a0, .inr (8, [.ref q_a0_told, .ref q_a0_kept, .ref q_a0_isKept, .ref q_a0_refused, .long a0_above, .long a0_below, .ref q_a0_manyBy, .ref q_a0_hers, .ref q_a0_his, .ref q_a0_hand, .ref q_a0_bytes, .int a0_bytesLong, .int a0_tokenAt, .int a0_tokenLong, .int a0_token, .int a0_value, .ref q_a0_anew, .ref q_a0_values])), (q_a0_refused, .inl (cI, 3, .inl a0_refused))]) [0, 2] rfl
    have hDc := hD.sub (ws' := [(q_a0, .inr (8, [.ref q_a0_told, .ref q_a0_kept, .ref q_a0_isKept, .ref q_a0_refused, .long a0_above, .long a0_below, .ref q_a0_manyBy, .ref q_a0_hers, .ref q_a0_his, .ref q_a0_hand, .ref q_a0_bytes, .int a0_bytesLong, .int a0_tokenAt, .int a0_tokenLong, .int a0_token, .int a0_value, .ref q_a0_anew, .ref q_a0_values])), (q_a0_refused, .inl (cI, 3, .inl a0_refused))]) [0, 2] (by decide) rfl
    have hFc := va_free (wc := [(q_a0, .inr (8, [.ref q_a0_told, .ref q_a0_kept, .ref q_a0_isKept, .ref q_a0_refused, .long a0_above, .long a0_below, .ref q_a0_manyBy, .ref q_a0_hers, .ref q_a0_his, .ref q_a0_hand, .ref q_a0_bytes, .int a0_bytesLong, .int a0_tokenAt, .int a0_tokenLong, .int a0_token, .int a0_value, .ref q_a0_anew, .ref q_a0_values])), (q_a0_refused, .inl (cI, 3, .inl a0_refused))]) hD hS hA [0, 2] rfl
    refine va_calli (va_runV (As := [.int (-2)]) (rest := []) ⟨hx, hb, hml, hown, hts⟩ (c_X9_bad l D cI cZ cO q_a0 q_a0_told q_a0_kept q_a0_isKept q_a0_refused q_a0_manyBy q_a0_hers q_a0_his q_a0_hand q_a0_bytes q_a0_anew q_a0_values a0_above a0_below a0_bytesLong a0_tokenAt a0_tokenLong a0_token a0_value a0_refused s.heap.size (-2) _ hf) (cwV 1 hts gX9_seen_X9_bad rfl rfl rfl (by decide +kernel) ⟨Nat.le_of_ble_eq_true rfl, Nat.le_of_ble_eq_true rfl⟩) (pv_rw (ci := 8) (q0 := 0) hPc hDc hX rfl rfl) rfl rfl hl.1 rfl (lv_room (Nat.le_of_ble_eq_true rfl)) dX9_seen_53 ⟨Nat.zero_le _, Nat.zero_le _⟩) hS (fun q _ h => hFc q h) hFc (fun r_3 u t H1 locs ht hvm hf hB hz1 hk1 hS => ?_)
    obtain ⟨u_4, rfl⟩ : ∃ z, z = u := ⟨_, rfl⟩
    obtain ⟨hP1, hD1⟩ := hB
    rw [ht] at hP1
    clear hvm
    obtain ⟨hP, hD⟩ := va_join (wr := [(q_a0_told, .inl (cI, 163, .inl a0_told))]) (w1 := [(q_a0, .inr (8, [.ref q_a0_told, .ref q_a0_kept, .ref q_a0_isKept, .ref q_a0_refused, .long a0_above, .long a0_below, .ref q_a0_manyBy, .ref q_a0_hers, .ref q_a0_his, .ref q_a0_hand, .ref q_a0_bytes, .int a0_bytesLong, .int a0_tokenAt, .int a0_tokenLong, .int a0_token, .int a0_value, .ref q_a0_anew, .ref q_a0_values])), (q_a0_refused, .inl (cI, 3, .inl u_4))]) hP hD [0, 2] [1] rfl rfl (by decide) (by decide) hk1 hFc hP1 hD1
    clear hz1 hk1 hPc hDc hFc hP1 hD1
    generalize H1 = H at hP hS ⊢
    have hP : va_P D vwCl [(q_a0_told, .inl (cI, 163, .inl a0_told)), (q_a0, .inr (8, [.ref q_a0_told, .ref q_a0_kept, .ref q_a0_isKept, .ref q_a0_refused, .long a0_above, .long a0_below, .ref q_a0_manyBy, .ref q_a0_hers, .ref q_a0_his, .ref q_a0_hand, .ref q_a0_bytes, .int a0_bytesLong, .int a0_tokenAt, .int a0_tokenLong, .int a0_token, .int a0_value, .ref q_a0_anew, .ref q_a0_values])), (q_a0_refused, .inl (cI, 3, .inl u_4))] H := hP
    have hD : va_D A [(q_a0_told, .inl (cI, 163, .inl a0_told)), (q_a0, .inr (8, [.ref q_a0_told, .ref q_a0_kept, .ref q_a0_isKept, .ref q_a0_refused, .long a0_above, .long a0_below, .ref q_a0_manyBy, .ref q_a0_hers, .ref q_a0_his, .ref q_a0_hand, .ref q_a0_bytes, .int a0_bytesLong, .int a0_tokenAt, .int a0_tokenLong, .int a0_token, .int a0_value, .ref q_a0_anew, .ref q_a0_values])), (q_a0_refused, .inl (cI, 3, .inl u_4))] := hD
    subst hQQ
    have hP9 := hP.sub (ws' := [(q_a0, .inr (8, [.ref q_a0_told, .ref q_a0_kept, .ref q_a0_isKept, .ref q_a0_refused, .long a0_above, .long a0_below, .ref q_a0_manyBy, .ref q_a0_hers, .ref q_a0_his, .ref q_a0_hand, .ref q_a0_bytes, .int a0_bytesLong, .int a0_tokenAt, .int a0_tokenLong, .int a0_token, .int a0_value, .ref q_a0_anew, .ref q_a0_values])), (q_a0_told, .inl (cI, 163, .inl a0_told)), (q_a0_refused, .inl (cI, 3, .inl u_4))]) [1, 0, 2] rfl
    have hD9 := hD.sub (ws' := [(q_a0, .inr (8, [.ref q_a0_told, .ref q_a0_kept, .ref q_a0_isKept, .ref q_a0_refused, .long a0_above, .long a0_below, .ref q_a0_manyBy, .ref q_a0_hers, .ref q_a0_his, .ref q_a0_hand, .ref q_a0_bytes, .int a0_bytesLong, .int a0_tokenAt, .int a0_tokenLong, .int a0_token, .int a0_value, .ref q_a0_anew, .ref q_a0_values])), (q_a0_told, .inl (cI, 163, .inl a0_told)), (q_a0_refused, .inl (cI, 3, .inl u_4))]) [1, 0, 2] (by decide) rfl
    exact W.iret hx hb hr (fun t ht hW => ⟨⟨r_3, (a0_told, u_4), rfl, hf, by rw [ht]; exact hP9, hD9⟩, hS.F ht⟩) hS.2.2 dX9_seen_56
  · have hf := it_f c_2 hf
    refine lv_iload_n hx hb dX9_seen_7 rfl (lv_at hl 2 rfl) ?_
    refine lv_i2l hx hb dX9_seen_8 rfl ?_
    refine lv_lconst (v := 1) hx hb dX9_seen_9 (by decide) ?_
    refine lv_ldc2 (v := 6) hx hb hown kc_62 dX9_seen_10 ?_
    refine ya_csi (va_runS (As := [.long x2.toInt64, .long 1, .long 6]) (rest := []) ⟨hx, hb, hml, hown, hts⟩ (c_X9_in l D cI cZ cO  x2.toInt64 1 6 _ hf) (va_cwS 3 hts gX9_seen_X9_in rfl rfl rfl (by decide +kernel) ⟨Nat.le_of_ble_eq_true rfl, Nat.le_of_ble_eq_true rfl⟩) (ps_ro va_P0 hX) rfl rfl hl.1 rfl (lv_room (Nat.le_of_ble_eq_true rfl)) dX9_seen_13 ⟨Nat.zero_le _, Nat.zero_le _⟩) (fun r_5 hf => ?_)
    refine lv_if_eq (tgt := 50) hx hb dX9_seen_16 (by decide) (fun c_6 => ?_) (fun c_6 => ?_)
    · have hf := it_t c_6 hf
      refine lv_aload_n hx hb dX9_seen_50 rfl (lv_at hl 0 rfl) ?_
      refine lv_bipush (v := (-2)) hx hb dX9_seen_51 (by decide) ?_
      have hPc := hP.sub (ws' := [(q_a0, .inr (8, [.ref q_a0_told, .ref q_a0_kept, .ref q_a0_isKept, .ref q_a0_refused, .long a0_above, .long a0_below, .ref q_a0_manyBy, .ref q_a0_hers, .ref q_a0_his, .ref q_a0_hand, .ref q_a0_bytes, .int a0_bytesLong, .int a0_tokenAt, .int a0_tokenLong, .int a0_token, .int a0_value, .ref q_a0_anew, .ref q_a0_values])), (q_a0_refused, .inl (cI, 3, .inl a0_refused))]) [0, 2] rfl
      have hDc := hD.sub (ws' := [(q_a0, .inr (8, [.ref q_a0_told, .ref q_a0_kept, .ref q_a0_isKept, .ref q_a0_refused, .long a0_above, .long a0_below, .ref q_a0_manyBy, .ref q_a0_hers, .ref q_a0_his, .ref q_a0_hand, .ref q_a0_bytes, .int a0_bytesLong, .int a0_tokenAt, .int a0_tokenLong, .int a0_token, .int a0_value, .ref q_a0_anew, .ref q_a0_values])), (q_a0_refused, .inl (cI, 3, .inl a0_refused))]) [0, 2] (by decide) rfl
      have hFc := va_free (wc := [(q_a0, .inr (8, [.ref q_a0_told, .ref q_a0_kept, .ref q_a0_isKept, .ref q_a0_refused, .long a0_above, .long a0_below, .ref q_a0_manyBy, .ref q_a0_hers, .ref q_a0_his, .ref q_a0_hand, .ref q_a0_bytes, .int a0_bytesLong, .int a0_tokenAt, .int a0_tokenLong, .int a0_token, .int a0_value, .ref q_a0_anew, .ref q_a0_values])), (q_a0_refused, .inl (cI, 3, .inl a0_refused))]) hD hS hA [0, 2] rfl
      refine va_calli (va_runV (As := [.int (-2)]) (rest := []) ⟨hx, hb, hml, hown, hts⟩ (c_X9_bad l D cI cZ cO q_a0 q_a0_told q_a0_kept q_a0_isKept q_a0_refused q_a0_manyBy q_a0_hers q_a0_his q_a0_hand q_a0_bytes q_a0_anew q_a0_values a0_above a0_below a0_bytesLong a0_tokenAt a0_tokenLong a0_token a0_value a0_refused s.heap.size (-2) _ hf) (cwV 1 hts gX9_seen_X9_bad rfl rfl rfl (by decide +kernel) ⟨Nat.le_of_ble_eq_true rfl, Nat.le_of_ble_eq_true rfl⟩) (pv_rw (ci := 8) (q0 := 0) hPc hDc hX rfl rfl) rfl rfl hl.1 rfl (lv_room (Nat.le_of_ble_eq_true rfl)) dX9_seen_53 ⟨Nat.zero_le _, Nat.zero_le _⟩) hS (fun q _ h => hFc q h) hFc (fun r_7 u t H1 locs ht hvm hf hB hz1 hk1 hS => ?_)
      obtain ⟨u_8, rfl⟩ : ∃ z, z = u := ⟨_, rfl⟩
      obtain ⟨hP1, hD1⟩ := hB
      rw [ht] at hP1
      clear hvm
      obtain ⟨hP, hD⟩ := va_join (wr := [(q_a0_told, .inl (cI, 163, .inl a0_told))]) (w1 := [(q_a0, .inr (8, [.ref q_a0_told, .ref q_a0_kept, .ref q_a0_isKept, .ref q_a0_refused, .long a0_above, .long a0_below, .ref q_a0_manyBy, .ref q_a0_hers, .ref q_a0_his, .ref q_a0_hand, .ref q_a0_bytes, .int a0_bytesLong, .int a0_tokenAt, .int a0_tokenLong, .int a0_token, .int a0_value, .ref q_a0_anew, .ref q_a0_values])), (q_a0_refused, .inl (cI, 3, .inl u_8))]) hP hD [0, 2] [1] rfl rfl (by decide) (by decide) hk1 hFc hP1 hD1
      clear hz1 hk1 hPc hDc hFc hP1 hD1
      generalize H1 = H at hP hS ⊢
      have hP : va_P D vwCl [(q_a0_told, .inl (cI, 163, .inl a0_told)), (q_a0, .inr (8, [.ref q_a0_told, .ref q_a0_kept, .ref q_a0_isKept, .ref q_a0_refused, .long a0_above, .long a0_below, .ref q_a0_manyBy, .ref q_a0_hers, .ref q_a0_his, .ref q_a0_hand, .ref q_a0_bytes, .int a0_bytesLong, .int a0_tokenAt, .int a0_tokenLong, .int a0_token, .int a0_value, .ref q_a0_anew, .ref q_a0_values])), (q_a0_refused, .inl (cI, 3, .inl u_8))] H := hP
      have hD : va_D A [(q_a0_told, .inl (cI, 163, .inl a0_told)), (q_a0, .inr (8, [.ref q_a0_told, .ref q_a0_kept, .ref q_a0_isKept, .ref q_a0_refused, .long a0_above, .long a0_below, .ref q_a0_manyBy, .ref q_a0_hers, .ref q_a0_his, .ref q_a0_hand, .ref q_a0_bytes, .int a0_bytesLong, .int a0_tokenAt, .int a0_tokenLong, .int a0_token, .int a0_value, .ref q_a0_anew, .ref q_a0_values])), (q_a0_refused, .inl (cI, 3, .inl u_8))] := hD
      subst hQQ
      have hP9 := hP.sub (ws' := [(q_a0, .inr (8, [.ref q_a0_told, .ref q_a0_kept, .ref q_a0_isKept, .ref q_a0_refused, .long a0_above, .long a0_below, .ref q_a0_manyBy, .ref q_a0_hers, .ref q_a0_his, .ref q_a0_hand, .ref q_a0_bytes, .int a0_bytesLong, .int a0_tokenAt, .int a0_tokenLong, .int a0_token, .int a0_value, .ref q_a0_anew, .ref q_a0_values])), (q_a0_told, .inl (cI, 163, .inl a0_told)), (q_a0_refused, .inl (cI, 3, .inl u_8))]) [1, 0, 2] rfl
      have hD9 := hD.sub (ws' := [(q_a0, .inr (8, [.ref q_a0_told, .ref q_a0_kept, .ref q_a0_isKept, .ref q_a0_refused, .long a0_above, .long a0_below, .ref q_a0_manyBy, .ref q_a0_hers, .ref q_a0_his, .ref q_a0_hand, .ref q_a0_bytes, .int a0_bytesLong, .int a0_tokenAt, .int a0_tokenLong, .int a0_token, .int a0_value, .ref q_a0_anew, .ref q_a0_values])), (q_a0_told, .inl (cI, 163, .inl a0_told)), (q_a0_refused, .inl (cI, 3, .inl u_8))]) [1, 0, 2] (by decide) rfl
      exact W.iret hx hb hr (fun t ht hW => ⟨⟨r_7, (a0_told, u_8), rfl, hf, by rw [ht]; exact hP9, hD9⟩, hS.F ht⟩) hS.2.2 dX9_seen_56
    · have hf := it_f c_6 hf
      refine lv_iload_n hx hb dX9_seen_19 rfl (lv_at hl 3 rfl) ?_
      refine ya_csi (va_runS (As := [.int x3]) (rest := []) ⟨hx, hb, hml, hown, hts⟩ (c_X9_isFog l D cI cZ cO  x3 _ hf) (va_cwS 1 hts gX9_seen_X9_isFog rfl rfl rfl (by decide +kernel) ⟨Nat.le_of_ble_eq_true rfl, Nat.le_of_ble_eq_true rfl⟩) (ps_ro va_P0 hX) rfl rfl hl.1 rfl (lv_room (Nat.le_of_ble_eq_true rfl)) dX9_seen_20 ⟨Nat.zero_le _, Nat.zero_le _⟩) (fun r_9 hf => ?_)
      refine lv_if_eq (tgt := 50) hx hb dX9_seen_23 (by decide) (fun c_10 => ?_) (fun c_10 => ?_)
      · have hf := it_t c_10 hf
        refine lv_aload_n hx hb dX9_seen_50 rfl (lv_at hl 0 rfl) ?_
        refine lv_bipush (v := (-2)) hx hb dX9_seen_51 (by decide) ?_
        have hPc := hP.sub (ws' := [(q_a0, .inr (8, [.ref q_a0_told, .ref q_a0_kept, .ref q_a0_isKept, .ref q_a0_refused, .long a0_above, .long a0_below, .ref q_a0_manyBy, .ref q_a0_hers, .ref q_a0_his, .ref q_a0_hand, .ref q_a0_bytes, .int a0_bytesLong, .int a0_tokenAt, .int a0_tokenLong, .int a0_token, .int a0_value, .ref q_a0_anew, .ref q_a0_values])), (q_a0_refused, .inl (cI, 3, .inl a0_refused))]) [0, 2] rfl
        have hDc := hD.sub (ws' := [(q_a0, .inr (8, [.ref q_a0_told, .ref q_a0_kept, .ref q_a0_isKept, .ref q_a0_refused, .long a0_above, .long a0_below, .ref q_a0_manyBy, .ref q_a0_hers, .ref q_a0_his, .ref q_a0_hand, .ref q_a0_bytes, .int a0_bytesLong, .int a0_tokenAt, .int a0_tokenLong, .int a0_token, .int a0_value, .ref q_a0_anew, .ref q_a0_values])), (q_a0_refused, .inl (cI, 3, .inl a0_refused))]) [0, 2] (by decide) rfl
        have hFc := va_free (wc := [(q_a0, .inr (8, [.ref q_a0_told, .ref q_a0_kept, .ref q_a0_isKept, .ref q_a0_refused, .long a0_above, .long a0_below, .ref q_a0_manyBy, .ref q_a0_hers, .ref q_a0_his, .ref q_a0_hand, .ref q_a0_bytes, .int a0_bytesLong, .int a0_tokenAt, .int a0_tokenLong, .int a0_token, .int a0_value, .ref q_a0_anew, .ref q_a0_values])), (q_a0_refused, .inl (cI, 3, .inl a0_refused))]) hD hS hA [0, 2] rfl
        refine va_calli (va_runV (As := [.int (-2)]) (rest := []) ⟨hx, hb, hml, hown, hts⟩ (c_X9_bad l D cI cZ cO q_a0 q_a0_told q_a0_kept q_a0_isKept q_a0_refused q_a0_manyBy q_a0_hers q_a0_his q_a0_hand q_a0_bytes q_a0_anew q_a0_values a0_above a0_below a0_bytesLong a0_tokenAt a0_tokenLong a0_token a0_value a0_refused s.heap.size (-2) _ hf) (cwV 1 hts gX9_seen_X9_bad rfl rfl rfl (by decide +kernel) ⟨Nat.le_of_ble_eq_true rfl, Nat.le_of_ble_eq_true rfl⟩) (pv_rw (ci := 8) (q0 := 0) hPc hDc hX rfl rfl) rfl rfl hl.1 rfl (lv_room (Nat.le_of_ble_eq_true rfl)) dX9_seen_53 ⟨Nat.zero_le _, Nat.zero_le _⟩) hS (fun q _ h => hFc q h) hFc (fun r_11 u t H1 locs ht hvm hf hB hz1 hk1 hS => ?_)
        obtain ⟨u_12, rfl⟩ : ∃ z, z = u := ⟨_, rfl⟩
        obtain ⟨hP1, hD1⟩ := hB
        rw [ht] at hP1
        clear hvm
        obtain ⟨hP, hD⟩ := va_join (wr := [(q_a0_told, .inl (cI, 163, .inl a0_told))]) (w1 := [(q_a0, .inr (8, [.ref q_a0_told, .ref q_a0_kept, .ref q_a0_isKept, .ref q_a0_refused, .long a0_above, .long a0_below, .ref q_a0_manyBy, .ref q_a0_hers, .ref q_a0_his, .ref q_a0_hand, .ref q_a0_bytes, .int a0_bytesLong, .int a0_tokenAt, .int a0_tokenLong, .int a0_token, .int a0_value, .ref q_a0_anew, .ref q_a0_values])), (q_a0_refused, .inl (cI, 3, .inl u_12))]) hP hD [0, 2] [1] rfl rfl (by decide) (by decide) hk1 hFc hP1 hD1
        clear hz1 hk1 hPc hDc hFc hP1 hD1
        generalize H1 = H at hP hS ⊢
        have hP : va_P D vwCl [(q_a0_told, .inl (cI, 163, .inl a0_told)), (q_a0, .inr (8, [.ref q_a0_told, .ref q_a0_kept, .ref q_a0_isKept, .ref q_a0_refused, .long a0_above, .long a0_below, .ref q_a0_manyBy, .ref q_a0_hers, .ref q_a0_his, .ref q_a0_hand, .ref q_a0_bytes, .int a0_bytesLong, .int a0_tokenAt, .int a0_tokenLong, .int a0_token, .int a0_value, .ref q_a0_anew, .ref q_a0_values])), (q_a0_refused, .inl (cI, 3, .inl u_12))] H := hP
        have hD : va_D A [(q_a0_told, .inl (cI, 163, .inl a0_told)), (q_a0, .inr (8, [.ref q_a0_told, .ref q_a0_kept, .ref q_a0_isKept, .ref q_a0_refused, .long a0_above, .long a0_below, .ref q_a0_manyBy, .ref q_a0_hers, .ref q_a0_his, .ref q_a0_hand, .ref q_a0_bytes, .int a0_bytesLong, .int a0_tokenAt, .int a0_tokenLong, .int a0_token, .int a0_value, .ref q_a0_anew, .ref q_a0_values])), (q_a0_refused, .inl (cI, 3, .inl u_12))] := hD
        subst hQQ
        have hP9 := hP.sub (ws' := [(q_a0, .inr (8, [.ref q_a0_told, .ref q_a0_kept, .ref q_a0_isKept, .ref q_a0_refused, .long a0_above, .long a0_below, .ref q_a0_manyBy, .ref q_a0_hers, .ref q_a0_his, .ref q_a0_hand, .ref q_a0_bytes, .int a0_bytesLong, .int a0_tokenAt, .int a0_tokenLong, .int a0_token, .int a0_value, .ref q_a0_anew, .ref q_a0_values])), (q_a0_told, .inl (cI, 163, .inl a0_told)), (q_a0_refused, .inl (cI, 3, .inl u_12))]) [1, 0, 2] rfl
        have hD9 := hD.sub (ws' := [(q_a0, .inr (8, [.ref q_a0_told, .ref q_a0_kept, .ref q_a0_isKept, .ref q_a0_refused, .long a0_above, .long a0_below, .ref q_a0_manyBy, .ref q_a0_hers, .ref q_a0_his, .ref q_a0_hand, .ref q_a0_bytes, .int a0_bytesLong, .int a0_tokenAt, .int a0_tokenLong, .int a0_token, .int a0_value, .ref q_a0_anew, .ref q_a0_values])), (q_a0_told, .inl (cI, 163, .inl a0_told)), (q_a0_refused, .inl (cI, 3, .inl u_12))]) [1, 0, 2] (by decide) rfl
        exact W.iret hx hb hr (fun t ht hW => ⟨⟨r_11, (a0_told, u_12), rfl, hf, by rw [ht]; exact hP9, hD9⟩, hS.F ht⟩) hS.2.2 dX9_seen_56
      · have hf := it_f c_10 hf
        refine lv_iload hx hb dX9_seen_26 (lv_at hl 4 rfl) ?_
        refine lv_i2l hx hb dX9_seen_28 rfl ?_
        refine lv_lconst (v := 0) hx hb dX9_seen_29 (by decide) ?_
        refine lv_lconst (v := 1) hx hb dX9_seen_30 (by decide) ?_
        refine ya_csi (va_runS (As := [.long x4.toInt64, .long 0, .long 1]) (rest := []) ⟨hx, hb, hml, hown, hts⟩ (c_X9_in l D cI cZ cO  x4.toInt64 0 1 _ hf) (va_cwS 3 hts gX9_seen_X9_in rfl rfl rfl (by decide +kernel) ⟨Nat.le_of_ble_eq_true rfl, Nat.le_of_ble_eq_true rfl⟩) (ps_ro va_P0 hX) rfl rfl hl.1 rfl (lv_room (Nat.le_of_ble_eq_true rfl)) dX9_seen_31 ⟨Nat.zero_le _, Nat.zero_le _⟩) (fun r_13 hf => ?_)
        refine lv_if_eq (tgt := 50) hx hb dX9_seen_34 (by decide) (fun c_14 => ?_) (fun c_14 => ?_)
        · have hf := it_t c_14 hf
          refine lv_aload_n hx hb dX9_seen_50 rfl (lv_at hl 0 rfl) ?_
          refine lv_bipush (v := (-2)) hx hb dX9_seen_51 (by decide) ?_
          have hPc := hP.sub (ws' := [(q_a0, .inr (8, [.ref q_a0_told, .ref q_a0_kept, .ref q_a0_isKept, .ref q_a0_refused, .long a0_above, .long a0_below, .ref q_a0_manyBy, .ref q_a0_hers, .ref q_a0_his, .ref q_a0_hand, .ref q_a0_bytes, .int a0_bytesLong, .int a0_tokenAt, .int a0_tokenLong, .int a0_token, .int a0_value, .ref q_a0_anew, .ref q_a0_values])), (q_a0_refused, .inl (cI, 3, .inl a0_refused))]) [0, 2] rfl
          have hDc := hD.sub (ws' := [(q_a0, .inr (8, [.ref q_a0_told, .ref q_a0_kept, .ref q_a0_isKept, .ref q_a0_refused, .long a0_above, .long a0_below, .ref q_a0_manyBy, .ref q_a0_hers, .ref q_a0_his, .ref q_a0_hand, .ref q_a0_bytes, .int a0_bytesLong, .int a0_tokenAt, .int a0_tokenLong, .int a0_token, .int a0_value, .ref q_a0_anew, .ref q_a0_values])), (q_a0_refused, .inl (cI, 3, .inl a0_refused))]) [0, 2] (by decide) rfl
          have hFc := va_free (wc := [(q_a0, .inr (8, [.ref q_a0_told, .ref q_a0_kept, .ref q_a0_isKept, .ref q_a0_refused, .long a0_above, .long a0_below, .ref q_a0_manyBy, .ref q_a0_hers, .ref q_a0_his, .ref q_a0_hand, .ref q_a0_bytes, .int a0_bytesLong, .int a0_tokenAt, .int a0_tokenLong, .int a0_token, .int a0_value, .ref q_a0_anew, .ref q_a0_values])), (q_a0_refused, .inl (cI, 3, .inl a0_refused))]) hD hS hA [0, 2] rfl
          refine va_calli (va_runV (As := [.int (-2)]) (rest := []) ⟨hx, hb, hml, hown, hts⟩ (c_X9_bad l D cI cZ cO q_a0 q_a0_told q_a0_kept q_a0_isKept q_a0_refused q_a0_manyBy q_a0_hers q_a0_his q_a0_hand q_a0_bytes q_a0_anew q_a0_values a0_above a0_below a0_bytesLong a0_tokenAt a0_tokenLong a0_token a0_value a0_refused s.heap.size (-2) _ hf) (cwV 1 hts gX9_seen_X9_bad rfl rfl rfl (by decide +kernel) ⟨Nat.le_of_ble_eq_true rfl, Nat.le_of_ble_eq_true rfl⟩) (pv_rw (ci := 8) (q0 := 0) hPc hDc hX rfl rfl) rfl rfl hl.1 rfl (lv_room (Nat.le_of_ble_eq_true rfl)) dX9_seen_53 ⟨Nat.zero_le _, Nat.zero_le _⟩) hS (fun q _ h => hFc q h) hFc (fun r_15 u t H1 locs ht hvm hf hB hz1 hk1 hS => ?_)
          obtain ⟨u_16, rfl⟩ : ∃ z, z = u := ⟨_, rfl⟩
          obtain ⟨hP1, hD1⟩ := hB
          rw [ht] at hP1
          clear hvm
          obtain ⟨hP, hD⟩ := va_join (wr := [(q_a0_told, .inl (cI, 163, .inl a0_told))]) (w1 := [(q_a0, .inr (8, [.ref q_a0_told, .ref q_a0_kept, .ref q_a0_isKept, .ref q_a0_refused, .long a0_above, .long a0_below, .ref q_a0_manyBy, .ref q_a0_hers, .ref q_a0_his, .ref q_a0_hand, .ref q_a0_bytes, .int a0_bytesLong, .int a0_tokenAt, .int a0_tokenLong, .int a0_token, .int a0_value, .ref q_a0_anew, .ref q_a0_values])), (q_a0_refused, .inl (cI, 3, .inl u_16))]) hP hD [0, 2] [1] rfl rfl (by decide) (by decide) hk1 hFc hP1 hD1
          clear hz1 hk1 hPc hDc hFc hP1 hD1
          generalize H1 = H at hP hS ⊢
          have hP : va_P D vwCl [(q_a0_told, .inl (cI, 163, .inl a0_told)), (q_a0, .inr (8, [.ref q_a0_told, .ref q_a0_kept, .ref q_a0_isKept, .ref q_a0_refused, .long a0_above, .long a0_below, .ref q_a0_manyBy, .ref q_a0_hers, .ref q_a0_his, .ref q_a0_hand, .ref q_a0_bytes, .int a0_bytesLong, .int a0_tokenAt, .int a0_tokenLong, .int a0_token, .int a0_value, .ref q_a0_anew, .ref q_a0_values])), (q_a0_refused, .inl (cI, 3, .inl u_16))] H := hP
          have hD : va_D A [(q_a0_told, .inl (cI, 163, .inl a0_told)), (q_a0, .inr (8, [.ref q_a0_told, .ref q_a0_kept, .ref q_a0_isKept, .ref q_a0_refused, .long a0_above, .long a0_below, .ref q_a0_manyBy, .ref q_a0_hers, .ref q_a0_his, .ref q_a0_hand, .ref q_a0_bytes, .int a0_bytesLong, .int a0_tokenAt, .int a0_tokenLong, .int a0_token, .int a0_value, .ref q_a0_anew, .ref q_a0_values])), (q_a0_refused, .inl (cI, 3, .inl u_16))] := hD
          subst hQQ
          have hP9 := hP.sub (ws' := [(q_a0, .inr (8, [.ref q_a0_told, .ref q_a0_kept, .ref q_a0_isKept, .ref q_a0_refused, .long a0_above, .long a0_below, .ref q_a0_manyBy, .ref q_a0_hers, .ref q_a0_his, .ref q_a0_hand, .ref q_a0_bytes, .int a0_bytesLong, .int a0_tokenAt, .int a0_tokenLong, .int a0_token, .int a0_value, .ref q_a0_anew, .ref q_a0_values])), (q_a0_told, .inl (cI, 163, .inl a0_told)), (q_a0_refused, .inl (cI, 3, .inl u_16))]) [1, 0, 2] rfl
          have hD9 := hD.sub (ws' := [(q_a0, .inr (8, [.ref q_a0_told, .ref q_a0_kept, .ref q_a0_isKept, .ref q_a0_refused, .long a0_above, .long a0_below, .ref q_a0_manyBy, .ref q_a0_hers, .ref q_a0_his, .ref q_a0_hand, .ref q_a0_bytes, .int a0_bytesLong, .int a0_tokenAt, .int a0_tokenLong, .int a0_token, .int a0_value, .ref q_a0_anew, .ref q_a0_values])), (q_a0_told, .inl (cI, 163, .inl a0_told)), (q_a0_refused, .inl (cI, 3, .inl u_16))]) [1, 0, 2] (by decide) rfl
          exact W.iret hx hb hr (fun t ht hW => ⟨⟨r_15, (a0_told, u_16), rfl, hf, by rw [ht]; exact hP9, hD9⟩, hS.F ht⟩) hS.2.2 dX9_seen_56
        · have hf := it_f c_14 hf
          refine lv_iload hx hb dX9_seen_37 (lv_at hl 5 rfl) ?_
          refine lv_i2l hx hb dX9_seen_39 rfl ?_
          refine lv_lconst (v := 1) hx hb dX9_seen_40 (by decide) ?_
          refine lv_ldc2 (v := 7) hx hb hown kc_153 dX9_seen_41 ?_
          refine ya_csi (va_runS (As := [.long x5.toInt64, .long 1, .long 7]) (rest := []) ⟨hx, hb, hml, hown, hts⟩ (c_X9_in l D cI cZ cO  x5.toInt64 1 7 _ hf) (va_cwS 3 hts gX9_seen_X9_in rfl rfl rfl (by decide +kernel) ⟨Nat.le_of_ble_eq_true rfl, Nat.le_of_ble_eq_true rfl⟩) (ps_ro va_P0 hX) rfl rfl hl.1 rfl (lv_room (Nat.le_of_ble_eq_true rfl)) dX9_seen_44 ⟨Nat.zero_le _, Nat.zero_le _⟩) (fun r_17 hf => ?_)
          refine lv_if_ne (tgt := 57) hx hb dX9_seen_47 (by decide) (fun c_18 => ?_) (fun c_18 => ?_)
          · have hf := it_f c_18 hf
            refine lv_aload_n hx hb dX9_seen_57 rfl (lv_at hl 0 rfl) ?_
            refine va_get (D := D) (ci := 8) (v := .ref q_a0_told) (C := RX9) (T := TX9) (N := 18) hx hb hts in_X9 hown hK hP 0 rfl rfl 0 (by decide) kf_7 (fun _ h9 => h9) rfl dX9_seen_58 ?_
            refine lv_iconst (v := 2) hx hb dX9_seen_61 (by decide) ?_
            refine va_iald hx hb hK hP 1 0 rfl rfl (by unfold vp_in; decide) dX9_seen_62 ?_
            refine lv_bipush (v := 6) hx hb dX9_seen_63 (by decide) ?_
            refine lv_icmp_ne (tgt := 73) hx hb dX9_seen_65 (by decide) (fun c_19 => ?_) (fun c_19 => ?_)
            · have hf := it_f c_19 hf
              refine lv_bipush (v := 45) hx hb dX9_seen_73 (by decide) ?_
              refine lv_iconst (v := 5) hx hb dX9_seen_75 (by decide) ?_
              refine lv_aload_n hx hb dX9_seen_76 rfl (lv_at hl 0 rfl) ?_
              refine va_get (D := D) (ci := 8) (v := .ref q_a0_told) (C := RX9) (T := TX9) (N := 18) hx hb hts in_X9 hown hK hP 0 rfl rfl 0 (by decide) kf_7 (fun _ h9 => h9) rfl dX9_seen_77 ?_
              refine lv_iconst (v := 2) hx hb dX9_seen_80 (by decide) ?_
              refine va_iald hx hb hK hP 1 0 rfl rfl (by unfold vp_in; decide) dX9_seen_81 ?_
              refine lv_imul hx hb dX9_seen_82 ?_
              refine lv_iadd hx hb dX9_seen_83 ?_
              refine lv_istore (lv' := [(6, .int (45 + (5 * (a0_told (2 : Int32).toNatClampNeg)))), (0, .ref q_a0), (1, .int x1), (2, .int x2), (3, .int x3), (4, .int x4), (5, .int x5)]) hx hb dX9_seen_84 hl (by decide) rfl (fun ls hl => ?_)
              refine lv_aload_n hx hb dX9_seen_86 rfl (lv_at hl 1 rfl) ?_
              refine va_get (D := D) (ci := 8) (v := .ref q_a0_told) (C := RX9) (T := TX9) (N := 18) hx hb hts in_X9 hown hK hP 0 rfl rfl 0 (by decide) kf_7 (fun _ h9 => h9) rfl dX9_seen_87 ?_
              refine lv_iload hx hb dX9_seen_90 (lv_at hl 0 rfl) ?_
              refine lv_iload_n hx hb dX9_seen_92 rfl (lv_at hl 2 rfl) ?_
              refine va_iast hx hb hK hP hD hS 1 0 rfl rfl hf.1 dX9_seen_93 (fun H locs hP hD hS => ?_)
              have hP : va_P D vwCl [(q_a0, .inr (8, [.ref q_a0_told, .ref q_a0_kept, .ref q_a0_isKept, .ref q_a0_refused, .long a0_above, .long a0_below, .ref q_a0_manyBy, .ref q_a0_hers, .ref q_a0_his, .ref q_a0_hand, .ref q_a0_bytes, .int a0_bytesLong, .int a0_tokenAt, .int a0_tokenLong, .int a0_token, .int a0_value, .ref q_a0_anew, .ref q_a0_values])), (q_a0_told, .inl (cI, 163, .inl (upd a0_told ((45 + (5 * (a0_told (2 : Int32).toNatClampNeg))).toNatClampNeg) x1))), (q_a0_refused, .inl (cI, 3, .inl a0_refused))] H := hP
              have hD : va_D A [(q_a0, .inr (8, [.ref q_a0_told, .ref q_a0_kept, .ref q_a0_isKept, .ref q_a0_refused, .long a0_above, .long a0_below, .ref q_a0_manyBy, .ref q_a0_hers, .ref q_a0_his, .ref q_a0_hand, .ref q_a0_bytes, .int a0_bytesLong, .int a0_tokenAt, .int a0_tokenLong, .int a0_token, .int a0_value, .ref q_a0_anew, .ref q_a0_values])), (q_a0_told, .inl (cI, 163, .inl (upd a0_told ((45 + (5 * (a0_told (2 : Int32).toNatClampNeg))).toNatClampNeg) x1))), (q_a0_refused, .inl (cI, 3, .inl a0_refused))] := hD
              have hf := hf.2
              refine lv_aload_n hx hb dX9_seen_94 rfl (lv_at hl 1 rfl) ?_
              refine va_get (D := D) (ci := 8) (v := .ref q_a0_told) (C := RX9) (T := TX9) (N := 18) hx hb hts in_X9 hown hK hP 0 rfl rfl 0 (by decide) kf_7 (fun _ h9 => h9) rfl dX9_seen_95 ?_
              refine lv_iload hx hb dX9_seen_98 (lv_at hl 0 rfl) ?_
              refine lv_iconst (v := 1) hx hb dX9_seen_100 (by decide) ?_
              refine lv_iadd hx hb dX9_seen_101 ?_
              refine lv_iload_n hx hb dX9_seen_102 rfl (lv_at hl 3 rfl) ?_
              refine va_iast hx hb hK hP hD hS 1 0 rfl rfl hf.1 dX9_seen_103 (fun H locs hP hD hS => ?_)
              have hP : va_P D vwCl [(q_a0, .inr (8, [.ref q_a0_told, .ref q_a0_kept, .ref q_a0_isKept, .ref q_a0_refused, .long a0_above, .long a0_below, .ref q_a0_manyBy, .ref q_a0_hers, .ref q_a0_his, .ref q_a0_hand, .ref q_a0_bytes, .int a0_bytesLong, .int a0_tokenAt, .int a0_tokenLong, .int a0_token, .int a0_value, .ref q_a0_anew, .ref q_a0_values])), (q_a0_told, .inl (cI, 163, .inl (upd (upd a0_told ((45 + (5 * (a0_told (2 : Int32).toNatClampNeg))).toNatClampNeg) x1) (((45 + (5 * (a0_told (2 : Int32).toNatClampNeg))) + 1).toNatClampNeg) x2))), (q_a0_refused, .inl (cI, 3, .inl a0_refused))] H := hP
              have hD : va_D A [(q_a0, .inr (8, [.ref q_a0_told, .ref q_a0_kept, .ref q_a0_isKept, .ref q_a0_refused, .long a0_above, .long a0_below, .ref q_a0_manyBy, .ref q_a0_hers, .ref q_a0_his, .ref q_a0_hand, .ref q_a0_bytes, .int a0_bytesLong, .int a0_tokenAt, .int a0_tokenLong, .int a0_token, .int a0_value, .ref q_a0_anew, .ref q_a0_values])), (q_a0_told, .inl (cI, 163, .inl (upd (upd a0_told ((45 + (5 * (a0_told (2 : Int32).toNatClampNeg))).toNatClampNeg) x1) (((45 + (5 * (a0_told (2 : Int32).toNatClampNeg))) + 1).toNatClampNeg) x2))), (q_a0_refused, .inl (cI, 3, .inl a0_refused))] := hD
              have hf := hf.2
              refine lv_aload_n hx hb dX9_seen_104 rfl (lv_at hl 1 rfl) ?_
              refine va_get (D := D) (ci := 8) (v := .ref q_a0_told) (C := RX9) (T := TX9) (N := 18) hx hb hts in_X9 hown hK hP 0 rfl rfl 0 (by decide) kf_7 (fun _ h9 => h9) rfl dX9_seen_105 ?_
              refine lv_iload hx hb dX9_seen_108 (lv_at hl 0 rfl) ?_
              refine lv_iconst (v := 2) hx hb dX9_seen_110 (by decide) ?_
              refine lv_iadd hx hb dX9_seen_111 ?_
              refine lv_iload_n hx hb dX9_seen_112 rfl (lv_at hl 4 rfl) ?_
              refine va_iast hx hb hK hP hD hS 1 0 rfl rfl hf.1 dX9_seen_113 (fun H locs hP hD hS => ?_)
              have hP : va_P D vwCl [(q_a0, .inr (8, [.ref q_a0_told, .ref q_a0_kept, .ref q_a0_isKept, .ref q_a0_refused, .long a0_above, .long a0_below, .ref q_a0_manyBy, .ref q_a0_hers, .ref q_a0_his, .ref q_a0_hand, .ref q_a0_bytes, .int a0_bytesLong, .int a0_tokenAt, .int a0_tokenLong, .int a0_token, .int a0_value, .ref q_a0_anew, .ref q_a0_values])), (q_a0_told, .inl (cI, 163, .inl (upd (upd (upd a0_told ((45 + (5 * (a0_told (2 : Int32).toNatClampNeg))).toNatClampNeg) x1) (((45 + (5 * (a0_told (2 : Int32).toNatClampNeg))) + 1).toNatClampNeg) x2) (((45 + (5 * (a0_told (2 : Int32).toNatClampNeg))) + 2).toNatClampNeg) x3))), (q_a0_refused, .inl (cI, 3, .inl a0_refused))] H := hP
              have hD : va_D A [(q_a0, .inr (8, [.ref q_a0_told, .ref q_a0_kept, .ref q_a0_isKept, .ref q_a0_refused, .long a0_above, .long a0_below, .ref q_a0_manyBy, .ref q_a0_hers, .ref q_a0_his, .ref q_a0_hand, .ref q_a0_bytes, .int a0_bytesLong, .int a0_tokenAt, .int a0_tokenLong, .int a0_token, .int a0_value, .ref q_a0_anew, .ref q_a0_values])), (q_a0_told, .inl (cI, 163, .inl (upd (upd (upd a0_told ((45 + (5 * (a0_told (2 : Int32).toNatClampNeg))).toNatClampNeg) x1) (((45 + (5 * (a0_told (2 : Int32).toNatClampNeg))) + 1).toNatClampNeg) x2) (((45 + (5 * (a0_told (2 : Int32).toNatClampNeg))) + 2).toNatClampNeg) x3))), (q_a0_refused, .inl (cI, 3, .inl a0_refused))] := hD
              have hf := hf.2
              refine lv_aload_n hx hb dX9_seen_114 rfl (lv_at hl 1 rfl) ?_
              refine va_get (D := D) (ci := 8) (v := .ref q_a0_told) (C := RX9) (T := TX9) (N := 18) hx hb hts in_X9 hown hK hP 0 rfl rfl 0 (by decide) kf_7 (fun _ h9 => h9) rfl dX9_seen_115 ?_
              refine lv_iload hx hb dX9_seen_118 (lv_at hl 0 rfl) ?_
              refine lv_iconst (v := 3) hx hb dX9_seen_120 (by decide) ?_
              refine lv_iadd hx hb dX9_seen_121 ?_
              refine lv_iload hx hb dX9_seen_122 (lv_at hl 5 rfl) ?_
              refine va_iast hx hb hK hP hD hS 1 0 rfl rfl hf.1 dX9_seen_124 (fun H locs hP hD hS => ?_)
              have hP : va_P D vwCl [(q_a0, .inr (8, [.ref q_a0_told, .ref q_a0_kept, .ref q_a0_isKept, .ref q_a0_refused, .long a0_above, .long a0_below, .ref q_a0_manyBy, .ref q_a0_hers, .ref q_a0_his, .ref q_a0_hand, .ref q_a0_bytes, .int a0_bytesLong, .int a0_tokenAt, .int a0_tokenLong, .int a0_token, .int a0_value, .ref q_a0_anew, .ref q_a0_values])), (q_a0_told, .inl (cI, 163, .inl (upd (upd (upd (upd a0_told ((45 + (5 * (a0_told (2 : Int32).toNatClampNeg))).toNatClampNeg) x1) (((45 + (5 * (a0_told (2 : Int32).toNatClampNeg))) + 1).toNatClampNeg) x2) (((45 + (5 * (a0_told (2 : Int32).toNatClampNeg))) + 2).toNatClampNeg) x3) (((45 + (5 * (a0_told (2 : Int32).toNatClampNeg))) + 3).toNatClampNeg) x4))), (q_a0_refused, .inl (cI, 3, .inl a0_refused))] H := hP
              have hD : va_D A [(q_a0, .inr (8, [.ref q_a0_told, .ref q_a0_kept, .ref q_a0_isKept, .ref q_a0_refused, .long a0_above, .long a0_below, .ref q_a0_manyBy, .ref q_a0_hers, .ref q_a0_his, .ref q_a0_hand, .ref q_a0_bytes, .int a0_bytesLong, .int a0_tokenAt, .int a0_tokenLong, .int a0_token, .int a0_value, .ref q_a0_anew, .ref q_a0_values])), (q_a0_told, .inl (cI, 163, .inl (upd (upd (upd (upd a0_told ((45 + (5 * (a0_told (2 : Int32).toNatClampNeg))).toNatClampNeg) x1) (((45 + (5 * (a0_told (2 : Int32).toNatClampNeg))) + 1).toNatClampNeg) x2) (((45 + (5 * (a0_told (2 : Int32).toNatClampNeg))) + 2).toNatClampNeg) x3) (((45 + (5 * (a0_told (2 : Int32).toNatClampNeg))) + 3).toNatClampNeg) x4))), (q_a0_refused, .inl (cI, 3, .inl a0_refused))] := hD
              have hf := hf.2
              refine lv_aload_n hx hb dX9_seen_125 rfl (lv_at hl 1 rfl) ?_
              refine va_get (D := D) (ci := 8) (v := .ref q_a0_told) (C := RX9) (T := TX9) (N := 18) hx hb hts in_X9 hown hK hP 0 rfl rfl 0 (by decide) kf_7 (fun _ h9 => h9) rfl dX9_seen_126 ?_
              refine lv_iload hx hb dX9_seen_129 (lv_at hl 0 rfl) ?_
              refine lv_iconst (v := 4) hx hb dX9_seen_131 (by decide) ?_
              refine lv_iadd hx hb dX9_seen_132 ?_
              refine lv_iload hx hb dX9_seen_133 (lv_at hl 6 rfl) ?_
              refine va_iast hx hb hK hP hD hS 1 0 rfl rfl hf.1 dX9_seen_135 (fun H locs hP hD hS => ?_)
              have hP : va_P D vwCl [(q_a0, .inr (8, [.ref q_a0_told, .ref q_a0_kept, .ref q_a0_isKept, .ref q_a0_refused, .long a0_above, .long a0_below, .ref q_a0_manyBy, .ref q_a0_hers, .ref q_a0_his, .ref q_a0_hand, .ref q_a0_bytes, .int a0_bytesLong, .int a0_tokenAt, .int a0_tokenLong, .int a0_token, .int a0_value, .ref q_a0_anew, .ref q_a0_values])), (q_a0_told, .inl (cI, 163, .inl (upd (upd (upd (upd (upd a0_told ((45 + (5 * (a0_told (2 : Int32).toNatClampNeg))).toNatClampNeg) x1) (((45 + (5 * (a0_told (2 : Int32).toNatClampNeg))) + 1).toNatClampNeg) x2) (((45 + (5 * (a0_told (2 : Int32).toNatClampNeg))) + 2).toNatClampNeg) x3) (((45 + (5 * (a0_told (2 : Int32).toNatClampNeg))) + 3).toNatClampNeg) x4) (((45 + (5 * (a0_told (2 : Int32).toNatClampNeg))) + 4).toNatClampNeg) x5))), (q_a0_refused, .inl (cI, 3, .inl a0_refused))] H := hP
              have hD : va_D A [(q_a0, .inr (8, [.ref q_a0_told, .ref q_a0_kept, .ref q_a0_isKept, .ref q_a0_refused, .long a0_above, .long a0_below, .ref q_a0_manyBy, .ref q_a0_hers, .ref q_a0_his, .ref q_a0_hand, .ref q_a0_bytes, .int a0_bytesLong, .int a0_tokenAt, .int a0_tokenLong, .int a0_token, .int a0_value, .ref q_a0_anew, .ref q_a0_values])), (q_a0_told, .inl (cI, 163, .inl (upd (upd (upd (upd (upd a0_told ((45 + (5 * (a0_told (2 : Int32).toNatClampNeg))).toNatClampNeg) x1) (((45 + (5 * (a0_told (2 : Int32).toNatClampNeg))) + 1).toNatClampNeg) x2) (((45 + (5 * (a0_told (2 : Int32).toNatClampNeg))) + 2).toNatClampNeg) x3) (((45 + (5 * (a0_told (2 : Int32).toNatClampNeg))) + 3).toNatClampNeg) x4) (((45 + (5 * (a0_told (2 : Int32).toNatClampNeg))) + 4).toNatClampNeg) x5))), (q_a0_refused, .inl (cI, 3, .inl a0_refused))] := hD
              have hf := hf.2
              refine lv_aload_n hx hb dX9_seen_136 rfl (lv_at hl 1 rfl) ?_
              refine va_get (D := D) (ci := 8) (v := .ref q_a0_told) (C := RX9) (T := TX9) (N := 18) hx hb hts in_X9 hown hK hP 0 rfl rfl 0 (by decide) kf_7 (fun _ h9 => h9) rfl dX9_seen_137 ?_
              refine lv_iconst (v := 2) hx hb dX9_seen_140 (by decide) ?_
              refine lv_dup2_11 hx hb dX9_seen_141 rfl rfl ?_
              refine va_iald hx hb hK hP 1 0 rfl rfl (by unfold vp_in; decide) dX9_seen_142 ?_
              refine lv_iconst (v := 1) hx hb dX9_seen_143 (by decide) ?_
              refine lv_iadd hx hb dX9_seen_144 ?_
              refine va_iast hx hb hK hP hD hS 1 0 rfl rfl (by unfold vp_in; decide) dX9_seen_145 (fun H locs hP hD hS => ?_)
              have hP : va_P D vwCl [(q_a0, .inr (8, [.ref q_a0_told, .ref q_a0_kept, .ref q_a0_isKept, .ref q_a0_refused, .long a0_above, .long a0_below, .ref q_a0_manyBy, .ref q_a0_hers, .ref q_a0_his, .ref q_a0_hand, .ref q_a0_bytes, .int a0_bytesLong, .int a0_tokenAt, .int a0_tokenLong, .int a0_token, .int a0_value, .ref q_a0_anew, .ref q_a0_values])), (q_a0_told, .inl (cI, 163, .inl (upd (upd (upd (upd (upd (upd a0_told ((45 + (5 * (a0_told (2 : Int32).toNatClampNeg))).toNatClampNeg) x1) (((45 + (5 * (a0_told (2 : Int32).toNatClampNeg))) + 1).toNatClampNeg) x2) (((45 + (5 * (a0_told (2 : Int32).toNatClampNeg))) + 2).toNatClampNeg) x3) (((45 + (5 * (a0_told (2 : Int32).toNatClampNeg))) + 3).toNatClampNeg) x4) (((45 + (5 * (a0_told (2 : Int32).toNatClampNeg))) + 4).toNatClampNeg) x5) ((2 : Int32).toNatClampNeg) (((upd (upd (upd (upd (upd a0_told ((45 + (5 * (a0_told (2 : Int32).toNatClampNeg))).toNatClampNeg) x1) (((45 + (5 * (a0_told (2 : Int32).toNatClampNeg))) + 1).toNatClampNeg) x2) (((45 + (5 * (a0_told (2 : Int32).toNatClampNeg))) + 2).toNatClampNeg) x3) (((45 + (5 * (a0_told (2 : Int32).toNatClampNeg))) + 3).toNatClampNeg) x4) (((45 + (5 * (a0_told (2 : Int32).toNatClampNeg))) + 4).toNatClampNeg) x5) (2 : Int32).toNatClampNeg) + 1)))), (q_a0_refused, .inl (cI, 3, .inl a0_refused))] H := hP
              have hD : va_D A [(q_a0, .inr (8, [.ref q_a0_told, .ref q_a0_kept, .ref q_a0_isKept, .ref q_a0_refused, .long a0_above, .long a0_below, .ref q_a0_manyBy, .ref q_a0_hers, .ref q_a0_his, .ref q_a0_hand, .ref q_a0_bytes, .int a0_bytesLong, .int a0_tokenAt, .int a0_tokenLong, .int a0_token, .int a0_value, .ref q_a0_anew, .ref q_a0_values])), (q_a0_told, .inl (cI, 163, .inl (upd (upd (upd (upd (upd (upd a0_told ((45 + (5 * (a0_told (2 : Int32).toNatClampNeg))).toNatClampNeg) x1) (((45 + (5 * (a0_told (2 : Int32).toNatClampNeg))) + 1).toNatClampNeg) x2) (((45 + (5 * (a0_told (2 : Int32).toNatClampNeg))) + 2).toNatClampNeg) x3) (((45 + (5 * (a0_told (2 : Int32).toNatClampNeg))) + 3).toNatClampNeg) x4) (((45 + (5 * (a0_told (2 : Int32).toNatClampNeg))) + 4).toNatClampNeg) x5) ((2 : Int32).toNatClampNeg) (((upd (upd (upd (upd (upd a0_told ((45 + (5 * (a0_told (2 : Int32).toNatClampNeg))).toNatClampNeg) x1) (((45 + (5 * (a0_told (2 : Int32).toNatClampNeg))) + 1).toNatClampNeg) x2) (((45 + (5 * (a0_told (2 : Int32).toNatClampNeg))) + 2).toNatClampNeg) x3) (((45 + (5 * (a0_told (2 : Int32).toNatClampNeg))) + 3).toNatClampNeg) x4) (((45 + (5 * (a0_told (2 : Int32).toNatClampNeg))) + 4).toNatClampNeg) x5) (2 : Int32).toNatClampNeg) + 1)))), (q_a0_refused, .inl (cI, 3, .inl a0_refused))] := hD
              refine lv_aload_n hx hb dX9_seen_146 rfl (lv_at hl 1 rfl) ?_
              refine va_get (D := D) (ci := 8) (v := .ref q_a0_told) (C := RX9) (T := TX9) (N := 18) hx hb hts in_X9 hown hK hP 0 rfl rfl 0 (by decide) kf_7 (fun _ h9 => h9) rfl dX9_seen_147 ?_
              refine lv_iconst (v := 2) hx hb dX9_seen_150 (by decide) ?_
              refine va_iald hx hb hK hP 1 0 rfl rfl (by unfold vp_in; decide) dX9_seen_151 ?_
              subst hQQ
              have hP9 := hP.sub (ws' := [(q_a0, .inr (8, [.ref q_a0_told, .ref q_a0_kept, .ref q_a0_isKept, .ref q_a0_refused, .long a0_above, .long a0_below, .ref q_a0_manyBy, .ref q_a0_hers, .ref q_a0_his, .ref q_a0_hand, .ref q_a0_bytes, .int a0_bytesLong, .int a0_tokenAt, .int a0_tokenLong, .int a0_token, .int a0_value, .ref q_a0_anew, .ref q_a0_values])), (q_a0_told, .inl (cI, 163, .inl (upd (upd (upd (upd (upd (upd a0_told ((45 + (5 * (a0_told (2 : Int32).toNatClampNeg))).toNatClampNeg) x1) (((45 + (5 * (a0_told (2 : Int32).toNatClampNeg))) + 1).toNatClampNeg) x2) (((45 + (5 * (a0_told (2 : Int32).toNatClampNeg))) + 2).toNatClampNeg) x3) (((45 + (5 * (a0_told (2 : Int32).toNatClampNeg))) + 3).toNatClampNeg) x4) (((45 + (5 * (a0_told (2 : Int32).toNatClampNeg))) + 4).toNatClampNeg) x5) ((2 : Int32).toNatClampNeg) (((upd (upd (upd (upd (upd a0_told ((45 + (5 * (a0_told (2 : Int32).toNatClampNeg))).toNatClampNeg) x1) (((45 + (5 * (a0_told (2 : Int32).toNatClampNeg))) + 1).toNatClampNeg) x2) (((45 + (5 * (a0_told (2 : Int32).toNatClampNeg))) + 2).toNatClampNeg) x3) (((45 + (5 * (a0_told (2 : Int32).toNatClampNeg))) + 3).toNatClampNeg) x4) (((45 + (5 * (a0_told (2 : Int32).toNatClampNeg))) + 4).toNatClampNeg) x5) (2 : Int32).toNatClampNeg) + 1)))), (q_a0_refused, .inl (cI, 3, .inl a0_refused))]) [0, 1, 2] rfl
              have hD9 := hD.sub (ws' := [(q_a0, .inr (8, [.ref q_a0_told, .ref q_a0_kept, .ref q_a0_isKept, .ref q_a0_refused, .long a0_above, .long a0_below, .ref q_a0_manyBy, .ref q_a0_hers, .ref q_a0_his, .ref q_a0_hand, .ref q_a0_bytes, .int a0_bytesLong, .int a0_tokenAt, .int a0_tokenLong, .int a0_token, .int a0_value, .ref q_a0_anew, .ref q_a0_values])), (q_a0_told, .inl (cI, 163, .inl (upd (upd (upd (upd (upd (upd a0_told ((45 + (5 * (a0_told (2 : Int32).toNatClampNeg))).toNatClampNeg) x1) (((45 + (5 * (a0_told (2 : Int32).toNatClampNeg))) + 1).toNatClampNeg) x2) (((45 + (5 * (a0_told (2 : Int32).toNatClampNeg))) + 2).toNatClampNeg) x3) (((45 + (5 * (a0_told (2 : Int32).toNatClampNeg))) + 3).toNatClampNeg) x4) (((45 + (5 * (a0_told (2 : Int32).toNatClampNeg))) + 4).toNatClampNeg) x5) ((2 : Int32).toNatClampNeg) (((upd (upd (upd (upd (upd a0_told ((45 + (5 * (a0_told (2 : Int32).toNatClampNeg))).toNatClampNeg) x1) (((45 + (5 * (a0_told (2 : Int32).toNatClampNeg))) + 1).toNatClampNeg) x2) (((45 + (5 * (a0_told (2 : Int32).toNatClampNeg))) + 2).toNatClampNeg) x3) (((45 + (5 * (a0_told (2 : Int32).toNatClampNeg))) + 3).toNatClampNeg) x4) (((45 + (5 * (a0_told (2 : Int32).toNatClampNeg))) + 4).toNatClampNeg) x5) (2 : Int32).toNatClampNeg) + 1)))), (q_a0_refused, .inl (cI, 3, .inl a0_refused))]) [0, 1, 2] (by decide) rfl
              exact W.iret hx hb hr (fun t ht hW => ⟨⟨((upd (upd (upd (upd (upd (upd a0_told ((45 + (5 * (a0_told (2 : Int32).toNatClampNeg))).toNatClampNeg) x1) (((45 + (5 * (a0_told (2 : Int32).toNatClampNeg))) + 1).toNatClampNeg) x2) (((45 + (5 * (a0_told (2 : Int32).toNatClampNeg))) + 2).toNatClampNeg) x3) (((45 + (5 * (a0_told (2 : Int32).toNatClampNeg))) + 3).toNatClampNeg) x4) (((45 + (5 * (a0_told (2 : Int32).toNatClampNeg))) + 4).toNatClampNeg) x5) ((2 : Int32).toNatClampNeg) (((upd (upd (upd (upd (upd a0_told ((45 + (5 * (a0_told (2 : Int32).toNatClampNeg))).toNatClampNeg) x1) (((45 + (5 * (a0_told (2 : Int32).toNatClampNeg))) + 1).toNatClampNeg) x2) (((45 + (5 * (a0_told (2 : Int32).toNatClampNeg))) + 2).toNatClampNeg) x3) (((45 + (5 * (a0_told (2 : Int32).toNatClampNeg))) + 3).toNatClampNeg) x4) (((45 + (5 * (a0_told (2 : Int32).toNatClampNeg))) + 4).toNatClampNeg) x5) (2 : Int32).toNatClampNeg) + 1)) (2 : Int32).toNatClampNeg), (upd (upd (upd (upd (upd (upd a0_told ((45 + (5 * (a0_told (2 : Int32).toNatClampNeg))).toNatClampNeg) x1) (((45 + (5 * (a0_told (2 : Int32).toNatClampNeg))) + 1).toNatClampNeg) x2) (((45 + (5 * (a0_told (2 : Int32).toNatClampNeg))) + 2).toNatClampNeg) x3) (((45 + (5 * (a0_told (2 : Int32).toNatClampNeg))) + 3).toNatClampNeg) x4) (((45 + (5 * (a0_told (2 : Int32).toNatClampNeg))) + 4).toNatClampNeg) x5) ((2 : Int32).toNatClampNeg) (((upd (upd (upd (upd (upd a0_told ((45 + (5 * (a0_told (2 : Int32).toNatClampNeg))).toNatClampNeg) x1) (((45 + (5 * (a0_told (2 : Int32).toNatClampNeg))) + 1).toNatClampNeg) x2) (((45 + (5 * (a0_told (2 : Int32).toNatClampNeg))) + 2).toNatClampNeg) x3) (((45 + (5 * (a0_told (2 : Int32).toNatClampNeg))) + 3).toNatClampNeg) x4) (((45 + (5 * (a0_told (2 : Int32).toNatClampNeg))) + 4).toNatClampNeg) x5) (2 : Int32).toNatClampNeg) + 1), a0_refused), rfl, hf, by rw [ht]; exact hP9, hD9⟩, hS.F ht⟩) hS.2.2 dX9_seen_152
            · have hf := it_t c_19 hf
              refine lv_aload_n hx hb dX9_seen_68 rfl (lv_at hl 0 rfl) ?_
              have hPc := hP.sub (ws' := [(q_a0, .inr (8, [.ref q_a0_told, .ref q_a0_kept, .ref q_a0_isKept, .ref q_a0_refused, .long a0_above, .long a0_below, .ref q_a0_manyBy, .ref q_a0_hers, .ref q_a0_his, .ref q_a0_hand, .ref q_a0_bytes, .int a0_bytesLong, .int a0_tokenAt, .int a0_tokenLong, .int a0_token, .int a0_value, .ref q_a0_anew, .ref q_a0_values])), (q_a0_refused, .inl (cI, 3, .inl a0_refused))]) [0, 2] rfl
              have hDc := hD.sub (ws' := [(q_a0, .inr (8, [.ref q_a0_told, .ref q_a0_kept, .ref q_a0_isKept, .ref q_a0_refused, .long a0_above, .long a0_below, .ref q_a0_manyBy, .ref q_a0_hers, .ref q_a0_his, .ref q_a0_hand, .ref q_a0_bytes, .int a0_bytesLong, .int a0_tokenAt, .int a0_tokenLong, .int a0_token, .int a0_value, .ref q_a0_anew, .ref q_a0_values])), (q_a0_refused, .inl (cI, 3, .inl a0_refused))]) [0, 2] (by decide) rfl
              have hFc := va_free (wc := [(q_a0, .inr (8, [.ref q_a0_told, .ref q_a0_kept, .ref q_a0_isKept, .ref q_a0_refused, .long a0_above, .long a0_below, .ref q_a0_manyBy, .ref q_a0_hers, .ref q_a0_his, .ref q_a0_hand, .ref q_a0_bytes, .int a0_bytesLong, .int a0_tokenAt, .int a0_tokenLong, .int a0_token, .int a0_value, .ref q_a0_anew, .ref q_a0_values])), (q_a0_refused, .inl (cI, 3, .inl a0_refused))]) hD hS hA [0, 2] rfl
              refine va_calli (va_runV (As := []) (rest := []) ⟨hx, hb, hml, hown, hts⟩ (c_X9_full l D cI cZ cO q_a0 q_a0_told q_a0_kept q_a0_isKept q_a0_refused q_a0_manyBy q_a0_hers q_a0_his q_a0_hand q_a0_bytes q_a0_anew q_a0_values a0_above a0_below a0_bytesLong a0_tokenAt a0_tokenLong a0_token a0_value a0_refused s.heap.size  _ hf) (cwV 0 hts gX9_seen_X9_full rfl rfl rfl (by decide +kernel) ⟨Nat.le_of_ble_eq_true rfl, Nat.le_of_ble_eq_true rfl⟩) (pv_rw (ci := 8) (q0 := 0) hPc hDc hX rfl rfl) rfl rfl hl.1 rfl (lv_room (Nat.le_of_ble_eq_true rfl)) dX9_seen_69 ⟨Nat.zero_le _, Nat.zero_le _⟩) hS (fun q _ h => hFc q h) hFc (fun r_20 u t H1 locs ht hvm hf hB hz1 hk1 hS => ?_)
              obtain ⟨u_21, rfl⟩ : ∃ z, z = u := ⟨_, rfl⟩
              obtain ⟨hP1, hD1⟩ := hB
              rw [ht] at hP1
              clear hvm
              obtain ⟨hP, hD⟩ := va_join (wr := [(q_a0_told, .inl (cI, 163, .inl a0_told))]) (w1 := [(q_a0, .inr (8, [.ref q_a0_told, .ref q_a0_kept, .ref q_a0_isKept, .ref q_a0_refused, .long a0_above, .long a0_below, .ref q_a0_manyBy, .ref q_a0_hers, .ref q_a0_his, .ref q_a0_hand, .ref q_a0_bytes, .int a0_bytesLong, .int a0_tokenAt, .int a0_tokenLong, .int a0_token, .int a0_value, .ref q_a0_anew, .ref q_a0_values])), (q_a0_refused, .inl (cI, 3, .inl u_21))]) hP hD [0, 2] [1] rfl rfl (by decide) (by decide) hk1 hFc hP1 hD1
              clear hz1 hk1 hPc hDc hFc hP1 hD1
              generalize H1 = H at hP hS ⊢
              have hP : va_P D vwCl [(q_a0_told, .inl (cI, 163, .inl a0_told)), (q_a0, .inr (8, [.ref q_a0_told, .ref q_a0_kept, .ref q_a0_isKept, .ref q_a0_refused, .long a0_above, .long a0_below, .ref q_a0_manyBy, .ref q_a0_hers, .ref q_a0_his, .ref q_a0_hand, .ref q_a0_bytes, .int a0_bytesLong, .int a0_tokenAt, .int a0_tokenLong, .int a0_token, .int a0_value, .ref q_a0_anew, .ref q_a0_values])), (q_a0_refused, .inl (cI, 3, .inl u_21))] H := hP
              have hD : va_D A [(q_a0_told, .inl (cI, 163, .inl a0_told)), (q_a0, .inr (8, [.ref q_a0_told, .ref q_a0_kept, .ref q_a0_isKept, .ref q_a0_refused, .long a0_above, .long a0_below, .ref q_a0_manyBy, .ref q_a0_hers, .ref q_a0_his, .ref q_a0_hand, .ref q_a0_bytes, .int a0_bytesLong, .int a0_tokenAt, .int a0_tokenLong, .int a0_token, .int a0_value, .ref q_a0_anew, .ref q_a0_values])), (q_a0_refused, .inl (cI, 3, .inl u_21))] := hD
              subst hQQ
              have hP9 := hP.sub (ws' := [(q_a0, .inr (8, [.ref q_a0_told, .ref q_a0_kept, .ref q_a0_isKept, .ref q_a0_refused, .long a0_above, .long a0_below, .ref q_a0_manyBy, .ref q_a0_hers, .ref q_a0_his, .ref q_a0_hand, .ref q_a0_bytes, .int a0_bytesLong, .int a0_tokenAt, .int a0_tokenLong, .int a0_token, .int a0_value, .ref q_a0_anew, .ref q_a0_values])), (q_a0_told, .inl (cI, 163, .inl a0_told)), (q_a0_refused, .inl (cI, 3, .inl u_21))]) [1, 0, 2] rfl
              have hD9 := hD.sub (ws' := [(q_a0, .inr (8, [.ref q_a0_told, .ref q_a0_kept, .ref q_a0_isKept, .ref q_a0_refused, .long a0_above, .long a0_below, .ref q_a0_manyBy, .ref q_a0_hers, .ref q_a0_his, .ref q_a0_hand, .ref q_a0_bytes, .int a0_bytesLong, .int a0_tokenAt, .int a0_tokenLong, .int a0_token, .int a0_value, .ref q_a0_anew, .ref q_a0_values])), (q_a0_told, .inl (cI, 163, .inl a0_told)), (q_a0_refused, .inl (cI, 3, .inl u_21))]) [1, 0, 2] (by decide) rfl
              exact W.iret hx hb hr (fun t ht hW => ⟨⟨r_20, (a0_told, u_21), rfl, hf, by rw [ht]; exact hP9, hD9⟩, hS.F ht⟩) hS.2.2 dX9_seen_72
          · have hf := it_t c_18 hf
            refine lv_aload_n hx hb dX9_seen_50 rfl (lv_at hl 0 rfl) ?_
            refine lv_bipush (v := (-2)) hx hb dX9_seen_51 (by decide) ?_
            have hPc := hP.sub (ws' := [(q_a0, .inr (8, [.ref q_a0_told, .ref q_a0_kept, .ref q_a0_isKept, .ref q_a0_refused, .long a0_above, .long a0_below, .ref q_a0_manyBy, .ref q_a0_hers, .ref q_a0_his, .ref q_a0_hand, .ref q_a0_bytes, .int a0_bytesLong, .int a0_tokenAt, .int a0_tokenLong, .int a0_token, .int a0_value, .ref q_a0_anew, .ref q_a0_values])), (q_a0_refused, .inl (cI, 3, .inl a0_refused))]) [0, 2] rfl
            have hDc := hD.sub (ws' := [(q_a0, .inr (8, [.ref q_a0_told, .ref q_a0_kept, .ref q_a0_isKept, .ref q_a0_refused, .long a0_above, .long a0_below, .ref q_a0_manyBy, .ref q_a0_hers, .ref q_a0_his, .ref q_a0_hand, .ref q_a0_bytes, .int a0_bytesLong, .int a0_tokenAt, .int a0_tokenLong, .int a0_token, .int a0_value, .ref q_a0_anew, .ref q_a0_values])), (q_a0_refused, .inl (cI, 3, .inl a0_refused))]) [0, 2] (by decide) rfl
            have hFc := va_free (wc := [(q_a0, .inr (8, [.ref q_a0_told, .ref q_a0_kept, .ref q_a0_isKept, .ref q_a0_refused, .long a0_above, .long a0_below, .ref q_a0_manyBy, .ref q_a0_hers, .ref q_a0_his, .ref q_a0_hand, .ref q_a0_bytes, .int a0_bytesLong, .int a0_tokenAt, .int a0_tokenLong, .int a0_token, .int a0_value, .ref q_a0_anew, .ref q_a0_values])), (q_a0_refused, .inl (cI, 3, .inl a0_refused))]) hD hS hA [0, 2] rfl
            refine va_calli (va_runV (As := [.int (-2)]) (rest := []) ⟨hx, hb, hml, hown, hts⟩ (c_X9_bad l D cI cZ cO q_a0 q_a0_told q_a0_kept q_a0_isKept q_a0_refused q_a0_manyBy q_a0_hers q_a0_his q_a0_hand q_a0_bytes q_a0_anew q_a0_values a0_above a0_below a0_bytesLong a0_tokenAt a0_tokenLong a0_token a0_value a0_refused s.heap.size (-2) _ hf) (cwV 1 hts gX9_seen_X9_bad rfl rfl rfl (by decide +kernel) ⟨Nat.le_of_ble_eq_true rfl, Nat.le_of_ble_eq_true rfl⟩) (pv_rw (ci := 8) (q0 := 0) hPc hDc hX rfl rfl) rfl rfl hl.1 rfl (lv_room (Nat.le_of_ble_eq_true rfl)) dX9_seen_53 ⟨Nat.zero_le _, Nat.zero_le _⟩) hS (fun q _ h => hFc q h) hFc (fun r_22 u t H1 locs ht hvm hf hB hz1 hk1 hS => ?_)
            obtain ⟨u_23, rfl⟩ : ∃ z, z = u := ⟨_, rfl⟩
            obtain ⟨hP1, hD1⟩ := hB
            rw [ht] at hP1
            clear hvm
            obtain ⟨hP, hD⟩ := va_join (wr := [(q_a0_told, .inl (cI, 163, .inl a0_told))]) (w1 := [(q_a0, .inr (8, [.ref q_a0_told, .ref q_a0_kept, .ref q_a0_isKept, .ref q_a0_refused, .long a0_above, .long a0_below, .ref q_a0_manyBy, .ref q_a0_hers, .ref q_a0_his, .ref q_a0_hand, .ref q_a0_bytes, .int a0_bytesLong, .int a0_tokenAt, .int a0_tokenLong, .int a0_token, .int a0_value, .ref q_a0_anew, .ref q_a0_values])), (q_a0_refused, .inl (cI, 3, .inl u_23))]) hP hD [0, 2] [1] rfl rfl (by decide) (by decide) hk1 hFc hP1 hD1
            clear hz1 hk1 hPc hDc hFc hP1 hD1
            generalize H1 = H at hP hS ⊢
            have hP : va_P D vwCl [(q_a0_told, .inl (cI, 163, .inl a0_told)), (q_a0, .inr (8, [.ref q_a0_told, .ref q_a0_kept, .ref q_a0_isKept, .ref q_a0_refused, .long a0_above, .long a0_below, .ref q_a0_manyBy, .ref q_a0_hers, .ref q_a0_his, .ref q_a0_hand, .ref q_a0_bytes, .int a0_bytesLong, .int a0_tokenAt, .int a0_tokenLong, .int a0_token, .int a0_value, .ref q_a0_anew, .ref q_a0_values])), (q_a0_refused, .inl (cI, 3, .inl u_23))] H := hP
            have hD : va_D A [(q_a0_told, .inl (cI, 163, .inl a0_told)), (q_a0, .inr (8, [.ref q_a0_told, .ref q_a0_kept, .ref q_a0_isKept, .ref q_a0_refused, .long a0_above, .long a0_below, .ref q_a0_manyBy, .ref q_a0_hers, .ref q_a0_his, .ref q_a0_hand, .ref q_a0_bytes, .int a0_bytesLong, .int a0_tokenAt, .int a0_tokenLong, .int a0_token, .int a0_value, .ref q_a0_anew, .ref q_a0_values])), (q_a0_refused, .inl (cI, 3, .inl u_23))] := hD
            subst hQQ
            have hP9 := hP.sub (ws' := [(q_a0, .inr (8, [.ref q_a0_told, .ref q_a0_kept, .ref q_a0_isKept, .ref q_a0_refused, .long a0_above, .long a0_below, .ref q_a0_manyBy, .ref q_a0_hers, .ref q_a0_his, .ref q_a0_hand, .ref q_a0_bytes, .int a0_bytesLong, .int a0_tokenAt, .int a0_tokenLong, .int a0_token, .int a0_value, .ref q_a0_anew, .ref q_a0_values])), (q_a0_told, .inl (cI, 163, .inl a0_told)), (q_a0_refused, .inl (cI, 3, .inl u_23))]) [1, 0, 2] rfl
            have hD9 := hD.sub (ws' := [(q_a0, .inr (8, [.ref q_a0_told, .ref q_a0_kept, .ref q_a0_isKept, .ref q_a0_refused, .long a0_above, .long a0_below, .ref q_a0_manyBy, .ref q_a0_hers, .ref q_a0_his, .ref q_a0_hand, .ref q_a0_bytes, .int a0_bytesLong, .int a0_tokenAt, .int a0_tokenLong, .int a0_token, .int a0_value, .ref q_a0_anew, .ref q_a0_values])), (q_a0_told, .inl (cI, 163, .inl a0_told)), (q_a0_refused, .inl (cI, 3, .inl u_23))]) [1, 0, 2] (by decide) rfl
            exact W.iret hx hb hr (fun t ht hW => ⟨⟨r_22, (a0_told, u_23), rfl, hf, by rw [ht]; exact hP9, hD9⟩, hS.F ht⟩) hS.2.2 dX9_seen_56
def p_X9_forget (a0_told : Nat → Int32) (a0_refused : Nat → Int32) (x1 : Int32) (Q : Int32 → (Nat → Int32) → (Nat → Int32) → Prop) : Prop :=
  p_X9_in x1.toInt64 0 1 (fun r_1 => if r_1 = 0 then (p_X9_bad a0_refused (-2) (fun r_3 u_4 => Q r_3 a0_told u_4)) else (vp_in (1 + x1) 163 ∧ (vp_in (1 + x1) 163 ∧ (Q (a0_told (1 + x1).toNatClampNeg) (upd a0_told ((1 + x1).toNatClampNeg) 0) a0_refused))))
def rmX9_forget : Room := { frames := 1, cells := 0, slots := 0, locals := 25 }
set_option maxHeartbeats 4000000 in
set_option maxRecDepth 100000 in
theorem c_X9_forget (l : Launch) (D : va_G) (cI cZ cO : ClassId) (q_a0 q_a0_told q_a0_kept q_a0_isKept q_a0_refused q_a0_manyBy q_a0_hers q_a0_his q_a0_hand q_a0_bytes q_a0_anew q_a0_values : Nat) (a0_above : Int64) (a0_below : Int64) (a0_bytesLong : Int32) (a0_tokenAt : Int32) (a0_tokenLong : Int32) (a0_token : Int32) (a0_value : Int32) (a0_told : Nat → Int32) (a0_refused : Nat → Int32) (sz : Nat) (x1 : Int32) (Q : Int32 → (Nat → Int32) → (Nat → Int32) → Prop) (hf : p_X9_forget a0_told a0_refused x1 Q) : Met l yX9_forget wsX9_forget rmX9_forget (va_Pc [.ref q_a0, .int x1] (fun U => U.heap.size = sz ∧ va_P D vwCl [(q_a0, .inr (8, [.ref q_a0_told, .ref q_a0_kept, .ref q_a0_isKept, .ref q_a0_refused, .long a0_above, .long a0_below, .ref q_a0_manyBy, .ref q_a0_hers, .ref q_a0_his, .ref q_a0_hand, .ref q_a0_bytes, .int a0_bytesLong, .int a0_tokenAt, .int a0_tokenLong, .int a0_token, .int a0_value, .ref q_a0_anew, .ref q_a0_values])), (q_a0_told, .inl (cI, 163, .inl a0_told)), (q_a0_refused, .inl (cI, 3, .inl a0_refused))] U.heap ∧ XK D cI cZ cO U ∧ va_D (fun _ => True) [(q_a0, .inr (8, [.ref q_a0_told, .ref q_a0_kept, .ref q_a0_isKept, .ref q_a0_refused, .long a0_above, .long a0_below, .ref q_a0_manyBy, .ref q_a0_hers, .ref q_a0_his, .ref q_a0_hand, .ref q_a0_bytes, .int a0_bytesLong, .int a0_tokenAt, .int a0_tokenLong, .int a0_token, .int a0_value, .ref q_a0_anew, .ref q_a0_values])), (q_a0_told, .inl (cI, 163, .inl a0_told)), (q_a0_refused, .inl (cI, 3, .inl a0_refused))])) (va_Qi (fun r (u : (Nat → Int32) × (Nat → Int32)) => Q r u.1 u.2) (fun (u : (Nat → Int32) × (Nat → Int32)) t => va_P D vwCl [(q_a0, .inr (8, [.ref q_a0_told, .ref q_a0_kept, .ref q_a0_isKept, .ref q_a0_refused, .long a0_above, .long a0_below, .ref q_a0_manyBy, .ref q_a0_hers, .ref q_a0_his, .ref q_a0_hand, .ref q_a0_bytes, .int a0_bytesLong, .int a0_tokenAt, .int a0_tokenLong, .int a0_token, .int a0_value, .ref q_a0_anew, .ref q_a0_values])), (q_a0_told, .inl (cI, 163, .inl u.1)), (q_a0_refused, .inl (cI, 3, .inl u.2))] t.heap ∧ va_D (va_A [(q_a0, .inr (8, [.ref q_a0_told, .ref q_a0_kept, .ref q_a0_isKept, .ref q_a0_refused, .long a0_above, .long a0_below, .ref q_a0_manyBy, .ref q_a0_hers, .ref q_a0_his, .ref q_a0_hand, .ref q_a0_bytes, .int a0_bytesLong, .int a0_tokenAt, .int a0_tokenLong, .int a0_token, .int a0_value, .ref q_a0_anew, .ref q_a0_values])), (q_a0_told, .inl (cI, 163, .inl a0_told)), (q_a0_refused, .inl (cI, 3, .inl a0_refused))] sz) [(q_a0, .inr (8, [.ref q_a0_told, .ref q_a0_kept, .ref q_a0_isKept, .ref q_a0_refused, .long a0_above, .long a0_below, .ref q_a0_manyBy, .ref q_a0_hers, .ref q_a0_his, .ref q_a0_hand, .ref q_a0_bytes, .int a0_bytesLong, .int a0_tokenAt, .int a0_tokenLong, .int a0_token, .int a0_value, .ref q_a0_anew, .ref q_a0_values])), (q_a0_told, .inl (cI, 163, .inl u.1)), (q_a0_refused, .inl (cI, 3, .inl u.2))]) (va_A [(q_a0, .inr (8, [.ref q_a0_told, .ref q_a0_kept, .ref q_a0_isKept, .ref q_a0_refused, .long a0_above, .long a0_below, .ref q_a0_manyBy, .ref q_a0_hers, .ref q_a0_his, .ref q_a0_hand, .ref q_a0_bytes, .int a0_bytesLong, .int a0_tokenAt, .int a0_tokenLong, .int a0_token, .int a0_value, .ref q_a0_anew, .ref q_a0_values])), (q_a0_told, .inl (cI, 163, .inl a0_told)), (q_a0_refused, .inl (cI, 3, .inl a0_refused))] sz)) 0 0 (va_A [(q_a0, .inr (8, [.ref q_a0_told, .ref q_a0_kept, .ref q_a0_isKept, .ref q_a0_refused, .long a0_above, .long a0_below, .ref q_a0_manyBy, .ref q_a0_hers, .ref q_a0_his, .ref q_a0_hand, .ref q_a0_bytes, .int a0_bytesLong, .int a0_tokenAt, .int a0_tokenLong, .int a0_token, .int a0_value, .ref q_a0_anew, .ref q_a0_values])), (q_a0_told, .inl (cI, 163, .inl a0_told)), (q_a0_refused, .inl (cI, 3, .inl a0_refused))] sz) := by
  refine Met.ofW (cc := cX9_forget) (maxL := 3) (ret := (some .int)) (by decide) rfl ?_
  intro p e s m args below meth c s₁ B hml hv
  obtain ⟨rfl, hsz, hP, hX, hD0⟩ := hv
  have hK := hX.1
  have hx := B.exec
  have hb := B.bytes
  have hr := B.returns
  have hts := atoms_spec (ws := wsX9_forget) B.pre
  have hown : s.vm.findClass RX9 = some m.cls := findClass_of_methodNamed B.named
  have hlocks := B.notSynchronized
  have in_X9 : ∀ w ∈ wsX90, w ∈ wsX9_forget := fun _ h => List.mem_cons_of_mem _ (List.mem_append_right _ h)
  have kf_7 := hts (.fieldLink RX9 7 "LeftCrestModel" "told" "[I") (by decide +kernel)
  subst hsz
  have hD := hD0.self (sz := s.heap.size)
  generalize hAe : va_A [(q_a0, .inr (8, [.ref q_a0_told, .ref q_a0_kept, .ref q_a0_isKept, .ref q_a0_refused, .long a0_above, .long a0_below, .ref q_a0_manyBy, .ref q_a0_hers, .ref q_a0_his, .ref q_a0_hand, .ref q_a0_bytes, .int a0_bytesLong, .int a0_tokenAt, .int a0_tokenLong, .int a0_token, .int a0_value, .ref q_a0_anew, .ref q_a0_values])), (q_a0_told, .inl (cI, 163, .inl a0_told)), (q_a0_refused, .inl (cI, 3, .inl a0_refused))] s.heap.size = A at hD ⊢
  have hA : ∀ q : Nat, s.heap.size ≤ q → A q := fun q h => by rw [← hAe]; exact Or.inr h
  have hS : va_S A s.heap s.heap [] := va_S.rf
  have hP : va_P D vwCl [(q_a0, .inr (8, [.ref q_a0_told, .ref q_a0_kept, .ref q_a0_isKept, .ref q_a0_refused, .long a0_above, .long a0_below, .ref q_a0_manyBy, .ref q_a0_hers, .ref q_a0_his, .ref q_a0_hand, .ref q_a0_bytes, .int a0_bytesLong, .int a0_tokenAt, .int a0_tokenLong, .int a0_token, .int a0_value, .ref q_a0_anew, .ref q_a0_values])), (q_a0_told, .inl (cI, 163, .inl a0_told)), (q_a0_refused, .inl (cI, 3, .inl a0_refused))] s.heap := hP
  generalize hQQ : MQ below _ _ s _ _ _ = QQ
  have hl := lv_entry ([.ref q_a0, .int x1]) (n := 3) (Nat.le_of_ble_eq_true rfl)
  rw [lg_entry_eq]
  generalize (lg_sl ([.ref q_a0, .int x1]) ++ List.replicate (3 - (lg_sl ([.ref q_a0, .int x1])).length) Slot.unset).toArray = ls at hl ⊢
  have hl : lv_has ls 3 [(0, .ref q_a0), (1, .int x1)] := hl
  unfold p_X9_forget at hf
  refine lv_iload_n hx hb dX9_forget_0 rfl (lv_at hl 1 rfl) ?_
  refine lv_i2l hx hb dX9_forget_1 rfl ?_
  refine lv_lconst (v := 0) hx hb dX9_forget_2 (by decide) ?_
  refine lv_lconst (v := 1) hx hb dX9_forget_3 (by decide) ?_
  refine ya_csi (va_runS (As := [.long x1.toInt64, .long 0, .long 1]) (rest := []) ⟨hx, hb, hml, hown, hts⟩ (c_X9_in l D cI cZ cO  x1.toInt64 0 1 _ hf) (va_cwS 3 hts gX9_forget_X9_in rfl rfl rfl (by decide +kernel) ⟨Nat.le_of_ble_eq_true rfl, Nat.le_of_ble_eq_true rfl⟩) (ps_ro va_P0 hX) rfl rfl hl.1 rfl (lv_room (Nat.le_of_ble_eq_true rfl)) dX9_forget_4 ⟨Nat.zero_le _, Nat.zero_le _⟩) (fun r_1 hf => ?_)
  refine lv_if_ne (tgt := 17) hx hb dX9_forget_7 (by decide) (fun c_2 => ?_) (fun c_2 => ?_)
  · have hf := it_f c_2 hf
    refine lv_aload_n hx hb dX9_forget_17 rfl (lv_at hl 0 rfl) ?_
    refine va_get (D := D) (ci := 8) (v := .ref q_a0_told) (C := RX9) (T := TX9) (N := 18) hx hb hts in_X9 hown hK hP 0 rfl rfl 0 (by decide) kf_7 (fun _ h9 => h9) rfl dX9_forget_18 ?_
    refine lv_iconst (v := 1) hx hb dX9_forget_21 (by decide) ?_
    refine lv_iload_n hx hb dX9_forget_22 rfl (lv_at hl 1 rfl) ?_
    refine lv_iadd hx hb dX9_forget_23 ?_
    refine va_iald hx hb hK hP 1 0 rfl rfl hf.1 dX9_forget_24 ?_
    have hf := hf.2
    refine lv_istore_n (lv' := [(2, .int (a0_told (1 + x1).toNatClampNeg)), (0, .ref q_a0), (1, .int x1)]) hx hb dX9_forget_25 rfl hl (by decide) rfl (fun ls hl => ?_)
    refine lv_aload_n hx hb dX9_forget_26 rfl (lv_at hl 1 rfl) ?_
    refine va_get (D := D) (ci := 8) (v := .ref q_a0_told) (C := RX9) (T := TX9) (N := 18) hx hb hts in_X9 hown hK hP 0 rfl rfl 0 (by decide) kf_7 (fun _ h9 => h9) rfl dX9_forget_27 ?_
    refine lv_iconst (v := 1) hx hb dX9_forget_30 (by decide) ?_
    refine lv_iload_n hx hb dX9_forget_31 rfl (lv_at hl 2 rfl) ?_
    refine lv_iadd hx hb dX9_forget_32 ?_
    refine lv_iconst (v := 0) hx hb dX9_forget_33 (by decide) ?_
    refine va_iast hx hb hK hP hD hS 1 0 rfl rfl hf.1 dX9_forget_34 (fun H locs hP hD hS => ?_)
    have hP : va_P D vwCl [(q_a0, .inr (8, [.ref q_a0_told, .ref q_a0_kept, .ref q_a0_isKept, .ref q_a0_refused, .long a0_above, .long a0_below, .ref q_a0_manyBy, .ref q_a0_hers, .ref q_a0_his, .ref q_a0_hand, .ref q_a0_bytes, .int a0_bytesLong, .int a0_tokenAt, .int a0_tokenLong, .int a0_token, .int a0_value, .ref q_a0_anew, .ref q_a0_values])), (q_a0_told, .inl (cI, 163, .inl (upd a0_told ((1 + x1).toNatClampNeg) 0))), (q_a0_refused, .inl (cI, 3, .inl a0_refused))] H := hP
    have hD : va_D A [(q_a0, .inr (8, [.ref q_a0_told, .ref q_a0_kept, .ref q_a0_isKept, .ref q_a0_refused, .long a0_above, .long a0_below, .ref q_a0_manyBy, .ref q_a0_hers, .ref q_a0_his, .ref q_a0_hand, .ref q_a0_bytes, .int a0_bytesLong, .int a0_tokenAt, .int a0_tokenLong, .int a0_token, .int a0_value, .ref q_a0_anew, .ref q_a0_values])), (q_a0_told, .inl (cI, 163, .inl (upd a0_told ((1 + x1).toNatClampNeg) 0))), (q_a0_refused, .inl (cI, 3, .inl a0_refused))] := hD
    have hf := hf.2
    refine lv_iload_n hx hb dX9_forget_35 rfl (lv_at hl 0 rfl) ?_
    subst hQQ
    have hP9 := hP.sub (ws' := [(q_a0, .inr (8, [.ref q_a0_told, .ref q_a0_kept, .ref q_a0_isKept, .ref q_a0_refused, .long a0_above, .long a0_below, .ref q_a0_manyBy, .ref q_a0_hers, .ref q_a0_his, .ref q_a0_hand, .ref q_a0_bytes, .int a0_bytesLong, .int a0_tokenAt, .int a0_tokenLong, .int a0_token, .int a0_value, .ref q_a0_anew, .ref q_a0_values])), (q_a0_told, .inl (cI, 163, .inl (upd a0_told ((1 + x1).toNatClampNeg) 0))), (q_a0_refused, .inl (cI, 3, .inl a0_refused))]) [0, 1, 2] rfl
    have hD9 := hD.sub (ws' := [(q_a0, .inr (8, [.ref q_a0_told, .ref q_a0_kept, .ref q_a0_isKept, .ref q_a0_refused, .long a0_above, .long a0_below, .ref q_a0_manyBy, .ref q_a0_hers, .ref q_a0_his, .ref q_a0_hand, .ref q_a0_bytes, .int a0_bytesLong, .int a0_tokenAt, .int a0_tokenLong, .int a0_token, .int a0_value, .ref q_a0_anew, .ref q_a0_values])), (q_a0_told, .inl (cI, 163, .inl (upd a0_told ((1 + x1).toNatClampNeg) 0))), (q_a0_refused, .inl (cI, 3, .inl a0_refused))]) [0, 1, 2] (by decide) rfl
    exact W.iret hx hb hr (fun t ht hW => ⟨⟨(a0_told (1 + x1).toNatClampNeg), (upd a0_told ((1 + x1).toNatClampNeg) 0, a0_refused), rfl, hf, by rw [ht]; exact hP9, hD9⟩, hS.F ht⟩) hS.2.2 dX9_forget_36
  · have hf := it_t c_2 hf
    refine lv_aload_n hx hb dX9_forget_10 rfl (lv_at hl 0 rfl) ?_
    refine lv_bipush (v := (-2)) hx hb dX9_forget_11 (by decide) ?_
    have hPc := hP.sub (ws' := [(q_a0, .inr (8, [.ref q_a0_told, .ref q_a0_kept, .ref q_a0_isKept, .ref q_a0_refused, .long a0_above, .long a0_below, .ref q_a0_manyBy, .ref q_a0_hers, .ref q_a0_his, .ref q_a0_hand, .ref q_a0_bytes, .int a0_bytesLong, .int a0_tokenAt, .int a0_tokenLong, .int a0_token, .int a0_value, .ref q_a0_anew, .ref q_a0_values])), (q_a0_refused, .inl (cI, 3, .inl a0_refused))]) [0, 2] rfl
    have hDc := hD.sub (ws' := [(q_a0, .inr (8, [.ref q_a0_told, .ref q_a0_kept, .ref q_a0_isKept, .ref q_a0_refused, .long a0_above, .long a0_below, .ref q_a0_manyBy, .ref q_a0_hers, .ref q_a0_his, .ref q_a0_hand, .ref q_a0_bytes, .int a0_bytesLong, .int a0_tokenAt, .int a0_tokenLong, .int a0_token, .int a0_value, .ref q_a0_anew, .ref q_a0_values])), (q_a0_refused, .inl (cI, 3, .inl a0_refused))]) [0, 2] (by decide) rfl
    have hFc := va_free (wc := [(q_a0, .inr (8, [.ref q_a0_told, .ref q_a0_kept, .ref q_a0_isKept, .ref q_a0_refused, .long a0_above, .long a0_below, .ref q_a0_manyBy, .ref q_a0_hers, .ref q_a0_his, .ref q_a0_hand, .ref q_a0_bytes, .int a0_bytesLong, .int a0_tokenAt, .int a0_tokenLong, .int a0_token, .int a0_value, .ref q_a0_anew, .ref q_a0_values])), (q_a0_refused, .inl (cI, 3, .inl a0_refused))]) hD hS hA [0, 2] rfl
    refine va_calli (va_runV (As := [.int (-2)]) (rest := []) ⟨hx, hb, hml, hown, hts⟩ (c_X9_bad l D cI cZ cO q_a0 q_a0_told q_a0_kept q_a0_isKept q_a0_refused q_a0_manyBy q_a0_hers q_a0_his q_a0_hand q_a0_bytes q_a0_anew q_a0_values a0_above a0_below a0_bytesLong a0_tokenAt a0_tokenLong a0_token a0_value a0_refused s.heap.size (-2) _ hf) (cwV 1 hts gX9_forget_X9_bad rfl rfl rfl (by decide +kernel) ⟨Nat.le_of_ble_eq_true rfl, Nat.le_of_ble_eq_true rfl⟩) (pv_rw (ci := 8) (q0 := 0) hPc hDc hX rfl rfl) rfl rfl hl.1 rfl (lv_room (Nat.le_of_ble_eq_true rfl)) dX9_forget_13 ⟨Nat.zero_le _, Nat.zero_le _⟩) hS (fun q _ h => hFc q h) hFc (fun r_3 u t H1 locs ht hvm hf hB hz1 hk1 hS => ?_)
    obtain ⟨u_4, rfl⟩ : ∃ z, z = u := ⟨_, rfl⟩
    obtain ⟨hP1, hD1⟩ := hB
    rw [ht] at hP1
    clear hvm
    obtain ⟨hP, hD⟩ := va_join (wr := [(q_a0_told, .inl (cI, 163, .inl a0_told))]) (w1 := [(q_a0, .inr (8, [.ref q_a0_told, .ref q_a0_kept, .ref q_a0_isKept, .ref q_a0_refused, .long a0_above, .long a0_below, .ref q_a0_manyBy, .ref q_a0_hers, .ref q_a0_his, .ref q_a0_hand, .ref q_a0_bytes, .int a0_bytesLong, .int a0_tokenAt, .int a0_tokenLong, .int a0_token, .int a0_value, .ref q_a0_anew, .ref q_a0_values])), (q_a0_refused, .inl (cI, 3, .inl u_4))]) hP hD [0, 2] [1] rfl rfl (by decide) (by decide) hk1 hFc hP1 hD1
    clear hz1 hk1 hPc hDc hFc hP1 hD1
    generalize H1 = H at hP hS ⊢
    have hP : va_P D vwCl [(q_a0_told, .inl (cI, 163, .inl a0_told)), (q_a0, .inr (8, [.ref q_a0_told, .ref q_a0_kept, .ref q_a0_isKept, .ref q_a0_refused, .long a0_above, .long a0_below, .ref q_a0_manyBy, .ref q_a0_hers, .ref q_a0_his, .ref q_a0_hand, .ref q_a0_bytes, .int a0_bytesLong, .int a0_tokenAt, .int a0_tokenLong, .int a0_token, .int a0_value, .ref q_a0_anew, .ref q_a0_values])), (q_a0_refused, .inl (cI, 3, .inl u_4))] H := hP
    have hD : va_D A [(q_a0_told, .inl (cI, 163, .inl a0_told)), (q_a0, .inr (8, [.ref q_a0_told, .ref q_a0_kept, .ref q_a0_isKept, .ref q_a0_refused, .long a0_above, .long a0_below, .ref q_a0_manyBy, .ref q_a0_hers, .ref q_a0_his, .ref q_a0_hand, .ref q_a0_bytes, .int a0_bytesLong, .int a0_tokenAt, .int a0_tokenLong, .int a0_token, .int a0_value, .ref q_a0_anew, .ref q_a0_values])), (q_a0_refused, .inl (cI, 3, .inl u_4))] := hD
    subst hQQ
    have hP9 := hP.sub (ws' := [(q_a0, .inr (8, [.ref q_a0_told, .ref q_a0_kept, .ref q_a0_isKept, .ref q_a0_refused, .long a0_above, .long a0_below, .ref q_a0_manyBy, .ref q_a0_hers, .ref q_a0_his, .ref q_a0_hand, .ref q_a0_bytes, .int a0_bytesLong, .int a0_tokenAt, .int a0_tokenLong, .int a0_token, .int a0_value, .ref q_a0_anew, .ref q_a0_values])), (q_a0_told, .inl (cI, 163, .inl a0_told)), (q_a0_refused, .inl (cI, 3, .inl u_4))]) [1, 0, 2] rfl
    have hD9 := hD.sub (ws' := [(q_a0, .inr (8, [.ref q_a0_told, .ref q_a0_kept, .ref q_a0_isKept, .ref q_a0_refused, .long a0_above, .long a0_below, .ref q_a0_manyBy, .ref q_a0_hers, .ref q_a0_his, .ref q_a0_hand, .ref q_a0_bytes, .int a0_bytesLong, .int a0_tokenAt, .int a0_tokenLong, .int a0_token, .int a0_value, .ref q_a0_anew, .ref q_a0_values])), (q_a0_told, .inl (cI, 163, .inl a0_told)), (q_a0_refused, .inl (cI, 3, .inl u_4))]) [1, 0, 2] (by decide) rfl
    exact W.iret hx hb hr (fun t ht hW => ⟨⟨r_3, (a0_told, u_4), rfl, hf, by rw [ht]; exact hP9, hD9⟩, hS.F ht⟩) hS.2.2 dX9_forget_16
def jX9_kindsThat_110 (k_3 : Int32 → Int32 → Prop) (v_1 : Int32) (v_2 : Int32) (v_4 : Int32) : Prop :=
  if v_4 = 0 then (k_3 (v_1 ||| 0) (v_2 + 1)) else (k_3 (v_1 ||| (1 <<< (v_2 &&& 31))) (v_2 + 1))
def jX9_kindsThat_83 (a0_told : Nat → Int32) (k_9 : Int32 → Int32 → Prop) (v_8 : Int32) (v_10 : Int32) (t_11 : Int32) (t_12 : Int32) (t_13 : Int32) (t_14 : Int32) (t_15 : Int32) : Prop :=
  p_X9_paceAs t_11 t_12 t_13 t_14 t_15 (fun r_16 => vp_in (v_10 + 4) 163 ∧ (if r_16 = (a0_told (v_10 + 4).toNatClampNeg) then (k_9 1 (v_8 + 1)) else (k_9 0 (v_8 + 1))))
def bX9_kindsThat_15 (a0_told : Nat → Int32) (k_3 : Int32 → Int32 → Prop) (v_1 : Int32) (v_2 : Int32) (k_9 : Int32 → Int32 → Prop) (v_7 : Int32) (v_8 : Int32) : Prop :=
  if (a0_told (2 : Int32).toNatClampNeg) ≤ v_8 then (jX9_kindsThat_110 k_3 v_1 v_2 v_7) else (if v_7 = 0 then (k_9 0 (v_8 + 1)) else (vp_in (45 + (5 * v_8)) 163 ∧ (vp_in ((45 + (5 * v_8)) + 1) 163 ∧ (vp_in ((45 + (5 * v_8)) + 2) 163 ∧ (vp_in ((45 + (5 * v_8)) + 3) 163 ∧ (if (a0_told ((45 + (5 * v_8)) + 3).toNatClampNeg) = 1 then (jX9_kindsThat_83 a0_told k_9 v_8 (45 + (5 * v_8)) v_2 (a0_told (45 + (5 * v_8)).toNatClampNeg) (a0_told ((45 + (5 * v_8)) + 1).toNatClampNeg) (a0_told ((45 + (5 * v_8)) + 2).toNatClampNeg) 1) else (jX9_kindsThat_83 a0_told k_9 v_8 (45 + (5 * v_8)) v_2 (a0_told (45 + (5 * v_8)).toNatClampNeg) (a0_told ((45 + (5 * v_8)) + 1).toNatClampNeg) (a0_told ((45 + (5 * v_8)) + 2).toNatClampNeg) 0)))))))
def bX9_kindsThat_4 (a0_told : Nat → Int32) (Q : Int32 → Prop) (k_3 : Int32 → Int32 → Prop) (v_1 : Int32) (v_2 : Int32) : Prop :=
  if 6 ≤ v_2 then (Q v_1) else (lq2 (bX9_kindsThat_15 a0_told k_3 v_1 v_2) 1000 1 0)
def p_X9_kindsThat (a0_told : Nat → Int32) (Q : Int32 → Prop) : Prop :=
  lq2 (bX9_kindsThat_4 a0_told Q) 1000 0 0
def rmX9_kindsThat : Room := { frames := 1, cells := 0, slots := 0, locals := 27 }
set_option maxHeartbeats 4000000 in
set_option maxRecDepth 100000 in
theorem c_X9_kindsThat (l : Launch) (D : va_G) (cI cZ cO : ClassId) (q_a0 q_a0_told q_a0_kept q_a0_isKept q_a0_refused q_a0_manyBy q_a0_hers q_a0_his q_a0_hand q_a0_bytes q_a0_anew q_a0_values : Nat) (a0_above : Int64) (a0_below : Int64) (a0_bytesLong : Int32) (a0_tokenAt : Int32) (a0_tokenLong : Int32) (a0_token : Int32) (a0_value : Int32) (a0_told : Nat → Int32) (Q : Int32 → Prop) (hf : p_X9_kindsThat a0_told Q) : Met l yX9_kindsThat wsX9_kindsThat rmX9_kindsThat (va_Pc [.ref q_a0] (fun U => va_P D vwCl [(q_a0, .inr (8, [.ref q_a0_told, .ref q_a0_kept, .ref q_a0_isKept, .ref q_a0_refused, .long a0_above, .long a0_below, .ref q_a0_manyBy, .ref q_a0_hers, .ref q_a0_his, .ref q_a0_hand, .ref q_a0_bytes, .int a0_bytesLong, .int a0_tokenAt, .int a0_tokenLong, .int a0_token, .int a0_value, .ref q_a0_anew, .ref q_a0_values])), (q_a0_told, .inl (cI, 163, .inl a0_told))] U.heap ∧ XK D cI cZ cO U)) (vp_Si Q) 0 0 (fun _ => False) := by
  refine Met.ofW (cc := cX9_kindsThat) (maxL := 6) (ret := (some .int)) (by decide) rfl ?_
  intro p e s m args below meth c s₁ B hml hv
  obtain ⟨rfl, hP, hX⟩ := hv
  have hK := hX.1
  have hx := B.exec
  have hb := B.bytes
  have hr := B.returns
  have hts := atoms_spec (ws := wsX9_kindsThat) B.pre
  have hown : s.vm.findClass RX9 = some m.cls := findClass_of_methodNamed B.named
  have hlocks := B.notSynchronized
  have in_X9 : ∀ w ∈ wsX90, w ∈ wsX9_kindsThat := fun _ h => List.mem_cons_of_mem _ (List.mem_append_right _ h)
  have kf_7 := hts (.fieldLink RX9 7 "LeftCrestModel" "told" "[I") (by decide +kernel)
  generalize hQQ : MQ below _ _ s _ _ _ = QQ
  have hl := lv_entry ([.ref q_a0]) (n := 6) (Nat.le_of_ble_eq_true rfl)
  rw [lg_entry_eq]
  generalize (lg_sl ([.ref q_a0]) ++ List.replicate (6 - (lg_sl ([.ref q_a0])).length) Slot.unset).toArray = ls at hl ⊢
  have hl : lv_has ls 6 [(0, .ref q_a0)] := hl
  unfold p_X9_kindsThat at hf
  refine lv_iconst (v := 0) hx hb dX9_kindsThat_0 (by decide) ?_
  refine lv_istore_n (lv' := [(1, .int 0), (0, .ref q_a0)]) hx hb dX9_kindsThat_1 rfl hl (by decide) rfl (fun ls hl => ?_)
  refine lv_iconst (v := 0) hx hb dX9_kindsThat_2 (by decide) ?_
  refine lv_istore_n (lv' := [(2, .int 0), (1, .int 0), (0, .ref q_a0)]) hx hb dX9_kindsThat_3 rfl hl (by decide) rfl (fun ls hl => ?_)
  have hlp_4 : ∀ (n_4 : Nat) (v_1 : Int32) (v_2 : Int32) (ls : Array Slot), lq2 (bX9_kindsThat_4 a0_told Q) n_4 v_1 v_2 → lv_has ls 6 [(0, .ref q_a0), (1, .int v_1), (2, .int v_2)] → W p l e (headSpec wsX9_kindsThat rmX9_kindsThat).room s m ([.ref q_a0] : List Value).toArray below meth c s.heap [] 0 0 QQ (F0 m 4 ls []) := by
    intro n_4
    induction n_4 with
    | zero => intro v_1 v_2 ls hf; exact (lq2_0 hf).elim
    | succ n_4 ih =>
      have ih_4 := ih
      intro v_1 v_2 ls hf hl
      have hj_110 : ∀ (v_4 : Int32), jX9_kindsThat_110 (lq2 (bX9_kindsThat_4 a0_told Q) n_4) v_1 v_2 v_4 → ∀ ls : Array Slot, lv_has ls 6 [(0, .ref q_a0), (1, .int v_1), (2, .int v_2), (3, .int v_4)] → W p l e (headSpec wsX9_kindsThat rmX9_kindsThat).room s m ([.ref q_a0] : List Value).toArray below meth c s.heap [] 0 0 QQ (F0 m 110 ls []) := by
        intro v_4 hf ls hl
        unfold jX9_kindsThat_110 at hf
        refine lv_iload_n hx hb dX9_kindsThat_110 rfl (lv_at hl 1 rfl) ?_
        refine lv_iload_n hx hb dX9_kindsThat_111 rfl (lv_at hl 3 rfl) ?_
        refine lv_if_eq (tgt := 121) hx hb dX9_kindsThat_112 (by decide) (fun c_5 => ?_) (fun c_5 => ?_)
        · have hf := it_t c_5 hf
          refine lv_iconst (v := 0) hx hb dX9_kindsThat_121 (by decide) ?_
          refine lv_ior hx hb dX9_kindsThat_122 ?_
          refine lv_istore_n (lv' := [(1, .int (v_1 ||| 0)), (0, .ref q_a0), (2, .int v_2), (3, .int v_4)]) hx hb dX9_kindsThat_123 rfl hl (by decide) rfl (fun ls hl => ?_)
          refine lv_iinc (v := v_2 + 1) (lv' := [(2, .int (v_2 + 1)), (1, .int (v_1 ||| 0)), (0, .ref q_a0), (3, .int v_4)]) hx hb dX9_kindsThat_124 hl (k := 2) rfl rfl (by decide) rfl (fun ls hl => ?_)
          refine lv_goto (tgt := 4) hx hb dX9_kindsThat_127 (by decide) ?_
          exact ih (v_1 ||| 0) (v_2 + 1) ls hf (lv_sub hl [2, 1, 0] rfl)
        · have hf := it_f c_5 hf
          refine lv_iconst (v := 1) hx hb dX9_kindsThat_115 (by decide) ?_
          refine lv_iload_n hx hb dX9_kindsThat_116 rfl (lv_at hl 2 rfl) ?_
          refine lv_ishl hx hb dX9_kindsThat_117 ?_
          refine lv_goto (tgt := 122) hx hb dX9_kindsThat_118 (by decide) ?_
          refine lv_ior hx hb dX9_kindsThat_122 ?_
          refine lv_istore_n (lv' := [(1, .int (v_1 ||| (1 <<< (v_2 &&& 31)))), (0, .ref q_a0), (2, .int v_2), (3, .int v_4)]) hx hb dX9_kindsThat_123 rfl hl (by decide) rfl (fun ls hl => ?_)
          refine lv_iinc (v := v_2 + 1) (lv' := [(2, .int (v_2 + 1)), (1, .int (v_1 ||| (1 <<< (v_2 &&& 31)))), (0, .ref q_a0), (3, .int v_4)]) hx hb dX9_kindsThat_124 hl (k := 2) rfl rfl (by decide) rfl (fun ls hl => ?_)
          refine lv_goto (tgt := 4) hx hb dX9_kindsThat_127 (by decide) ?_
          exact ih (v_1 ||| (1 <<< (v_2 &&& 31))) (v_2 + 1) ls hf (lv_sub hl [2, 1, 0] rfl)
      have hf := lq2_s hf
      unfold bX9_kindsThat_4 at hf
      refine lv_iload_n hx hb dX9_kindsThat_4 rfl (lv_at hl 2 rfl) ?_
      refine lv_bipush (v := 6) hx hb dX9_kindsThat_5 (by decide) ?_
      refine lv_icmp_ge (tgt := 130) hx hb dX9_kindsThat_7 (by decide) (fun c_6 => ?_) (fun c_6 => ?_)
      · have hf := it_t c_6 hf
        refine lv_iload_n hx hb dX9_kindsThat_130 rfl (lv_at hl 1 rfl) ?_
        subst hQQ
        exact W.iret hx hb hr (fun t ht hW => ⟨_, rfl, hf, ht⟩) (fun _ h => absurd h List.not_mem_nil) dX9_kindsThat_131
      · have hf := it_f c_6 hf
        refine lv_iconst (v := 1) hx hb dX9_kindsThat_10 (by decide) ?_
        refine lv_istore_n (lv' := [(3, .int 1), (0, .ref q_a0), (1, .int v_1), (2, .int v_2)]) hx hb dX9_kindsThat_11 rfl hl (by decide) rfl (fun ls hl => ?_)
        refine lv_iconst (v := 0) hx hb dX9_kindsThat_12 (by decide) ?_
        refine lv_istore (lv' := [(4, .int 0), (3, .int 1), (0, .ref q_a0), (1, .int v_1), (2, .int v_2)]) hx hb dX9_kindsThat_13 hl (by decide) rfl (fun ls hl => ?_)
        have hlp_15 : ∀ (n_15 : Nat) (v_7 : Int32) (v_8 : Int32) (ls : Array Slot), lq2 (bX9_kindsThat_15 a0_told (lq2 (bX9_kindsThat_4 a0_told Q) n_4) v_1 v_2) n_15 v_7 v_8 → lv_has ls 6 [(0, .ref q_a0), (1, .int v_1), (2, .int v_2), (3, .int v_7), (4, .int v_8)] → W p l e (headSpec wsX9_kindsThat rmX9_kindsThat).room s m ([.ref q_a0] : List Value).toArray below meth c s.heap [] 0 0 QQ (F0 m 15 ls []) := by
          intro n_15
          induction n_15 with
          | zero => intro v_7 v_8 ls hf; exact (lq2_0 hf).elim
          | succ n_15 ih =>
            have ih_15 := ih
            intro v_7 v_8 ls hf hl
            have hj_83 : ∀ (v_10 : Int32) (t_11 : Int32) (t_12 : Int32) (t_13 : Int32) (t_14 : Int32) (t_15 : Int32), jX9_kindsThat_83 a0_told (lq2 (bX9_kindsThat_15 a0_told (lq2 (bX9_kindsThat_4 a0_told Q) n_4) v_1 v_2) n_15) v_8 v_10 t_11 t_12 t_13 t_14 t_15 → ∀ ls : Array Slot, lv_has ls 6 [(0, .ref q_a0), (1, .int v_1), (2, .int v_2), (4, .int v_8), (5, .int v_10)] → W p l e (headSpec wsX9_kindsThat rmX9_kindsThat).room s m ([.ref q_a0] : List Value).toArray below meth c s.heap [] 0 0 QQ (F0 m 83 ls [.int t_15, .int t_14, .int t_13, .int t_12, .int t_11]) := by
              intro v_10 t_11 t_12 t_13 t_14 t_15 hf ls hl
              unfold jX9_kindsThat_83 at hf
              refine ya_csi (va_runS (As := [.int t_11, .int t_12, .int t_13, .int t_14, .int t_15]) (rest := []) ⟨hx, hb, hml, hown, hts⟩ (c_X9_paceAs l D cI cZ cO  t_11 t_12 t_13 t_14 t_15 _ hf) (va_cwS 5 hts gX9_kindsThat_X9_paceAs rfl rfl rfl (by decide +kernel) ⟨Nat.le_of_ble_eq_true rfl, Nat.le_of_ble_eq_true rfl⟩) (ps_ro va_P0 hX) rfl rfl hl.1 rfl (lv_room (Nat.le_of_ble_eq_true rfl)) dX9_kindsThat_83 ⟨Nat.zero_le _, Nat.zero_le _⟩) (fun r_16 hf => ?_)
              refine lv_aload_n hx hb dX9_kindsThat_86 rfl (lv_at hl 0 rfl) ?_
              refine va_get (D := D) (ci := 8) (v := .ref q_a0_told) (C := RX9) (T := TX9) (N := 18) hx hb hts in_X9 hown hK hP 0 rfl rfl 0 (by decide) kf_7 (fun _ h9 => h9) rfl dX9_kindsThat_87 ?_
              refine lv_iload hx hb dX9_kindsThat_90 (lv_at hl 4 rfl) ?_
              refine lv_iconst (v := 4) hx hb dX9_kindsThat_92 (by decide) ?_
              refine lv_iadd hx hb dX9_kindsThat_93 ?_
              refine va_iald hx hb hK hP 1 0 rfl rfl hf.1 dX9_kindsThat_94 ?_
              have hf := hf.2
              refine lv_icmp_ne (tgt := 102) hx hb dX9_kindsThat_95 (by decide) (fun c_17 => ?_) (fun c_17 => ?_)
              · have hf := it_f c_17 hf
                refine lv_iconst (v := 0) hx hb dX9_kindsThat_102 (by decide) ?_
                refine lv_istore_n (lv' := [(3, .int 0), (0, .ref q_a0), (1, .int v_1), (2, .int v_2), (4, .int v_8), (5, .int v_10)]) hx hb dX9_kindsThat_103 rfl hl (by decide) rfl (fun ls hl => ?_)
                refine lv_iinc (v := v_8 + 1) (lv' := [(4, .int (v_8 + 1)), (3, .int 0), (0, .ref q_a0), (1, .int v_1), (2, .int v_2), (5, .int v_10)]) hx hb dX9_kindsThat_104 hl (k := 4) rfl rfl (by decide) rfl (fun ls hl => ?_)
                refine lv_goto (tgt := 15) hx hb dX9_kindsThat_107 (by decide) ?_
                exact ih 0 (v_8 + 1) ls hf (lv_sub hl [2, 3, 4, 1, 0] rfl)
              · have hf := it_t c_17 hf
                refine lv_iconst (v := 1) hx hb dX9_kindsThat_98 (by decide) ?_
                refine lv_goto (tgt := 103) hx hb dX9_kindsThat_99 (by decide) ?_
                refine lv_istore_n (lv' := [(3, .int 1), (0, .ref q_a0), (1, .int v_1), (2, .int v_2), (4, .int v_8), (5, .int v_10)]) hx hb dX9_kindsThat_103 rfl hl (by decide) rfl (fun ls hl => ?_)
                refine lv_iinc (v := v_8 + 1) (lv' := [(4, .int (v_8 + 1)), (3, .int 1), (0, .ref q_a0), (1, .int v_1), (2, .int v_2), (5, .int v_10)]) hx hb dX9_kindsThat_104 hl (k := 4) rfl rfl (by decide) rfl (fun ls hl => ?_)
                refine lv_goto (tgt := 15) hx hb dX9_kindsThat_107 (by decide) ?_
                exact ih 1 (v_8 + 1) ls hf (lv_sub hl [2, 3, 4, 1, 0] rfl)
            have hf := lq2_s hf
            unfold bX9_kindsThat_15 at hf
            refine lv_iload hx hb dX9_kindsThat_15 (lv_at hl 4 rfl) ?_
            refine lv_aload_n hx hb dX9_kindsThat_17 rfl (lv_at hl 0 rfl) ?_
            refine va_get (D := D) (ci := 8) (v := .ref q_a0_told) (C := RX9) (T := TX9) (N := 18) hx hb hts in_X9 hown hK hP 0 rfl rfl 0 (by decide) kf_7 (fun _ h9 => h9) rfl dX9_kindsThat_18 ?_
            refine lv_iconst (v := 2) hx hb dX9_kindsThat_21 (by decide) ?_
            refine va_iald hx hb hK hP 1 0 rfl rfl (by unfold vp_in; decide) dX9_kindsThat_22 ?_
            refine lv_icmp_ge (tgt := 110) hx hb dX9_kindsThat_23 (by decide) (fun c_18 => ?_) (fun c_18 => ?_)
            · have hf := it_t c_18 hf
              exact hj_110 v_7 hf ls (lv_sub hl [0, 1, 2, 3] rfl)
            · have hf := it_f c_18 hf
              refine lv_bipush (v := 45) hx hb dX9_kindsThat_26 (by decide) ?_
              refine lv_iconst (v := 5) hx hb dX9_kindsThat_28 (by decide) ?_
              refine lv_iload hx hb dX9_kindsThat_29 (lv_at hl 4 rfl) ?_
              refine lv_imul hx hb dX9_kindsThat_31 ?_
              refine lv_iadd hx hb dX9_kindsThat_32 ?_
              refine lv_istore (lv' := [(5, .int (45 + (5 * v_8))), (0, .ref q_a0), (1, .int v_1), (2, .int v_2), (3, .int v_7), (4, .int v_8)]) hx hb dX9_kindsThat_33 hl (by decide) rfl (fun ls hl => ?_)
              refine lv_iload_n hx hb dX9_kindsThat_35 rfl (lv_at hl 4 rfl) ?_
              refine lv_if_eq (tgt := 102) hx hb dX9_kindsThat_36 (by decide) (fun c_19 => ?_) (fun c_19 => ?_)
              · have hf := it_t c_19 hf
                refine lv_iconst (v := 0) hx hb dX9_kindsThat_102 (by decide) ?_
                refine lv_istore_n (lv' := [(3, .int 0), (5, .int (45 + (5 * v_8))), (0, .ref q_a0), (1, .int v_1), (2, .int v_2), (4, .int v_8)]) hx hb dX9_kindsThat_103 rfl hl (by decide) rfl (fun ls hl => ?_)
                refine lv_iinc (v := v_8 + 1) (lv' := [(4, .int (v_8 + 1)), (3, .int 0), (5, .int (45 + (5 * v_8))), (0, .ref q_a0), (1, .int v_1), (2, .int v_2)]) hx hb dX9_kindsThat_104 hl (k := 5) rfl rfl (by decide) rfl (fun ls hl => ?_)
                refine lv_goto (tgt := 15) hx hb dX9_kindsThat_107 (by decide) ?_
                exact ih 0 (v_8 + 1) ls hf (lv_sub hl [3, 4, 5, 1, 0] rfl)
              · have hf := it_f c_19 hf
                refine lv_iload_n hx hb dX9_kindsThat_39 rfl (lv_at hl 3 rfl) ?_
                refine lv_aload_n hx hb dX9_kindsThat_40 rfl (lv_at hl 1 rfl) ?_
                refine va_get (D := D) (ci := 8) (v := .ref q_a0_told) (C := RX9) (T := TX9) (N := 18) hx hb hts in_X9 hown hK hP 0 rfl rfl 0 (by decide) kf_7 (fun _ h9 => h9) rfl dX9_kindsThat_41 ?_
                refine lv_iload hx hb dX9_kindsThat_44 (lv_at hl 0 rfl) ?_
                refine va_iald hx hb hK hP 1 0 rfl rfl hf.1 dX9_kindsThat_46 ?_
                have hf := hf.2
                refine lv_aload_n hx hb dX9_kindsThat_47 rfl (lv_at hl 1 rfl) ?_
                refine va_get (D := D) (ci := 8) (v := .ref q_a0_told) (C := RX9) (T := TX9) (N := 18) hx hb hts in_X9 hown hK hP 0 rfl rfl 0 (by decide) kf_7 (fun _ h9 => h9) rfl dX9_kindsThat_48 ?_
                refine lv_iload hx hb dX9_kindsThat_51 (lv_at hl 0 rfl) ?_
                refine lv_iconst (v := 1) hx hb dX9_kindsThat_53 (by decide) ?_
                refine lv_iadd hx hb dX9_kindsThat_54 ?_
                refine va_iald hx hb hK hP 1 0 rfl rfl hf.1 dX9_kindsThat_55 ?_
                have hf := hf.2
                refine lv_aload_n hx hb dX9_kindsThat_56 rfl (lv_at hl 1 rfl) ?_
                refine va_get (D := D) (ci := 8) (v := .ref q_a0_told) (C := RX9) (T := TX9) (N := 18) hx hb hts in_X9 hown hK hP 0 rfl rfl 0 (by decide) kf_7 (fun _ h9 => h9) rfl dX9_kindsThat_57 ?_
                refine lv_iload hx hb dX9_kindsThat_60 (lv_at hl 0 rfl) ?_
                refine lv_iconst (v := 2) hx hb dX9_kindsThat_62 (by decide) ?_
                refine lv_iadd hx hb dX9_kindsThat_63 ?_
                refine va_iald hx hb hK hP 1 0 rfl rfl hf.1 dX9_kindsThat_64 ?_
                have hf := hf.2
                refine lv_aload_n hx hb dX9_kindsThat_65 rfl (lv_at hl 1 rfl) ?_
                refine va_get (D := D) (ci := 8) (v := .ref q_a0_told) (C := RX9) (T := TX9) (N := 18) hx hb hts in_X9 hown hK hP 0 rfl rfl 0 (by decide) kf_7 (fun _ h9 => h9) rfl dX9_kindsThat_66 ?_
                refine lv_iload hx hb dX9_kindsThat_69 (lv_at hl 0 rfl) ?_
                refine lv_iconst (v := 3) hx hb dX9_kindsThat_71 (by decide) ?_
                refine lv_iadd hx hb dX9_kindsThat_72 ?_
                refine va_iald hx hb hK hP 1 0 rfl rfl hf.1 dX9_kindsThat_73 ?_
                have hf := hf.2
                refine lv_iconst (v := 1) hx hb dX9_kindsThat_74 (by decide) ?_
                refine lv_icmp_ne (tgt := 82) hx hb dX9_kindsThat_75 (by decide) (fun c_20 => ?_) (fun c_20 => ?_)
                · have hf := it_f c_20 hf
                  refine lv_iconst (v := 0) hx hb dX9_kindsThat_82 (by decide) ?_
                  exact hj_83 (45 + (5 * v_8)) v_2 (a0_told (45 + (5 * v_8)).toNatClampNeg) (a0_told ((45 + (5 * v_8)) + 1).toNatClampNeg) (a0_told ((45 + (5 * v_8)) + 2).toNatClampNeg) 0 hf ls (lv_sub hl [1, 2, 3, 5, 0] rfl)
                · have hf := it_t c_20 hf
                  refine lv_iconst (v := 1) hx hb dX9_kindsThat_78 (by decide) ?_
                  refine lv_goto (tgt := 83) hx hb dX9_kindsThat_79 (by decide) ?_
                  exact hj_83 (45 + (5 * v_8)) v_2 (a0_told (45 + (5 * v_8)).toNatClampNeg) (a0_told ((45 + (5 * v_8)) + 1).toNatClampNeg) (a0_told ((45 + (5 * v_8)) + 2).toNatClampNeg) 1 hf ls (lv_sub hl [1, 2, 3, 5, 0] rfl)
        exact hlp_15 1000 1 0 ls hf (lv_sub hl [2, 3, 4, 1, 0] rfl)
  exact hlp_4 1000 0 0 ls hf (lv_sub hl [2, 1, 0] rfl)
