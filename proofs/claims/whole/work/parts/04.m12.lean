def p_X9_is (a0_told : Nat → Int32) (Q : Int32 → Prop) : Prop :=
  p_X9_kindsThat a0_told (fun r_1 => Q r_1)
def rmX9_is : Room := { frames := 2, cells := 0, slots := 0, locals := 52 }
set_option maxHeartbeats 4000000 in
set_option maxRecDepth 100000 in
theorem c_X9_is (l : Launch) (D : va_G) (cI cZ cO : ClassId) (q_a0 q_a0_told q_a0_kept q_a0_isKept q_a0_refused q_a0_manyBy q_a0_hers q_a0_his q_a0_hand q_a0_bytes q_a0_anew q_a0_values : Nat) (a0_above : Int64) (a0_below : Int64) (a0_bytesLong : Int32) (a0_tokenAt : Int32) (a0_tokenLong : Int32) (a0_token : Int32) (a0_value : Int32) (a0_told : Nat → Int32) (Q : Int32 → Prop) (hf : p_X9_is a0_told Q) : Met l yX9_is wsX9_is rmX9_is (va_Pc [.ref q_a0] (fun U => va_P D vwCl [(q_a0, .inr (8, [.ref q_a0_told, .ref q_a0_kept, .ref q_a0_isKept, .ref q_a0_refused, .long a0_above, .long a0_below, .ref q_a0_manyBy, .ref q_a0_hers, .ref q_a0_his, .ref q_a0_hand, .ref q_a0_bytes, .int a0_bytesLong, .int a0_tokenAt, .int a0_tokenLong, .int a0_token, .int a0_value, .ref q_a0_anew, .ref q_a0_values])), (q_a0_told, .inl (cI, 163, .inl a0_told))] U.heap ∧ XK D cI cZ cO U)) (vp_Si Q) 0 0 (fun _ => False) := by
  refine Met.ofW (cc := cX9_is) (maxL := 1) (ret := (some .int)) (by decide) rfl ?_
  intro p e s m args below meth c s₁ B hml hv
  obtain ⟨rfl, hP, hX⟩ := hv
  have hK := hX.1
  have hx := B.exec
  have hb := B.bytes
  have hr := B.returns
  have hts := atoms_spec (ws := wsX9_is) B.pre
  have hown : s.vm.findClass RX9 = some m.cls := findClass_of_methodNamed B.named
  have hlocks := B.notSynchronized
  generalize hQQ : MQ below _ _ s _ _ _ = QQ
  have hl := lv_entry ([.ref q_a0]) (n := 1) (Nat.le_of_ble_eq_true rfl)
  rw [lg_entry_eq]
  generalize (lg_sl ([.ref q_a0]) ++ List.replicate (1 - (lg_sl ([.ref q_a0])).length) Slot.unset).toArray = ls at hl ⊢
  have hl : lv_has ls 1 [(0, .ref q_a0)] := hl
  unfold p_X9_is at hf
  refine lv_aload_n hx hb dX9_is_0 rfl (lv_at hl 0 rfl) ?_
  refine ya_csi (va_runV (As := []) (rest := []) ⟨hx, hb, hml, hown, hts⟩ (c_X9_kindsThat l D cI cZ cO q_a0 q_a0_told q_a0_kept q_a0_isKept q_a0_refused q_a0_manyBy q_a0_hers q_a0_his q_a0_hand q_a0_bytes q_a0_anew q_a0_values a0_above a0_below a0_bytesLong a0_tokenAt a0_tokenLong a0_token a0_value a0_told  _ hf) (cwV 0 hts gX9_is_X9_kindsThat rfl rfl rfl (by decide +kernel) ⟨Nat.le_of_ble_eq_true rfl, Nat.le_of_ble_eq_true rfl⟩) (pv_ro (ci := 8) (q0 := 0) (hP.sub [0, 1] rfl) hX rfl rfl) rfl rfl hl.1 rfl (lv_room (Nat.le_of_ble_eq_true rfl)) dX9_is_1 ⟨Nat.zero_le _, Nat.zero_le _⟩) (fun r_1 hf => ?_)
  subst hQQ
  exact W.iret hx hb hr (fun t ht hW => ⟨_, rfl, hf, ht⟩) (fun _ h => absurd h List.not_mem_nil) dX9_is_4
def jX9_look_192 (k_6 : (Nat → Int32) → Int32 → Int32 → Int32 → Prop) (v_4 : Int32) (v_5 : Int32) (w_7 : Nat → Int32) (v_8 : Int32) (t_9 : Int32) : Prop :=
  if v_4 ≤ v_8 then (k_6 w_7 t_9 v_4 (v_5 + 1)) else (k_6 w_7 t_9 v_8 (v_5 + 1))
def jX9_look_180 (k_6 : (Nat → Int32) → Int32 → Int32 → Int32 → Prop) (v_3 : Int32) (v_4 : Int32) (v_5 : Int32) (w_11 : Nat → Int32) (v_12 : Int32) : Prop :=
  if v_4 ≤ v_12 then (jX9_look_192 k_6 v_4 v_5 w_11 v_12 v_3) else (jX9_look_192 k_6 v_4 v_5 w_11 v_12 v_5)
def bX9_look_75 (a0_told : Nat → Int32) (r_1 : Int32) (k_6 : (Nat → Int32) → Int32 → Int32 → Int32 → Prop) (v_3 : Int32) (v_4 : Int32) (v_5 : Int32) (v_15 : Int32) (k_20 : (Nat → Int32) → Int32 → Int32 → Prop) (w_17 : Nat → Int32) (v_18 : Int32) (v_19 : Int32) : Prop :=
  if 6 ≤ v_19 then (jX9_look_180 k_6 v_3 v_4 v_5 w_17 v_18) else (if 1000000 ≤ v_18 then (jX9_look_180 k_6 v_3 v_4 v_5 w_17 v_18) else (p_X9_has r_1 v_19 (fun r_23 => if r_23 = 0 then (k_20 w_17 v_18 (v_19 + 1)) else (p_X9_noteOf a0_told v_15 (fun r_25 => p_X9_holdsOf 163 a0_told v_15 (fun r_26 => p_X9_has (a0_told (17 : Int32).toNatClampNeg) v_15 (fun r_27 => p_X9_paceAs v_19 r_25 r_26 (v_5 / 10) r_27 (fun r_28 => vp_in r_28 8 ∧ (vp_in r_28 8 ∧ (vp_in r_28 8 ∧ (if ((upd w_17 (r_28.toNatClampNeg) ((w_17 r_28.toNatClampNeg) + 1)) r_28.toNatClampNeg) ≤ v_18 then (k_20 (upd w_17 (r_28.toNatClampNeg) ((w_17 r_28.toNatClampNeg) + 1)) v_18 (v_19 + 1)) else (vp_in r_28 8 ∧ (k_20 (upd w_17 (r_28.toNatClampNeg) ((w_17 r_28.toNatClampNeg) + 1)) ((upd w_17 (r_28.toNatClampNeg) ((w_17 r_28.toNatClampNeg) + 1)) r_28.toNatClampNeg) (v_19 + 1))))))))))))))
def jX9_look_72 (a0_told : Nat → Int32) (r_1 : Int32) (k_6 : (Nat → Int32) → Int32 → Int32 → Int32 → Prop) (v_3 : Int32) (v_4 : Int32) (v_5 : Int32) (w_14 : Nat → Int32) (v_15 : Int32) (v_16 : Int32) : Prop :=
  lq3 (bX9_look_75 a0_told r_1 k_6 v_3 v_4 v_5 v_15) 1000 w_14 v_16 0
def bX9_look_51 (a0_told : Nat → Int32) (r_1 : Int32) (k_6 : (Nat → Int32) → Int32 → Int32 → Int32 → Prop) (v_3 : Int32) (v_4 : Int32) (v_5 : Int32) (v_30 : Int32) (t_31 : Int32) (k_34 : (Nat → Int32) → Int32 → Prop) (w_32 : Nat → Int32) (v_33 : Int32) : Prop :=
  if 8 ≤ v_33 then (jX9_look_72 a0_told r_1 k_6 v_3 v_4 v_5 w_32 v_30 t_31) else (vp_in v_33 8 ∧ (k_34 (upd w_32 (v_33.toNatClampNeg) 0) (v_33 + 1)))
def jX9_look_46 (a0_told : Nat → Int32) (r_1 : Int32) (k_6 : (Nat → Int32) → Int32 → Int32 → Int32 → Prop) (w_2 : Nat → Int32) (v_3 : Int32) (v_4 : Int32) (v_5 : Int32) (v_30 : Int32) (t_31 : Int32) : Prop :=
  lq2 (bX9_look_51 a0_told r_1 k_6 v_3 v_4 v_5 v_30 t_31) 1000 w_2 0
def bX9_look_13 (a0_told : Nat → Int32) (Q : Int32 → (Nat → Int32) → Prop) (r_1 : Int32) (k_6 : (Nat → Int32) → Int32 → Int32 → Int32 → Prop) (w_2 : Nat → Int32) (v_3 : Int32) (v_4 : Int32) (v_5 : Int32) : Prop :=
  if 98 ≤ v_5 then (Q v_3 w_2) else (if r_1 ≤ 0 then (Q v_3 w_2) else (p_X9_isBend a0_told (v_5 - v_5 / 10 * 10) (fun r_38 => if r_38 = 0 then (jX9_look_46 a0_told r_1 k_6 w_2 v_3 v_4 v_5 (v_5 - v_5 / 10 * 10) 1000000) else (jX9_look_46 a0_told r_1 k_6 w_2 v_3 v_4 v_5 (v_5 - v_5 / 10 * 10) 0))))
def p_X9_look (a0_told : Nat → Int32) (a0_manyBy : Nat → Int32) (Q : Int32 → (Nat → Int32) → Prop) : Prop :=
  p_X9_kindsThat a0_told (fun r_1 => lq4 (bX9_look_13 a0_told Q r_1) 1000 a0_manyBy (-1) 1000000 0)
def rmX9_look : Room := { frames := 2, cells := 0, slots := 0, locals := 52 }
set_option maxHeartbeats 4000000 in
set_option maxRecDepth 100000 in
theorem c_X9_look (l : Launch) (D : va_G) (cI cZ cO : ClassId) (q_a0 q_a0_told q_a0_kept q_a0_isKept q_a0_refused q_a0_manyBy q_a0_hers q_a0_his q_a0_hand q_a0_bytes q_a0_anew q_a0_values : Nat) (a0_above : Int64) (a0_below : Int64) (a0_bytesLong : Int32) (a0_tokenAt : Int32) (a0_tokenLong : Int32) (a0_token : Int32) (a0_value : Int32) (a0_told : Nat → Int32) (a0_manyBy : Nat → Int32) (sz : Nat) (Q : Int32 → (Nat → Int32) → Prop) (hf : p_X9_look a0_told a0_manyBy Q) : Met l yX9_look wsX9_look rmX9_look (va_Pc [.ref q_a0] (fun U => U.heap.size = sz ∧ va_P D vwCl [(q_a0, .inr (8, [.ref q_a0_told, .ref q_a0_kept, .ref q_a0_isKept, .ref q_a0_refused, .long a0_above, .long a0_below, .ref q_a0_manyBy, .ref q_a0_hers, .ref q_a0_his, .ref q_a0_hand, .ref q_a0_bytes, .int a0_bytesLong, .int a0_tokenAt, .int a0_tokenLong, .int a0_token, .int a0_value, .ref q_a0_anew, .ref q_a0_values])), (q_a0_told, .inl (cI, 163, .inl a0_told)), (q_a0_manyBy, .inl (cI, 8, .inl a0_manyBy))] U.heap ∧ XK D cI cZ cO U ∧ va_D (fun _ => True) [(q_a0, .inr (8, [.ref q_a0_told, .ref q_a0_kept, .ref q_a0_isKept, .ref q_a0_refused, .long a0_above, .long a0_below, .ref q_a0_manyBy, .ref q_a0_hers, .ref q_a0_his, .ref q_a0_hand, .ref q_a0_bytes, .int a0_bytesLong, .int a0_tokenAt, .int a0_tokenLong, .int a0_token, .int a0_value, .ref q_a0_anew, .ref q_a0_values])), (q_a0_told, .inl (cI, 163, .inl a0_told)), (q_a0_manyBy, .inl (cI, 8, .inl a0_manyBy))])) (va_Qi (fun r (u : (Nat → Int32)) => Q r u) (fun (u : (Nat → Int32)) t => va_P D vwCl [(q_a0, .inr (8, [.ref q_a0_told, .ref q_a0_kept, .ref q_a0_isKept, .ref q_a0_refused, .long a0_above, .long a0_below, .ref q_a0_manyBy, .ref q_a0_hers, .ref q_a0_his, .ref q_a0_hand, .ref q_a0_bytes, .int a0_bytesLong, .int a0_tokenAt, .int a0_tokenLong, .int a0_token, .int a0_value, .ref q_a0_anew, .ref q_a0_values])), (q_a0_told, .inl (cI, 163, .inl a0_told)), (q_a0_manyBy, .inl (cI, 8, .inl u))] t.heap ∧ va_D (va_A [(q_a0, .inr (8, [.ref q_a0_told, .ref q_a0_kept, .ref q_a0_isKept, .ref q_a0_refused, .long a0_above, .long a0_below, .ref q_a0_manyBy, .ref q_a0_hers, .ref q_a0_his, .ref q_a0_hand, .ref q_a0_bytes, .int a0_bytesLong, .int a0_tokenAt, .int a0_tokenLong, .int a0_token, .int a0_value, .ref q_a0_anew, .ref q_a0_values])), (q_a0_told, .inl (cI, 163, .inl a0_told)), (q_a0_manyBy, .inl (cI, 8, .inl a0_manyBy))] sz) [(q_a0, .inr (8, [.ref q_a0_told, .ref q_a0_kept, .ref q_a0_isKept, .ref q_a0_refused, .long a0_above, .long a0_below, .ref q_a0_manyBy, .ref q_a0_hers, .ref q_a0_his, .ref q_a0_hand, .ref q_a0_bytes, .int a0_bytesLong, .int a0_tokenAt, .int a0_tokenLong, .int a0_token, .int a0_value, .ref q_a0_anew, .ref q_a0_values])), (q_a0_told, .inl (cI, 163, .inl a0_told)), (q_a0_manyBy, .inl (cI, 8, .inl u))]) (va_A [(q_a0, .inr (8, [.ref q_a0_told, .ref q_a0_kept, .ref q_a0_isKept, .ref q_a0_refused, .long a0_above, .long a0_below, .ref q_a0_manyBy, .ref q_a0_hers, .ref q_a0_his, .ref q_a0_hand, .ref q_a0_bytes, .int a0_bytesLong, .int a0_tokenAt, .int a0_tokenLong, .int a0_token, .int a0_value, .ref q_a0_anew, .ref q_a0_values])), (q_a0_told, .inl (cI, 163, .inl a0_told)), (q_a0_manyBy, .inl (cI, 8, .inl a0_manyBy))] sz)) 0 0 (va_A [(q_a0, .inr (8, [.ref q_a0_told, .ref q_a0_kept, .ref q_a0_isKept, .ref q_a0_refused, .long a0_above, .long a0_below, .ref q_a0_manyBy, .ref q_a0_hers, .ref q_a0_his, .ref q_a0_hand, .ref q_a0_bytes, .int a0_bytesLong, .int a0_tokenAt, .int a0_tokenLong, .int a0_token, .int a0_value, .ref q_a0_anew, .ref q_a0_values])), (q_a0_told, .inl (cI, 163, .inl a0_told)), (q_a0_manyBy, .inl (cI, 8, .inl a0_manyBy))] sz) := by
  refine Met.ofW (cc := cX9_look) (maxL := 9) (ret := (some .int)) (by decide) rfl ?_
  intro p e s m args below meth c s₁ B hml hv
  obtain ⟨rfl, hsz, hP, hX, hD0⟩ := hv
  have hK := hX.1
  have hx := B.exec
  have hb := B.bytes
  have hr := B.returns
  have hts := atoms_spec (ws := wsX9_look) B.pre
  have hown : s.vm.findClass RX9 = some m.cls := findClass_of_methodNamed B.named
  have hlocks := B.notSynchronized
  have in_X9 : ∀ w ∈ wsX90, w ∈ wsX9_look := fun _ h => List.mem_cons_of_mem _ (List.mem_append_right _ h)
  have kc_137 := hts (.constant RX9 137 (1000000)) (by decide +kernel)
  have kf_7 := hts (.fieldLink RX9 7 "LeftCrestModel" "told" "[I") (by decide +kernel)
  have kf_27 := hts (.fieldLink RX9 27 "LeftCrestModel" "manyBy" "[I") (by decide +kernel)
  subst hsz
  have hD := hD0.self (sz := s.heap.size)
  generalize hAe : va_A [(q_a0, .inr (8, [.ref q_a0_told, .ref q_a0_kept, .ref q_a0_isKept, .ref q_a0_refused, .long a0_above, .long a0_below, .ref q_a0_manyBy, .ref q_a0_hers, .ref q_a0_his, .ref q_a0_hand, .ref q_a0_bytes, .int a0_bytesLong, .int a0_tokenAt, .int a0_tokenLong, .int a0_token, .int a0_value, .ref q_a0_anew, .ref q_a0_values])), (q_a0_told, .inl (cI, 163, .inl a0_told)), (q_a0_manyBy, .inl (cI, 8, .inl a0_manyBy))] s.heap.size = A at hD ⊢
  have hA : ∀ q : Nat, s.heap.size ≤ q → A q := fun q h => by rw [← hAe]; exact Or.inr h
  have hS : va_S A s.heap s.heap [] := va_S.rf
  have hP : va_P D vwCl [(q_a0, .inr (8, [.ref q_a0_told, .ref q_a0_kept, .ref q_a0_isKept, .ref q_a0_refused, .long a0_above, .long a0_below, .ref q_a0_manyBy, .ref q_a0_hers, .ref q_a0_his, .ref q_a0_hand, .ref q_a0_bytes, .int a0_bytesLong, .int a0_tokenAt, .int a0_tokenLong, .int a0_token, .int a0_value, .ref q_a0_anew, .ref q_a0_values])), (q_a0_told, .inl (cI, 163, .inl a0_told)), (q_a0_manyBy, .inl (cI, 8, .inl a0_manyBy))] s.heap := hP
  generalize hQQ : MQ below _ _ s _ _ _ = QQ
  have hl := lv_entry ([.ref q_a0]) (n := 9) (Nat.le_of_ble_eq_true rfl)
  rw [lg_entry_eq]
  generalize (lg_sl ([.ref q_a0]) ++ List.replicate (9 - (lg_sl ([.ref q_a0])).length) Slot.unset).toArray = ls at hl ⊢
  have hl : lv_has ls 9 [(0, .ref q_a0)] := hl
  unfold p_X9_look at hf
  refine lv_aload_n hx hb dX9_look_0 rfl (lv_at hl 0 rfl) ?_
  refine ya_csi (va_runV (As := []) (rest := []) ⟨hx, hb, hml, hown, hts⟩ (c_X9_kindsThat l D cI cZ cO q_a0 q_a0_told q_a0_kept q_a0_isKept q_a0_refused q_a0_manyBy q_a0_hers q_a0_his q_a0_hand q_a0_bytes q_a0_anew q_a0_values a0_above a0_below a0_bytesLong a0_tokenAt a0_tokenLong a0_token a0_value a0_told  _ hf) (cwV 0 hts gX9_look_X9_kindsThat rfl rfl rfl (by decide +kernel) ⟨Nat.le_of_ble_eq_true rfl, Nat.le_of_ble_eq_true rfl⟩) (pv_ro (ci := 8) (q0 := 0) (hP.sub [0, 1] rfl) hX rfl rfl) rfl rfl hl.1 rfl (lv_room (Nat.le_of_ble_eq_true rfl)) dX9_look_1 ⟨Nat.zero_le _, Nat.zero_le _⟩) (fun r_1 hf => ?_)
  refine lv_istore_n (lv' := [(1, .int r_1), (0, .ref q_a0)]) hx hb dX9_look_4 rfl hl (by decide) rfl (fun ls hl => ?_)
  refine lv_iconst (v := (-1)) hx hb dX9_look_5 (by decide) ?_
  refine lv_istore_n (lv' := [(2, .int (-1)), (1, .int r_1), (0, .ref q_a0)]) hx hb dX9_look_6 rfl hl (by decide) rfl (fun ls hl => ?_)
  refine lv_ldc (v := 1000000) hx hb hown kc_137 dX9_look_7 ?_
  refine lv_istore_n (lv' := [(3, .int 1000000), (2, .int (-1)), (1, .int r_1), (0, .ref q_a0)]) hx hb dX9_look_9 rfl hl (by decide) rfl (fun ls hl => ?_)
  refine lv_iconst (v := 0) hx hb dX9_look_10 (by decide) ?_
  refine lv_istore (lv' := [(4, .int 0), (3, .int 1000000), (2, .int (-1)), (1, .int r_1), (0, .ref q_a0)]) hx hb dX9_look_11 hl (by decide) rfl (fun ls hl => ?_)
  have hlp_13 : ∀ (n_13 : Nat) (w_2 : Nat → Int32) (v_3 : Int32) (v_4 : Int32) (v_5 : Int32) (H : Heap) (locs : List Loc) (ls : Array Slot), lq4 (bX9_look_13 a0_told Q r_1) n_13 w_2 v_3 v_4 v_5 → va_P D vwCl [(q_a0, .inr (8, [.ref q_a0_told, .ref q_a0_kept, .ref q_a0_isKept, .ref q_a0_refused, .long a0_above, .long a0_below, .ref q_a0_manyBy, .ref q_a0_hers, .ref q_a0_his, .ref q_a0_hand, .ref q_a0_bytes, .int a0_bytesLong, .int a0_tokenAt, .int a0_tokenLong, .int a0_token, .int a0_value, .ref q_a0_anew, .ref q_a0_values])), (q_a0_told, .inl (cI, 163, .inl a0_told)), (q_a0_manyBy, .inl (cI, 8, .inl w_2))] H → va_D A [(q_a0, .inr (8, [.ref q_a0_told, .ref q_a0_kept, .ref q_a0_isKept, .ref q_a0_refused, .long a0_above, .long a0_below, .ref q_a0_manyBy, .ref q_a0_hers, .ref q_a0_his, .ref q_a0_hand, .ref q_a0_bytes, .int a0_bytesLong, .int a0_tokenAt, .int a0_tokenLong, .int a0_token, .int a0_value, .ref q_a0_anew, .ref q_a0_values])), (q_a0_told, .inl (cI, 163, .inl a0_told)), (q_a0_manyBy, .inl (cI, 8, .inl w_2))] → va_S A s.heap H locs → lv_has ls 9 [(0, .ref q_a0), (1, .int r_1), (2, .int v_3), (3, .int v_4), (4, .int v_5)] → W p l e (headSpec wsX9_look rmX9_look).room s m ([.ref q_a0] : List Value).toArray below meth c H locs 0 0 QQ (F0 m 13 ls []) := by
    intro n_13
    induction n_13 with
    | zero => intro w_2 v_3 v_4 v_5 H locs ls hf; exact (lq4_0 hf).elim
    | succ n_13 ih =>
      have ih_13 := ih
      intro w_2 v_3 v_4 v_5 H locs ls hf hP hD hS hl
      have hj_192 : ∀ (w_7 : Nat → Int32) (v_8 : Int32) (t_9 : Int32) (H : Heap) (locs : List Loc), jX9_look_192 (lq4 (bX9_look_13 a0_told Q r_1) n_13) v_4 v_5 w_7 v_8 t_9 → va_P D vwCl [(q_a0, .inr (8, [.ref q_a0_told, .ref q_a0_kept, .ref q_a0_isKept, .ref q_a0_refused, .long a0_above, .long a0_below, .ref q_a0_manyBy, .ref q_a0_hers, .ref q_a0_his, .ref q_a0_hand, .ref q_a0_bytes, .int a0_bytesLong, .int a0_tokenAt, .int a0_tokenLong, .int a0_token, .int a0_value, .ref q_a0_anew, .ref q_a0_values])), (q_a0_told, .inl (cI, 163, .inl a0_told)), (q_a0_manyBy, .inl (cI, 8, .inl w_7))] H → va_D A [(q_a0, .inr (8, [.ref q_a0_told, .ref q_a0_kept, .ref q_a0_isKept, .ref q_a0_refused, .long a0_above, .long a0_below, .ref q_a0_manyBy, .ref q_a0_hers, .ref q_a0_his, .ref q_a0_hand, .ref q_a0_bytes, .int a0_bytesLong, .int a0_tokenAt, .int a0_tokenLong, .int a0_token, .int a0_value, .ref q_a0_anew, .ref q_a0_values])), (q_a0_told, .inl (cI, 163, .inl a0_told)), (q_a0_manyBy, .inl (cI, 8, .inl w_7))] → va_S A s.heap H locs → ∀ ls : Array Slot, lv_has ls 9 [(0, .ref q_a0), (1, .int r_1), (3, .int v_4), (4, .int v_5), (6, .int v_8)] → W p l e (headSpec wsX9_look rmX9_look).room s m ([.ref q_a0] : List Value).toArray below meth c H locs 0 0 QQ (F0 m 192 ls [.int t_9]) := by
        intro w_7 v_8 t_9 H locs hf hP hD hS ls hl
        unfold jX9_look_192 at hf
        refine lv_istore_n (lv' := [(2, .int t_9), (0, .ref q_a0), (1, .int r_1), (3, .int v_4), (4, .int v_5), (6, .int v_8)]) hx hb dX9_look_192 rfl hl (by decide) rfl (fun ls hl => ?_)
        refine lv_iload hx hb dX9_look_193 (lv_at hl 5 rfl) ?_
        refine lv_iload_n hx hb dX9_look_195 rfl (lv_at hl 3 rfl) ?_
        refine lv_icmp_ge (tgt := 204) hx hb dX9_look_196 (by decide) (fun c_10 => ?_) (fun c_10 => ?_)
        · have hf := it_t c_10 hf
          refine lv_iload_n hx hb dX9_look_204 rfl (lv_at hl 3 rfl) ?_
          refine lv_istore_n (lv' := [(3, .int v_4), (2, .int t_9), (0, .ref q_a0), (1, .int r_1), (4, .int v_5), (6, .int v_8)]) hx hb dX9_look_205 rfl hl (by decide) rfl (fun ls hl => ?_)
          refine lv_iinc (v := v_5 + 1) (lv' := [(4, .int (v_5 + 1)), (3, .int v_4), (2, .int t_9), (0, .ref q_a0), (1, .int r_1), (6, .int v_8)]) hx hb dX9_look_206 hl (k := 4) rfl rfl (by decide) rfl (fun ls hl => ?_)
          refine lv_goto (tgt := 13) hx hb dX9_look_209 (by decide) ?_
          exact ih w_7 t_9 v_4 (v_5 + 1) _ _ ls hf (hP.sub [0, 1, 2] rfl) (hD.sub [0, 1, 2] (by decide) rfl) hS (lv_sub hl [3, 4, 2, 1, 0] rfl)
        · have hf := it_f c_10 hf
          refine lv_iload hx hb dX9_look_199 (lv_at hl 5 rfl) ?_
          refine lv_goto (tgt := 205) hx hb dX9_look_201 (by decide) ?_
          refine lv_istore_n (lv' := [(3, .int v_8), (2, .int t_9), (0, .ref q_a0), (1, .int r_1), (4, .int v_5), (6, .int v_8)]) hx hb dX9_look_205 rfl hl (by decide) rfl (fun ls hl => ?_)
          refine lv_iinc (v := v_5 + 1) (lv' := [(4, .int (v_5 + 1)), (3, .int v_8), (2, .int t_9), (0, .ref q_a0), (1, .int r_1), (6, .int v_8)]) hx hb dX9_look_206 hl (k := 4) rfl rfl (by decide) rfl (fun ls hl => ?_)
          refine lv_goto (tgt := 13) hx hb dX9_look_209 (by decide) ?_
          exact ih w_7 t_9 v_8 (v_5 + 1) _ _ ls hf (hP.sub [0, 1, 2] rfl) (hD.sub [0, 1, 2] (by decide) rfl) hS (lv_sub hl [3, 4, 2, 1, 0] rfl)
      have hj_180 : ∀ (w_11 : Nat → Int32) (v_12 : Int32) (H : Heap) (locs : List Loc), jX9_look_180 (lq4 (bX9_look_13 a0_told Q r_1) n_13) v_3 v_4 v_5 w_11 v_12 → va_P D vwCl [(q_a0, .inr (8, [.ref q_a0_told, .ref q_a0_kept, .ref q_a0_isKept, .ref q_a0_refused, .long a0_above, .long a0_below, .ref q_a0_manyBy, .ref q_a0_hers, .ref q_a0_his, .ref q_a0_hand, .ref q_a0_bytes, .int a0_bytesLong, .int a0_tokenAt, .int a0_tokenLong, .int a0_token, .int a0_value, .ref q_a0_anew, .ref q_a0_values])), (q_a0_told, .inl (cI, 163, .inl a0_told)), (q_a0_manyBy, .inl (cI, 8, .inl w_11))] H → va_D A [(q_a0, .inr (8, [.ref q_a0_told, .ref q_a0_kept, .ref q_a0_isKept, .ref q_a0_refused, .long a0_above, .long a0_below, .ref q_a0_manyBy, .ref q_a0_hers, .ref q_a0_his, .ref q_a0_hand, .ref q_a0_bytes, .int a0_bytesLong, .int a0_tokenAt, .int a0_tokenLong, .int a0_token, .int a0_value, .ref q_a0_anew, .ref q_a0_values])), (q_a0_told, .inl (cI, 163, .inl a0_told)), (q_a0_manyBy, .inl (cI, 8, .inl w_11))] → va_S A s.heap H locs → ∀ ls : Array Slot, lv_has ls 9 [(0, .ref q_a0), (1, .int r_1), (2, .int v_3), (3, .int v_4), (4, .int v_5), (6, .int v_12)] → W p l e (headSpec wsX9_look rmX9_look).room s m ([.ref q_a0] : List Value).toArray below meth c H locs 0 0 QQ (F0 m 180 ls []) := by
        intro w_11 v_12 H locs hf hP hD hS ls hl
        unfold jX9_look_180 at hf
        refine lv_iload hx hb dX9_look_180 (lv_at hl 5 rfl) ?_
        refine lv_iload_n hx hb dX9_look_182 rfl (lv_at hl 3 rfl) ?_
        refine lv_icmp_ge (tgt := 191) hx hb dX9_look_183 (by decide) (fun c_13 => ?_) (fun c_13 => ?_)
        · have hf := it_t c_13 hf
          refine lv_iload_n hx hb dX9_look_191 rfl (lv_at hl 2 rfl) ?_
          exact hj_192 w_11 v_12 v_3 _ _ hf (hP.sub [0, 1, 2] rfl) (hD.sub [0, 1, 2] (by decide) rfl) hS ls (lv_sub hl [0, 1, 3, 4, 5] rfl)
        · have hf := it_f c_13 hf
          refine lv_iload hx hb dX9_look_186 (lv_at hl 4 rfl) ?_
          refine lv_goto (tgt := 192) hx hb dX9_look_188 (by decide) ?_
          exact hj_192 w_11 v_12 v_5 _ _ hf (hP.sub [0, 1, 2] rfl) (hD.sub [0, 1, 2] (by decide) rfl) hS ls (lv_sub hl [0, 1, 3, 4, 5] rfl)
      have hj_72 : ∀ (w_14 : Nat → Int32) (v_15 : Int32) (v_16 : Int32) (H : Heap) (locs : List Loc), jX9_look_72 a0_told r_1 (lq4 (bX9_look_13 a0_told Q r_1) n_13) v_3 v_4 v_5 w_14 v_15 v_16 → va_P D vwCl [(q_a0, .inr (8, [.ref q_a0_told, .ref q_a0_kept, .ref q_a0_isKept, .ref q_a0_refused, .long a0_above, .long a0_below, .ref q_a0_manyBy, .ref q_a0_hers, .ref q_a0_his, .ref q_a0_hand, .ref q_a0_bytes, .int a0_bytesLong, .int a0_tokenAt, .int a0_tokenLong, .int a0_token, .int a0_value, .ref q_a0_anew, .ref q_a0_values])), (q_a0_told, .inl (cI, 163, .inl a0_told)), (q_a0_manyBy, .inl (cI, 8, .inl w_14))] H → va_D A [(q_a0, .inr (8, [.ref q_a0_told, .ref q_a0_kept, .ref q_a0_isKept, .ref q_a0_refused, .long a0_above, .long a0_below, .ref q_a0_manyBy, .ref q_a0_hers, .ref q_a0_his, .ref q_a0_hand, .ref q_a0_bytes, .int a0_bytesLong, .int a0_tokenAt, .int a0_tokenLong, .int a0_token, .int a0_value, .ref q_a0_anew, .ref q_a0_values])), (q_a0_told, .inl (cI, 163, .inl a0_told)), (q_a0_manyBy, .inl (cI, 8, .inl w_14))] → va_S A s.heap H locs → ∀ ls : Array Slot, lv_has ls 9 [(0, .ref q_a0), (1, .int r_1), (2, .int v_3), (3, .int v_4), (4, .int v_5), (5, .int v_15), (6, .int v_16)] → W p l e (headSpec wsX9_look rmX9_look).room s m ([.ref q_a0] : List Value).toArray below meth c H locs 0 0 QQ (F0 m 72 ls []) := by
        intro w_14 v_15 v_16 H locs hf hP hD hS ls hl
        unfold jX9_look_72 at hf
        refine lv_iconst (v := 0) hx hb dX9_look_72 (by decide) ?_
        refine lv_istore (lv' := [(7, .int 0), (0, .ref q_a0), (1, .int r_1), (2, .int v_3), (3, .int v_4), (4, .int v_5), (5, .int v_15), (6, .int v_16)]) hx hb dX9_look_73 hl (by decide) rfl (fun ls hl => ?_)
        have hlp_75 : ∀ (n_75 : Nat) (w_17 : Nat → Int32) (v_18 : Int32) (v_19 : Int32) (H : Heap) (locs : List Loc) (ls : Array Slot), lq3 (bX9_look_75 a0_told r_1 (lq4 (bX9_look_13 a0_told Q r_1) n_13) v_3 v_4 v_5 v_15) n_75 w_17 v_18 v_19 → va_P D vwCl [(q_a0, .inr (8, [.ref q_a0_told, .ref q_a0_kept, .ref q_a0_isKept, .ref q_a0_refused, .long a0_above, .long a0_below, .ref q_a0_manyBy, .ref q_a0_hers, .ref q_a0_his, .ref q_a0_hand, .ref q_a0_bytes, .int a0_bytesLong, .int a0_tokenAt, .int a0_tokenLong, .int a0_token, .int a0_value, .ref q_a0_anew, .ref q_a0_values])), (q_a0_told, .inl (cI, 163, .inl a0_told)), (q_a0_manyBy, .inl (cI, 8, .inl w_17))] H → va_D A [(q_a0, .inr (8, [.ref q_a0_told, .ref q_a0_kept, .ref q_a0_isKept, .ref q_a0_refused, .long a0_above, .long a0_below, .ref q_a0_manyBy, .ref q_a0_hers, .ref q_a0_his, .ref q_a0_hand, .ref q_a0_bytes, .int a0_bytesLong, .int a0_tokenAt, .int a0_tokenLong, .int a0_token, .int a0_value, .ref q_a0_anew, .ref q_a0_values])), (q_a0_told, .inl (cI, 163, .inl a0_told)), (q_a0_manyBy, .inl (cI, 8, .inl w_17))] → va_S A s.heap H locs → lv_has ls 9 [(0, .ref q_a0), (1, .int r_1), (2, .int v_3), (3, .int v_4), (4, .int v_5), (5, .int v_15), (6, .int v_18), (7, .int v_19)] → W p l e (headSpec wsX9_look rmX9_look).room s m ([.ref q_a0] : List Value).toArray below meth c H locs 0 0 QQ (F0 m 75 ls []) := by
          intro n_75
          induction n_75 with
          | zero => intro w_17 v_18 v_19 H locs ls hf; exact (lq3_0 hf).elim
          | succ n_75 ih =>
            have ih_75 := ih
            intro w_17 v_18 v_19 H locs ls hf hP hD hS hl
            have hf := lq3_s hf
            unfold bX9_look_75 at hf
            refine lv_iload hx hb dX9_look_75 (lv_at hl 7 rfl) ?_
            refine lv_bipush (v := 6) hx hb dX9_look_77 (by decide) ?_
            refine lv_icmp_ge (tgt := 180) hx hb dX9_look_79 (by decide) (fun c_21 => ?_) (fun c_21 => ?_)
            · have hf := it_t c_21 hf
              exact hj_180 w_17 v_18 _ _ hf (hP.sub [0, 1, 2] rfl) (hD.sub [0, 1, 2] (by decide) rfl) hS ls (lv_sub hl [0, 1, 2, 3, 4, 6] rfl)
            · have hf := it_f c_21 hf
              refine lv_iload hx hb dX9_look_82 (lv_at hl 6 rfl) ?_
              refine lv_ldc (v := 1000000) hx hb hown kc_137 dX9_look_84 ?_
              refine lv_icmp_ge (tgt := 180) hx hb dX9_look_86 (by decide) (fun c_22 => ?_) (fun c_22 => ?_)
              · have hf := it_t c_22 hf
                exact hj_180 w_17 v_18 _ _ hf (hP.sub [0, 1, 2] rfl) (hD.sub [0, 1, 2] (by decide) rfl) hS ls (lv_sub hl [0, 1, 2, 3, 4, 6] rfl)
              · have hf := it_f c_22 hf
                refine lv_iload_n hx hb dX9_look_89 rfl (lv_at hl 1 rfl) ?_
                refine lv_iload hx hb dX9_look_90 (lv_at hl 7 rfl) ?_
                refine ya_csi (va_runS (As := [.int r_1, .int v_19]) (rest := []) ⟨hx, hb, hml, hown, hts⟩ (c_X9_has l D cI cZ cO  r_1 v_19 _ hf) (va_cwS 2 hts gX9_look_X9_has rfl rfl rfl (by decide +kernel) ⟨Nat.le_of_ble_eq_true rfl, Nat.le_of_ble_eq_true rfl⟩) (ps_ro va_P0 hX) rfl rfl hl.1 rfl (lv_room (Nat.le_of_ble_eq_true rfl)) dX9_look_92 ⟨Nat.zero_le _, Nat.zero_le _⟩) (fun r_23 hf => ?_)
                refine lv_if_eq (tgt := 174) hx hb dX9_look_95 (by decide) (fun c_24 => ?_) (fun c_24 => ?_)
                · have hf := it_t c_24 hf
                  refine lv_iinc (v := v_19 + 1) (lv' := [(7, .int (v_19 + 1)), (0, .ref q_a0), (1, .int r_1), (2, .int v_3), (3, .int v_4), (4, .int v_5), (5, .int v_15), (6, .int v_18)]) hx hb dX9_look_174 hl (k := 7) rfl rfl (by decide) rfl (fun ls hl => ?_)
                  refine lv_goto (tgt := 75) hx hb dX9_look_177 (by decide) ?_
                  exact ih w_17 v_18 (v_19 + 1) _ _ ls hf (hP.sub [0, 1, 2] rfl) (hD.sub [0, 1, 2] (by decide) rfl) hS (lv_sub hl [1, 2, 3, 4, 5, 6, 7, 0] rfl)
                · have hf := it_f c_24 hf
                  refine lv_iload hx hb dX9_look_98 (lv_at hl 7 rfl) ?_
                  refine lv_aload_n hx hb dX9_look_100 rfl (lv_at hl 0 rfl) ?_
                  refine lv_iload hx hb dX9_look_101 (lv_at hl 5 rfl) ?_
                  refine ya_csi (va_runV (As := [.int v_15]) (rest := [.int v_19]) ⟨hx, hb, hml, hown, hts⟩ (c_X9_noteOf l D cI cZ cO q_a0 q_a0_told q_a0_kept q_a0_isKept q_a0_refused q_a0_manyBy q_a0_hers q_a0_his q_a0_hand q_a0_bytes q_a0_anew q_a0_values a0_above a0_below a0_bytesLong a0_tokenAt a0_tokenLong a0_token a0_value a0_told v_15 _ hf) (cwV 1 hts gX9_look_X9_noteOf rfl rfl rfl (by decide +kernel) ⟨Nat.le_of_ble_eq_true rfl, Nat.le_of_ble_eq_true rfl⟩) (pv_ro (ci := 8) (q0 := 0) (hP.sub [0, 1] rfl) hX rfl rfl) rfl rfl hl.1 rfl (lv_room (Nat.le_of_ble_eq_true rfl)) dX9_look_103 ⟨Nat.zero_le _, Nat.zero_le _⟩) (fun r_25 hf => ?_)
                  refine lv_aload_n hx hb dX9_look_106 rfl (lv_at hl 0 rfl) ?_
                  refine va_get (D := D) (ci := 8) (v := .ref q_a0_told) (C := RX9) (T := TX9) (N := 18) hx hb hts in_X9 hown hK hP 0 rfl rfl 0 (by decide) kf_7 (fun _ h9 => h9) rfl dX9_look_107 ?_
                  refine lv_iload hx hb dX9_look_110 (lv_at hl 5 rfl) ?_
                  refine ya_csi (va_runS (As := [.ref q_a0_told, .int v_15]) (rest := [.int r_25, .int v_19]) ⟨hx, hb, hml, hown, hts⟩ (c_X9_holdsOf l D cI cZ cO q_a0_told 163 a0_told v_15 _ hf) (va_cwS 2 hts gX9_look_X9_holdsOf rfl rfl rfl (by decide +kernel) ⟨Nat.le_of_ble_eq_true rfl, Nat.le_of_ble_eq_true rfl⟩) (ps_ro (hP.sub [1] rfl) hX) rfl rfl hl.1 rfl (lv_room (Nat.le_of_ble_eq_true rfl)) dX9_look_112 ⟨Nat.zero_le _, Nat.zero_le _⟩) (fun r_26 hf => ?_)
                  refine lv_iload hx hb dX9_look_115 (lv_at hl 4 rfl) ?_
                  refine lv_bipush (v := 10) hx hb dX9_look_117 (by decide) ?_
                  refine lv_idiv hx hb dX9_look_119 (by decide) ?_
                  refine lv_aload_n hx hb dX9_look_120 rfl (lv_at hl 0 rfl) ?_
                  refine va_get (D := D) (ci := 8) (v := .ref q_a0_told) (C := RX9) (T := TX9) (N := 18) hx hb hts in_X9 hown hK hP 0 rfl rfl 0 (by decide) kf_7 (fun _ h9 => h9) rfl dX9_look_121 ?_
                  refine lv_bipush (v := 17) hx hb dX9_look_124 (by decide) ?_
                  refine va_iald hx hb hK hP 1 0 rfl rfl (by unfold vp_in; decide) dX9_look_126 ?_
                  refine lv_iload hx hb dX9_look_127 (lv_at hl 5 rfl) ?_
                  refine ya_csi (va_runS (As := [.int (a0_told (17 : Int32).toNatClampNeg), .int v_15]) (rest := [.int (v_5 / 10), .int r_26, .int r_25, .int v_19]) ⟨hx, hb, hml, hown, hts⟩ (c_X9_has l D cI cZ cO  (a0_told (17 : Int32).toNatClampNeg) v_15 _ hf) (va_cwS 2 hts gX9_look_X9_has rfl rfl rfl (by decide +kernel) ⟨Nat.le_of_ble_eq_true rfl, Nat.le_of_ble_eq_true rfl⟩) (ps_ro va_P0 hX) rfl rfl hl.1 rfl (lv_room (Nat.le_of_ble_eq_true rfl)) dX9_look_129 ⟨Nat.zero_le _, Nat.zero_le _⟩) (fun r_27 hf => ?_)
                  refine ya_csi (va_runS (As := [.int v_19, .int r_25, .int r_26, .int (v_5 / 10), .int r_27]) (rest := []) ⟨hx, hb, hml, hown, hts⟩ (c_X9_paceAs l D cI cZ cO  v_19 r_25 r_26 (v_5 / 10) r_27 _ hf) (va_cwS 5 hts gX9_look_X9_paceAs rfl rfl rfl (by decide +kernel) ⟨Nat.le_of_ble_eq_true rfl, Nat.le_of_ble_eq_true rfl⟩) (ps_ro va_P0 hX) rfl rfl hl.1 rfl (lv_room (Nat.le_of_ble_eq_true rfl)) dX9_look_132 ⟨Nat.zero_le _, Nat.zero_le _⟩) (fun r_28 hf => ?_)
                  refine lv_istore (lv' := [(8, .int r_28), (0, .ref q_a0), (1, .int r_1), (2, .int v_3), (3, .int v_4), (4, .int v_5), (5, .int v_15), (6, .int v_18), (7, .int v_19)]) hx hb dX9_look_135 hl (by decide) rfl (fun ls hl => ?_)
                  refine lv_aload_n hx hb dX9_look_137 rfl (lv_at hl 1 rfl) ?_
                  refine va_get (D := D) (ci := 8) (v := .ref q_a0_manyBy) (C := RX9) (T := TX9) (N := 18) hx hb hts in_X9 hown hK hP 0 rfl rfl 6 (by decide) kf_27 (fun _ h9 => h9) rfl dX9_look_138 ?_
                  refine lv_iload hx hb dX9_look_141 (lv_at hl 0 rfl) ?_
                  refine lv_dup2_11 hx hb dX9_look_143 rfl rfl ?_
                  refine va_iald hx hb hK hP 2 0 rfl rfl hf.1 dX9_look_144 ?_
                  have hf := hf.2
                  refine lv_iconst (v := 1) hx hb dX9_look_145 (by decide) ?_
                  refine lv_iadd hx hb dX9_look_146 ?_
                  refine va_iast hx hb hK hP hD hS 2 0 rfl rfl hf.1 dX9_look_147 (fun H locs hP hD hS => ?_)
                  have hP : va_P D vwCl [(q_a0, .inr (8, [.ref q_a0_told, .ref q_a0_kept, .ref q_a0_isKept, .ref q_a0_refused, .long a0_above, .long a0_below, .ref q_a0_manyBy, .ref q_a0_hers, .ref q_a0_his, .ref q_a0_hand, .ref q_a0_bytes, .int a0_bytesLong, .int a0_tokenAt, .int a0_tokenLong, .int a0_token, .int a0_value, .ref q_a0_anew, .ref q_a0_values])), (q_a0_told, .inl (cI, 163, .inl a0_told)), (q_a0_manyBy, .inl (cI, 8, .inl (upd w_17 (r_28.toNatClampNeg) ((w_17 r_28.toNatClampNeg) + 1))))] H := hP
                  have hD : va_D A [(q_a0, .inr (8, [.ref q_a0_told, .ref q_a0_kept, .ref q_a0_isKept, .ref q_a0_refused, .long a0_above, .long a0_below, .ref q_a0_manyBy, .ref q_a0_hers, .ref q_a0_his, .ref q_a0_hand, .ref q_a0_bytes, .int a0_bytesLong, .int a0_tokenAt, .int a0_tokenLong, .int a0_token, .int a0_value, .ref q_a0_anew, .ref q_a0_values])), (q_a0_told, .inl (cI, 163, .inl a0_told)), (q_a0_manyBy, .inl (cI, 8, .inl (upd w_17 (r_28.toNatClampNeg) ((w_17 r_28.toNatClampNeg) + 1))))] := hD
                  have hf := hf.2
                  refine lv_aload_n hx hb dX9_look_148 rfl (lv_at hl 1 rfl) ?_
                  refine va_get (D := D) (ci := 8) (v := .ref q_a0_manyBy) (C := RX9) (T := TX9) (N := 18) hx hb hts in_X9 hown hK hP 0 rfl rfl 6 (by decide) kf_27 (fun _ h9 => h9) rfl dX9_look_149 ?_
                  refine lv_iload hx hb dX9_look_152 (lv_at hl 0 rfl) ?_
                  refine va_iald hx hb hK hP 2 0 rfl rfl hf.1 dX9_look_154 ?_
                  have hf := hf.2
                  refine lv_iload hx hb dX9_look_155 (lv_at hl 7 rfl) ?_
                  refine lv_icmp_le (tgt := 170) hx hb dX9_look_157 (by decide) (fun c_29 => ?_) (fun c_29 => ?_)
                  · have hf := it_t c_29 hf
                    refine lv_iload hx hb dX9_look_170 (lv_at hl 7 rfl) ?_
                    refine lv_istore (lv' := [(6, .int v_18), (8, .int r_28), (0, .ref q_a0), (1, .int r_1), (2, .int v_3), (3, .int v_4), (4, .int v_5), (5, .int v_15), (7, .int v_19)]) hx hb dX9_look_172 hl (by decide) rfl (fun ls hl => ?_)
                    refine lv_iinc (v := v_19 + 1) (lv' := [(7, .int (v_19 + 1)), (6, .int v_18), (8, .int r_28), (0, .ref q_a0), (1, .int r_1), (2, .int v_3), (3, .int v_4), (4, .int v_5), (5, .int v_15)]) hx hb dX9_look_174 hl (k := 8) rfl rfl (by decide) rfl (fun ls hl => ?_)
                    refine lv_goto (tgt := 75) hx hb dX9_look_177 (by decide) ?_
                    exact ih (upd w_17 (r_28.toNatClampNeg) ((w_17 r_28.toNatClampNeg) + 1)) v_18 (v_19 + 1) _ _ ls hf (hP.sub [0, 1, 2] rfl) (hD.sub [0, 1, 2] (by decide) rfl) hS (lv_sub hl [3, 4, 5, 6, 7, 8, 1, 0] rfl)
                  · have hf := it_f c_29 hf
                    refine lv_aload_n hx hb dX9_look_160 rfl (lv_at hl 1 rfl) ?_
                    refine va_get (D := D) (ci := 8) (v := .ref q_a0_manyBy) (C := RX9) (T := TX9) (N := 18) hx hb hts in_X9 hown hK hP 0 rfl rfl 6 (by decide) kf_27 (fun _ h9 => h9) rfl dX9_look_161 ?_
                    refine lv_iload hx hb dX9_look_164 (lv_at hl 0 rfl) ?_
                    refine va_iald hx hb hK hP 2 0 rfl rfl hf.1 dX9_look_166 ?_
                    have hf := hf.2
                    refine lv_goto (tgt := 172) hx hb dX9_look_167 (by decide) ?_
                    refine lv_istore (lv' := [(6, .int ((upd w_17 (r_28.toNatClampNeg) ((w_17 r_28.toNatClampNeg) + 1)) r_28.toNatClampNeg)), (8, .int r_28), (0, .ref q_a0), (1, .int r_1), (2, .int v_3), (3, .int v_4), (4, .int v_5), (5, .int v_15), (7, .int v_19)]) hx hb dX9_look_172 hl (by decide) rfl (fun ls hl => ?_)
                    refine lv_iinc (v := v_19 + 1) (lv' := [(7, .int (v_19 + 1)), (6, .int ((upd w_17 (r_28.toNatClampNeg) ((w_17 r_28.toNatClampNeg) + 1)) r_28.toNatClampNeg)), (8, .int r_28), (0, .ref q_a0), (1, .int r_1), (2, .int v_3), (3, .int v_4), (4, .int v_5), (5, .int v_15)]) hx hb dX9_look_174 hl (k := 8) rfl rfl (by decide) rfl (fun ls hl => ?_)
                    refine lv_goto (tgt := 75) hx hb dX9_look_177 (by decide) ?_
                    exact ih (upd w_17 (r_28.toNatClampNeg) ((w_17 r_28.toNatClampNeg) + 1)) ((upd w_17 (r_28.toNatClampNeg) ((w_17 r_28.toNatClampNeg) + 1)) r_28.toNatClampNeg) (v_19 + 1) _ _ ls hf (hP.sub [0, 1, 2] rfl) (hD.sub [0, 1, 2] (by decide) rfl) hS (lv_sub hl [3, 4, 5, 6, 7, 8, 1, 0] rfl)
        exact hlp_75 1000 w_14 v_16 0 _ _ ls hf (hP.sub [0, 1, 2] rfl) (hD.sub [0, 1, 2] (by decide) rfl) hS (lv_sub hl [1, 2, 3, 4, 5, 6, 7, 0] rfl)
      have hj_46 : ∀ (v_30 : Int32) (t_31 : Int32) (H : Heap) (locs : List Loc), jX9_look_46 a0_told r_1 (lq4 (bX9_look_13 a0_told Q r_1) n_13) w_2 v_3 v_4 v_5 v_30 t_31 → va_P D vwCl [(q_a0, .inr (8, [.ref q_a0_told, .ref q_a0_kept, .ref q_a0_isKept, .ref q_a0_refused, .long a0_above, .long a0_below, .ref q_a0_manyBy, .ref q_a0_hers, .ref q_a0_his, .ref q_a0_hand, .ref q_a0_bytes, .int a0_bytesLong, .int a0_tokenAt, .int a0_tokenLong, .int a0_token, .int a0_value, .ref q_a0_anew, .ref q_a0_values])), (q_a0_told, .inl (cI, 163, .inl a0_told)), (q_a0_manyBy, .inl (cI, 8, .inl w_2))] H → va_D A [(q_a0, .inr (8, [.ref q_a0_told, .ref q_a0_kept, .ref q_a0_isKept, .ref q_a0_refused, .long a0_above, .long a0_below, .ref q_a0_manyBy, .ref q_a0_hers, .ref q_a0_his, .ref q_a0_hand, .ref q_a0_bytes, .int a0_bytesLong, .int a0_tokenAt, .int a0_tokenLong, .int a0_token, .int a0_value, .ref q_a0_anew, .ref q_a0_values])), (q_a0_told, .inl (cI, 163, .inl a0_told)), (q_a0_manyBy, .inl (cI, 8, .inl w_2))] → va_S A s.heap H locs → ∀ ls : Array Slot, lv_has ls 9 [(0, .ref q_a0), (1, .int r_1), (2, .int v_3), (3, .int v_4), (4, .int v_5), (5, .int v_30)] → W p l e (headSpec wsX9_look rmX9_look).room s m ([.ref q_a0] : List Value).toArray below meth c H locs 0 0 QQ (F0 m 46 ls [.int t_31]) := by
        intro v_30 t_31 H locs hf hP hD hS ls hl
        unfold jX9_look_46 at hf
        refine lv_istore (lv' := [(6, .int t_31), (0, .ref q_a0), (1, .int r_1), (2, .int v_3), (3, .int v_4), (4, .int v_5), (5, .int v_30)]) hx hb dX9_look_46 hl (by decide) rfl (fun ls hl => ?_)
        refine lv_iconst (v := 0) hx hb dX9_look_48 (by decide) ?_
        refine lv_istore (lv' := [(7, .int 0), (6, .int t_31), (0, .ref q_a0), (1, .int r_1), (2, .int v_3), (3, .int v_4), (4, .int v_5), (5, .int v_30)]) hx hb dX9_look_49 hl (by decide) rfl (fun ls hl => ?_)
        have hlp_51 : ∀ (n_51 : Nat) (w_32 : Nat → Int32) (v_33 : Int32) (H : Heap) (locs : List Loc) (ls : Array Slot), lq2 (bX9_look_51 a0_told r_1 (lq4 (bX9_look_13 a0_told Q r_1) n_13) v_3 v_4 v_5 v_30 t_31) n_51 w_32 v_33 → va_P D vwCl [(q_a0, .inr (8, [.ref q_a0_told, .ref q_a0_kept, .ref q_a0_isKept, .ref q_a0_refused, .long a0_above, .long a0_below, .ref q_a0_manyBy, .ref q_a0_hers, .ref q_a0_his, .ref q_a0_hand, .ref q_a0_bytes, .int a0_bytesLong, .int a0_tokenAt, .int a0_tokenLong, .int a0_token, .int a0_value, .ref q_a0_anew, .ref q_a0_values])), (q_a0_told, .inl (cI, 163, .inl a0_told)), (q_a0_manyBy, .inl (cI, 8, .inl w_32))] H → va_D A [(q_a0, .inr (8, [.ref q_a0_told, .ref q_a0_kept, .ref q_a0_isKept, .ref q_a0_refused, .long a0_above, .long a0_below, .ref q_a0_manyBy, .ref q_a0_hers, .ref q_a0_his, .ref q_a0_hand, .ref q_a0_bytes, .int a0_bytesLong, .int a0_tokenAt, .int a0_tokenLong, .int a0_token, .int a0_value, .ref q_a0_anew, .ref q_a0_values])), (q_a0_told, .inl (cI, 163, .inl a0_told)), (q_a0_manyBy, .inl (cI, 8, .inl w_32))] → va_S A s.heap H locs → lv_has ls 9 [(0, .ref q_a0), (1, .int r_1), (2, .int v_3), (3, .int v_4), (4, .int v_5), (5, .int v_30), (6, .int t_31), (7, .int v_33)] → W p l e (headSpec wsX9_look rmX9_look).room s m ([.ref q_a0] : List Value).toArray below meth c H locs 0 0 QQ (F0 m 51 ls []) := by
          intro n_51
          induction n_51 with
          | zero => intro w_32 v_33 H locs ls hf; exact (lq2_0 hf).elim
          | succ n_51 ih =>
            have ih_51 := ih
            intro w_32 v_33 H locs ls hf hP hD hS hl
            have hf := lq2_s hf
            unfold bX9_look_51 at hf
            refine lv_iload hx hb dX9_look_51 (lv_at hl 7 rfl) ?_
            refine lv_bipush (v := 8) hx hb dX9_look_53 (by decide) ?_
            refine lv_icmp_ge (tgt := 72) hx hb dX9_look_55 (by decide) (fun c_35 => ?_) (fun c_35 => ?_)
            · have hf := it_t c_35 hf
              exact hj_72 w_32 v_30 t_31 _ _ hf (hP.sub [0, 1, 2] rfl) (hD.sub [0, 1, 2] (by decide) rfl) hS ls (lv_sub hl [0, 1, 2, 3, 4, 5, 6] rfl)
            · have hf := it_f c_35 hf
              refine lv_aload_n hx hb dX9_look_58 rfl (lv_at hl 0 rfl) ?_
              refine va_get (D := D) (ci := 8) (v := .ref q_a0_manyBy) (C := RX9) (T := TX9) (N := 18) hx hb hts in_X9 hown hK hP 0 rfl rfl 6 (by decide) kf_27 (fun _ h9 => h9) rfl dX9_look_59 ?_
              refine lv_iload hx hb dX9_look_62 (lv_at hl 7 rfl) ?_
              refine lv_iconst (v := 0) hx hb dX9_look_64 (by decide) ?_
              refine va_iast hx hb hK hP hD hS 2 0 rfl rfl hf.1 dX9_look_65 (fun H locs hP hD hS => ?_)
              have hP : va_P D vwCl [(q_a0, .inr (8, [.ref q_a0_told, .ref q_a0_kept, .ref q_a0_isKept, .ref q_a0_refused, .long a0_above, .long a0_below, .ref q_a0_manyBy, .ref q_a0_hers, .ref q_a0_his, .ref q_a0_hand, .ref q_a0_bytes, .int a0_bytesLong, .int a0_tokenAt, .int a0_tokenLong, .int a0_token, .int a0_value, .ref q_a0_anew, .ref q_a0_values])), (q_a0_told, .inl (cI, 163, .inl a0_told)), (q_a0_manyBy, .inl (cI, 8, .inl (upd w_32 (v_33.toNatClampNeg) 0)))] H := hP
              have hD : va_D A [(q_a0, .inr (8, [.ref q_a0_told, .ref q_a0_kept, .ref q_a0_isKept, .ref q_a0_refused, .long a0_above, .long a0_below, .ref q_a0_manyBy, .ref q_a0_hers, .ref q_a0_his, .ref q_a0_hand, .ref q_a0_bytes, .int a0_bytesLong, .int a0_tokenAt, .int a0_tokenLong, .int a0_token, .int a0_value, .ref q_a0_anew, .ref q_a0_values])), (q_a0_told, .inl (cI, 163, .inl a0_told)), (q_a0_manyBy, .inl (cI, 8, .inl (upd w_32 (v_33.toNatClampNeg) 0)))] := hD
              have hf := hf.2
              refine lv_iinc (v := v_33 + 1) (lv' := [(7, .int (v_33 + 1)), (0, .ref q_a0), (1, .int r_1), (2, .int v_3), (3, .int v_4), (4, .int v_5), (5, .int v_30), (6, .int t_31)]) hx hb dX9_look_66 hl (k := 7) rfl rfl (by decide) rfl (fun ls hl => ?_)
              refine lv_goto (tgt := 51) hx hb dX9_look_69 (by decide) ?_
              exact ih (upd w_32 (v_33.toNatClampNeg) 0) (v_33 + 1) _ _ ls hf (hP.sub [0, 1, 2] rfl) (hD.sub [0, 1, 2] (by decide) rfl) hS (lv_sub hl [1, 2, 3, 4, 5, 6, 7, 0] rfl)
        exact hlp_51 1000 w_2 0 _ _ ls hf (hP.sub [0, 1, 2] rfl) (hD.sub [0, 1, 2] (by decide) rfl) hS (lv_sub hl [2, 3, 4, 5, 6, 7, 1, 0] rfl)
      have hf := lq4_s hf
      unfold bX9_look_13 at hf
      refine lv_iload hx hb dX9_look_13 (lv_at hl 4 rfl) ?_
      refine lv_bipush (v := 98) hx hb dX9_look_15 (by decide) ?_
      refine lv_icmp_ge (tgt := 212) hx hb dX9_look_17 (by decide) (fun c_36 => ?_) (fun c_36 => ?_)
      · have hf := it_t c_36 hf
        refine lv_iload_n hx hb dX9_look_212 rfl (lv_at hl 2 rfl) ?_
        subst hQQ
        have hP9 := hP.sub (ws' := [(q_a0, .inr (8, [.ref q_a0_told, .ref q_a0_kept, .ref q_a0_isKept, .ref q_a0_refused, .long a0_above, .long a0_below, .ref q_a0_manyBy, .ref q_a0_hers, .ref q_a0_his, .ref q_a0_hand, .ref q_a0_bytes, .int a0_bytesLong, .int a0_tokenAt, .int a0_tokenLong, .int a0_token, .int a0_value, .ref q_a0_anew, .ref q_a0_values])), (q_a0_told, .inl (cI, 163, .inl a0_told)), (q_a0_manyBy, .inl (cI, 8, .inl w_2))]) [0, 1, 2] rfl
        have hD9 := hD.sub (ws' := [(q_a0, .inr (8, [.ref q_a0_told, .ref q_a0_kept, .ref q_a0_isKept, .ref q_a0_refused, .long a0_above, .long a0_below, .ref q_a0_manyBy, .ref q_a0_hers, .ref q_a0_his, .ref q_a0_hand, .ref q_a0_bytes, .int a0_bytesLong, .int a0_tokenAt, .int a0_tokenLong, .int a0_token, .int a0_value, .ref q_a0_anew, .ref q_a0_values])), (q_a0_told, .inl (cI, 163, .inl a0_told)), (q_a0_manyBy, .inl (cI, 8, .inl w_2))]) [0, 1, 2] (by decide) rfl
        exact W.iret hx hb hr (fun t ht hW => ⟨⟨v_3, w_2, rfl, hf, by rw [ht]; exact hP9, hD9⟩, hS.F ht⟩) hS.2.2 dX9_look_213
      · have hf := it_f c_36 hf
        refine lv_iload_n hx hb dX9_look_20 rfl (lv_at hl 1 rfl) ?_
        refine lv_if_le (tgt := 212) hx hb dX9_look_21 (by decide) (fun c_37 => ?_) (fun c_37 => ?_)
        · have hf := it_t c_37 hf
          refine lv_iload_n hx hb dX9_look_212 rfl (lv_at hl 2 rfl) ?_
          subst hQQ
          have hP9 := hP.sub (ws' := [(q_a0, .inr (8, [.ref q_a0_told, .ref q_a0_kept, .ref q_a0_isKept, .ref q_a0_refused, .long a0_above, .long a0_below, .ref q_a0_manyBy, .ref q_a0_hers, .ref q_a0_his, .ref q_a0_hand, .ref q_a0_bytes, .int a0_bytesLong, .int a0_tokenAt, .int a0_tokenLong, .int a0_token, .int a0_value, .ref q_a0_anew, .ref q_a0_values])), (q_a0_told, .inl (cI, 163, .inl a0_told)), (q_a0_manyBy, .inl (cI, 8, .inl w_2))]) [0, 1, 2] rfl
          have hD9 := hD.sub (ws' := [(q_a0, .inr (8, [.ref q_a0_told, .ref q_a0_kept, .ref q_a0_isKept, .ref q_a0_refused, .long a0_above, .long a0_below, .ref q_a0_manyBy, .ref q_a0_hers, .ref q_a0_his, .ref q_a0_hand, .ref q_a0_bytes, .int a0_bytesLong, .int a0_tokenAt, .int a0_tokenLong, .int a0_token, .int a0_value, .ref q_a0_anew, .ref q_a0_values])), (q_a0_told, .inl (cI, 163, .inl a0_told)), (q_a0_manyBy, .inl (cI, 8, .inl w_2))]) [0, 1, 2] (by decide) rfl
          exact W.iret hx hb hr (fun t ht hW => ⟨⟨v_3, w_2, rfl, hf, by rw [ht]; exact hP9, hD9⟩, hS.F ht⟩) hS.2.2 dX9_look_213
        · have hf := it_f c_37 hf
          refine lv_iload hx hb dX9_look_24 (lv_at hl 4 rfl) ?_
          refine lv_bipush (v := 10) hx hb dX9_look_26 (by decide) ?_
          refine lv_irem hx hb dX9_look_28 (by decide) ?_
          refine lv_istore (lv' := [(5, .int (v_5 - v_5 / 10 * 10)), (0, .ref q_a0), (1, .int r_1), (2, .int v_3), (3, .int v_4), (4, .int v_5)]) hx hb dX9_look_29 hl (by decide) rfl (fun ls hl => ?_)
          refine lv_aload_n hx hb dX9_look_31 rfl (lv_at hl 1 rfl) ?_
          refine lv_iload hx hb dX9_look_32 (lv_at hl 0 rfl) ?_
          refine ya_csi (va_runV (As := [.int (v_5 - v_5 / 10 * 10)]) (rest := []) ⟨hx, hb, hml, hown, hts⟩ (c_X9_isBend l D cI cZ cO q_a0 q_a0_told q_a0_kept q_a0_isKept q_a0_refused q_a0_manyBy q_a0_hers q_a0_his q_a0_hand q_a0_bytes q_a0_anew q_a0_values a0_above a0_below a0_bytesLong a0_tokenAt a0_tokenLong a0_token a0_value a0_told (v_5 - v_5 / 10 * 10) _ hf) (cwV 1 hts gX9_look_X9_isBend rfl rfl rfl (by decide +kernel) ⟨Nat.le_of_ble_eq_true rfl, Nat.le_of_ble_eq_true rfl⟩) (pv_ro (ci := 8) (q0 := 0) (hP.sub [0, 1] rfl) hX rfl rfl) rfl rfl hl.1 rfl (lv_room (Nat.le_of_ble_eq_true rfl)) dX9_look_34 ⟨Nat.zero_le _, Nat.zero_le _⟩) (fun r_38 hf => ?_)
          refine lv_if_eq (tgt := 44) hx hb dX9_look_37 (by decide) (fun c_39 => ?_) (fun c_39 => ?_)
          · have hf := it_t c_39 hf
            refine lv_ldc (v := 1000000) hx hb hown kc_137 dX9_look_44 ?_
            exact hj_46 (v_5 - v_5 / 10 * 10) 1000000 _ _ hf (hP.sub [0, 1, 2] rfl) (hD.sub [0, 1, 2] (by decide) rfl) hS ls (lv_sub hl [1, 2, 3, 4, 5, 0] rfl)
          · have hf := it_f c_39 hf
            refine lv_iconst (v := 0) hx hb dX9_look_40 (by decide) ?_
            refine lv_goto (tgt := 46) hx hb dX9_look_41 (by decide) ?_
            exact hj_46 (v_5 - v_5 / 10 * 10) 0 _ _ hf (hP.sub [0, 1, 2] rfl) (hD.sub [0, 1, 2] (by decide) rfl) hS ls (lv_sub hl [1, 2, 3, 4, 5, 0] rfl)
  exact hlp_13 1000 a0_manyBy (-1) 1000000 0 _ _ ls hf (hP.sub [0, 1, 2] rfl) (hD.sub [0, 1, 2] (by decide) rfl) hS (lv_sub hl [4, 3, 2, 1, 0] rfl)
def jX9_writes_190 (k_5 : Int32 → Int32 → Prop) (v_3 : Int32) (v_4 : Int32) (t_6 : Int32) : Prop :=
  if t_6 = 0 then (k_5 (v_3 ||| 0) (v_4 + 1)) else (k_5 (v_3 ||| (1 <<< (v_4 &&& 31))) (v_4 + 1))
def jX9_writes_189 (k_5 : Int32 → Int32 → Prop) (v_3 : Int32) (v_4 : Int32) : Prop :=
  jX9_writes_190 k_5 v_3 v_4 0
def bX9_writes_146 (a0_refused : Nat → Int32) (Q : Int32 → (Nat → Int32) → (Nat → Int32) → (Nat → Int32) → Prop) (w_1 : Nat → Int32) (w_2 : Nat → Int32) (k_5 : Int32 → Int32 → Prop) (v_3 : Int32) (v_4 : Int32) : Prop :=
  if 4 ≤ v_4 then (Q v_3 a0_refused w_1 w_2) else (vp_in v_4 4 ∧ (vp_in (v_4 ^^^ 1) 4 ∧ (if (w_1 v_4.toNatClampNeg) < (w_1 (v_4 ^^^ 1).toNatClampNeg) then (jX9_writes_189 k_5 v_3 v_4) else (vp_in v_4 4 ∧ (vp_in (v_4 ^^^ 2) 4 ∧ (if (w_2 v_4.toNatClampNeg) < (w_2 (v_4 ^^^ 2).toNatClampNeg) then (jX9_writes_189 k_5 v_3 v_4) else (jX9_writes_190 k_5 v_3 v_4 1)))))))
def jX9_writes_142 (a0_refused : Nat → Int32) (Q : Int32 → (Nat → Int32) → (Nat → Int32) → (Nat → Int32) → Prop) (w_1 : Nat → Int32) (w_2 : Nat → Int32) : Prop :=
  lq2 (bX9_writes_146 a0_refused Q w_1 w_2) 1000 0 0
def jX9_writes_85 (a0_told : Nat → Int32) (x1 : Int32) (k_16 : (Nat → Int32) → (Nat → Int32) → Int32 → Prop) (w_13 : Nat → Int32) (w_14 : Nat → Int32) (v_15 : Int32) (t_17 : Int32) : Prop :=
  p_X9_holdsOf 163 a0_told x1 (fun r_18 => p_X9_costAt t_17 r_18 (fun r_19 => vp_in v_15 4 ∧ (if v_15 ≤ 1 then (vp_in v_15 4 ∧ (k_16 (upd w_13 (v_15.toNatClampNeg) ((-r_19) - (v_15 &&& 1))) (upd w_14 (v_15.toNatClampNeg) (-r_19)) (v_15 + 1))) else (vp_in v_15 4 ∧ (k_16 (upd w_13 (v_15.toNatClampNeg) ((-r_19) - (v_15 &&& 1))) (upd w_14 (v_15.toNatClampNeg) (2 - r_19)) (v_15 + 1))))))
def jX9_writes_83 (a0_told : Nat → Int32) (x1 : Int32) (k_16 : (Nat → Int32) → (Nat → Int32) → Int32 → Prop) (w_13 : Nat → Int32) (w_14 : Nat → Int32) (v_15 : Int32) (v_21 : Int32) : Prop :=
  jX9_writes_85 a0_told x1 k_16 w_13 w_14 v_15 v_21
def jX9_writes_52 (a0_told : Nat → Int32) (x1 : Int32) (k_16 : (Nat → Int32) → (Nat → Int32) → Int32 → Prop) (w_13 : Nat → Int32) (w_14 : Nat → Int32) (v_15 : Int32) (t_22 : Int32) : Prop :=
  p_X9_paceBy 163 a0_told x1 t_22 (fun r_23 => if v_15 ≤ 1 then (jX9_writes_83 a0_told x1 k_16 w_13 w_14 v_15 r_23) else (if 7 ≤ r_23 then (jX9_writes_83 a0_told x1 k_16 w_13 w_14 v_15 r_23) else (jX9_writes_85 a0_told x1 k_16 w_13 w_14 v_15 (r_23 + 1))))
def jX9_writes_47 (a0_told : Nat → Int32) (x1 : Int32) (k_16 : (Nat → Int32) → (Nat → Int32) → Int32 → Prop) (w_13 : Nat → Int32) (w_14 : Nat → Int32) (v_15 : Int32) : Prop :=
  p_X9_noteOf a0_told x1 (fun r_26 => jX9_writes_52 a0_told x1 k_16 w_13 w_14 v_15 r_26)
def bX9_writes_17 (a0_told : Nat → Int32) (a0_refused : Nat → Int32) (x1 : Int32) (Q : Int32 → (Nat → Int32) → (Nat → Int32) → (Nat → Int32) → Prop) (k_16 : (Nat → Int32) → (Nat → Int32) → Int32 → Prop) (w_13 : Nat → Int32) (w_14 : Nat → Int32) (v_15 : Int32) : Prop :=
  if 4 ≤ v_15 then (jX9_writes_142 a0_refused Q w_13 w_14) else (if (v_15 &&& 1) = 1 then (p_X9_noteOf a0_told x1 (fun r_29 => if r_29 ≤ 0 then (jX9_writes_47 a0_told x1 k_16 w_13 w_14 v_15) else (p_X9_noteOf a0_told x1 (fun r_31 => jX9_writes_52 a0_told x1 k_16 w_13 w_14 v_15 (r_31 - 1))))) else (jX9_writes_47 a0_told x1 k_16 w_13 w_14 v_15))
def p_X9_writes (a0_told : Nat → Int32) (a0_refused : Nat → Int32) (a0_hers : Nat → Int32) (a0_his : Nat → Int32) (x1 : Int32) (Q : Int32 → (Nat → Int32) → (Nat → Int32) → (Nat → Int32) → Prop) : Prop :=
  p_X9_isBend a0_told x1 (fun r_11 => if r_11 = 0 then (p_X9_bad a0_refused (-2) (fun r_32 u_33 => Q r_32 u_33 a0_hers a0_his)) else (lq3 (bX9_writes_17 a0_told a0_refused x1 Q) 1000 a0_hers a0_his 0))
def rmX9_writes : Room := { frames := 2, cells := 0, slots := 0, locals := 49 }
set_option maxHeartbeats 4000000 in
set_option maxRecDepth 100000 in
theorem c_X9_writes (l : Launch) (D : va_G) (cI cZ cO : ClassId) (q_a0 q_a0_told q_a0_kept q_a0_isKept q_a0_refused q_a0_manyBy q_a0_hers q_a0_his q_a0_hand q_a0_bytes q_a0_anew q_a0_values : Nat) (a0_above : Int64) (a0_below : Int64) (a0_bytesLong : Int32) (a0_tokenAt : Int32) (a0_tokenLong : Int32) (a0_token : Int32) (a0_value : Int32) (a0_told : Nat → Int32) (a0_refused : Nat → Int32) (a0_hers : Nat → Int32) (a0_his : Nat → Int32) (sz : Nat) (x1 : Int32) (Q : Int32 → (Nat → Int32) → (Nat → Int32) → (Nat → Int32) → Prop) (hf : p_X9_writes a0_told a0_refused a0_hers a0_his x1 Q) : Met l yX9_writes wsX9_writes rmX9_writes (va_Pc [.ref q_a0, .int x1] (fun U => U.heap.size = sz ∧ va_P D vwCl [(q_a0, .inr (8, [.ref q_a0_told, .ref q_a0_kept, .ref q_a0_isKept, .ref q_a0_refused, .long a0_above, .long a0_below, .ref q_a0_manyBy, .ref q_a0_hers, .ref q_a0_his, .ref q_a0_hand, .ref q_a0_bytes, .int a0_bytesLong, .int a0_tokenAt, .int a0_tokenLong, .int a0_token, .int a0_value, .ref q_a0_anew, .ref q_a0_values])), (q_a0_told, .inl (cI, 163, .inl a0_told)), (q_a0_refused, .inl (cI, 3, .inl a0_refused)), (q_a0_hers, .inl (cI, 4, .inl a0_hers)), (q_a0_his, .inl (cI, 4, .inl a0_his))] U.heap ∧ XK D cI cZ cO U ∧ va_D (fun _ => True) [(q_a0, .inr (8, [.ref q_a0_told, .ref q_a0_kept, .ref q_a0_isKept, .ref q_a0_refused, .long a0_above, .long a0_below, .ref q_a0_manyBy, .ref q_a0_hers, .ref q_a0_his, .ref q_a0_hand, .ref q_a0_bytes, .int a0_bytesLong, .int a0_tokenAt, .int a0_tokenLong, .int a0_token, .int a0_value, .ref q_a0_anew, .ref q_a0_values])), (q_a0_told, .inl (cI, 163, .inl a0_told)), (q_a0_refused, .inl (cI, 3, .inl a0_refused)), (q_a0_hers, .inl (cI, 4, .inl a0_hers)), (q_a0_his, .inl (cI, 4, .inl a0_his))])) (va_Qi (fun r (u : (Nat → Int32) × (Nat → Int32) × (Nat → Int32)) => Q r u.1 u.2.1 u.2.2) (fun (u : (Nat → Int32) × (Nat → Int32) × (Nat → Int32)) t => va_P D vwCl [(q_a0, .inr (8, [.ref q_a0_told, .ref q_a0_kept, .ref q_a0_isKept, .ref q_a0_refused, .long a0_above, .long a0_below, .ref q_a0_manyBy, .ref q_a0_hers, .ref q_a0_his, .ref q_a0_hand, .ref q_a0_bytes, .int a0_bytesLong, .int a0_tokenAt, .int a0_tokenLong, .int a0_token, .int a0_value, .ref q_a0_anew, .ref q_a0_values])), (q_a0_told, .inl (cI, 163, .inl a0_told)), (q_a0_refused, .inl (cI, 3, .inl u.1)), (q_a0_hers, .inl (cI, 4, .inl u.2.1)), (q_a0_his, .inl (cI, 4, .inl u.2.2))] t.heap ∧ va_D (va_A [(q_a0, .inr (8, [.ref q_a0_told, .ref q_a0_kept, .ref q_a0_isKept, .ref q_a0_refused, .long a0_above, .long a0_below, .ref q_a0_manyBy, .ref q_a0_hers, .ref q_a0_his, .ref q_a0_hand, .ref q_a0_bytes, .int a0_bytesLong, .int a0_tokenAt, .int a0_tokenLong, .int a0_token, .int a0_value, .ref q_a0_anew, .ref q_a0_values])), (q_a0_told, .inl (cI, 163, .inl a0_told)), (q_a0_refused, .inl (cI, 3, .inl a0_refused)), (q_a0_hers, .inl (cI, 4, .inl a0_hers)), (q_a0_his, .inl (cI, 4, .inl a0_his))] sz) [(q_a0, .inr (8, [.ref q_a0_told, .ref q_a0_kept, .ref q_a0_isKept, .ref q_a0_refused, .long a0_above, .long a0_below, .ref q_a0_manyBy, .ref q_a0_hers, .ref q_a0_his, .ref q_a0_hand, .ref q_a0_bytes, .int a0_bytesLong, .int a0_tokenAt, .int a0_tokenLong, .int a0_token, .int a0_value, .ref q_a0_anew, .ref q_a0_values])), (q_a0_told, .inl (cI, 163, .inl a0_told)), (q_a0_refused, .inl (cI, 3, .inl u.1)), (q_a0_hers, .inl (cI, 4, .inl u.2.1)), (q_a0_his, .inl (cI, 4, .inl u.2.2))]) (va_A [(q_a0, .inr (8, [.ref q_a0_told, .ref q_a0_kept, .ref q_a0_isKept, .ref q_a0_refused, .long a0_above, .long a0_below, .ref q_a0_manyBy, .ref q_a0_hers, .ref q_a0_his, .ref q_a0_hand, .ref q_a0_bytes, .int a0_bytesLong, .int a0_tokenAt, .int a0_tokenLong, .int a0_token, .int a0_value, .ref q_a0_anew, .ref q_a0_values])), (q_a0_told, .inl (cI, 163, .inl a0_told)), (q_a0_refused, .inl (cI, 3, .inl a0_refused)), (q_a0_hers, .inl (cI, 4, .inl a0_hers)), (q_a0_his, .inl (cI, 4, .inl a0_his))] sz)) 0 0 (va_A [(q_a0, .inr (8, [.ref q_a0_told, .ref q_a0_kept, .ref q_a0_isKept, .ref q_a0_refused, .long a0_above, .long a0_below, .ref q_a0_manyBy, .ref q_a0_hers, .ref q_a0_his, .ref q_a0_hand, .ref q_a0_bytes, .int a0_bytesLong, .int a0_tokenAt, .int a0_tokenLong, .int a0_token, .int a0_value, .ref q_a0_anew, .ref q_a0_values])), (q_a0_told, .inl (cI, 163, .inl a0_told)), (q_a0_refused, .inl (cI, 3, .inl a0_refused)), (q_a0_hers, .inl (cI, 4, .inl a0_hers)), (q_a0_his, .inl (cI, 4, .inl a0_his))] sz) := by
  refine Met.ofW (cc := cX9_writes) (maxL := 6) (ret := (some .int)) (by decide) rfl ?_
  intro p e s m args below meth c s₁ B hml hv
  obtain ⟨rfl, hsz, hP, hX, hD0⟩ := hv
  have hK := hX.1
  have hx := B.exec
  have hb := B.bytes
  have hr := B.returns
  have hts := atoms_spec (ws := wsX9_writes) B.pre
  have hown : s.vm.findClass RX9 = some m.cls := findClass_of_methodNamed B.named
  have hlocks := B.notSynchronized
  have in_X9 : ∀ w ∈ wsX90, w ∈ wsX9_writes := fun _ h => List.mem_cons_of_mem _ (List.mem_append_right _ h)
  have kf_30 := hts (.fieldLink RX9 30 "LeftCrestModel" "hers" "[I") (by decide +kernel)
  have kf_33 := hts (.fieldLink RX9 33 "LeftCrestModel" "his" "[I") (by decide +kernel)
  have kf_7 := hts (.fieldLink RX9 7 "LeftCrestModel" "told" "[I") (by decide +kernel)
  subst hsz
  have hD := hD0.self (sz := s.heap.size)
  generalize hAe : va_A [(q_a0, .inr (8, [.ref q_a0_told, .ref q_a0_kept, .ref q_a0_isKept, .ref q_a0_refused, .long a0_above, .long a0_below, .ref q_a0_manyBy, .ref q_a0_hers, .ref q_a0_his, .ref q_a0_hand, .ref q_a0_bytes, .int a0_bytesLong, .int a0_tokenAt, .int a0_tokenLong, .int a0_token, .int a0_value, .ref q_a0_anew, .ref q_a0_values])), (q_a0_told, .inl (cI, 163, .inl a0_told)), (q_a0_refused, .inl (cI, 3, .inl a0_refused)), (q_a0_hers, .inl (cI, 4, .inl a0_hers)), (q_a0_his, .inl (cI, 4, .inl a0_his))] s.heap.size = A at hD ⊢
  have hA : ∀ q : Nat, s.heap.size ≤ q → A q := fun q h => by rw [← hAe]; exact Or.inr h
  have hS : va_S A s.heap s.heap [] := va_S.rf
  have hP : va_P D vwCl [(q_a0, .inr (8, [.ref q_a0_told, .ref q_a0_kept, .ref q_a0_isKept, .ref q_a0_refused, .long a0_above, .long a0_below, .ref q_a0_manyBy, .ref q_a0_hers, .ref q_a0_his, .ref q_a0_hand, .ref q_a0_bytes, .int a0_bytesLong, .int a0_tokenAt, .int a0_tokenLong, .int a0_token, .int a0_value, .ref q_a0_anew, .ref q_a0_values])), (q_a0_told, .inl (cI, 163, .inl a0_told)), (q_a0_refused, .inl (cI, 3, .inl a0_refused)), (q_a0_hers, .inl (cI, 4, .inl a0_hers)), (q_a0_his, .inl (cI, 4, .inl a0_his))] s.heap := hP
  generalize hQQ : MQ below _ _ s _ _ _ = QQ
  have hl := lv_entry ([.ref q_a0, .int x1]) (n := 6) (Nat.le_of_ble_eq_true rfl)
  rw [lg_entry_eq]
  generalize (lg_sl ([.ref q_a0, .int x1]) ++ List.replicate (6 - (lg_sl ([.ref q_a0, .int x1])).length) Slot.unset).toArray = ls at hl ⊢
  have hl : lv_has ls 6 [(0, .ref q_a0), (1, .int x1)] := hl
  have hj_142 : ∀ (w_1 : Nat → Int32) (w_2 : Nat → Int32) (H : Heap) (locs : List Loc), jX9_writes_142 a0_refused Q w_1 w_2 → va_P D vwCl [(q_a0, .inr (8, [.ref q_a0_told, .ref q_a0_kept, .ref q_a0_isKept, .ref q_a0_refused, .long a0_above, .long a0_below, .ref q_a0_manyBy, .ref q_a0_hers, .ref q_a0_his, .ref q_a0_hand, .ref q_a0_bytes, .int a0_bytesLong, .int a0_tokenAt, .int a0_tokenLong, .int a0_token, .int a0_value, .ref q_a0_anew, .ref q_a0_values])), (q_a0_told, .inl (cI, 163, .inl a0_told)), (q_a0_refused, .inl (cI, 3, .inl a0_refused)), (q_a0_hers, .inl (cI, 4, .inl w_1)), (q_a0_his, .inl (cI, 4, .inl w_2))] H → va_D A [(q_a0, .inr (8, [.ref q_a0_told, .ref q_a0_kept, .ref q_a0_isKept, .ref q_a0_refused, .long a0_above, .long a0_below, .ref q_a0_manyBy, .ref q_a0_hers, .ref q_a0_his, .ref q_a0_hand, .ref q_a0_bytes, .int a0_bytesLong, .int a0_tokenAt, .int a0_tokenLong, .int a0_token, .int a0_value, .ref q_a0_anew, .ref q_a0_values])), (q_a0_told, .inl (cI, 163, .inl a0_told)), (q_a0_refused, .inl (cI, 3, .inl a0_refused)), (q_a0_hers, .inl (cI, 4, .inl w_1)), (q_a0_his, .inl (cI, 4, .inl w_2))] → va_S A s.heap H locs → ∀ ls : Array Slot, lv_has ls 6 [(0, .ref q_a0)] → W p l e (headSpec wsX9_writes rmX9_writes).room s m ([.ref q_a0, .int x1] : List Value).toArray below meth c H locs 0 0 QQ (F0 m 142 ls []) := by
    intro w_1 w_2 H locs hf hP hD hS ls hl
    unfold jX9_writes_142 at hf
    refine lv_iconst (v := 0) hx hb dX9_writes_142 (by decide) ?_
    refine lv_istore_n (lv' := [(2, .int 0), (0, .ref q_a0)]) hx hb dX9_writes_143 rfl hl (by decide) rfl (fun ls hl => ?_)
    refine lv_iconst (v := 0) hx hb dX9_writes_144 (by decide) ?_
    refine lv_istore_n (lv' := [(3, .int 0), (2, .int 0), (0, .ref q_a0)]) hx hb dX9_writes_145 rfl hl (by decide) rfl (fun ls hl => ?_)
    have hlp_146 : ∀ (n_146 : Nat) (v_3 : Int32) (v_4 : Int32) (H : Heap) (locs : List Loc) (ls : Array Slot), lq2 (bX9_writes_146 a0_refused Q w_1 w_2) n_146 v_3 v_4 → va_P D vwCl [(q_a0, .inr (8, [.ref q_a0_told, .ref q_a0_kept, .ref q_a0_isKept, .ref q_a0_refused, .long a0_above, .long a0_below, .ref q_a0_manyBy, .ref q_a0_hers, .ref q_a0_his, .ref q_a0_hand, .ref q_a0_bytes, .int a0_bytesLong, .int a0_tokenAt, .int a0_tokenLong, .int a0_token, .int a0_value, .ref q_a0_anew, .ref q_a0_values])), (q_a0_told, .inl (cI, 163, .inl a0_told)), (q_a0_refused, .inl (cI, 3, .inl a0_refused)), (q_a0_hers, .inl (cI, 4, .inl w_1)), (q_a0_his, .inl (cI, 4, .inl w_2))] H → va_D A [(q_a0, .inr (8, [.ref q_a0_told, .ref q_a0_kept, .ref q_a0_isKept, .ref q_a0_refused, .long a0_above, .long a0_below, .ref q_a0_manyBy, .ref q_a0_hers, .ref q_a0_his, .ref q_a0_hand, .ref q_a0_bytes, .int a0_bytesLong, .int a0_tokenAt, .int a0_tokenLong, .int a0_token, .int a0_value, .ref q_a0_anew, .ref q_a0_values])), (q_a0_told, .inl (cI, 163, .inl a0_told)), (q_a0_refused, .inl (cI, 3, .inl a0_refused)), (q_a0_hers, .inl (cI, 4, .inl w_1)), (q_a0_his, .inl (cI, 4, .inl w_2))] → va_S A s.heap H locs → lv_has ls 6 [(0, .ref q_a0), (2, .int v_3), (3, .int v_4)] → W p l e (headSpec wsX9_writes rmX9_writes).room s m ([.ref q_a0, .int x1] : List Value).toArray below meth c H locs 0 0 QQ (F0 m 146 ls []) := by
      intro n_146
      induction n_146 with
      | zero => intro v_3 v_4 H locs ls hf; exact (lq2_0 hf).elim
      | succ n_146 ih =>
        have ih_146 := ih
        intro v_3 v_4 H locs ls hf hP hD hS hl
        have hj_190 : ∀ (t_6 : Int32) (H : Heap) (locs : List Loc), jX9_writes_190 (lq2 (bX9_writes_146 a0_refused Q w_1 w_2) n_146) v_3 v_4 t_6 → va_P D vwCl [(q_a0, .inr (8, [.ref q_a0_told, .ref q_a0_kept, .ref q_a0_isKept, .ref q_a0_refused, .long a0_above, .long a0_below, .ref q_a0_manyBy, .ref q_a0_hers, .ref q_a0_his, .ref q_a0_hand, .ref q_a0_bytes, .int a0_bytesLong, .int a0_tokenAt, .int a0_tokenLong, .int a0_token, .int a0_value, .ref q_a0_anew, .ref q_a0_values])), (q_a0_told, .inl (cI, 163, .inl a0_told)), (q_a0_refused, .inl (cI, 3, .inl a0_refused)), (q_a0_hers, .inl (cI, 4, .inl w_1)), (q_a0_his, .inl (cI, 4, .inl w_2))] H → va_D A [(q_a0, .inr (8, [.ref q_a0_told, .ref q_a0_kept, .ref q_a0_isKept, .ref q_a0_refused, .long a0_above, .long a0_below, .ref q_a0_manyBy, .ref q_a0_hers, .ref q_a0_his, .ref q_a0_hand, .ref q_a0_bytes, .int a0_bytesLong, .int a0_tokenAt, .int a0_tokenLong, .int a0_token, .int a0_value, .ref q_a0_anew, .ref q_a0_values])), (q_a0_told, .inl (cI, 163, .inl a0_told)), (q_a0_refused, .inl (cI, 3, .inl a0_refused)), (q_a0_hers, .inl (cI, 4, .inl w_1)), (q_a0_his, .inl (cI, 4, .inl w_2))] → va_S A s.heap H locs → ∀ ls : Array Slot, lv_has ls 6 [(0, .ref q_a0), (2, .int v_3), (3, .int v_4)] → W p l e (headSpec wsX9_writes rmX9_writes).room s m ([.ref q_a0, .int x1] : List Value).toArray below meth c H locs 0 0 QQ (F0 m 190 ls [.int t_6]) := by
          intro t_6 H locs hf hP hD hS ls hl
          unfold jX9_writes_190 at hf
          refine lv_istore (lv' := [(4, .int t_6), (0, .ref q_a0), (2, .int v_3), (3, .int v_4)]) hx hb dX9_writes_190 hl (by decide) rfl (fun ls hl => ?_)
          refine lv_iload_n hx hb dX9_writes_192 rfl (lv_at hl 2 rfl) ?_
          refine lv_iload hx hb dX9_writes_193 (lv_at hl 0 rfl) ?_
          refine lv_if_eq (tgt := 204) hx hb dX9_writes_195 (by decide) (fun c_7 => ?_) (fun c_7 => ?_)
          · have hf := it_t c_7 hf
            refine lv_iconst (v := 0) hx hb dX9_writes_204 (by decide) ?_
            refine lv_ior hx hb dX9_writes_205 ?_
            refine lv_istore_n (lv' := [(2, .int (v_3 ||| 0)), (4, .int t_6), (0, .ref q_a0), (3, .int v_4)]) hx hb dX9_writes_206 rfl hl (by decide) rfl (fun ls hl => ?_)
            refine lv_iinc (v := v_4 + 1) (lv' := [(3, .int (v_4 + 1)), (2, .int (v_3 ||| 0)), (4, .int t_6), (0, .ref q_a0)]) hx hb dX9_writes_207 hl (k := 3) rfl rfl (by decide) rfl (fun ls hl => ?_)
            refine lv_goto (tgt := 146) hx hb dX9_writes_210 (by decide) ?_
            exact ih (v_3 ||| 0) (v_4 + 1) _ _ ls hf (hP.sub [0, 1, 2, 3, 4] rfl) (hD.sub [0, 1, 2, 3, 4] (by decide) rfl) hS (lv_sub hl [3, 1, 0] rfl)
          · have hf := it_f c_7 hf
            refine lv_iconst (v := 1) hx hb dX9_writes_198 (by decide) ?_
            refine lv_iload_n hx hb dX9_writes_199 rfl (lv_at hl 3 rfl) ?_
            refine lv_ishl hx hb dX9_writes_200 ?_
            refine lv_goto (tgt := 205) hx hb dX9_writes_201 (by decide) ?_
            refine lv_ior hx hb dX9_writes_205 ?_
            refine lv_istore_n (lv' := [(2, .int (v_3 ||| (1 <<< (v_4 &&& 31)))), (4, .int t_6), (0, .ref q_a0), (3, .int v_4)]) hx hb dX9_writes_206 rfl hl (by decide) rfl (fun ls hl => ?_)
            refine lv_iinc (v := v_4 + 1) (lv' := [(3, .int (v_4 + 1)), (2, .int (v_3 ||| (1 <<< (v_4 &&& 31)))), (4, .int t_6), (0, .ref q_a0)]) hx hb dX9_writes_207 hl (k := 3) rfl rfl (by decide) rfl (fun ls hl => ?_)
            refine lv_goto (tgt := 146) hx hb dX9_writes_210 (by decide) ?_
            exact ih (v_3 ||| (1 <<< (v_4 &&& 31))) (v_4 + 1) _ _ ls hf (hP.sub [0, 1, 2, 3, 4] rfl) (hD.sub [0, 1, 2, 3, 4] (by decide) rfl) hS (lv_sub hl [3, 1, 0] rfl)
        have hj_189 : ∀  (H : Heap) (locs : List Loc), jX9_writes_189 (lq2 (bX9_writes_146 a0_refused Q w_1 w_2) n_146) v_3 v_4  → va_P D vwCl [(q_a0, .inr (8, [.ref q_a0_told, .ref q_a0_kept, .ref q_a0_isKept, .ref q_a0_refused, .long a0_above, .long a0_below, .ref q_a0_manyBy, .ref q_a0_hers, .ref q_a0_his, .ref q_a0_hand, .ref q_a0_bytes, .int a0_bytesLong, .int a0_tokenAt, .int a0_tokenLong, .int a0_token, .int a0_value, .ref q_a0_anew, .ref q_a0_values])), (q_a0_told, .inl (cI, 163, .inl a0_told)), (q_a0_refused, .inl (cI, 3, .inl a0_refused)), (q_a0_hers, .inl (cI, 4, .inl w_1)), (q_a0_his, .inl (cI, 4, .inl w_2))] H → va_D A [(q_a0, .inr (8, [.ref q_a0_told, .ref q_a0_kept, .ref q_a0_isKept, .ref q_a0_refused, .long a0_above, .long a0_below, .ref q_a0_manyBy, .ref q_a0_hers, .ref q_a0_his, .ref q_a0_hand, .ref q_a0_bytes, .int a0_bytesLong, .int a0_tokenAt, .int a0_tokenLong, .int a0_token, .int a0_value, .ref q_a0_anew, .ref q_a0_values])), (q_a0_told, .inl (cI, 163, .inl a0_told)), (q_a0_refused, .inl (cI, 3, .inl a0_refused)), (q_a0_hers, .inl (cI, 4, .inl w_1)), (q_a0_his, .inl (cI, 4, .inl w_2))] → va_S A s.heap H locs → ∀ ls : Array Slot, lv_has ls 6 [(0, .ref q_a0), (2, .int v_3), (3, .int v_4)] → W p l e (headSpec wsX9_writes rmX9_writes).room s m ([.ref q_a0, .int x1] : List Value).toArray below meth c H locs 0 0 QQ (F0 m 189 ls []) := by
          intro  H locs hf hP hD hS ls hl
          unfold jX9_writes_189 at hf
          refine lv_iconst (v := 0) hx hb dX9_writes_189 (by decide) ?_
          exact hj_190 0 _ _ hf (hP.sub [0, 1, 2, 3, 4] rfl) (hD.sub [0, 1, 2, 3, 4] (by decide) rfl) hS ls (lv_sub hl [0, 1, 2] rfl)
        have hf := lq2_s hf
        unfold bX9_writes_146 at hf
        refine lv_iload_n hx hb dX9_writes_146 rfl (lv_at hl 2 rfl) ?_
        refine lv_iconst (v := 4) hx hb dX9_writes_147 (by decide) ?_
        refine lv_icmp_ge (tgt := 213) hx hb dX9_writes_148 (by decide) (fun c_8 => ?_) (fun c_8 => ?_)
        · have hf := it_t c_8 hf
          refine lv_iload_n hx hb dX9_writes_213 rfl (lv_at hl 1 rfl) ?_
          subst hQQ
          have hP9 := hP.sub (ws' := [(q_a0, .inr (8, [.ref q_a0_told, .ref q_a0_kept, .ref q_a0_isKept, .ref q_a0_refused, .long a0_above, .long a0_below, .ref q_a0_manyBy, .ref q_a0_hers, .ref q_a0_his, .ref q_a0_hand, .ref q_a0_bytes, .int a0_bytesLong, .int a0_tokenAt, .int a0_tokenLong, .int a0_token, .int a0_value, .ref q_a0_anew, .ref q_a0_values])), (q_a0_told, .inl (cI, 163, .inl a0_told)), (q_a0_refused, .inl (cI, 3, .inl a0_refused)), (q_a0_hers, .inl (cI, 4, .inl w_1)), (q_a0_his, .inl (cI, 4, .inl w_2))]) [0, 1, 2, 3, 4] rfl
          have hD9 := hD.sub (ws' := [(q_a0, .inr (8, [.ref q_a0_told, .ref q_a0_kept, .ref q_a0_isKept, .ref q_a0_refused, .long a0_above, .long a0_below, .ref q_a0_manyBy, .ref q_a0_hers, .ref q_a0_his, .ref q_a0_hand, .ref q_a0_bytes, .int a0_bytesLong, .int a0_tokenAt, .int a0_tokenLong, .int a0_token, .int a0_value, .ref q_a0_anew, .ref q_a0_values])), (q_a0_told, .inl (cI, 163, .inl a0_told)), (q_a0_refused, .inl (cI, 3, .inl a0_refused)), (q_a0_hers, .inl (cI, 4, .inl w_1)), (q_a0_his, .inl (cI, 4, .inl w_2))]) [0, 1, 2, 3, 4] (by decide) rfl
          exact W.iret hx hb hr (fun t ht hW => ⟨⟨v_3, (a0_refused, w_1, w_2), rfl, hf, by rw [ht]; exact hP9, hD9⟩, hS.F ht⟩) hS.2.2 dX9_writes_214
        · have hf := it_f c_8 hf
          refine lv_aload_n hx hb dX9_writes_151 rfl (lv_at hl 0 rfl) ?_
          refine va_get (D := D) (ci := 8) (v := .ref q_a0_hers) (C := RX9) (T := TX9) (N := 18) hx hb hts in_X9 hown hK hP 0 rfl rfl 7 (by decide) kf_30 (fun _ h9 => h9) rfl dX9_writes_152 ?_
          refine lv_iload_n hx hb dX9_writes_155 rfl (lv_at hl 2 rfl) ?_
          refine va_iald hx hb hK hP 3 0 rfl rfl hf.1 dX9_writes_156 ?_
          have hf := hf.2
          refine lv_aload_n hx hb dX9_writes_157 rfl (lv_at hl 0 rfl) ?_
          refine va_get (D := D) (ci := 8) (v := .ref q_a0_hers) (C := RX9) (T := TX9) (N := 18) hx hb hts in_X9 hown hK hP 0 rfl rfl 7 (by decide) kf_30 (fun _ h9 => h9) rfl dX9_writes_158 ?_
          refine lv_iload_n hx hb dX9_writes_161 rfl (lv_at hl 2 rfl) ?_
          refine lv_iconst (v := 1) hx hb dX9_writes_162 (by decide) ?_
          refine lv_ixor hx hb dX9_writes_163 ?_
          refine va_iald hx hb hK hP 3 0 rfl rfl hf.1 dX9_writes_164 ?_
          have hf := hf.2
          refine lv_icmp_lt (tgt := 189) hx hb dX9_writes_165 (by decide) (fun c_9 => ?_) (fun c_9 => ?_)
          · have hf := it_t c_9 hf
            exact hj_189  _ _ hf (hP.sub [0, 1, 2, 3, 4] rfl) (hD.sub [0, 1, 2, 3, 4] (by decide) rfl) hS ls (lv_sub hl [0, 1, 2] rfl)
          · have hf := it_f c_9 hf
            refine lv_aload_n hx hb dX9_writes_168 rfl (lv_at hl 0 rfl) ?_
            refine va_get (D := D) (ci := 8) (v := .ref q_a0_his) (C := RX9) (T := TX9) (N := 18) hx hb hts in_X9 hown hK hP 0 rfl rfl 8 (by decide) kf_33 (fun _ h9 => h9) rfl dX9_writes_169 ?_
            refine lv_iload_n hx hb dX9_writes_172 rfl (lv_at hl 2 rfl) ?_
            refine va_iald hx hb hK hP 4 0 rfl rfl hf.1 dX9_writes_173 ?_
            have hf := hf.2
            refine lv_aload_n hx hb dX9_writes_174 rfl (lv_at hl 0 rfl) ?_
            refine va_get (D := D) (ci := 8) (v := .ref q_a0_his) (C := RX9) (T := TX9) (N := 18) hx hb hts in_X9 hown hK hP 0 rfl rfl 8 (by decide) kf_33 (fun _ h9 => h9) rfl dX9_writes_175 ?_
            refine lv_iload_n hx hb dX9_writes_178 rfl (lv_at hl 2 rfl) ?_
            refine lv_iconst (v := 2) hx hb dX9_writes_179 (by decide) ?_
            refine lv_ixor hx hb dX9_writes_180 ?_
            refine va_iald hx hb hK hP 4 0 rfl rfl hf.1 dX9_writes_181 ?_
            have hf := hf.2
            refine lv_icmp_lt (tgt := 189) hx hb dX9_writes_182 (by decide) (fun c_10 => ?_) (fun c_10 => ?_)
            · have hf := it_t c_10 hf
              exact hj_189  _ _ hf (hP.sub [0, 1, 2, 3, 4] rfl) (hD.sub [0, 1, 2, 3, 4] (by decide) rfl) hS ls (lv_sub hl [0, 1, 2] rfl)
            · have hf := it_f c_10 hf
              refine lv_iconst (v := 1) hx hb dX9_writes_185 (by decide) ?_
              refine lv_goto (tgt := 190) hx hb dX9_writes_186 (by decide) ?_
              exact hj_190 1 _ _ hf (hP.sub [0, 1, 2, 3, 4] rfl) (hD.sub [0, 1, 2, 3, 4] (by decide) rfl) hS ls (lv_sub hl [0, 1, 2] rfl)
    exact hlp_146 1000 0 0 _ _ ls hf (hP.sub [0, 1, 2, 3, 4] rfl) (hD.sub [0, 1, 2, 3, 4] (by decide) rfl) hS (lv_sub hl [2, 1, 0] rfl)
  unfold p_X9_writes at hf
  refine lv_aload_n hx hb dX9_writes_0 rfl (lv_at hl 0 rfl) ?_
  refine lv_iload_n hx hb dX9_writes_1 rfl (lv_at hl 1 rfl) ?_
  refine ya_csi (va_runV (As := [.int x1]) (rest := []) ⟨hx, hb, hml, hown, hts⟩ (c_X9_isBend l D cI cZ cO q_a0 q_a0_told q_a0_kept q_a0_isKept q_a0_refused q_a0_manyBy q_a0_hers q_a0_his q_a0_hand q_a0_bytes q_a0_anew q_a0_values a0_above a0_below a0_bytesLong a0_tokenAt a0_tokenLong a0_token a0_value a0_told x1 _ hf) (cwV 1 hts gX9_writes_X9_isBend rfl rfl rfl (by decide +kernel) ⟨Nat.le_of_ble_eq_true rfl, Nat.le_of_ble_eq_true rfl⟩) (pv_ro (ci := 8) (q0 := 0) (hP.sub [0, 1] rfl) hX rfl rfl) rfl rfl hl.1 rfl (lv_room (Nat.le_of_ble_eq_true rfl)) dX9_writes_2 ⟨Nat.zero_le _, Nat.zero_le _⟩) (fun r_11 hf => ?_)
  refine lv_if_ne (tgt := 15) hx hb dX9_writes_5 (by decide) (fun c_12 => ?_) (fun c_12 => ?_)
  · have hf := it_f c_12 hf
    refine lv_iconst (v := 0) hx hb dX9_writes_15 (by decide) ?_
    refine lv_istore_n (lv' := [(2, .int 0), (0, .ref q_a0), (1, .int x1)]) hx hb dX9_writes_16 rfl hl (by decide) rfl (fun ls hl => ?_)
    have hlp_17 : ∀ (n_17 : Nat) (w_13 : Nat → Int32) (w_14 : Nat → Int32) (v_15 : Int32) (H : Heap) (locs : List Loc) (ls : Array Slot), lq3 (bX9_writes_17 a0_told a0_refused x1 Q) n_17 w_13 w_14 v_15 → va_P D vwCl [(q_a0, .inr (8, [.ref q_a0_told, .ref q_a0_kept, .ref q_a0_isKept, .ref q_a0_refused, .long a0_above, .long a0_below, .ref q_a0_manyBy, .ref q_a0_hers, .ref q_a0_his, .ref q_a0_hand, .ref q_a0_bytes, .int a0_bytesLong, .int a0_tokenAt, .int a0_tokenLong, .int a0_token, .int a0_value, .ref q_a0_anew, .ref q_a0_values])), (q_a0_told, .inl (cI, 163, .inl a0_told)), (q_a0_refused, .inl (cI, 3, .inl a0_refused)), (q_a0_hers, .inl (cI, 4, .inl w_13)), (q_a0_his, .inl (cI, 4, .inl w_14))] H → va_D A [(q_a0, .inr (8, [.ref q_a0_told, .ref q_a0_kept, .ref q_a0_isKept, .ref q_a0_refused, .long a0_above, .long a0_below, .ref q_a0_manyBy, .ref q_a0_hers, .ref q_a0_his, .ref q_a0_hand, .ref q_a0_bytes, .int a0_bytesLong, .int a0_tokenAt, .int a0_tokenLong, .int a0_token, .int a0_value, .ref q_a0_anew, .ref q_a0_values])), (q_a0_told, .inl (cI, 163, .inl a0_told)), (q_a0_refused, .inl (cI, 3, .inl a0_refused)), (q_a0_hers, .inl (cI, 4, .inl w_13)), (q_a0_his, .inl (cI, 4, .inl w_14))] → va_S A s.heap H locs → lv_has ls 6 [(0, .ref q_a0), (1, .int x1), (2, .int v_15)] → W p l e (headSpec wsX9_writes rmX9_writes).room s m ([.ref q_a0, .int x1] : List Value).toArray below meth c H locs 0 0 QQ (F0 m 17 ls []) := by
      intro n_17
      induction n_17 with
      | zero => intro w_13 w_14 v_15 H locs ls hf; exact (lq3_0 hf).elim
      | succ n_17 ih =>
        have ih_17 := ih
        intro w_13 w_14 v_15 H locs ls hf hP hD hS hl
        have hj_85 : ∀ (t_17 : Int32) (H : Heap) (locs : List Loc), jX9_writes_85 a0_told x1 (lq3 (bX9_writes_17 a0_told a0_refused x1 Q) n_17) w_13 w_14 v_15 t_17 → va_P D vwCl [(q_a0, .inr (8, [.ref q_a0_told, .ref q_a0_kept, .ref q_a0_isKept, .ref q_a0_refused, .long a0_above, .long a0_below, .ref q_a0_manyBy, .ref q_a0_hers, .ref q_a0_his, .ref q_a0_hand, .ref q_a0_bytes, .int a0_bytesLong, .int a0_tokenAt, .int a0_tokenLong, .int a0_token, .int a0_value, .ref q_a0_anew, .ref q_a0_values])), (q_a0_told, .inl (cI, 163, .inl a0_told)), (q_a0_refused, .inl (cI, 3, .inl a0_refused)), (q_a0_hers, .inl (cI, 4, .inl w_13)), (q_a0_his, .inl (cI, 4, .inl w_14))] H → va_D A [(q_a0, .inr (8, [.ref q_a0_told, .ref q_a0_kept, .ref q_a0_isKept, .ref q_a0_refused, .long a0_above, .long a0_below, .ref q_a0_manyBy, .ref q_a0_hers, .ref q_a0_his, .ref q_a0_hand, .ref q_a0_bytes, .int a0_bytesLong, .int a0_tokenAt, .int a0_tokenLong, .int a0_token, .int a0_value, .ref q_a0_anew, .ref q_a0_values])), (q_a0_told, .inl (cI, 163, .inl a0_told)), (q_a0_refused, .inl (cI, 3, .inl a0_refused)), (q_a0_hers, .inl (cI, 4, .inl w_13)), (q_a0_his, .inl (cI, 4, .inl w_14))] → va_S A s.heap H locs → ∀ ls : Array Slot, lv_has ls 6 [(0, .ref q_a0), (1, .int x1), (2, .int v_15)] → W p l e (headSpec wsX9_writes rmX9_writes).room s m ([.ref q_a0, .int x1] : List Value).toArray below meth c H locs 0 0 QQ (F0 m 85 ls [.int t_17]) := by
          intro t_17 H locs hf hP hD hS ls hl
          unfold jX9_writes_85 at hf
          refine lv_istore (lv' := [(4, .int t_17), (0, .ref q_a0), (1, .int x1), (2, .int v_15)]) hx hb dX9_writes_85 hl (by decide) rfl (fun ls hl => ?_)
          refine lv_iload hx hb dX9_writes_87 (lv_at hl 0 rfl) ?_
          refine lv_aload_n hx hb dX9_writes_89 rfl (lv_at hl 1 rfl) ?_
          refine va_get (D := D) (ci := 8) (v := .ref q_a0_told) (C := RX9) (T := TX9) (N := 18) hx hb hts in_X9 hown hK hP 0 rfl rfl 0 (by decide) kf_7 (fun _ h9 => h9) rfl dX9_writes_90 ?_
          refine lv_iload_n hx hb dX9_writes_93 rfl (lv_at hl 2 rfl) ?_
          refine ya_csi (va_runS (As := [.ref q_a0_told, .int x1]) (rest := [.int t_17]) ⟨hx, hb, hml, hown, hts⟩ (c_X9_holdsOf l D cI cZ cO q_a0_told 163 a0_told x1 _ hf) (va_cwS 2 hts gX9_writes_X9_holdsOf rfl rfl rfl (by decide +kernel) ⟨Nat.le_of_ble_eq_true rfl, Nat.le_of_ble_eq_true rfl⟩) (ps_ro (hP.sub [1] rfl) hX) rfl rfl hl.1 rfl (lv_room (Nat.le_of_ble_eq_true rfl)) dX9_writes_94 ⟨Nat.zero_le _, Nat.zero_le _⟩) (fun r_18 hf => ?_)
          refine ya_csi (va_runS (As := [.int t_17, .int r_18]) (rest := []) ⟨hx, hb, hml, hown, hts⟩ (c_X9_costAt l D cI cZ cO  t_17 r_18 _ hf) (va_cwS 2 hts gX9_writes_X9_costAt rfl rfl rfl (by decide +kernel) ⟨Nat.le_of_ble_eq_true rfl, Nat.le_of_ble_eq_true rfl⟩) (ps_ro va_P0 hX) rfl rfl hl.1 rfl (lv_room (Nat.le_of_ble_eq_true rfl)) dX9_writes_97 ⟨Nat.zero_le _, Nat.zero_le _⟩) (fun r_19 hf => ?_)
          refine lv_istore (lv' := [(5, .int r_19), (4, .int t_17), (0, .ref q_a0), (1, .int x1), (2, .int v_15)]) hx hb dX9_writes_100 hl (by decide) rfl (fun ls hl => ?_)
          refine lv_aload_n hx hb dX9_writes_102 rfl (lv_at hl 2 rfl) ?_
          refine va_get (D := D) (ci := 8) (v := .ref q_a0_hers) (C := RX9) (T := TX9) (N := 18) hx hb hts in_X9 hown hK hP 0 rfl rfl 7 (by decide) kf_30 (fun _ h9 => h9) rfl dX9_writes_103 ?_
          refine lv_iload_n hx hb dX9_writes_106 rfl (lv_at hl 4 rfl) ?_
          refine lv_iload hx hb dX9_writes_107 (lv_at hl 0 rfl) ?_
          refine lv_ineg hx hb dX9_writes_109 ?_
          refine lv_iload_n hx hb dX9_writes_110 rfl (lv_at hl 4 rfl) ?_
          refine lv_iconst (v := 1) hx hb dX9_writes_111 (by decide) ?_
          refine lv_iand hx hb dX9_writes_112 ?_
          refine lv_isub hx hb dX9_writes_113 ?_
          refine va_iast hx hb hK hP hD hS 3 0 rfl rfl hf.1 dX9_writes_114 (fun H locs hP hD hS => ?_)
          have hP : va_P D vwCl [(q_a0, .inr (8, [.ref q_a0_told, .ref q_a0_kept, .ref q_a0_isKept, .ref q_a0_refused, .long a0_above, .long a0_below, .ref q_a0_manyBy, .ref q_a0_hers, .ref q_a0_his, .ref q_a0_hand, .ref q_a0_bytes, .int a0_bytesLong, .int a0_tokenAt, .int a0_tokenLong, .int a0_token, .int a0_value, .ref q_a0_anew, .ref q_a0_values])), (q_a0_told, .inl (cI, 163, .inl a0_told)), (q_a0_refused, .inl (cI, 3, .inl a0_refused)), (q_a0_hers, .inl (cI, 4, .inl (upd w_13 (v_15.toNatClampNeg) ((-r_19) - (v_15 &&& 1))))), (q_a0_his, .inl (cI, 4, .inl w_14))] H := hP
          have hD : va_D A [(q_a0, .inr (8, [.ref q_a0_told, .ref q_a0_kept, .ref q_a0_isKept, .ref q_a0_refused, .long a0_above, .long a0_below, .ref q_a0_manyBy, .ref q_a0_hers, .ref q_a0_his, .ref q_a0_hand, .ref q_a0_bytes, .int a0_bytesLong, .int a0_tokenAt, .int a0_tokenLong, .int a0_token, .int a0_value, .ref q_a0_anew, .ref q_a0_values])), (q_a0_told, .inl (cI, 163, .inl a0_told)), (q_a0_refused, .inl (cI, 3, .inl a0_refused)), (q_a0_hers, .inl (cI, 4, .inl (upd w_13 (v_15.toNatClampNeg) ((-r_19) - (v_15 &&& 1))))), (q_a0_his, .inl (cI, 4, .inl w_14))] := hD
          have hf := hf.2
          refine lv_aload_n hx hb dX9_writes_115 rfl (lv_at hl 2 rfl) ?_
          refine va_get (D := D) (ci := 8) (v := .ref q_a0_his) (C := RX9) (T := TX9) (N := 18) hx hb hts in_X9 hown hK hP 0 rfl rfl 8 (by decide) kf_33 (fun _ h9 => h9) rfl dX9_writes_116 ?_
          refine lv_iload_n hx hb dX9_writes_119 rfl (lv_at hl 4 rfl) ?_
          refine lv_iload_n hx hb dX9_writes_120 rfl (lv_at hl 4 rfl) ?_
          refine lv_iconst (v := 1) hx hb dX9_writes_121 (by decide) ?_
          refine lv_icmp_le (tgt := 132) hx hb dX9_writes_122 (by decide) (fun c_20 => ?_) (fun c_20 => ?_)
          · have hf := it_t c_20 hf
            refine lv_iload hx hb dX9_writes_132 (lv_at hl 0 rfl) ?_
            refine lv_ineg hx hb dX9_writes_134 ?_
            refine va_iast hx hb hK hP hD hS 4 0 rfl rfl hf.1 dX9_writes_135 (fun H locs hP hD hS => ?_)
            have hP : va_P D vwCl [(q_a0, .inr (8, [.ref q_a0_told, .ref q_a0_kept, .ref q_a0_isKept, .ref q_a0_refused, .long a0_above, .long a0_below, .ref q_a0_manyBy, .ref q_a0_hers, .ref q_a0_his, .ref q_a0_hand, .ref q_a0_bytes, .int a0_bytesLong, .int a0_tokenAt, .int a0_tokenLong, .int a0_token, .int a0_value, .ref q_a0_anew, .ref q_a0_values])), (q_a0_told, .inl (cI, 163, .inl a0_told)), (q_a0_refused, .inl (cI, 3, .inl a0_refused)), (q_a0_hers, .inl (cI, 4, .inl (upd w_13 (v_15.toNatClampNeg) ((-r_19) - (v_15 &&& 1))))), (q_a0_his, .inl (cI, 4, .inl (upd w_14 (v_15.toNatClampNeg) (-r_19))))] H := hP
            have hD : va_D A [(q_a0, .inr (8, [.ref q_a0_told, .ref q_a0_kept, .ref q_a0_isKept, .ref q_a0_refused, .long a0_above, .long a0_below, .ref q_a0_manyBy, .ref q_a0_hers, .ref q_a0_his, .ref q_a0_hand, .ref q_a0_bytes, .int a0_bytesLong, .int a0_tokenAt, .int a0_tokenLong, .int a0_token, .int a0_value, .ref q_a0_anew, .ref q_a0_values])), (q_a0_told, .inl (cI, 163, .inl a0_told)), (q_a0_refused, .inl (cI, 3, .inl a0_refused)), (q_a0_hers, .inl (cI, 4, .inl (upd w_13 (v_15.toNatClampNeg) ((-r_19) - (v_15 &&& 1))))), (q_a0_his, .inl (cI, 4, .inl (upd w_14 (v_15.toNatClampNeg) (-r_19))))] := hD
            have hf := hf.2
            refine lv_iinc (v := v_15 + 1) (lv' := [(2, .int (v_15 + 1)), (5, .int r_19), (4, .int t_17), (0, .ref q_a0), (1, .int x1)]) hx hb dX9_writes_136 hl (k := 4) rfl rfl (by decide) rfl (fun ls hl => ?_)
            refine lv_goto (tgt := 17) hx hb dX9_writes_139 (by decide) ?_
            exact ih (upd w_13 (v_15.toNatClampNeg) ((-r_19) - (v_15 &&& 1))) (upd w_14 (v_15.toNatClampNeg) (-r_19)) (v_15 + 1) _ _ ls hf (hP.sub [0, 1, 2, 3, 4] rfl) (hD.sub [0, 1, 2, 3, 4] (by decide) rfl) hS (lv_sub hl [3, 4, 0] rfl)
          · have hf := it_f c_20 hf
            refine lv_iconst (v := 2) hx hb dX9_writes_125 (by decide) ?_
            refine lv_iload hx hb dX9_writes_126 (lv_at hl 0 rfl) ?_
            refine lv_isub hx hb dX9_writes_128 ?_
            refine lv_goto (tgt := 135) hx hb dX9_writes_129 (by decide) ?_
            refine va_iast hx hb hK hP hD hS 4 0 rfl rfl hf.1 dX9_writes_135 (fun H locs hP hD hS => ?_)
            have hP : va_P D vwCl [(q_a0, .inr (8, [.ref q_a0_told, .ref q_a0_kept, .ref q_a0_isKept, .ref q_a0_refused, .long a0_above, .long a0_below, .ref q_a0_manyBy, .ref q_a0_hers, .ref q_a0_his, .ref q_a0_hand, .ref q_a0_bytes, .int a0_bytesLong, .int a0_tokenAt, .int a0_tokenLong, .int a0_token, .int a0_value, .ref q_a0_anew, .ref q_a0_values])), (q_a0_told, .inl (cI, 163, .inl a0_told)), (q_a0_refused, .inl (cI, 3, .inl a0_refused)), (q_a0_hers, .inl (cI, 4, .inl (upd w_13 (v_15.toNatClampNeg) ((-r_19) - (v_15 &&& 1))))), (q_a0_his, .inl (cI, 4, .inl (upd w_14 (v_15.toNatClampNeg) (2 - r_19))))] H := hP
            have hD : va_D A [(q_a0, .inr (8, [.ref q_a0_told, .ref q_a0_kept, .ref q_a0_isKept, .ref q_a0_refused, .long a0_above, .long a0_below, .ref q_a0_manyBy, .ref q_a0_hers, .ref q_a0_his, .ref q_a0_hand, .ref q_a0_bytes, .int a0_bytesLong, .int a0_tokenAt, .int a0_tokenLong, .int a0_token, .int a0_value, .ref q_a0_anew, .ref q_a0_values])), (q_a0_told, .inl (cI, 163, .inl a0_told)), (q_a0_refused, .inl (cI, 3, .inl a0_refused)), (q_a0_hers, .inl (cI, 4, .inl (upd w_13 (v_15.toNatClampNeg) ((-r_19) - (v_15 &&& 1))))), (q_a0_his, .inl (cI, 4, .inl (upd w_14 (v_15.toNatClampNeg) (2 - r_19))))] := hD
            have hf := hf.2
            refine lv_iinc (v := v_15 + 1) (lv' := [(2, .int (v_15 + 1)), (5, .int r_19), (4, .int t_17), (0, .ref q_a0), (1, .int x1)]) hx hb dX9_writes_136 hl (k := 4) rfl rfl (by decide) rfl (fun ls hl => ?_)
            refine lv_goto (tgt := 17) hx hb dX9_writes_139 (by decide) ?_
            exact ih (upd w_13 (v_15.toNatClampNeg) ((-r_19) - (v_15 &&& 1))) (upd w_14 (v_15.toNatClampNeg) (2 - r_19)) (v_15 + 1) _ _ ls hf (hP.sub [0, 1, 2, 3, 4] rfl) (hD.sub [0, 1, 2, 3, 4] (by decide) rfl) hS (lv_sub hl [3, 4, 0] rfl)
        have hj_83 : ∀ (v_21 : Int32) (H : Heap) (locs : List Loc), jX9_writes_83 a0_told x1 (lq3 (bX9_writes_17 a0_told a0_refused x1 Q) n_17) w_13 w_14 v_15 v_21 → va_P D vwCl [(q_a0, .inr (8, [.ref q_a0_told, .ref q_a0_kept, .ref q_a0_isKept, .ref q_a0_refused, .long a0_above, .long a0_below, .ref q_a0_manyBy, .ref q_a0_hers, .ref q_a0_his, .ref q_a0_hand, .ref q_a0_bytes, .int a0_bytesLong, .int a0_tokenAt, .int a0_tokenLong, .int a0_token, .int a0_value, .ref q_a0_anew, .ref q_a0_values])), (q_a0_told, .inl (cI, 163, .inl a0_told)), (q_a0_refused, .inl (cI, 3, .inl a0_refused)), (q_a0_hers, .inl (cI, 4, .inl w_13)), (q_a0_his, .inl (cI, 4, .inl w_14))] H → va_D A [(q_a0, .inr (8, [.ref q_a0_told, .ref q_a0_kept, .ref q_a0_isKept, .ref q_a0_refused, .long a0_above, .long a0_below, .ref q_a0_manyBy, .ref q_a0_hers, .ref q_a0_his, .ref q_a0_hand, .ref q_a0_bytes, .int a0_bytesLong, .int a0_tokenAt, .int a0_tokenLong, .int a0_token, .int a0_value, .ref q_a0_anew, .ref q_a0_values])), (q_a0_told, .inl (cI, 163, .inl a0_told)), (q_a0_refused, .inl (cI, 3, .inl a0_refused)), (q_a0_hers, .inl (cI, 4, .inl w_13)), (q_a0_his, .inl (cI, 4, .inl w_14))] → va_S A s.heap H locs → ∀ ls : Array Slot, lv_has ls 6 [(0, .ref q_a0), (1, .int x1), (2, .int v_15), (4, .int v_21)] → W p l e (headSpec wsX9_writes rmX9_writes).room s m ([.ref q_a0, .int x1] : List Value).toArray below meth c H locs 0 0 QQ (F0 m 83 ls []) := by
          intro v_21 H locs hf hP hD hS ls hl
          unfold jX9_writes_83 at hf
          refine lv_iload hx hb dX9_writes_83 (lv_at hl 3 rfl) ?_
          exact hj_85 v_21 _ _ hf (hP.sub [0, 1, 2, 3, 4] rfl) (hD.sub [0, 1, 2, 3, 4] (by decide) rfl) hS ls (lv_sub hl [0, 1, 2] rfl)
        have hj_52 : ∀ (t_22 : Int32) (H : Heap) (locs : List Loc), jX9_writes_52 a0_told x1 (lq3 (bX9_writes_17 a0_told a0_refused x1 Q) n_17) w_13 w_14 v_15 t_22 → va_P D vwCl [(q_a0, .inr (8, [.ref q_a0_told, .ref q_a0_kept, .ref q_a0_isKept, .ref q_a0_refused, .long a0_above, .long a0_below, .ref q_a0_manyBy, .ref q_a0_hers, .ref q_a0_his, .ref q_a0_hand, .ref q_a0_bytes, .int a0_bytesLong, .int a0_tokenAt, .int a0_tokenLong, .int a0_token, .int a0_value, .ref q_a0_anew, .ref q_a0_values])), (q_a0_told, .inl (cI, 163, .inl a0_told)), (q_a0_refused, .inl (cI, 3, .inl a0_refused)), (q_a0_hers, .inl (cI, 4, .inl w_13)), (q_a0_his, .inl (cI, 4, .inl w_14))] H → va_D A [(q_a0, .inr (8, [.ref q_a0_told, .ref q_a0_kept, .ref q_a0_isKept, .ref q_a0_refused, .long a0_above, .long a0_below, .ref q_a0_manyBy, .ref q_a0_hers, .ref q_a0_his, .ref q_a0_hand, .ref q_a0_bytes, .int a0_bytesLong, .int a0_tokenAt, .int a0_tokenLong, .int a0_token, .int a0_value, .ref q_a0_anew, .ref q_a0_values])), (q_a0_told, .inl (cI, 163, .inl a0_told)), (q_a0_refused, .inl (cI, 3, .inl a0_refused)), (q_a0_hers, .inl (cI, 4, .inl w_13)), (q_a0_his, .inl (cI, 4, .inl w_14))] → va_S A s.heap H locs → ∀ ls : Array Slot, lv_has ls 6 [(0, .ref q_a0), (1, .int x1), (2, .int v_15)] → W p l e (headSpec wsX9_writes rmX9_writes).room s m ([.ref q_a0, .int x1] : List Value).toArray below meth c H locs 0 0 QQ (F0 m 52 ls [.int t_22]) := by
          intro t_22 H locs hf hP hD hS ls hl
          unfold jX9_writes_52 at hf
          refine lv_istore_n (lv' := [(3, .int t_22), (0, .ref q_a0), (1, .int x1), (2, .int v_15)]) hx hb dX9_writes_52 rfl hl (by decide) rfl (fun ls hl => ?_)
          refine lv_aload_n hx hb dX9_writes_53 rfl (lv_at hl 1 rfl) ?_
          refine va_get (D := D) (ci := 8) (v := .ref q_a0_told) (C := RX9) (T := TX9) (N := 18) hx hb hts in_X9 hown hK hP 0 rfl rfl 0 (by decide) kf_7 (fun _ h9 => h9) rfl dX9_writes_54 ?_
          refine lv_iload_n hx hb dX9_writes_57 rfl (lv_at hl 2 rfl) ?_
          refine lv_iload_n hx hb dX9_writes_58 rfl (lv_at hl 0 rfl) ?_
          refine ya_csi (va_runS (As := [.ref q_a0_told, .int x1, .int t_22]) (rest := []) ⟨hx, hb, hml, hown, hts⟩ (c_X9_paceBy l D cI cZ cO q_a0_told 163 a0_told x1 t_22 _ hf) (va_cwS 3 hts gX9_writes_X9_paceBy rfl rfl rfl (by decide +kernel) ⟨Nat.le_of_ble_eq_true rfl, Nat.le_of_ble_eq_true rfl⟩) (ps_ro (hP.sub [1] rfl) hX) rfl rfl hl.1 rfl (lv_room (Nat.le_of_ble_eq_true rfl)) dX9_writes_59 ⟨Nat.zero_le _, Nat.zero_le _⟩) (fun r_23 hf => ?_)
          refine lv_istore (lv' := [(4, .int r_23), (3, .int t_22), (0, .ref q_a0), (1, .int x1), (2, .int v_15)]) hx hb dX9_writes_62 hl (by decide) rfl (fun ls hl => ?_)
          refine lv_iload_n hx hb dX9_writes_64 rfl (lv_at hl 4 rfl) ?_
          refine lv_iconst (v := 1) hx hb dX9_writes_65 (by decide) ?_
          refine lv_icmp_le (tgt := 83) hx hb dX9_writes_66 (by decide) (fun c_24 => ?_) (fun c_24 => ?_)
          · have hf := it_t c_24 hf
            exact hj_83 r_23 _ _ hf (hP.sub [0, 1, 2, 3, 4] rfl) (hD.sub [0, 1, 2, 3, 4] (by decide) rfl) hS ls (lv_sub hl [2, 3, 4, 0] rfl)
          · have hf := it_f c_24 hf
            refine lv_iload hx hb dX9_writes_69 (lv_at hl 0 rfl) ?_
            refine lv_bipush (v := 7) hx hb dX9_writes_71 (by decide) ?_
            refine lv_icmp_ge (tgt := 83) hx hb dX9_writes_73 (by decide) (fun c_25 => ?_) (fun c_25 => ?_)
            · have hf := it_t c_25 hf
              exact hj_83 r_23 _ _ hf (hP.sub [0, 1, 2, 3, 4] rfl) (hD.sub [0, 1, 2, 3, 4] (by decide) rfl) hS ls (lv_sub hl [2, 3, 4, 0] rfl)
            · have hf := it_f c_25 hf
              refine lv_iload hx hb dX9_writes_76 (lv_at hl 0 rfl) ?_
              refine lv_iconst (v := 1) hx hb dX9_writes_78 (by decide) ?_
              refine lv_iadd hx hb dX9_writes_79 ?_
              refine lv_goto (tgt := 85) hx hb dX9_writes_80 (by decide) ?_
              exact hj_85 (r_23 + 1) _ _ hf (hP.sub [0, 1, 2, 3, 4] rfl) (hD.sub [0, 1, 2, 3, 4] (by decide) rfl) hS ls (lv_sub hl [2, 3, 4] rfl)
        have hj_47 : ∀  (H : Heap) (locs : List Loc), jX9_writes_47 a0_told x1 (lq3 (bX9_writes_17 a0_told a0_refused x1 Q) n_17) w_13 w_14 v_15  → va_P D vwCl [(q_a0, .inr (8, [.ref q_a0_told, .ref q_a0_kept, .ref q_a0_isKept, .ref q_a0_refused, .long a0_above, .long a0_below, .ref q_a0_manyBy, .ref q_a0_hers, .ref q_a0_his, .ref q_a0_hand, .ref q_a0_bytes, .int a0_bytesLong, .int a0_tokenAt, .int a0_tokenLong, .int a0_token, .int a0_value, .ref q_a0_anew, .ref q_a0_values])), (q_a0_told, .inl (cI, 163, .inl a0_told)), (q_a0_refused, .inl (cI, 3, .inl a0_refused)), (q_a0_hers, .inl (cI, 4, .inl w_13)), (q_a0_his, .inl (cI, 4, .inl w_14))] H → va_D A [(q_a0, .inr (8, [.ref q_a0_told, .ref q_a0_kept, .ref q_a0_isKept, .ref q_a0_refused, .long a0_above, .long a0_below, .ref q_a0_manyBy, .ref q_a0_hers, .ref q_a0_his, .ref q_a0_hand, .ref q_a0_bytes, .int a0_bytesLong, .int a0_tokenAt, .int a0_tokenLong, .int a0_token, .int a0_value, .ref q_a0_anew, .ref q_a0_values])), (q_a0_told, .inl (cI, 163, .inl a0_told)), (q_a0_refused, .inl (cI, 3, .inl a0_refused)), (q_a0_hers, .inl (cI, 4, .inl w_13)), (q_a0_his, .inl (cI, 4, .inl w_14))] → va_S A s.heap H locs → ∀ ls : Array Slot, lv_has ls 6 [(0, .ref q_a0), (1, .int x1), (2, .int v_15)] → W p l e (headSpec wsX9_writes rmX9_writes).room s m ([.ref q_a0, .int x1] : List Value).toArray below meth c H locs 0 0 QQ (F0 m 47 ls []) := by
          intro  H locs hf hP hD hS ls hl
          unfold jX9_writes_47 at hf
          refine lv_aload_n hx hb dX9_writes_47 rfl (lv_at hl 0 rfl) ?_
          refine lv_iload_n hx hb dX9_writes_48 rfl (lv_at hl 1 rfl) ?_
          refine ya_csi (va_runV (As := [.int x1]) (rest := []) ⟨hx, hb, hml, hown, hts⟩ (c_X9_noteOf l D cI cZ cO q_a0 q_a0_told q_a0_kept q_a0_isKept q_a0_refused q_a0_manyBy q_a0_hers q_a0_his q_a0_hand q_a0_bytes q_a0_anew q_a0_values a0_above a0_below a0_bytesLong a0_tokenAt a0_tokenLong a0_token a0_value a0_told x1 _ hf) (cwV 1 hts gX9_writes_X9_noteOf rfl rfl rfl (by decide +kernel) ⟨Nat.le_of_ble_eq_true rfl, Nat.le_of_ble_eq_true rfl⟩) (pv_ro (ci := 8) (q0 := 0) (hP.sub [0, 1] rfl) hX rfl rfl) rfl rfl hl.1 rfl (lv_room (Nat.le_of_ble_eq_true rfl)) dX9_writes_49 ⟨Nat.zero_le _, Nat.zero_le _⟩) (fun r_26 hf => ?_)
          exact hj_52 r_26 _ _ hf (hP.sub [0, 1, 2, 3, 4] rfl) (hD.sub [0, 1, 2, 3, 4] (by decide) rfl) hS ls (lv_sub hl [0, 1, 2] rfl)
        have hf := lq3_s hf
        unfold bX9_writes_17 at hf
        refine lv_iload_n hx hb dX9_writes_17 rfl (lv_at hl 2 rfl) ?_
        refine lv_iconst (v := 4) hx hb dX9_writes_18 (by decide) ?_
        refine lv_icmp_ge (tgt := 142) hx hb dX9_writes_19 (by decide) (fun c_27 => ?_) (fun c_27 => ?_)
        · have hf := it_t c_27 hf
          exact hj_142 w_13 w_14 _ _ hf (hP.sub [0, 1, 2, 3, 4] rfl) (hD.sub [0, 1, 2, 3, 4] (by decide) rfl) hS ls (lv_sub hl [0] rfl)
        · have hf := it_f c_27 hf
          refine lv_iload_n hx hb dX9_writes_22 rfl (lv_at hl 2 rfl) ?_
          refine lv_iconst (v := 1) hx hb dX9_writes_23 (by decide) ?_
          refine lv_iand hx hb dX9_writes_24 ?_
          refine lv_iconst (v := 1) hx hb dX9_writes_25 (by decide) ?_
          refine lv_icmp_ne (tgt := 47) hx hb dX9_writes_26 (by decide) (fun c_28 => ?_) (fun c_28 => ?_)
          · have hf := it_f c_28 hf
            exact hj_47  _ _ hf (hP.sub [0, 1, 2, 3, 4] rfl) (hD.sub [0, 1, 2, 3, 4] (by decide) rfl) hS ls (lv_sub hl [0, 1, 2] rfl)
          · have hf := it_t c_28 hf
            refine lv_aload_n hx hb dX9_writes_29 rfl (lv_at hl 0 rfl) ?_
            refine lv_iload_n hx hb dX9_writes_30 rfl (lv_at hl 1 rfl) ?_
            refine ya_csi (va_runV (As := [.int x1]) (rest := []) ⟨hx, hb, hml, hown, hts⟩ (c_X9_noteOf l D cI cZ cO q_a0 q_a0_told q_a0_kept q_a0_isKept q_a0_refused q_a0_manyBy q_a0_hers q_a0_his q_a0_hand q_a0_bytes q_a0_anew q_a0_values a0_above a0_below a0_bytesLong a0_tokenAt a0_tokenLong a0_token a0_value a0_told x1 _ hf) (cwV 1 hts gX9_writes_X9_noteOf rfl rfl rfl (by decide +kernel) ⟨Nat.le_of_ble_eq_true rfl, Nat.le_of_ble_eq_true rfl⟩) (pv_ro (ci := 8) (q0 := 0) (hP.sub [0, 1] rfl) hX rfl rfl) rfl rfl hl.1 rfl (lv_room (Nat.le_of_ble_eq_true rfl)) dX9_writes_31 ⟨Nat.zero_le _, Nat.zero_le _⟩) (fun r_29 hf => ?_)
            refine lv_if_le (tgt := 47) hx hb dX9_writes_34 (by decide) (fun c_30 => ?_) (fun c_30 => ?_)
            · have hf := it_t c_30 hf
              exact hj_47  _ _ hf (hP.sub [0, 1, 2, 3, 4] rfl) (hD.sub [0, 1, 2, 3, 4] (by decide) rfl) hS ls (lv_sub hl [0, 1, 2] rfl)
            · have hf := it_f c_30 hf
              refine lv_aload_n hx hb dX9_writes_37 rfl (lv_at hl 0 rfl) ?_
              refine lv_iload_n hx hb dX9_writes_38 rfl (lv_at hl 1 rfl) ?_
              refine ya_csi (va_runV (As := [.int x1]) (rest := []) ⟨hx, hb, hml, hown, hts⟩ (c_X9_noteOf l D cI cZ cO q_a0 q_a0_told q_a0_kept q_a0_isKept q_a0_refused q_a0_manyBy q_a0_hers q_a0_his q_a0_hand q_a0_bytes q_a0_anew q_a0_values a0_above a0_below a0_bytesLong a0_tokenAt a0_tokenLong a0_token a0_value a0_told x1 _ hf) (cwV 1 hts gX9_writes_X9_noteOf rfl rfl rfl (by decide +kernel) ⟨Nat.le_of_ble_eq_true rfl, Nat.le_of_ble_eq_true rfl⟩) (pv_ro (ci := 8) (q0 := 0) (hP.sub [0, 1] rfl) hX rfl rfl) rfl rfl hl.1 rfl (lv_room (Nat.le_of_ble_eq_true rfl)) dX9_writes_39 ⟨Nat.zero_le _, Nat.zero_le _⟩) (fun r_31 hf => ?_)
              refine lv_iconst (v := 1) hx hb dX9_writes_42 (by decide) ?_
              refine lv_isub hx hb dX9_writes_43 ?_
              refine lv_goto (tgt := 52) hx hb dX9_writes_44 (by decide) ?_
              exact hj_52 (r_31 - 1) _ _ hf (hP.sub [0, 1, 2, 3, 4] rfl) (hD.sub [0, 1, 2, 3, 4] (by decide) rfl) hS ls (lv_sub hl [0, 1, 2] rfl)
    exact hlp_17 1000 a0_hers a0_his 0 _ _ ls hf (hP.sub [0, 1, 2, 3, 4] rfl) (hD.sub [0, 1, 2, 3, 4] (by decide) rfl) hS (lv_sub hl [1, 2, 0] rfl)
  · have hf := it_t c_12 hf
    refine lv_aload_n hx hb dX9_writes_8 rfl (lv_at hl 0 rfl) ?_
    refine lv_bipush (v := (-2)) hx hb dX9_writes_9 (by decide) ?_
    have hPc := hP.sub (ws' := [(q_a0, .inr (8, [.ref q_a0_told, .ref q_a0_kept, .ref q_a0_isKept, .ref q_a0_refused, .long a0_above, .long a0_below, .ref q_a0_manyBy, .ref q_a0_hers, .ref q_a0_his, .ref q_a0_hand, .ref q_a0_bytes, .int a0_bytesLong, .int a0_tokenAt, .int a0_tokenLong, .int a0_token, .int a0_value, .ref q_a0_anew, .ref q_a0_values])), (q_a0_refused, .inl (cI, 3, .inl a0_refused))]) [0, 2] rfl
    have hDc := hD.sub (ws' := [(q_a0, .inr (8, [.ref q_a0_told, .ref q_a0_kept, .ref q_a0_isKept, .ref q_a0_refused, .long a0_above, .long a0_below, .ref q_a0_manyBy, .ref q_a0_hers, .ref q_a0_his, .ref q_a0_hand, .ref q_a0_bytes, .int a0_bytesLong, .int a0_tokenAt, .int a0_tokenLong, .int a0_token, .int a0_value, .ref q_a0_anew, .ref q_a0_values])), (q_a0_refused, .inl (cI, 3, .inl a0_refused))]) [0, 2] (by decide) rfl
    have hFc := va_free (wc := [(q_a0, .inr (8, [.ref q_a0_told, .ref q_a0_kept, .ref q_a0_isKept, .ref q_a0_refused, .long a0_above, .long a0_below, .ref q_a0_manyBy, .ref q_a0_hers, .ref q_a0_his, .ref q_a0_hand, .ref q_a0_bytes, .int a0_bytesLong, .int a0_tokenAt, .int a0_tokenLong, .int a0_token, .int a0_value, .ref q_a0_anew, .ref q_a0_values])), (q_a0_refused, .inl (cI, 3, .inl a0_refused))]) hD hS hA [0, 2] rfl
    refine va_calli (va_runV (As := [.int (-2)]) (rest := []) ⟨hx, hb, hml, hown, hts⟩ (c_X9_bad l D cI cZ cO q_a0 q_a0_told q_a0_kept q_a0_isKept q_a0_refused q_a0_manyBy q_a0_hers q_a0_his q_a0_hand q_a0_bytes q_a0_anew q_a0_values a0_above a0_below a0_bytesLong a0_tokenAt a0_tokenLong a0_token a0_value a0_refused s.heap.size (-2) _ hf) (cwV 1 hts gX9_writes_X9_bad rfl rfl rfl (by decide +kernel) ⟨Nat.le_of_ble_eq_true rfl, Nat.le_of_ble_eq_true rfl⟩) (pv_rw (ci := 8) (q0 := 0) hPc hDc hX rfl rfl) rfl rfl hl.1 rfl (lv_room (Nat.le_of_ble_eq_true rfl)) dX9_writes_11 ⟨Nat.zero_le _, Nat.zero_le _⟩) hS (fun q _ h => hFc q h) hFc (fun r_32 u t H1 locs ht hvm hf hB hz1 hk1 hS => ?_)
    obtain ⟨u_33, rfl⟩ : ∃ z, z = u := ⟨_, rfl⟩
    obtain ⟨hP1, hD1⟩ := hB
    rw [ht] at hP1
    clear hvm
    obtain ⟨hP, hD⟩ := va_join (wr := [(q_a0_told, .inl (cI, 163, .inl a0_told)), (q_a0_hers, .inl (cI, 4, .inl a0_hers)), (q_a0_his, .inl (cI, 4, .inl a0_his))]) (w1 := [(q_a0, .inr (8, [.ref q_a0_told, .ref q_a0_kept, .ref q_a0_isKept, .ref q_a0_refused, .long a0_above, .long a0_below, .ref q_a0_manyBy, .ref q_a0_hers, .ref q_a0_his, .ref q_a0_hand, .ref q_a0_bytes, .int a0_bytesLong, .int a0_tokenAt, .int a0_tokenLong, .int a0_token, .int a0_value, .ref q_a0_anew, .ref q_a0_values])), (q_a0_refused, .inl (cI, 3, .inl u_33))]) hP hD [0, 2] [1, 3, 4] rfl rfl (by decide) (by decide) hk1 hFc hP1 hD1
    clear hz1 hk1 hPc hDc hFc hP1 hD1
    generalize H1 = H at hP hS ⊢
    have hP : va_P D vwCl [(q_a0_told, .inl (cI, 163, .inl a0_told)), (q_a0_hers, .inl (cI, 4, .inl a0_hers)), (q_a0_his, .inl (cI, 4, .inl a0_his)), (q_a0, .inr (8, [.ref q_a0_told, .ref q_a0_kept, .ref q_a0_isKept, .ref q_a0_refused, .long a0_above, .long a0_below, .ref q_a0_manyBy, .ref q_a0_hers, .ref q_a0_his, .ref q_a0_hand, .ref q_a0_bytes, .int a0_bytesLong, .int a0_tokenAt, .int a0_tokenLong, .int a0_token, .int a0_value, .ref q_a0_anew, .ref q_a0_values])), (q_a0_refused, .inl (cI, 3, .inl u_33))] H := hP
    have hD : va_D A [(q_a0_told, .inl (cI, 163, .inl a0_told)), (q_a0_hers, .inl (cI, 4, .inl a0_hers)), (q_a0_his, .inl (cI, 4, .inl a0_his)), (q_a0, .inr (8, [.ref q_a0_told, .ref q_a0_kept, .ref q_a0_isKept, .ref q_a0_refused, .long a0_above, .long a0_below, .ref q_a0_manyBy, .ref q_a0_hers, .ref q_a0_his, .ref q_a0_hand, .ref q_a0_bytes, .int a0_bytesLong, .int a0_tokenAt, .int a0_tokenLong, .int a0_token, .int a0_value, .ref q_a0_anew, .ref q_a0_values])), (q_a0_refused, .inl (cI, 3, .inl u_33))] := hD
    subst hQQ
    have hP9 := hP.sub (ws' := [(q_a0, .inr (8, [.ref q_a0_told, .ref q_a0_kept, .ref q_a0_isKept, .ref q_a0_refused, .long a0_above, .long a0_below, .ref q_a0_manyBy, .ref q_a0_hers, .ref q_a0_his, .ref q_a0_hand, .ref q_a0_bytes, .int a0_bytesLong, .int a0_tokenAt, .int a0_tokenLong, .int a0_token, .int a0_value, .ref q_a0_anew, .ref q_a0_values])), (q_a0_told, .inl (cI, 163, .inl a0_told)), (q_a0_refused, .inl (cI, 3, .inl u_33)), (q_a0_hers, .inl (cI, 4, .inl a0_hers)), (q_a0_his, .inl (cI, 4, .inl a0_his))]) [3, 0, 4, 1, 2] rfl
    have hD9 := hD.sub (ws' := [(q_a0, .inr (8, [.ref q_a0_told, .ref q_a0_kept, .ref q_a0_isKept, .ref q_a0_refused, .long a0_above, .long a0_below, .ref q_a0_manyBy, .ref q_a0_hers, .ref q_a0_his, .ref q_a0_hand, .ref q_a0_bytes, .int a0_bytesLong, .int a0_tokenAt, .int a0_tokenLong, .int a0_token, .int a0_value, .ref q_a0_anew, .ref q_a0_values])), (q_a0_told, .inl (cI, 163, .inl a0_told)), (q_a0_refused, .inl (cI, 3, .inl u_33)), (q_a0_hers, .inl (cI, 4, .inl a0_hers)), (q_a0_his, .inl (cI, 4, .inl a0_his))]) [3, 0, 4, 1, 2] (by decide) rfl
    exact W.iret hx hb hr (fun t ht hW => ⟨⟨r_32, (u_33, a0_hers, a0_his), rfl, hf, by rw [ht]; exact hP9, hD9⟩, hS.F ht⟩) hS.2.2 dX9_writes_14
def jX9_fraction_31 (x1 : Int64) (x3 : Int64) (Q : Int64 → Int64 → Prop) (v_1 : Int64) : Prop :=
  (¬ v_1 = 0) ∧ ((¬ v_1 = 0) ∧ (Q (x1 / v_1) (x3 / v_1)))
def bX9_fraction_6 (x1 : Int64) (x3 : Int64) (Q : Int64 → Int64 → Prop) (k_4 : Int64 → Int64 → Prop) (v_2 : Int64) (v_3 : Int64) : Prop :=
  if (lg_cmp v_3 0) = 0 then (jX9_fraction_31 x1 x3 Q v_2) else ((¬ v_3 = 0) ∧ (k_4 v_3 (v_2 - v_2 / v_3 * v_3)))
def p_X9_fraction (a0_above : Int64) (a0_below : Int64) (x1 : Int64) (x3 : Int64) (Q : Int64 → Int64 → Prop) : Prop :=
  lq2 (bX9_fraction_6 x1 x3 Q) 1000 x1 x3
def rmX9_fraction : Room := { frames := 0, cells := 0, slots := 0, locals := 0 }
set_option maxHeartbeats 4000000 in
set_option maxRecDepth 100000 in
theorem c_X9_fraction (l : Launch) (D : va_G) (cI cZ cO : ClassId) (q_a0 q_a0_told q_a0_kept q_a0_isKept q_a0_refused q_a0_manyBy q_a0_hers q_a0_his q_a0_hand q_a0_bytes q_a0_anew q_a0_values : Nat) (a0_above : Int64) (a0_below : Int64) (a0_bytesLong : Int32) (a0_tokenAt : Int32) (a0_tokenLong : Int32) (a0_token : Int32) (a0_value : Int32) (sz : Nat) (x1 : Int64) (x3 : Int64) (Q : Int64 → Int64 → Prop) (hf : p_X9_fraction a0_above a0_below x1 x3 Q) : Met l yX9_fraction wsX9_fraction rmX9_fraction (va_Pc [.ref q_a0, .long x1, .long x3] (fun U => U.heap.size = sz ∧ va_P D vwCl [(q_a0, .inr (8, [.ref q_a0_told, .ref q_a0_kept, .ref q_a0_isKept, .ref q_a0_refused, .long a0_above, .long a0_below, .ref q_a0_manyBy, .ref q_a0_hers, .ref q_a0_his, .ref q_a0_hand, .ref q_a0_bytes, .int a0_bytesLong, .int a0_tokenAt, .int a0_tokenLong, .int a0_token, .int a0_value, .ref q_a0_anew, .ref q_a0_values]))] U.heap ∧ XK D cI cZ cO U ∧ va_D (fun _ => True) [(q_a0, .inr (8, [.ref q_a0_told, .ref q_a0_kept, .ref q_a0_isKept, .ref q_a0_refused, .long a0_above, .long a0_below, .ref q_a0_manyBy, .ref q_a0_hers, .ref q_a0_his, .ref q_a0_hand, .ref q_a0_bytes, .int a0_bytesLong, .int a0_tokenAt, .int a0_tokenLong, .int a0_token, .int a0_value, .ref q_a0_anew, .ref q_a0_values]))])) (va_Qv (fun (u : Int64 × Int64) => Q u.1 u.2) (fun (u : Int64 × Int64) t => va_P D vwCl [(q_a0, .inr (8, [.ref q_a0_told, .ref q_a0_kept, .ref q_a0_isKept, .ref q_a0_refused, .long u.1, .long u.2, .ref q_a0_manyBy, .ref q_a0_hers, .ref q_a0_his, .ref q_a0_hand, .ref q_a0_bytes, .int a0_bytesLong, .int a0_tokenAt, .int a0_tokenLong, .int a0_token, .int a0_value, .ref q_a0_anew, .ref q_a0_values]))] t.heap ∧ va_D (va_A [(q_a0, .inr (8, [.ref q_a0_told, .ref q_a0_kept, .ref q_a0_isKept, .ref q_a0_refused, .long a0_above, .long a0_below, .ref q_a0_manyBy, .ref q_a0_hers, .ref q_a0_his, .ref q_a0_hand, .ref q_a0_bytes, .int a0_bytesLong, .int a0_tokenAt, .int a0_tokenLong, .int a0_token, .int a0_value, .ref q_a0_anew, .ref q_a0_values]))] sz) [(q_a0, .inr (8, [.ref q_a0_told, .ref q_a0_kept, .ref q_a0_isKept, .ref q_a0_refused, .long u.1, .long u.2, .ref q_a0_manyBy, .ref q_a0_hers, .ref q_a0_his, .ref q_a0_hand, .ref q_a0_bytes, .int a0_bytesLong, .int a0_tokenAt, .int a0_tokenLong, .int a0_token, .int a0_value, .ref q_a0_anew, .ref q_a0_values]))]) (va_A [(q_a0, .inr (8, [.ref q_a0_told, .ref q_a0_kept, .ref q_a0_isKept, .ref q_a0_refused, .long a0_above, .long a0_below, .ref q_a0_manyBy, .ref q_a0_hers, .ref q_a0_his, .ref q_a0_hand, .ref q_a0_bytes, .int a0_bytesLong, .int a0_tokenAt, .int a0_tokenLong, .int a0_token, .int a0_value, .ref q_a0_anew, .ref q_a0_values]))] sz)) 0 0 (va_A [(q_a0, .inr (8, [.ref q_a0_told, .ref q_a0_kept, .ref q_a0_isKept, .ref q_a0_refused, .long a0_above, .long a0_below, .ref q_a0_manyBy, .ref q_a0_hers, .ref q_a0_his, .ref q_a0_hand, .ref q_a0_bytes, .int a0_bytesLong, .int a0_tokenAt, .int a0_tokenLong, .int a0_token, .int a0_value, .ref q_a0_anew, .ref q_a0_values]))] sz) := by
  refine Met.ofW (cc := cX9_fraction) (maxL := 11) (ret := none) (by decide) rfl ?_
  intro p e s m args below meth c s₁ B hml hv
  obtain ⟨rfl, hsz, hP, hX, hD0⟩ := hv
  have hK := hX.1
  have hx := B.exec
  have hb := B.bytes
  have hr := B.returns
  have hts := atoms_spec (ws := wsX9_fraction) B.pre
  have hown : s.vm.findClass RX9 = some m.cls := findClass_of_methodNamed B.named
  have hlocks := B.notSynchronized
  have in_X9 : ∀ w ∈ wsX90, w ∈ wsX9_fraction := fun _ h => List.mem_cons_of_mem _ (List.mem_append_right _ h)
  have kf_158 := hts (.fieldLink RX9 158 "LeftCrestModel" "above" "J") (by decide +kernel)
  have kf_23 := hts (.fieldLink RX9 23 "LeftCrestModel" "below" "J") (by decide +kernel)
  subst hsz
  have hD := hD0.self (sz := s.heap.size)
  generalize hAe : va_A [(q_a0, .inr (8, [.ref q_a0_told, .ref q_a0_kept, .ref q_a0_isKept, .ref q_a0_refused, .long a0_above, .long a0_below, .ref q_a0_manyBy, .ref q_a0_hers, .ref q_a0_his, .ref q_a0_hand, .ref q_a0_bytes, .int a0_bytesLong, .int a0_tokenAt, .int a0_tokenLong, .int a0_token, .int a0_value, .ref q_a0_anew, .ref q_a0_values]))] s.heap.size = A at hD ⊢
  have hA : ∀ q : Nat, s.heap.size ≤ q → A q := fun q h => by rw [← hAe]; exact Or.inr h
  have hS : va_S A s.heap s.heap [] := va_S.rf
  have hP : va_P D vwCl [(q_a0, .inr (8, [.ref q_a0_told, .ref q_a0_kept, .ref q_a0_isKept, .ref q_a0_refused, .long a0_above, .long a0_below, .ref q_a0_manyBy, .ref q_a0_hers, .ref q_a0_his, .ref q_a0_hand, .ref q_a0_bytes, .int a0_bytesLong, .int a0_tokenAt, .int a0_tokenLong, .int a0_token, .int a0_value, .ref q_a0_anew, .ref q_a0_values]))] s.heap := hP
  generalize hQQ : MQ below _ _ s _ _ _ = QQ
  have hl := lv_entry ([.ref q_a0, .long x1, .long x3]) (n := 11) (Nat.le_of_ble_eq_true rfl)
  rw [lg_entry_eq]
  generalize (lg_sl ([.ref q_a0, .long x1, .long x3]) ++ List.replicate (11 - (lg_sl ([.ref q_a0, .long x1, .long x3])).length) Slot.unset).toArray = ls at hl ⊢
  have hl : lv_has ls 11 [(0, .ref q_a0), (1, .long x1), (3, .long x3)] := hl
  have hj_31 : ∀ (v_1 : Int64) (H : Heap) (locs : List Loc), jX9_fraction_31 x1 x3 Q v_1 → va_P D vwCl [(q_a0, .inr (8, [.ref q_a0_told, .ref q_a0_kept, .ref q_a0_isKept, .ref q_a0_refused, .long a0_above, .long a0_below, .ref q_a0_manyBy, .ref q_a0_hers, .ref q_a0_his, .ref q_a0_hand, .ref q_a0_bytes, .int a0_bytesLong, .int a0_tokenAt, .int a0_tokenLong, .int a0_token, .int a0_value, .ref q_a0_anew, .ref q_a0_values]))] H → va_D A [(q_a0, .inr (8, [.ref q_a0_told, .ref q_a0_kept, .ref q_a0_isKept, .ref q_a0_refused, .long a0_above, .long a0_below, .ref q_a0_manyBy, .ref q_a0_hers, .ref q_a0_his, .ref q_a0_hand, .ref q_a0_bytes, .int a0_bytesLong, .int a0_tokenAt, .int a0_tokenLong, .int a0_token, .int a0_value, .ref q_a0_anew, .ref q_a0_values]))] → va_S A s.heap H locs → ∀ ls : Array Slot, lv_has ls 11 [(0, .ref q_a0), (1, .long x1), (3, .long x3), (5, .long v_1)] → W p l e (headSpec wsX9_fraction rmX9_fraction).room s m ([.ref q_a0, .long x1, .long x3] : List Value).toArray below meth c H locs 0 0 QQ (F0 m 31 ls []) := by
    intro v_1 H locs hf hP hD hS ls hl
    unfold jX9_fraction_31 at hf
    refine lv_aload_n hx hb dX9_fraction_31 rfl (lv_at hl 0 rfl) ?_
    refine lv_lload_n hx hb dX9_fraction_32 rfl (lv_at hl 1 rfl) ?_
    refine lv_lload hx hb dX9_fraction_33 (lv_at hl 3 rfl) ?_
    refine lv_ldiv hx hb dX9_fraction_35 hf.1 ?_
    have hf := hf.2
    refine va_put (D := D) (ci := 8) (v := .long (x1 / v_1)) (ty := .long) (C := RX9) (T := TX9) (N := 18) hx hb hts in_X9 tyX9 tyX9_ok nmX9 hown hK hP hD hS 0 rfl rfl 4 (by decide) kf_158 (fun _ h9 => h9) rfl (by decide +kernel) rfl rfl (Nat.le_of_ble_eq_true rfl) dX9_fraction_36 (fun H locs hP hD hS => ?_)
    have hP : va_P D vwCl [(q_a0, .inr (8, [.ref q_a0_told, .ref q_a0_kept, .ref q_a0_isKept, .ref q_a0_refused, .long (x1 / v_1), .long a0_below, .ref q_a0_manyBy, .ref q_a0_hers, .ref q_a0_his, .ref q_a0_hand, .ref q_a0_bytes, .int a0_bytesLong, .int a0_tokenAt, .int a0_tokenLong, .int a0_token, .int a0_value, .ref q_a0_anew, .ref q_a0_values]))] H := hP
    have hD : va_D A [(q_a0, .inr (8, [.ref q_a0_told, .ref q_a0_kept, .ref q_a0_isKept, .ref q_a0_refused, .long (x1 / v_1), .long a0_below, .ref q_a0_manyBy, .ref q_a0_hers, .ref q_a0_his, .ref q_a0_hand, .ref q_a0_bytes, .int a0_bytesLong, .int a0_tokenAt, .int a0_tokenLong, .int a0_token, .int a0_value, .ref q_a0_anew, .ref q_a0_values]))] := hD
    refine lv_aload_n hx hb dX9_fraction_39 rfl (lv_at hl 0 rfl) ?_
    refine lv_lload_n hx hb dX9_fraction_40 rfl (lv_at hl 2 rfl) ?_
    refine lv_lload hx hb dX9_fraction_41 (lv_at hl 3 rfl) ?_
    refine lv_ldiv hx hb dX9_fraction_43 hf.1 ?_
    have hf := hf.2
    refine va_put (D := D) (ci := 8) (v := .long (x3 / v_1)) (ty := .long) (C := RX9) (T := TX9) (N := 18) hx hb hts in_X9 tyX9 tyX9_ok nmX9 hown hK hP hD hS 0 rfl rfl 5 (by decide) kf_23 (fun _ h9 => h9) rfl (by decide +kernel) rfl rfl (Nat.le_of_ble_eq_true rfl) dX9_fraction_44 (fun H locs hP hD hS => ?_)
    have hP : va_P D vwCl [(q_a0, .inr (8, [.ref q_a0_told, .ref q_a0_kept, .ref q_a0_isKept, .ref q_a0_refused, .long (x1 / v_1), .long (x3 / v_1), .ref q_a0_manyBy, .ref q_a0_hers, .ref q_a0_his, .ref q_a0_hand, .ref q_a0_bytes, .int a0_bytesLong, .int a0_tokenAt, .int a0_tokenLong, .int a0_token, .int a0_value, .ref q_a0_anew, .ref q_a0_values]))] H := hP
    have hD : va_D A [(q_a0, .inr (8, [.ref q_a0_told, .ref q_a0_kept, .ref q_a0_isKept, .ref q_a0_refused, .long (x1 / v_1), .long (x3 / v_1), .ref q_a0_manyBy, .ref q_a0_hers, .ref q_a0_his, .ref q_a0_hand, .ref q_a0_bytes, .int a0_bytesLong, .int a0_tokenAt, .int a0_tokenLong, .int a0_token, .int a0_value, .ref q_a0_anew, .ref q_a0_values]))] := hD
    subst hQQ
    have hP9 := hP.sub (ws' := [(q_a0, .inr (8, [.ref q_a0_told, .ref q_a0_kept, .ref q_a0_isKept, .ref q_a0_refused, .long (x1 / v_1), .long (x3 / v_1), .ref q_a0_manyBy, .ref q_a0_hers, .ref q_a0_his, .ref q_a0_hand, .ref q_a0_bytes, .int a0_bytesLong, .int a0_tokenAt, .int a0_tokenLong, .int a0_token, .int a0_value, .ref q_a0_anew, .ref q_a0_values]))]) [0] rfl
    have hD9 := hD.sub (ws' := [(q_a0, .inr (8, [.ref q_a0_told, .ref q_a0_kept, .ref q_a0_isKept, .ref q_a0_refused, .long (x1 / v_1), .long (x3 / v_1), .ref q_a0_manyBy, .ref q_a0_hers, .ref q_a0_his, .ref q_a0_hand, .ref q_a0_bytes, .int a0_bytesLong, .int a0_tokenAt, .int a0_tokenLong, .int a0_token, .int a0_value, .ref q_a0_anew, .ref q_a0_values]))]) [0] (by decide) rfl
    exact W.vret hx hb hr (fun t ht hW => ⟨⟨(x1 / v_1, x3 / v_1), rfl, hf, by rw [ht]; exact hP9, hD9⟩, hS.F ht⟩) hS.2.2 dX9_fraction_47
  unfold p_X9_fraction at hf
  refine lv_lload_n hx hb dX9_fraction_0 rfl (lv_at hl 1 rfl) ?_
  refine lv_lstore (lv' := [(5, .long x1), (0, .ref q_a0), (1, .long x1), (3, .long x3)]) hx hb dX9_fraction_1 hl (by decide) rfl (fun ls hl => ?_)
  refine lv_lload_n hx hb dX9_fraction_3 rfl (lv_at hl 3 rfl) ?_
  refine lv_lstore (lv' := [(7, .long x3), (5, .long x1), (0, .ref q_a0), (1, .long x1), (3, .long x3)]) hx hb dX9_fraction_4 hl (by decide) rfl (fun ls hl => ?_)
  have hlp_6 : ∀ (n_6 : Nat) (v_2 : Int64) (v_3 : Int64) (H : Heap) (locs : List Loc) (ls : Array Slot), lq2 (bX9_fraction_6 x1 x3 Q) n_6 v_2 v_3 → va_P D vwCl [(q_a0, .inr (8, [.ref q_a0_told, .ref q_a0_kept, .ref q_a0_isKept, .ref q_a0_refused, .long a0_above, .long a0_below, .ref q_a0_manyBy, .ref q_a0_hers, .ref q_a0_his, .ref q_a0_hand, .ref q_a0_bytes, .int a0_bytesLong, .int a0_tokenAt, .int a0_tokenLong, .int a0_token, .int a0_value, .ref q_a0_anew, .ref q_a0_values]))] H → va_D A [(q_a0, .inr (8, [.ref q_a0_told, .ref q_a0_kept, .ref q_a0_isKept, .ref q_a0_refused, .long a0_above, .long a0_below, .ref q_a0_manyBy, .ref q_a0_hers, .ref q_a0_his, .ref q_a0_hand, .ref q_a0_bytes, .int a0_bytesLong, .int a0_tokenAt, .int a0_tokenLong, .int a0_token, .int a0_value, .ref q_a0_anew, .ref q_a0_values]))] → va_S A s.heap H locs → lv_has ls 11 [(0, .ref q_a0), (1, .long x1), (3, .long x3), (5, .long v_2), (7, .long v_3)] → W p l e (headSpec wsX9_fraction rmX9_fraction).room s m ([.ref q_a0, .long x1, .long x3] : List Value).toArray below meth c H locs 0 0 QQ (F0 m 6 ls []) := by
    intro n_6
    induction n_6 with
    | zero => intro v_2 v_3 H locs ls hf; exact (lq2_0 hf).elim
    | succ n_6 ih =>
      have ih_6 := ih
      intro v_2 v_3 H locs ls hf hP hD hS hl
      have hf := lq2_s hf
      unfold bX9_fraction_6 at hf
      refine lv_lload hx hb dX9_fraction_6 (lv_at hl 4 rfl) ?_
      refine lv_lconst (v := 0) hx hb dX9_fraction_8 (by decide) ?_
      refine W.lcmp hx hb dX9_fraction_9 ?_
      refine lv_if_eq (tgt := 31) hx hb dX9_fraction_10 (by decide) (fun c_5 => ?_) (fun c_5 => ?_)
      · have hf := it_t c_5 hf
        exact hj_31 v_2 _ _ hf (hP.sub [0] rfl) (hD.sub [0] (by decide) rfl) hS ls (lv_sub hl [0, 1, 2, 3] rfl)
      · have hf := it_f c_5 hf
        refine lv_lload hx hb dX9_fraction_13 (lv_at hl 3 rfl) ?_
        refine lv_lload hx hb dX9_fraction_15 (lv_at hl 4 rfl) ?_
        refine lv_lrem hx hb dX9_fraction_17 hf.1 ?_
        have hf := hf.2
        refine lv_lstore (lv' := [(9, .long (v_2 - v_2 / v_3 * v_3)), (0, .ref q_a0), (1, .long x1), (3, .long x3), (5, .long v_2), (7, .long v_3)]) hx hb dX9_fraction_18 hl (by decide) rfl (fun ls hl => ?_)
        refine lv_lload hx hb dX9_fraction_20 (lv_at hl 5 rfl) ?_
        refine lv_lstore (lv' := [(5, .long v_3), (9, .long (v_2 - v_2 / v_3 * v_3)), (0, .ref q_a0), (1, .long x1), (3, .long x3), (7, .long v_3)]) hx hb dX9_fraction_22 hl (by decide) rfl (fun ls hl => ?_)
        refine lv_lload hx hb dX9_fraction_24 (lv_at hl 1 rfl) ?_
        refine lv_lstore (lv' := [(7, .long (v_2 - v_2 / v_3 * v_3)), (5, .long v_3), (9, .long (v_2 - v_2 / v_3 * v_3)), (0, .ref q_a0), (1, .long x1), (3, .long x3)]) hx hb dX9_fraction_26 hl (by decide) rfl (fun ls hl => ?_)
        refine lv_goto (tgt := 6) hx hb dX9_fraction_28 (by decide) ?_
        exact ih v_3 (v_2 - v_2 / v_3 * v_3) _ _ ls hf (hP.sub [0] rfl) (hD.sub [0] (by decide) rfl) hS (lv_sub hl [3, 4, 5, 1, 0] rfl)
  exact hlp_6 1000 x1 x3 _ _ ls hf (hP.sub [0] rfl) (hD.sub [0] (by decide) rfl) hS (lv_sub hl [2, 3, 4, 1, 0] rfl)
def jX9_heard_69 (a0_refused : Nat → Int32) (a0_above : Int64) (a0_below : Int64) (Q : Int32 → (Nat → Int32) → Int64 → Int64 → Prop) (v_1 : Int32) : Prop :=
  p_X9_fraction a0_above a0_below v_1.toInt64 10 (fun u_2 u_3 => Q 1 a0_refused u_2 u_3)
def bX9_heard_28 (a0_told : Nat → Int32) (a0_refused : Nat → Int32) (a0_above : Int64) (a0_below : Int64) (x1 : Int32) (Q : Int32 → (Nat → Int32) → Int64 → Int64 → Prop) (k_8 : Int32 → Int32 → Prop) (v_6 : Int32) (v_7 : Int32) : Prop :=
  p_X9_many a0_told (fun r_9 => if r_9 ≤ v_7 then (jX9_heard_69 a0_refused a0_above a0_below Q v_6) else (p_X9_noteOf a0_told v_7 (fun r_11 => p_X9_cost a0_told v_7 r_11 (fun r_12 => p_X9_cost a0_told v_7 0 (fun r_13 => k_8 (v_6 + (((10 - x1) * r_12) + (x1 * r_13))) (v_7 + 1))))))
def p_X9_heard (a0_told : Nat → Int32) (a0_refused : Nat → Int32) (a0_above : Int64) (a0_below : Int64) (x1 : Int32) (Q : Int32 → (Nat → Int32) → Int64 → Int64 → Prop) : Prop :=
  p_X9_in x1.toInt64 0 10 (fun r_4 => if r_4 = 0 then (p_X9_bad a0_refused (-2) (fun r_14 u_15 => Q r_14 u_15 a0_above a0_below)) else (lq2 (bX9_heard_28 a0_told a0_refused a0_above a0_below x1 Q) 1000 0 (a0_told (4 : Int32).toNatClampNeg)))
def rmX9_heard : Room := { frames := 4, cells := 0, slots := 0, locals := 93 }
set_option maxHeartbeats 4000000 in
set_option maxRecDepth 100000 in
theorem c_X9_heard (l : Launch) (D : va_G) (cI cZ cO : ClassId) (q_a0 q_a0_told q_a0_kept q_a0_isKept q_a0_refused q_a0_manyBy q_a0_hers q_a0_his q_a0_hand q_a0_bytes q_a0_anew q_a0_values : Nat) (a0_above : Int64) (a0_below : Int64) (a0_bytesLong : Int32) (a0_tokenAt : Int32) (a0_tokenLong : Int32) (a0_token : Int32) (a0_value : Int32) (a0_told : Nat → Int32) (a0_refused : Nat → Int32) (sz : Nat) (x1 : Int32) (Q : Int32 → (Nat → Int32) → Int64 → Int64 → Prop) (hf : p_X9_heard a0_told a0_refused a0_above a0_below x1 Q) : Met l yX9_heard wsX9_heard rmX9_heard (va_Pc [.ref q_a0, .int x1] (fun U => U.heap.size = sz ∧ va_P D vwCl [(q_a0, .inr (8, [.ref q_a0_told, .ref q_a0_kept, .ref q_a0_isKept, .ref q_a0_refused, .long a0_above, .long a0_below, .ref q_a0_manyBy, .ref q_a0_hers, .ref q_a0_his, .ref q_a0_hand, .ref q_a0_bytes, .int a0_bytesLong, .int a0_tokenAt, .int a0_tokenLong, .int a0_token, .int a0_value, .ref q_a0_anew, .ref q_a0_values])), (q_a0_told, .inl (cI, 163, .inl a0_told)), (q_a0_refused, .inl (cI, 3, .inl a0_refused))] U.heap ∧ XK D cI cZ cO U ∧ va_D (fun _ => True) [(q_a0, .inr (8, [.ref q_a0_told, .ref q_a0_kept, .ref q_a0_isKept, .ref q_a0_refused, .long a0_above, .long a0_below, .ref q_a0_manyBy, .ref q_a0_hers, .ref q_a0_his, .ref q_a0_hand, .ref q_a0_bytes, .int a0_bytesLong, .int a0_tokenAt, .int a0_tokenLong, .int a0_token, .int a0_value, .ref q_a0_anew, .ref q_a0_values])), (q_a0_told, .inl (cI, 163, .inl a0_told)), (q_a0_refused, .inl (cI, 3, .inl a0_refused))])) (va_Qi (fun r (u : (Nat → Int32) × Int64 × Int64) => Q r u.1 u.2.1 u.2.2) (fun (u : (Nat → Int32) × Int64 × Int64) t => va_P D vwCl [(q_a0, .inr (8, [.ref q_a0_told, .ref q_a0_kept, .ref q_a0_isKept, .ref q_a0_refused, .long u.2.1, .long u.2.2, .ref q_a0_manyBy, .ref q_a0_hers, .ref q_a0_his, .ref q_a0_hand, .ref q_a0_bytes, .int a0_bytesLong, .int a0_tokenAt, .int a0_tokenLong, .int a0_token, .int a0_value, .ref q_a0_anew, .ref q_a0_values])), (q_a0_told, .inl (cI, 163, .inl a0_told)), (q_a0_refused, .inl (cI, 3, .inl u.1))] t.heap ∧ va_D (va_A [(q_a0, .inr (8, [.ref q_a0_told, .ref q_a0_kept, .ref q_a0_isKept, .ref q_a0_refused, .long a0_above, .long a0_below, .ref q_a0_manyBy, .ref q_a0_hers, .ref q_a0_his, .ref q_a0_hand, .ref q_a0_bytes, .int a0_bytesLong, .int a0_tokenAt, .int a0_tokenLong, .int a0_token, .int a0_value, .ref q_a0_anew, .ref q_a0_values])), (q_a0_told, .inl (cI, 163, .inl a0_told)), (q_a0_refused, .inl (cI, 3, .inl a0_refused))] sz) [(q_a0, .inr (8, [.ref q_a0_told, .ref q_a0_kept, .ref q_a0_isKept, .ref q_a0_refused, .long u.2.1, .long u.2.2, .ref q_a0_manyBy, .ref q_a0_hers, .ref q_a0_his, .ref q_a0_hand, .ref q_a0_bytes, .int a0_bytesLong, .int a0_tokenAt, .int a0_tokenLong, .int a0_token, .int a0_value, .ref q_a0_anew, .ref q_a0_values])), (q_a0_told, .inl (cI, 163, .inl a0_told)), (q_a0_refused, .inl (cI, 3, .inl u.1))]) (va_A [(q_a0, .inr (8, [.ref q_a0_told, .ref q_a0_kept, .ref q_a0_isKept, .ref q_a0_refused, .long a0_above, .long a0_below, .ref q_a0_manyBy, .ref q_a0_hers, .ref q_a0_his, .ref q_a0_hand, .ref q_a0_bytes, .int a0_bytesLong, .int a0_tokenAt, .int a0_tokenLong, .int a0_token, .int a0_value, .ref q_a0_anew, .ref q_a0_values])), (q_a0_told, .inl (cI, 163, .inl a0_told)), (q_a0_refused, .inl (cI, 3, .inl a0_refused))] sz)) 0 0 (va_A [(q_a0, .inr (8, [.ref q_a0_told, .ref q_a0_kept, .ref q_a0_isKept, .ref q_a0_refused, .long a0_above, .long a0_below, .ref q_a0_manyBy, .ref q_a0_hers, .ref q_a0_his, .ref q_a0_hand, .ref q_a0_bytes, .int a0_bytesLong, .int a0_tokenAt, .int a0_tokenLong, .int a0_token, .int a0_value, .ref q_a0_anew, .ref q_a0_values])), (q_a0_told, .inl (cI, 163, .inl a0_told)), (q_a0_refused, .inl (cI, 3, .inl a0_refused))] sz) := by
  refine Met.ofW (cc := cX9_heard) (maxL := 4) (ret := (some .int)) (by decide) rfl ?_
  intro p e s m args below meth c s₁ B hml hv
  obtain ⟨rfl, hsz, hP, hX, hD0⟩ := hv
  have hK := hX.1
  have hx := B.exec
  have hb := B.bytes
  have hr := B.returns
  have hts := atoms_spec (ws := wsX9_heard) B.pre
  have hown : s.vm.findClass RX9 = some m.cls := findClass_of_methodNamed B.named
  have hlocks := B.notSynchronized
  have in_X9 : ∀ w ∈ wsX90, w ∈ wsX9_heard := fun _ h => List.mem_cons_of_mem _ (List.mem_append_right _ h)
  have kc_161 := hts (.constantLong RX9 161 (10)) (by decide +kernel)
  have kf_7 := hts (.fieldLink RX9 7 "LeftCrestModel" "told" "[I") (by decide +kernel)
  subst hsz
  have hD := hD0.self (sz := s.heap.size)
  generalize hAe : va_A [(q_a0, .inr (8, [.ref q_a0_told, .ref q_a0_kept, .ref q_a0_isKept, .ref q_a0_refused, .long a0_above, .long a0_below, .ref q_a0_manyBy, .ref q_a0_hers, .ref q_a0_his, .ref q_a0_hand, .ref q_a0_bytes, .int a0_bytesLong, .int a0_tokenAt, .int a0_tokenLong, .int a0_token, .int a0_value, .ref q_a0_anew, .ref q_a0_values])), (q_a0_told, .inl (cI, 163, .inl a0_told)), (q_a0_refused, .inl (cI, 3, .inl a0_refused))] s.heap.size = A at hD ⊢
  have hA : ∀ q : Nat, s.heap.size ≤ q → A q := fun q h => by rw [← hAe]; exact Or.inr h
  have hS : va_S A s.heap s.heap [] := va_S.rf
  have hP : va_P D vwCl [(q_a0, .inr (8, [.ref q_a0_told, .ref q_a0_kept, .ref q_a0_isKept, .ref q_a0_refused, .long a0_above, .long a0_below, .ref q_a0_manyBy, .ref q_a0_hers, .ref q_a0_his, .ref q_a0_hand, .ref q_a0_bytes, .int a0_bytesLong, .int a0_tokenAt, .int a0_tokenLong, .int a0_token, .int a0_value, .ref q_a0_anew, .ref q_a0_values])), (q_a0_told, .inl (cI, 163, .inl a0_told)), (q_a0_refused, .inl (cI, 3, .inl a0_refused))] s.heap := hP
  generalize hQQ : MQ below _ _ s _ _ _ = QQ
  have hl := lv_entry ([.ref q_a0, .int x1]) (n := 4) (Nat.le_of_ble_eq_true rfl)
  rw [lg_entry_eq]
  generalize (lg_sl ([.ref q_a0, .int x1]) ++ List.replicate (4 - (lg_sl ([.ref q_a0, .int x1])).length) Slot.unset).toArray = ls at hl ⊢
  have hl : lv_has ls 4 [(0, .ref q_a0), (1, .int x1)] := hl
  have hj_69 : ∀ (v_1 : Int32) (H : Heap) (locs : List Loc), jX9_heard_69 a0_refused a0_above a0_below Q v_1 → va_P D vwCl [(q_a0, .inr (8, [.ref q_a0_told, .ref q_a0_kept, .ref q_a0_isKept, .ref q_a0_refused, .long a0_above, .long a0_below, .ref q_a0_manyBy, .ref q_a0_hers, .ref q_a0_his, .ref q_a0_hand, .ref q_a0_bytes, .int a0_bytesLong, .int a0_tokenAt, .int a0_tokenLong, .int a0_token, .int a0_value, .ref q_a0_anew, .ref q_a0_values])), (q_a0_told, .inl (cI, 163, .inl a0_told)), (q_a0_refused, .inl (cI, 3, .inl a0_refused))] H → va_D A [(q_a0, .inr (8, [.ref q_a0_told, .ref q_a0_kept, .ref q_a0_isKept, .ref q_a0_refused, .long a0_above, .long a0_below, .ref q_a0_manyBy, .ref q_a0_hers, .ref q_a0_his, .ref q_a0_hand, .ref q_a0_bytes, .int a0_bytesLong, .int a0_tokenAt, .int a0_tokenLong, .int a0_token, .int a0_value, .ref q_a0_anew, .ref q_a0_values])), (q_a0_told, .inl (cI, 163, .inl a0_told)), (q_a0_refused, .inl (cI, 3, .inl a0_refused))] → va_S A s.heap H locs → ∀ ls : Array Slot, lv_has ls 4 [(0, .ref q_a0), (2, .int v_1)] → W p l e (headSpec wsX9_heard rmX9_heard).room s m ([.ref q_a0, .int x1] : List Value).toArray below meth c H locs 0 0 QQ (F0 m 69 ls []) := by
    intro v_1 H locs hf hP hD hS ls hl
    unfold jX9_heard_69 at hf
    refine lv_aload_n hx hb dX9_heard_69 rfl (lv_at hl 0 rfl) ?_
    refine lv_iload_n hx hb dX9_heard_70 rfl (lv_at hl 1 rfl) ?_
    refine lv_i2l hx hb dX9_heard_71 rfl ?_
    refine lv_ldc2 (v := 10) hx hb hown kc_161 dX9_heard_72 ?_
    have hPc := hP.sub (ws' := [(q_a0, .inr (8, [.ref q_a0_told, .ref q_a0_kept, .ref q_a0_isKept, .ref q_a0_refused, .long a0_above, .long a0_below, .ref q_a0_manyBy, .ref q_a0_hers, .ref q_a0_his, .ref q_a0_hand, .ref q_a0_bytes, .int a0_bytesLong, .int a0_tokenAt, .int a0_tokenLong, .int a0_token, .int a0_value, .ref q_a0_anew, .ref q_a0_values]))]) [0] rfl
    have hDc := hD.sub (ws' := [(q_a0, .inr (8, [.ref q_a0_told, .ref q_a0_kept, .ref q_a0_isKept, .ref q_a0_refused, .long a0_above, .long a0_below, .ref q_a0_manyBy, .ref q_a0_hers, .ref q_a0_his, .ref q_a0_hand, .ref q_a0_bytes, .int a0_bytesLong, .int a0_tokenAt, .int a0_tokenLong, .int a0_token, .int a0_value, .ref q_a0_anew, .ref q_a0_values]))]) [0] (by decide) rfl
    have hFc := va_free (wc := [(q_a0, .inr (8, [.ref q_a0_told, .ref q_a0_kept, .ref q_a0_isKept, .ref q_a0_refused, .long a0_above, .long a0_below, .ref q_a0_manyBy, .ref q_a0_hers, .ref q_a0_his, .ref q_a0_hand, .ref q_a0_bytes, .int a0_bytesLong, .int a0_tokenAt, .int a0_tokenLong, .int a0_token, .int a0_value, .ref q_a0_anew, .ref q_a0_values]))]) hD hS hA [0] rfl
    refine va_callv (va_runV (As := [.long v_1.toInt64, .long 10]) (rest := []) ⟨hx, hb, hml, hown, hts⟩ (c_X9_fraction l D cI cZ cO q_a0 q_a0_told q_a0_kept q_a0_isKept q_a0_refused q_a0_manyBy q_a0_hers q_a0_his q_a0_hand q_a0_bytes q_a0_anew q_a0_values a0_above a0_below a0_bytesLong a0_tokenAt a0_tokenLong a0_token a0_value H.size v_1.toInt64 10 _ hf) (cwV 2 hts gX9_heard_X9_fraction rfl rfl rfl (by decide +kernel) ⟨Nat.le_of_ble_eq_true rfl, Nat.le_of_ble_eq_true rfl⟩) (pv_rw (ci := 8) (q0 := 0) hPc hDc hX rfl rfl) rfl rfl hl.1 rfl (lv_room (Nat.le_of_ble_eq_true rfl)) dX9_heard_75 ⟨Nat.zero_le _, Nat.zero_le _⟩) hS (fun q _ h => hFc q h) hFc (fun u t H1 locs ht hvm hf hB hz1 hk1 hS => ?_)
    obtain ⟨u_2, u_3⟩ := u
    obtain ⟨hP1, hD1⟩ := hB
    rw [ht] at hP1
    clear hvm
    obtain ⟨hP, hD⟩ := va_join (wr := [(q_a0_told, .inl (cI, 163, .inl a0_told)), (q_a0_refused, .inl (cI, 3, .inl a0_refused))]) (w1 := [(q_a0, .inr (8, [.ref q_a0_told, .ref q_a0_kept, .ref q_a0_isKept, .ref q_a0_refused, .long u_2, .long u_3, .ref q_a0_manyBy, .ref q_a0_hers, .ref q_a0_his, .ref q_a0_hand, .ref q_a0_bytes, .int a0_bytesLong, .int a0_tokenAt, .int a0_tokenLong, .int a0_token, .int a0_value, .ref q_a0_anew, .ref q_a0_values]))]) hP hD [0] [1, 2] rfl rfl (by decide) (by decide) hk1 hFc hP1 hD1
    clear hz1 hk1 hPc hDc hFc hP1 hD1
    generalize H1 = H at hP hS ⊢
    have hP : va_P D vwCl [(q_a0_told, .inl (cI, 163, .inl a0_told)), (q_a0_refused, .inl (cI, 3, .inl a0_refused)), (q_a0, .inr (8, [.ref q_a0_told, .ref q_a0_kept, .ref q_a0_isKept, .ref q_a0_refused, .long u_2, .long u_3, .ref q_a0_manyBy, .ref q_a0_hers, .ref q_a0_his, .ref q_a0_hand, .ref q_a0_bytes, .int a0_bytesLong, .int a0_tokenAt, .int a0_tokenLong, .int a0_token, .int a0_value, .ref q_a0_anew, .ref q_a0_values]))] H := hP
    have hD : va_D A [(q_a0_told, .inl (cI, 163, .inl a0_told)), (q_a0_refused, .inl (cI, 3, .inl a0_refused)), (q_a0, .inr (8, [.ref q_a0_told, .ref q_a0_kept, .ref q_a0_isKept, .ref q_a0_refused, .long u_2, .long u_3, .ref q_a0_manyBy, .ref q_a0_hers, .ref q_a0_his, .ref q_a0_hand, .ref q_a0_bytes, .int a0_bytesLong, .int a0_tokenAt, .int a0_tokenLong, .int a0_token, .int a0_value, .ref q_a0_anew, .ref q_a0_values]))] := hD
    refine lv_iconst (v := 1) hx hb dX9_heard_78 (by decide) ?_
    subst hQQ
    have hP9 := hP.sub (ws' := [(q_a0, .inr (8, [.ref q_a0_told, .ref q_a0_kept, .ref q_a0_isKept, .ref q_a0_refused, .long u_2, .long u_3, .ref q_a0_manyBy, .ref q_a0_hers, .ref q_a0_his, .ref q_a0_hand, .ref q_a0_bytes, .int a0_bytesLong, .int a0_tokenAt, .int a0_tokenLong, .int a0_token, .int a0_value, .ref q_a0_anew, .ref q_a0_values])), (q_a0_told, .inl (cI, 163, .inl a0_told)), (q_a0_refused, .inl (cI, 3, .inl a0_refused))]) [2, 0, 1] rfl
    have hD9 := hD.sub (ws' := [(q_a0, .inr (8, [.ref q_a0_told, .ref q_a0_kept, .ref q_a0_isKept, .ref q_a0_refused, .long u_2, .long u_3, .ref q_a0_manyBy, .ref q_a0_hers, .ref q_a0_his, .ref q_a0_hand, .ref q_a0_bytes, .int a0_bytesLong, .int a0_tokenAt, .int a0_tokenLong, .int a0_token, .int a0_value, .ref q_a0_anew, .ref q_a0_values])), (q_a0_told, .inl (cI, 163, .inl a0_told)), (q_a0_refused, .inl (cI, 3, .inl a0_refused))]) [2, 0, 1] (by decide) rfl
    exact W.iret hx hb hr (fun t ht hW => ⟨⟨1, (a0_refused, u_2, u_3), rfl, hf, by rw [ht]; exact hP9, hD9⟩, hS.F ht⟩) hS.2.2 dX9_heard_79
  unfold p_X9_heard at hf
  refine lv_iload_n hx hb dX9_heard_0 rfl (lv_at hl 1 rfl) ?_
  refine lv_i2l hx hb dX9_heard_1 rfl ?_
  refine lv_lconst (v := 0) hx hb dX9_heard_2 (by decide) ?_
  refine lv_ldc2 (v := 10) hx hb hown kc_161 dX9_heard_3 ?_
  refine ya_csi (va_runS (As := [.long x1.toInt64, .long 0, .long 10]) (rest := []) ⟨hx, hb, hml, hown, hts⟩ (c_X9_in l D cI cZ cO  x1.toInt64 0 10 _ hf) (va_cwS 3 hts gX9_heard_X9_in rfl rfl rfl (by decide +kernel) ⟨Nat.le_of_ble_eq_true rfl, Nat.le_of_ble_eq_true rfl⟩) (ps_ro va_P0 hX) rfl rfl hl.1 rfl (lv_room (Nat.le_of_ble_eq_true rfl)) dX9_heard_6 ⟨Nat.zero_le _, Nat.zero_le _⟩) (fun r_4 hf => ?_)
  refine lv_if_ne (tgt := 19) hx hb dX9_heard_9 (by decide) (fun c_5 => ?_) (fun c_5 => ?_)
  · have hf := it_f c_5 hf
    refine lv_iconst (v := 0) hx hb dX9_heard_19 (by decide) ?_
    refine lv_istore_n (lv' := [(2, .int 0), (0, .ref q_a0), (1, .int x1)]) hx hb dX9_heard_20 rfl hl (by decide) rfl (fun ls hl => ?_)
    refine lv_aload_n hx hb dX9_heard_21 rfl (lv_at hl 1 rfl) ?_
    refine va_get (D := D) (ci := 8) (v := .ref q_a0_told) (C := RX9) (T := TX9) (N := 18) hx hb hts in_X9 hown hK hP 0 rfl rfl 0 (by decide) kf_7 (fun _ h9 => h9) rfl dX9_heard_22 ?_
    refine lv_iconst (v := 4) hx hb dX9_heard_25 (by decide) ?_
    refine va_iald hx hb hK hP 1 0 rfl rfl (by unfold vp_in; decide) dX9_heard_26 ?_
    refine lv_istore_n (lv' := [(3, .int (a0_told (4 : Int32).toNatClampNeg)), (2, .int 0), (0, .ref q_a0), (1, .int x1)]) hx hb dX9_heard_27 rfl hl (by decide) rfl (fun ls hl => ?_)
    have hlp_28 : ∀ (n_28 : Nat) (v_6 : Int32) (v_7 : Int32) (H : Heap) (locs : List Loc) (ls : Array Slot), lq2 (bX9_heard_28 a0_told a0_refused a0_above a0_below x1 Q) n_28 v_6 v_7 → va_P D vwCl [(q_a0, .inr (8, [.ref q_a0_told, .ref q_a0_kept, .ref q_a0_isKept, .ref q_a0_refused, .long a0_above, .long a0_below, .ref q_a0_manyBy, .ref q_a0_hers, .ref q_a0_his, .ref q_a0_hand, .ref q_a0_bytes, .int a0_bytesLong, .int a0_tokenAt, .int a0_tokenLong, .int a0_token, .int a0_value, .ref q_a0_anew, .ref q_a0_values])), (q_a0_told, .inl (cI, 163, .inl a0_told)), (q_a0_refused, .inl (cI, 3, .inl a0_refused))] H → va_D A [(q_a0, .inr (8, [.ref q_a0_told, .ref q_a0_kept, .ref q_a0_isKept, .ref q_a0_refused, .long a0_above, .long a0_below, .ref q_a0_manyBy, .ref q_a0_hers, .ref q_a0_his, .ref q_a0_hand, .ref q_a0_bytes, .int a0_bytesLong, .int a0_tokenAt, .int a0_tokenLong, .int a0_token, .int a0_value, .ref q_a0_anew, .ref q_a0_values])), (q_a0_told, .inl (cI, 163, .inl a0_told)), (q_a0_refused, .inl (cI, 3, .inl a0_refused))] → va_S A s.heap H locs → lv_has ls 4 [(0, .ref q_a0), (1, .int x1), (2, .int v_6), (3, .int v_7)] → W p l e (headSpec wsX9_heard rmX9_heard).room s m ([.ref q_a0, .int x1] : List Value).toArray below meth c H locs 0 0 QQ (F0 m 28 ls []) := by
      intro n_28
      induction n_28 with
      | zero => intro v_6 v_7 H locs ls hf; exact (lq2_0 hf).elim
      | succ n_28 ih =>
        have ih_28 := ih
        intro v_6 v_7 H locs ls hf hP hD hS hl
        have hf := lq2_s hf
        unfold bX9_heard_28 at hf
        refine lv_iload_n hx hb dX9_heard_28 rfl (lv_at hl 3 rfl) ?_
        refine lv_aload_n hx hb dX9_heard_29 rfl (lv_at hl 0 rfl) ?_
        refine ya_csi (va_runV (As := []) (rest := [.int v_7]) ⟨hx, hb, hml, hown, hts⟩ (c_X9_many l D cI cZ cO q_a0 q_a0_told q_a0_kept q_a0_isKept q_a0_refused q_a0_manyBy q_a0_hers q_a0_his q_a0_hand q_a0_bytes q_a0_anew q_a0_values a0_above a0_below a0_bytesLong a0_tokenAt a0_tokenLong a0_token a0_value a0_told  _ hf) (cwV 0 hts gX9_heard_X9_many rfl rfl rfl (by decide +kernel) ⟨Nat.le_of_ble_eq_true rfl, Nat.le_of_ble_eq_true rfl⟩) (pv_ro (ci := 8) (q0 := 0) (hP.sub [0, 1] rfl) hX rfl rfl) rfl rfl hl.1 rfl (lv_room (Nat.le_of_ble_eq_true rfl)) dX9_heard_30 ⟨Nat.zero_le _, Nat.zero_le _⟩) (fun r_9 hf => ?_)
        refine lv_icmp_ge (tgt := 69) hx hb dX9_heard_33 (by decide) (fun c_10 => ?_) (fun c_10 => ?_)
        · have hf := it_t c_10 hf
          exact hj_69 v_6 _ _ hf (hP.sub [0, 1, 2] rfl) (hD.sub [0, 1, 2] (by decide) rfl) hS ls (lv_sub hl [0, 2] rfl)
        · have hf := it_f c_10 hf
          refine lv_iload_n hx hb dX9_heard_36 rfl (lv_at hl 2 rfl) ?_
          refine lv_bipush (v := 10) hx hb dX9_heard_37 (by decide) ?_
          refine lv_iload_n hx hb dX9_heard_39 rfl (lv_at hl 1 rfl) ?_
          refine lv_isub hx hb dX9_heard_40 ?_
          refine lv_aload_n hx hb dX9_heard_41 rfl (lv_at hl 0 rfl) ?_
          refine lv_iload_n hx hb dX9_heard_42 rfl (lv_at hl 3 rfl) ?_
          refine lv_aload_n hx hb dX9_heard_43 rfl (lv_at hl 0 rfl) ?_
          refine lv_iload_n hx hb dX9_heard_44 rfl (lv_at hl 3 rfl) ?_
          refine ya_csi (va_runV (As := [.int v_7]) (rest := [.int v_7, .ref q_a0, .int (10 - x1), .int v_6]) ⟨hx, hb, hml, hown, hts⟩ (c_X9_noteOf l D cI cZ cO q_a0 q_a0_told q_a0_kept q_a0_isKept q_a0_refused q_a0_manyBy q_a0_hers q_a0_his q_a0_hand q_a0_bytes q_a0_anew q_a0_values a0_above a0_below a0_bytesLong a0_tokenAt a0_tokenLong a0_token a0_value a0_told v_7 _ hf) (cwV 1 hts gX9_heard_X9_noteOf rfl rfl rfl (by decide +kernel) ⟨Nat.le_of_ble_eq_true rfl, Nat.le_of_ble_eq_true rfl⟩) (pv_ro (ci := 8) (q0 := 0) (hP.sub [0, 1] rfl) hX rfl rfl) rfl rfl hl.1 rfl (lv_room (Nat.le_of_ble_eq_true rfl)) dX9_heard_45 ⟨Nat.zero_le _, Nat.zero_le _⟩) (fun r_11 hf => ?_)
          refine ya_csi (va_runV (As := [.int v_7, .int r_11]) (rest := [.int (10 - x1), .int v_6]) ⟨hx, hb, hml, hown, hts⟩ (c_X9_cost l D cI cZ cO q_a0 q_a0_told q_a0_kept q_a0_isKept q_a0_refused q_a0_manyBy q_a0_hers q_a0_his q_a0_hand q_a0_bytes q_a0_anew q_a0_values a0_above a0_below a0_bytesLong a0_tokenAt a0_tokenLong a0_token a0_value a0_told v_7 r_11 _ hf) (cwV 2 hts gX9_heard_X9_cost rfl rfl rfl (by decide +kernel) ⟨Nat.le_of_ble_eq_true rfl, Nat.le_of_ble_eq_true rfl⟩) (pv_ro (ci := 8) (q0 := 0) (hP.sub [0, 1] rfl) hX rfl rfl) rfl rfl hl.1 rfl (lv_room (Nat.le_of_ble_eq_true rfl)) dX9_heard_48 ⟨Nat.zero_le _, Nat.zero_le _⟩) (fun r_12 hf => ?_)
          refine lv_imul hx hb dX9_heard_51 ?_
          refine lv_iload_n hx hb dX9_heard_52 rfl (lv_at hl 1 rfl) ?_
          refine lv_aload_n hx hb dX9_heard_53 rfl (lv_at hl 0 rfl) ?_
          refine lv_iload_n hx hb dX9_heard_54 rfl (lv_at hl 3 rfl) ?_
          refine lv_iconst (v := 0) hx hb dX9_heard_55 (by decide) ?_
          refine ya_csi (va_runV (As := [.int v_7, .int 0]) (rest := [.int x1, .int ((10 - x1) * r_12), .int v_6]) ⟨hx, hb, hml, hown, hts⟩ (c_X9_cost l D cI cZ cO q_a0 q_a0_told q_a0_kept q_a0_isKept q_a0_refused q_a0_manyBy q_a0_hers q_a0_his q_a0_hand q_a0_bytes q_a0_anew q_a0_values a0_above a0_below a0_bytesLong a0_tokenAt a0_tokenLong a0_token a0_value a0_told v_7 0 _ hf) (cwV 2 hts gX9_heard_X9_cost rfl rfl rfl (by decide +kernel) ⟨Nat.le_of_ble_eq_true rfl, Nat.le_of_ble_eq_true rfl⟩) (pv_ro (ci := 8) (q0 := 0) (hP.sub [0, 1] rfl) hX rfl rfl) rfl rfl hl.1 rfl (lv_room (Nat.le_of_ble_eq_true rfl)) dX9_heard_56 ⟨Nat.zero_le _, Nat.zero_le _⟩) (fun r_13 hf => ?_)
          refine lv_imul hx hb dX9_heard_59 ?_
          refine lv_iadd hx hb dX9_heard_60 ?_
          refine lv_iadd hx hb dX9_heard_61 ?_
          refine lv_istore_n (lv' := [(2, .int (v_6 + (((10 - x1) * r_12) + (x1 * r_13)))), (0, .ref q_a0), (1, .int x1), (3, .int v_7)]) hx hb dX9_heard_62 rfl hl (by decide) rfl (fun ls hl => ?_)
          refine lv_iinc (v := v_7 + 1) (lv' := [(3, .int (v_7 + 1)), (2, .int (v_6 + (((10 - x1) * r_12) + (x1 * r_13)))), (0, .ref q_a0), (1, .int x1)]) hx hb dX9_heard_63 hl (k := 3) rfl rfl (by decide) rfl (fun ls hl => ?_)
          refine lv_goto (tgt := 28) hx hb dX9_heard_66 (by decide) ?_
          exact ih (v_6 + (((10 - x1) * r_12) + (x1 * r_13))) (v_7 + 1) _ _ ls hf (hP.sub [0, 1, 2] rfl) (hD.sub [0, 1, 2] (by decide) rfl) hS (lv_sub hl [2, 3, 1, 0] rfl)
    exact hlp_28 1000 0 (a0_told (4 : Int32).toNatClampNeg) _ _ ls hf (hP.sub [0, 1, 2] rfl) (hD.sub [0, 1, 2] (by decide) rfl) hS (lv_sub hl [2, 3, 1, 0] rfl)
  · have hf := it_t c_5 hf
    refine lv_aload_n hx hb dX9_heard_12 rfl (lv_at hl 0 rfl) ?_
    refine lv_bipush (v := (-2)) hx hb dX9_heard_13 (by decide) ?_
    have hPc := hP.sub (ws' := [(q_a0, .inr (8, [.ref q_a0_told, .ref q_a0_kept, .ref q_a0_isKept, .ref q_a0_refused, .long a0_above, .long a0_below, .ref q_a0_manyBy, .ref q_a0_hers, .ref q_a0_his, .ref q_a0_hand, .ref q_a0_bytes, .int a0_bytesLong, .int a0_tokenAt, .int a0_tokenLong, .int a0_token, .int a0_value, .ref q_a0_anew, .ref q_a0_values])), (q_a0_refused, .inl (cI, 3, .inl a0_refused))]) [0, 2] rfl
    have hDc := hD.sub (ws' := [(q_a0, .inr (8, [.ref q_a0_told, .ref q_a0_kept, .ref q_a0_isKept, .ref q_a0_refused, .long a0_above, .long a0_below, .ref q_a0_manyBy, .ref q_a0_hers, .ref q_a0_his, .ref q_a0_hand, .ref q_a0_bytes, .int a0_bytesLong, .int a0_tokenAt, .int a0_tokenLong, .int a0_token, .int a0_value, .ref q_a0_anew, .ref q_a0_values])), (q_a0_refused, .inl (cI, 3, .inl a0_refused))]) [0, 2] (by decide) rfl
    have hFc := va_free (wc := [(q_a0, .inr (8, [.ref q_a0_told, .ref q_a0_kept, .ref q_a0_isKept, .ref q_a0_refused, .long a0_above, .long a0_below, .ref q_a0_manyBy, .ref q_a0_hers, .ref q_a0_his, .ref q_a0_hand, .ref q_a0_bytes, .int a0_bytesLong, .int a0_tokenAt, .int a0_tokenLong, .int a0_token, .int a0_value, .ref q_a0_anew, .ref q_a0_values])), (q_a0_refused, .inl (cI, 3, .inl a0_refused))]) hD hS hA [0, 2] rfl
    refine va_calli (va_runV (As := [.int (-2)]) (rest := []) ⟨hx, hb, hml, hown, hts⟩ (c_X9_bad l D cI cZ cO q_a0 q_a0_told q_a0_kept q_a0_isKept q_a0_refused q_a0_manyBy q_a0_hers q_a0_his q_a0_hand q_a0_bytes q_a0_anew q_a0_values a0_above a0_below a0_bytesLong a0_tokenAt a0_tokenLong a0_token a0_value a0_refused s.heap.size (-2) _ hf) (cwV 1 hts gX9_heard_X9_bad rfl rfl rfl (by decide +kernel) ⟨Nat.le_of_ble_eq_true rfl, Nat.le_of_ble_eq_true rfl⟩) (pv_rw (ci := 8) (q0 := 0) hPc hDc hX rfl rfl) rfl rfl hl.1 rfl (lv_room (Nat.le_of_ble_eq_true rfl)) dX9_heard_15 ⟨Nat.zero_le _, Nat.zero_le _⟩) hS (fun q _ h => hFc q h) hFc (fun r_14 u t H1 locs ht hvm hf hB hz1 hk1 hS => ?_)
    obtain ⟨u_15, rfl⟩ : ∃ z, z = u := ⟨_, rfl⟩
    obtain ⟨hP1, hD1⟩ := hB
    rw [ht] at hP1
    clear hvm
    obtain ⟨hP, hD⟩ := va_join (wr := [(q_a0_told, .inl (cI, 163, .inl a0_told))]) (w1 := [(q_a0, .inr (8, [.ref q_a0_told, .ref q_a0_kept, .ref q_a0_isKept, .ref q_a0_refused, .long a0_above, .long a0_below, .ref q_a0_manyBy, .ref q_a0_hers, .ref q_a0_his, .ref q_a0_hand, .ref q_a0_bytes, .int a0_bytesLong, .int a0_tokenAt, .int a0_tokenLong, .int a0_token, .int a0_value, .ref q_a0_anew, .ref q_a0_values])), (q_a0_refused, .inl (cI, 3, .inl u_15))]) hP hD [0, 2] [1] rfl rfl (by decide) (by decide) hk1 hFc hP1 hD1
    clear hz1 hk1 hPc hDc hFc hP1 hD1
    generalize H1 = H at hP hS ⊢
    have hP : va_P D vwCl [(q_a0_told, .inl (cI, 163, .inl a0_told)), (q_a0, .inr (8, [.ref q_a0_told, .ref q_a0_kept, .ref q_a0_isKept, .ref q_a0_refused, .long a0_above, .long a0_below, .ref q_a0_manyBy, .ref q_a0_hers, .ref q_a0_his, .ref q_a0_hand, .ref q_a0_bytes, .int a0_bytesLong, .int a0_tokenAt, .int a0_tokenLong, .int a0_token, .int a0_value, .ref q_a0_anew, .ref q_a0_values])), (q_a0_refused, .inl (cI, 3, .inl u_15))] H := hP
    have hD : va_D A [(q_a0_told, .inl (cI, 163, .inl a0_told)), (q_a0, .inr (8, [.ref q_a0_told, .ref q_a0_kept, .ref q_a0_isKept, .ref q_a0_refused, .long a0_above, .long a0_below, .ref q_a0_manyBy, .ref q_a0_hers, .ref q_a0_his, .ref q_a0_hand, .ref q_a0_bytes, .int a0_bytesLong, .int a0_tokenAt, .int a0_tokenLong, .int a0_token, .int a0_value, .ref q_a0_anew, .ref q_a0_values])), (q_a0_refused, .inl (cI, 3, .inl u_15))] := hD
    subst hQQ
    have hP9 := hP.sub (ws' := [(q_a0, .inr (8, [.ref q_a0_told, .ref q_a0_kept, .ref q_a0_isKept, .ref q_a0_refused, .long a0_above, .long a0_below, .ref q_a0_manyBy, .ref q_a0_hers, .ref q_a0_his, .ref q_a0_hand, .ref q_a0_bytes, .int a0_bytesLong, .int a0_tokenAt, .int a0_tokenLong, .int a0_token, .int a0_value, .ref q_a0_anew, .ref q_a0_values])), (q_a0_told, .inl (cI, 163, .inl a0_told)), (q_a0_refused, .inl (cI, 3, .inl u_15))]) [1, 0, 2] rfl
    have hD9 := hD.sub (ws' := [(q_a0, .inr (8, [.ref q_a0_told, .ref q_a0_kept, .ref q_a0_isKept, .ref q_a0_refused, .long a0_above, .long a0_below, .ref q_a0_manyBy, .ref q_a0_hers, .ref q_a0_his, .ref q_a0_hand, .ref q_a0_bytes, .int a0_bytesLong, .int a0_tokenAt, .int a0_tokenLong, .int a0_token, .int a0_value, .ref q_a0_anew, .ref q_a0_values])), (q_a0_told, .inl (cI, 163, .inl a0_told)), (q_a0_refused, .inl (cI, 3, .inl u_15))]) [1, 0, 2] (by decide) rfl
    exact W.iret hx hb hr (fun t ht hW => ⟨⟨r_14, (u_15, a0_above, a0_below), rfl, hf, by rw [ht]; exact hP9, hD9⟩, hS.F ht⟩) hS.2.2 dX9_heard_18
def bX9_rallies_70 (a0_told : Nat → Int32) (a0_refused : Nat → Int32) (x2 : Int32) (Q : Int32 → (Nat → Int32) → (Nat → Int32) → Prop) (k_8 : (Nat → Int32) → Int64 → Int32 → Int32 → Prop) (w_4 : Nat → Int32) (v_5 : Int64) (v_6 : Int32) (v_7 : Int32) : Prop :=
  if x2 ≤ v_7 then (Q v_6 a0_refused w_4) else (p_X9_many a0_told (fun r_10 => p_X9_goDrive 42 (upd (upd (upd w_4 ((15 : Int32).toNatClampNeg) ((((((v_5 * 1103515245) + 12345) - ((v_5 * 1103515245) + 12345) / 2147483648 * 2147483648) / 65536) - ((((v_5 * 1103515245) + 12345) - ((v_5 * 1103515245) + 12345) / 2147483648 * 2147483648) / 65536) / 6 * 6).toInt32)) ((16 : Int32).toNatClampNeg) ((((((v_5 * 1103515245) + 12345) - ((v_5 * 1103515245) + 12345) / 2147483648 * 2147483648) / 1048576) - ((((v_5 * 1103515245) + 12345) - ((v_5 * 1103515245) + 12345) / 2147483648 * 2147483648) / 1048576) / 10 * 10).toInt32)) ((4 : Int32).toNatClampNeg) 0) r_10 (fun r_11 u_12 => k_8 u_12 (((v_5 * 1103515245) + 12345) - ((v_5 * 1103515245) + 12345) / 2147483648 * 2147483648) (v_6 + r_11) (v_7 + 1))))
def jX9_rallies_67 (a0_told : Nat → Int32) (a0_refused : Nat → Int32) (x2 : Int32) (Q : Int32 → (Nat → Int32) → (Nat → Int32) → Prop) (w_1 : Nat → Int32) (v_2 : Int64) (v_3 : Int32) : Prop :=
  lq4 (bX9_rallies_70 a0_told a0_refused x2 Q) 1000 w_1 v_2 v_3 0
def bX9_rallies_40 (a0_told : Nat → Int32) (a0_refused : Nat → Int32) (x1 : Int32) (x2 : Int32) (Q : Int32 → (Nat → Int32) → (Nat → Int32) → Prop) (k_21 : (Nat → Int32) → Int32 → Prop) (w_19 : Nat → Int32) (v_20 : Int32) : Prop :=
  if 42 ≤ v_20 then (jX9_rallies_67 a0_told a0_refused x2 Q w_19 x1.toInt64 0) else (vp_in v_20 163 ∧ (vp_in v_20 42 ∧ (k_21 (upd w_19 (v_20.toNatClampNeg) (a0_told v_20.toNatClampNeg)) (v_20 + 1))))
def p_X9_rallies (a0_told : Nat → Int32) (a0_refused : Nat → Int32) (a0_hand : Nat → Int32) (x1 : Int32) (x2 : Int32) (Q : Int32 → (Nat → Int32) → (Nat → Int32) → Prop) : Prop :=
  p_X9_in x1.toInt64 0 999999 (fun r_13 => if r_13 = 0 then (p_X9_bad a0_refused (-2) (fun r_15 u_16 => Q r_15 u_16 a0_hand)) else (p_X9_in x2.toInt64 0 60 (fun r_17 => if r_17 = 0 then (p_X9_bad a0_refused (-2) (fun r_23 u_24 => Q r_23 u_24 a0_hand)) else (lq2 (bX9_rallies_40 a0_told a0_refused x1 x2 Q) 1000 a0_hand 0))))
def rmX9_rallies : Room := { frames := 4, cells := 0, slots := 0, locals := 96 }
set_option maxHeartbeats 4000000 in
set_option maxRecDepth 100000 in
theorem c_X9_rallies (l : Launch) (D : va_G) (cI cZ cO : ClassId) (q_a0 q_a0_told q_a0_kept q_a0_isKept q_a0_refused q_a0_manyBy q_a0_hers q_a0_his q_a0_hand q_a0_bytes q_a0_anew q_a0_values : Nat) (a0_above : Int64) (a0_below : Int64) (a0_bytesLong : Int32) (a0_tokenAt : Int32) (a0_tokenLong : Int32) (a0_token : Int32) (a0_value : Int32) (a0_told : Nat → Int32) (a0_refused : Nat → Int32) (a0_hand : Nat → Int32) (sz : Nat) (x1 : Int32) (x2 : Int32) (Q : Int32 → (Nat → Int32) → (Nat → Int32) → Prop) (hf : p_X9_rallies a0_told a0_refused a0_hand x1 x2 Q) : Met l yX9_rallies wsX9_rallies rmX9_rallies (va_Pc [.ref q_a0, .int x1, .int x2] (fun U => U.heap.size = sz ∧ va_P D vwCl [(q_a0, .inr (8, [.ref q_a0_told, .ref q_a0_kept, .ref q_a0_isKept, .ref q_a0_refused, .long a0_above, .long a0_below, .ref q_a0_manyBy, .ref q_a0_hers, .ref q_a0_his, .ref q_a0_hand, .ref q_a0_bytes, .int a0_bytesLong, .int a0_tokenAt, .int a0_tokenLong, .int a0_token, .int a0_value, .ref q_a0_anew, .ref q_a0_values])), (q_a0_told, .inl (cI, 163, .inl a0_told)), (q_a0_refused, .inl (cI, 3, .inl a0_refused)), (q_a0_hand, .inl (cI, 42, .inl a0_hand))] U.heap ∧ XK D cI cZ cO U ∧ va_D (fun _ => True) [(q_a0, .inr (8, [.ref q_a0_told, .ref q_a0_kept, .ref q_a0_isKept, .ref q_a0_refused, .long a0_above, .long a0_below, .ref q_a0_manyBy, .ref q_a0_hers, .ref q_a0_his, .ref q_a0_hand, .ref q_a0_bytes, .int a0_bytesLong, .int a0_tokenAt, .int a0_tokenLong, .int a0_token, .int a0_value, .ref q_a0_anew, .ref q_a0_values])), (q_a0_told, .inl (cI, 163, .inl a0_told)), (q_a0_refused, .inl (cI, 3, .inl a0_refused)), (q_a0_hand, .inl (cI, 42, .inl a0_hand))])) (va_Qi (fun r (u : (Nat → Int32) × (Nat → Int32)) => Q r u.1 u.2) (fun (u : (Nat → Int32) × (Nat → Int32)) t => va_P D vwCl [(q_a0, .inr (8, [.ref q_a0_told, .ref q_a0_kept, .ref q_a0_isKept, .ref q_a0_refused, .long a0_above, .long a0_below, .ref q_a0_manyBy, .ref q_a0_hers, .ref q_a0_his, .ref q_a0_hand, .ref q_a0_bytes, .int a0_bytesLong, .int a0_tokenAt, .int a0_tokenLong, .int a0_token, .int a0_value, .ref q_a0_anew, .ref q_a0_values])), (q_a0_told, .inl (cI, 163, .inl a0_told)), (q_a0_refused, .inl (cI, 3, .inl u.1)), (q_a0_hand, .inl (cI, 42, .inl u.2))] t.heap ∧ va_D (va_A [(q_a0, .inr (8, [.ref q_a0_told, .ref q_a0_kept, .ref q_a0_isKept, .ref q_a0_refused, .long a0_above, .long a0_below, .ref q_a0_manyBy, .ref q_a0_hers, .ref q_a0_his, .ref q_a0_hand, .ref q_a0_bytes, .int a0_bytesLong, .int a0_tokenAt, .int a0_tokenLong, .int a0_token, .int a0_value, .ref q_a0_anew, .ref q_a0_values])), (q_a0_told, .inl (cI, 163, .inl a0_told)), (q_a0_refused, .inl (cI, 3, .inl a0_refused)), (q_a0_hand, .inl (cI, 42, .inl a0_hand))] sz) [(q_a0, .inr (8, [.ref q_a0_told, .ref q_a0_kept, .ref q_a0_isKept, .ref q_a0_refused, .long a0_above, .long a0_below, .ref q_a0_manyBy, .ref q_a0_hers, .ref q_a0_his, .ref q_a0_hand, .ref q_a0_bytes, .int a0_bytesLong, .int a0_tokenAt, .int a0_tokenLong, .int a0_token, .int a0_value, .ref q_a0_anew, .ref q_a0_values])), (q_a0_told, .inl (cI, 163, .inl a0_told)), (q_a0_refused, .inl (cI, 3, .inl u.1)), (q_a0_hand, .inl (cI, 42, .inl u.2))]) (va_A [(q_a0, .inr (8, [.ref q_a0_told, .ref q_a0_kept, .ref q_a0_isKept, .ref q_a0_refused, .long a0_above, .long a0_below, .ref q_a0_manyBy, .ref q_a0_hers, .ref q_a0_his, .ref q_a0_hand, .ref q_a0_bytes, .int a0_bytesLong, .int a0_tokenAt, .int a0_tokenLong, .int a0_token, .int a0_value, .ref q_a0_anew, .ref q_a0_values])), (q_a0_told, .inl (cI, 163, .inl a0_told)), (q_a0_refused, .inl (cI, 3, .inl a0_refused)), (q_a0_hand, .inl (cI, 42, .inl a0_hand))] sz)) 0 0 (va_A [(q_a0, .inr (8, [.ref q_a0_told, .ref q_a0_kept, .ref q_a0_isKept, .ref q_a0_refused, .long a0_above, .long a0_below, .ref q_a0_manyBy, .ref q_a0_hers, .ref q_a0_his, .ref q_a0_hand, .ref q_a0_bytes, .int a0_bytesLong, .int a0_tokenAt, .int a0_tokenLong, .int a0_token, .int a0_value, .ref q_a0_anew, .ref q_a0_values])), (q_a0_told, .inl (cI, 163, .inl a0_told)), (q_a0_refused, .inl (cI, 3, .inl a0_refused)), (q_a0_hand, .inl (cI, 42, .inl a0_hand))] sz) := by
  refine Met.ofW (cc := cX9_rallies) (maxL := 7) (ret := (some .int)) (by decide) rfl ?_
  intro p e s m args below meth c s₁ B hml hv
  obtain ⟨rfl, hsz, hP, hX, hD0⟩ := hv
  have hK := hX.1
  have hx := B.exec
  have hb := B.bytes
  have hr := B.returns
  have hts := atoms_spec (ws := wsX9_rallies) B.pre
  have hown : s.vm.findClass RX9 = some m.cls := findClass_of_methodNamed B.named
  have hlocks := B.notSynchronized
  have in_X9 : ∀ w ∈ wsX90, w ∈ wsX9_rallies := fun _ h => List.mem_cons_of_mem _ (List.mem_append_right _ h)
  have kc_171 := hts (.constantLong RX9 171 (1103515245)) (by decide +kernel)
  have kc_173 := hts (.constantLong RX9 173 (12345)) (by decide +kernel)
  have kc_175 := hts (.constantLong RX9 175 (2147483648)) (by decide +kernel)
  have kf_36 := hts (.fieldLink RX9 36 "LeftCrestModel" "hand" "[I") (by decide +kernel)
  have kc_177 := hts (.constantLong RX9 177 (65536)) (by decide +kernel)
  have kc_62 := hts (.constantLong RX9 62 (6)) (by decide +kernel)
  have kc_179 := hts (.constantLong RX9 179 (1048576)) (by decide +kernel)
  have kc_161 := hts (.constantLong RX9 161 (10)) (by decide +kernel)
  have kc_167 := hts (.constantLong RX9 167 (999999)) (by decide +kernel)
  have kc_169 := hts (.constantLong RX9 169 (60)) (by decide +kernel)
  have kf_7 := hts (.fieldLink RX9 7 "LeftCrestModel" "told" "[I") (by decide +kernel)
  subst hsz
  have hD := hD0.self (sz := s.heap.size)
  generalize hAe : va_A [(q_a0, .inr (8, [.ref q_a0_told, .ref q_a0_kept, .ref q_a0_isKept, .ref q_a0_refused, .long a0_above, .long a0_below, .ref q_a0_manyBy, .ref q_a0_hers, .ref q_a0_his, .ref q_a0_hand, .ref q_a0_bytes, .int a0_bytesLong, .int a0_tokenAt, .int a0_tokenLong, .int a0_token, .int a0_value, .ref q_a0_anew, .ref q_a0_values])), (q_a0_told, .inl (cI, 163, .inl a0_told)), (q_a0_refused, .inl (cI, 3, .inl a0_refused)), (q_a0_hand, .inl (cI, 42, .inl a0_hand))] s.heap.size = A at hD ⊢
  have hA : ∀ q : Nat, s.heap.size ≤ q → A q := fun q h => by rw [← hAe]; exact Or.inr h
  have hS : va_S A s.heap s.heap [] := va_S.rf
  have hP : va_P D vwCl [(q_a0, .inr (8, [.ref q_a0_told, .ref q_a0_kept, .ref q_a0_isKept, .ref q_a0_refused, .long a0_above, .long a0_below, .ref q_a0_manyBy, .ref q_a0_hers, .ref q_a0_his, .ref q_a0_hand, .ref q_a0_bytes, .int a0_bytesLong, .int a0_tokenAt, .int a0_tokenLong, .int a0_token, .int a0_value, .ref q_a0_anew, .ref q_a0_values])), (q_a0_told, .inl (cI, 163, .inl a0_told)), (q_a0_refused, .inl (cI, 3, .inl a0_refused)), (q_a0_hand, .inl (cI, 42, .inl a0_hand))] s.heap := hP
  generalize hQQ : MQ below _ _ s _ _ _ = QQ
  have hl := lv_entry ([.ref q_a0, .int x1, .int x2]) (n := 7) (Nat.le_of_ble_eq_true rfl)
  rw [lg_entry_eq]
  generalize (lg_sl ([.ref q_a0, .int x1, .int x2]) ++ List.replicate (7 - (lg_sl ([.ref q_a0, .int x1, .int x2])).length) Slot.unset).toArray = ls at hl ⊢
  have hl : lv_has ls 7 [(0, .ref q_a0), (1, .int x1), (2, .int x2)] := hl
  have hj_67 : ∀ (w_1 : Nat → Int32) (v_2 : Int64) (v_3 : Int32) (H : Heap) (locs : List Loc), jX9_rallies_67 a0_told a0_refused x2 Q w_1 v_2 v_3 → va_P D vwCl [(q_a0, .inr (8, [.ref q_a0_told, .ref q_a0_kept, .ref q_a0_isKept, .ref q_a0_refused, .long a0_above, .long a0_below, .ref q_a0_manyBy, .ref q_a0_hers, .ref q_a0_his, .ref q_a0_hand, .ref q_a0_bytes, .int a0_bytesLong, .int a0_tokenAt, .int a0_tokenLong, .int a0_token, .int a0_value, .ref q_a0_anew, .ref q_a0_values])), (q_a0_told, .inl (cI, 163, .inl a0_told)), (q_a0_refused, .inl (cI, 3, .inl a0_refused)), (q_a0_hand, .inl (cI, 42, .inl w_1))] H → va_D A [(q_a0, .inr (8, [.ref q_a0_told, .ref q_a0_kept, .ref q_a0_isKept, .ref q_a0_refused, .long a0_above, .long a0_below, .ref q_a0_manyBy, .ref q_a0_hers, .ref q_a0_his, .ref q_a0_hand, .ref q_a0_bytes, .int a0_bytesLong, .int a0_tokenAt, .int a0_tokenLong, .int a0_token, .int a0_value, .ref q_a0_anew, .ref q_a0_values])), (q_a0_told, .inl (cI, 163, .inl a0_told)), (q_a0_refused, .inl (cI, 3, .inl a0_refused)), (q_a0_hand, .inl (cI, 42, .inl w_1))] → va_S A s.heap H locs → ∀ ls : Array Slot, lv_has ls 7 [(0, .ref q_a0), (2, .int x2), (3, .long v_2), (5, .int v_3)] → W p l e (headSpec wsX9_rallies rmX9_rallies).room s m ([.ref q_a0, .int x1, .int x2] : List Value).toArray below meth c H locs 0 0 QQ (F0 m 67 ls []) := by
    intro w_1 v_2 v_3 H locs hf hP hD hS ls hl
    unfold jX9_rallies_67 at hf
    refine lv_iconst (v := 0) hx hb dX9_rallies_67 (by decide) ?_
    refine lv_istore (lv' := [(6, .int 0), (0, .ref q_a0), (2, .int x2), (3, .long v_2), (5, .int v_3)]) hx hb dX9_rallies_68 hl (by decide) rfl (fun ls hl => ?_)
    have hlp_70 : ∀ (n_70 : Nat) (w_4 : Nat → Int32) (v_5 : Int64) (v_6 : Int32) (v_7 : Int32) (H : Heap) (locs : List Loc) (ls : Array Slot), lq4 (bX9_rallies_70 a0_told a0_refused x2 Q) n_70 w_4 v_5 v_6 v_7 → va_P D vwCl [(q_a0, .inr (8, [.ref q_a0_told, .ref q_a0_kept, .ref q_a0_isKept, .ref q_a0_refused, .long a0_above, .long a0_below, .ref q_a0_manyBy, .ref q_a0_hers, .ref q_a0_his, .ref q_a0_hand, .ref q_a0_bytes, .int a0_bytesLong, .int a0_tokenAt, .int a0_tokenLong, .int a0_token, .int a0_value, .ref q_a0_anew, .ref q_a0_values])), (q_a0_told, .inl (cI, 163, .inl a0_told)), (q_a0_refused, .inl (cI, 3, .inl a0_refused)), (q_a0_hand, .inl (cI, 42, .inl w_4))] H → va_D A [(q_a0, .inr (8, [.ref q_a0_told, .ref q_a0_kept, .ref q_a0_isKept, .ref q_a0_refused, .long a0_above, .long a0_below, .ref q_a0_manyBy, .ref q_a0_hers, .ref q_a0_his, .ref q_a0_hand, .ref q_a0_bytes, .int a0_bytesLong, .int a0_tokenAt, .int a0_tokenLong, .int a0_token, .int a0_value, .ref q_a0_anew, .ref q_a0_values])), (q_a0_told, .inl (cI, 163, .inl a0_told)), (q_a0_refused, .inl (cI, 3, .inl a0_refused)), (q_a0_hand, .inl (cI, 42, .inl w_4))] → va_S A s.heap H locs → lv_has ls 7 [(0, .ref q_a0), (2, .int x2), (3, .long v_5), (5, .int v_6), (6, .int v_7)] → W p l e (headSpec wsX9_rallies rmX9_rallies).room s m ([.ref q_a0, .int x1, .int x2] : List Value).toArray below meth c H locs 0 0 QQ (F0 m 70 ls []) := by
      intro n_70
      induction n_70 with
      | zero => intro w_4 v_5 v_6 v_7 H locs ls hf; exact (lq4_0 hf).elim
      | succ n_70 ih =>
        have ih_70 := ih
        intro w_4 v_5 v_6 v_7 H locs ls hf hP hD hS hl
        have hf := lq4_s hf
        unfold bX9_rallies_70 at hf
        refine lv_iload hx hb dX9_rallies_70 (lv_at hl 4 rfl) ?_
        refine lv_iload_n hx hb dX9_rallies_72 rfl (lv_at hl 1 rfl) ?_
        refine lv_icmp_ge (tgt := 153) hx hb dX9_rallies_73 (by decide) (fun c_9 => ?_) (fun c_9 => ?_)
        · have hf := it_t c_9 hf
          refine lv_iload hx hb dX9_rallies_153 (lv_at hl 3 rfl) ?_
          subst hQQ
          have hP9 := hP.sub (ws' := [(q_a0, .inr (8, [.ref q_a0_told, .ref q_a0_kept, .ref q_a0_isKept, .ref q_a0_refused, .long a0_above, .long a0_below, .ref q_a0_manyBy, .ref q_a0_hers, .ref q_a0_his, .ref q_a0_hand, .ref q_a0_bytes, .int a0_bytesLong, .int a0_tokenAt, .int a0_tokenLong, .int a0_token, .int a0_value, .ref q_a0_anew, .ref q_a0_values])), (q_a0_told, .inl (cI, 163, .inl a0_told)), (q_a0_refused, .inl (cI, 3, .inl a0_refused)), (q_a0_hand, .inl (cI, 42, .inl w_4))]) [0, 1, 2, 3] rfl
          have hD9 := hD.sub (ws' := [(q_a0, .inr (8, [.ref q_a0_told, .ref q_a0_kept, .ref q_a0_isKept, .ref q_a0_refused, .long a0_above, .long a0_below, .ref q_a0_manyBy, .ref q_a0_hers, .ref q_a0_his, .ref q_a0_hand, .ref q_a0_bytes, .int a0_bytesLong, .int a0_tokenAt, .int a0_tokenLong, .int a0_token, .int a0_value, .ref q_a0_anew, .ref q_a0_values])), (q_a0_told, .inl (cI, 163, .inl a0_told)), (q_a0_refused, .inl (cI, 3, .inl a0_refused)), (q_a0_hand, .inl (cI, 42, .inl w_4))]) [0, 1, 2, 3] (by decide) rfl
          exact W.iret hx hb hr (fun t ht hW => ⟨⟨v_6, (a0_refused, w_4), rfl, hf, by rw [ht]; exact hP9, hD9⟩, hS.F ht⟩) hS.2.2 dX9_rallies_155
        · have hf := it_f c_9 hf
          refine lv_lload_n hx hb dX9_rallies_76 rfl (lv_at hl 2 rfl) ?_
          refine lv_ldc2 (v := 1103515245) hx hb hown kc_171 dX9_rallies_77 ?_
          refine lv_lmul hx hb dX9_rallies_80 ?_
          refine lv_ldc2 (v := 12345) hx hb hown kc_173 dX9_rallies_81 ?_
          refine lv_ladd hx hb dX9_rallies_84 ?_
          refine lv_ldc2 (v := 2147483648) hx hb hown kc_175 dX9_rallies_85 ?_
          refine lv_lrem hx hb dX9_rallies_88 (by decide) ?_
          refine lv_lstore_n (lv' := [(3, .long (((v_5 * 1103515245) + 12345) - ((v_5 * 1103515245) + 12345) / 2147483648 * 2147483648)), (0, .ref q_a0), (2, .int x2), (5, .int v_6), (6, .int v_7)]) hx hb dX9_rallies_89 rfl hl (by decide) rfl (fun ls hl => ?_)
          refine lv_aload_n hx hb dX9_rallies_90 rfl (lv_at hl 1 rfl) ?_
          refine va_get (D := D) (ci := 8) (v := .ref q_a0_hand) (C := RX9) (T := TX9) (N := 18) hx hb hts in_X9 hown hK hP 0 rfl rfl 9 (by decide) kf_36 (fun _ h9 => h9) rfl dX9_rallies_91 ?_
          refine lv_bipush (v := 15) hx hb dX9_rallies_94 (by decide) ?_
          refine lv_lload_n hx hb dX9_rallies_96 rfl (lv_at hl 0 rfl) ?_
          refine lv_ldc2 (v := 65536) hx hb hown kc_177 dX9_rallies_97 ?_
          refine lv_ldiv hx hb dX9_rallies_100 (by decide) ?_
          refine lv_ldc2 (v := 6) hx hb hown kc_62 dX9_rallies_101 ?_
          refine lv_lrem hx hb dX9_rallies_104 (by decide) ?_
          refine lv_l2i hx hb dX9_rallies_105 rfl ?_
          refine va_iast hx hb hK hP hD hS 3 0 rfl rfl (by unfold vp_in; decide) dX9_rallies_106 (fun H locs hP hD hS => ?_)
          have hP : va_P D vwCl [(q_a0, .inr (8, [.ref q_a0_told, .ref q_a0_kept, .ref q_a0_isKept, .ref q_a0_refused, .long a0_above, .long a0_below, .ref q_a0_manyBy, .ref q_a0_hers, .ref q_a0_his, .ref q_a0_hand, .ref q_a0_bytes, .int a0_bytesLong, .int a0_tokenAt, .int a0_tokenLong, .int a0_token, .int a0_value, .ref q_a0_anew, .ref q_a0_values])), (q_a0_told, .inl (cI, 163, .inl a0_told)), (q_a0_refused, .inl (cI, 3, .inl a0_refused)), (q_a0_hand, .inl (cI, 42, .inl (upd w_4 ((15 : Int32).toNatClampNeg) ((((((v_5 * 1103515245) + 12345) - ((v_5 * 1103515245) + 12345) / 2147483648 * 2147483648) / 65536) - ((((v_5 * 1103515245) + 12345) - ((v_5 * 1103515245) + 12345) / 2147483648 * 2147483648) / 65536) / 6 * 6).toInt32))))] H := hP
          have hD : va_D A [(q_a0, .inr (8, [.ref q_a0_told, .ref q_a0_kept, .ref q_a0_isKept, .ref q_a0_refused, .long a0_above, .long a0_below, .ref q_a0_manyBy, .ref q_a0_hers, .ref q_a0_his, .ref q_a0_hand, .ref q_a0_bytes, .int a0_bytesLong, .int a0_tokenAt, .int a0_tokenLong, .int a0_token, .int a0_value, .ref q_a0_anew, .ref q_a0_values])), (q_a0_told, .inl (cI, 163, .inl a0_told)), (q_a0_refused, .inl (cI, 3, .inl a0_refused)), (q_a0_hand, .inl (cI, 42, .inl (upd w_4 ((15 : Int32).toNatClampNeg) ((((((v_5 * 1103515245) + 12345) - ((v_5 * 1103515245) + 12345) / 2147483648 * 2147483648) / 65536) - ((((v_5 * 1103515245) + 12345) - ((v_5 * 1103515245) + 12345) / 2147483648 * 2147483648) / 65536) / 6 * 6).toInt32))))] := hD
          refine lv_aload_n hx hb dX9_rallies_107 rfl (lv_at hl 1 rfl) ?_
          refine va_get (D := D) (ci := 8) (v := .ref q_a0_hand) (C := RX9) (T := TX9) (N := 18) hx hb hts in_X9 hown hK hP 0 rfl rfl 9 (by decide) kf_36 (fun _ h9 => h9) rfl dX9_rallies_108 ?_
          refine lv_bipush (v := 16) hx hb dX9_rallies_111 (by decide) ?_
          refine lv_lload_n hx hb dX9_rallies_113 rfl (lv_at hl 0 rfl) ?_
          refine lv_ldc2 (v := 1048576) hx hb hown kc_179 dX9_rallies_114 ?_
          refine lv_ldiv hx hb dX9_rallies_117 (by decide) ?_
          refine lv_ldc2 (v := 10) hx hb hown kc_161 dX9_rallies_118 ?_
          refine lv_lrem hx hb dX9_rallies_121 (by decide) ?_
          refine lv_l2i hx hb dX9_rallies_122 rfl ?_
          refine va_iast hx hb hK hP hD hS 3 0 rfl rfl (by unfold vp_in; decide) dX9_rallies_123 (fun H locs hP hD hS => ?_)
          have hP : va_P D vwCl [(q_a0, .inr (8, [.ref q_a0_told, .ref q_a0_kept, .ref q_a0_isKept, .ref q_a0_refused, .long a0_above, .long a0_below, .ref q_a0_manyBy, .ref q_a0_hers, .ref q_a0_his, .ref q_a0_hand, .ref q_a0_bytes, .int a0_bytesLong, .int a0_tokenAt, .int a0_tokenLong, .int a0_token, .int a0_value, .ref q_a0_anew, .ref q_a0_values])), (q_a0_told, .inl (cI, 163, .inl a0_told)), (q_a0_refused, .inl (cI, 3, .inl a0_refused)), (q_a0_hand, .inl (cI, 42, .inl (upd (upd w_4 ((15 : Int32).toNatClampNeg) ((((((v_5 * 1103515245) + 12345) - ((v_5 * 1103515245) + 12345) / 2147483648 * 2147483648) / 65536) - ((((v_5 * 1103515245) + 12345) - ((v_5 * 1103515245) + 12345) / 2147483648 * 2147483648) / 65536) / 6 * 6).toInt32)) ((16 : Int32).toNatClampNeg) ((((((v_5 * 1103515245) + 12345) - ((v_5 * 1103515245) + 12345) / 2147483648 * 2147483648) / 1048576) - ((((v_5 * 1103515245) + 12345) - ((v_5 * 1103515245) + 12345) / 2147483648 * 2147483648) / 1048576) / 10 * 10).toInt32))))] H := hP
          have hD : va_D A [(q_a0, .inr (8, [.ref q_a0_told, .ref q_a0_kept, .ref q_a0_isKept, .ref q_a0_refused, .long a0_above, .long a0_below, .ref q_a0_manyBy, .ref q_a0_hers, .ref q_a0_his, .ref q_a0_hand, .ref q_a0_bytes, .int a0_bytesLong, .int a0_tokenAt, .int a0_tokenLong, .int a0_token, .int a0_value, .ref q_a0_anew, .ref q_a0_values])), (q_a0_told, .inl (cI, 163, .inl a0_told)), (q_a0_refused, .inl (cI, 3, .inl a0_refused)), (q_a0_hand, .inl (cI, 42, .inl (upd (upd w_4 ((15 : Int32).toNatClampNeg) ((((((v_5 * 1103515245) + 12345) - ((v_5 * 1103515245) + 12345) / 2147483648 * 2147483648) / 65536) - ((((v_5 * 1103515245) + 12345) - ((v_5 * 1103515245) + 12345) / 2147483648 * 2147483648) / 65536) / 6 * 6).toInt32)) ((16 : Int32).toNatClampNeg) ((((((v_5 * 1103515245) + 12345) - ((v_5 * 1103515245) + 12345) / 2147483648 * 2147483648) / 1048576) - ((((v_5 * 1103515245) + 12345) - ((v_5 * 1103515245) + 12345) / 2147483648 * 2147483648) / 1048576) / 10 * 10).toInt32))))] := hD
          refine lv_aload_n hx hb dX9_rallies_124 rfl (lv_at hl 1 rfl) ?_
          refine va_get (D := D) (ci := 8) (v := .ref q_a0_hand) (C := RX9) (T := TX9) (N := 18) hx hb hts in_X9 hown hK hP 0 rfl rfl 9 (by decide) kf_36 (fun _ h9 => h9) rfl dX9_rallies_125 ?_
          refine lv_iconst (v := 4) hx hb dX9_rallies_128 (by decide) ?_
          refine lv_iconst (v := 0) hx hb dX9_rallies_129 (by decide) ?_
          refine va_iast hx hb hK hP hD hS 3 0 rfl rfl (by unfold vp_in; decide) dX9_rallies_130 (fun H locs hP hD hS => ?_)
          have hP : va_P D vwCl [(q_a0, .inr (8, [.ref q_a0_told, .ref q_a0_kept, .ref q_a0_isKept, .ref q_a0_refused, .long a0_above, .long a0_below, .ref q_a0_manyBy, .ref q_a0_hers, .ref q_a0_his, .ref q_a0_hand, .ref q_a0_bytes, .int a0_bytesLong, .int a0_tokenAt, .int a0_tokenLong, .int a0_token, .int a0_value, .ref q_a0_anew, .ref q_a0_values])), (q_a0_told, .inl (cI, 163, .inl a0_told)), (q_a0_refused, .inl (cI, 3, .inl a0_refused)), (q_a0_hand, .inl (cI, 42, .inl (upd (upd (upd w_4 ((15 : Int32).toNatClampNeg) ((((((v_5 * 1103515245) + 12345) - ((v_5 * 1103515245) + 12345) / 2147483648 * 2147483648) / 65536) - ((((v_5 * 1103515245) + 12345) - ((v_5 * 1103515245) + 12345) / 2147483648 * 2147483648) / 65536) / 6 * 6).toInt32)) ((16 : Int32).toNatClampNeg) ((((((v_5 * 1103515245) + 12345) - ((v_5 * 1103515245) + 12345) / 2147483648 * 2147483648) / 1048576) - ((((v_5 * 1103515245) + 12345) - ((v_5 * 1103515245) + 12345) / 2147483648 * 2147483648) / 1048576) / 10 * 10).toInt32)) ((4 : Int32).toNatClampNeg) 0)))] H := hP
          have hD : va_D A [(q_a0, .inr (8, [.ref q_a0_told, .ref q_a0_kept, .ref q_a0_isKept, .ref q_a0_refused, .long a0_above, .long a0_below, .ref q_a0_manyBy, .ref q_a0_hers, .ref q_a0_his, .ref q_a0_hand, .ref q_a0_bytes, .int a0_bytesLong, .int a0_tokenAt, .int a0_tokenLong, .int a0_token, .int a0_value, .ref q_a0_anew, .ref q_a0_values])), (q_a0_told, .inl (cI, 163, .inl a0_told)), (q_a0_refused, .inl (cI, 3, .inl a0_refused)), (q_a0_hand, .inl (cI, 42, .inl (upd (upd (upd w_4 ((15 : Int32).toNatClampNeg) ((((((v_5 * 1103515245) + 12345) - ((v_5 * 1103515245) + 12345) / 2147483648 * 2147483648) / 65536) - ((((v_5 * 1103515245) + 12345) - ((v_5 * 1103515245) + 12345) / 2147483648 * 2147483648) / 65536) / 6 * 6).toInt32)) ((16 : Int32).toNatClampNeg) ((((((v_5 * 1103515245) + 12345) - ((v_5 * 1103515245) + 12345) / 2147483648 * 2147483648) / 1048576) - ((((v_5 * 1103515245) + 12345) - ((v_5 * 1103515245) + 12345) / 2147483648 * 2147483648) / 1048576) / 10 * 10).toInt32)) ((4 : Int32).toNatClampNeg) 0)))] := hD
          refine lv_iload hx hb dX9_rallies_131 (lv_at hl 3 rfl) ?_
          refine lv_aload_n hx hb dX9_rallies_133 rfl (lv_at hl 1 rfl) ?_
          refine va_get (D := D) (ci := 8) (v := .ref q_a0_hand) (C := RX9) (T := TX9) (N := 18) hx hb hts in_X9 hown hK hP 0 rfl rfl 9 (by decide) kf_36 (fun _ h9 => h9) rfl dX9_rallies_134 ?_
          refine lv_aload_n hx hb dX9_rallies_137 rfl (lv_at hl 1 rfl) ?_
          refine ya_csi (va_runV (As := []) (rest := [.ref q_a0_hand, .int v_6]) ⟨hx, hb, hml, hown, hts⟩ (c_X9_many l D cI cZ cO q_a0 q_a0_told q_a0_kept q_a0_isKept q_a0_refused q_a0_manyBy q_a0_hers q_a0_his q_a0_hand q_a0_bytes q_a0_anew q_a0_values a0_above a0_below a0_bytesLong a0_tokenAt a0_tokenLong a0_token a0_value a0_told  _ hf) (cwV 0 hts gX9_rallies_X9_many rfl rfl rfl (by decide +kernel) ⟨Nat.le_of_ble_eq_true rfl, Nat.le_of_ble_eq_true rfl⟩) (pv_ro (ci := 8) (q0 := 0) (hP.sub [0, 1] rfl) hX rfl rfl) rfl rfl hl.1 rfl (lv_room (Nat.le_of_ble_eq_true rfl)) dX9_rallies_138 ⟨Nat.zero_le _, Nat.zero_le _⟩) (fun r_10 hf => ?_)
          have hPc := hP.sub (ws' := [(q_a0_hand, .inl (cI, 42, .inl (upd (upd (upd w_4 ((15 : Int32).toNatClampNeg) ((((((v_5 * 1103515245) + 12345) - ((v_5 * 1103515245) + 12345) / 2147483648 * 2147483648) / 65536) - ((((v_5 * 1103515245) + 12345) - ((v_5 * 1103515245) + 12345) / 2147483648 * 2147483648) / 65536) / 6 * 6).toInt32)) ((16 : Int32).toNatClampNeg) ((((((v_5 * 1103515245) + 12345) - ((v_5 * 1103515245) + 12345) / 2147483648 * 2147483648) / 1048576) - ((((v_5 * 1103515245) + 12345) - ((v_5 * 1103515245) + 12345) / 2147483648 * 2147483648) / 1048576) / 10 * 10).toInt32)) ((4 : Int32).toNatClampNeg) 0)))]) [3] rfl
          have hDc := hD.sub (ws' := [(q_a0_hand, .inl (cI, 42, .inl (upd (upd (upd w_4 ((15 : Int32).toNatClampNeg) ((((((v_5 * 1103515245) + 12345) - ((v_5 * 1103515245) + 12345) / 2147483648 * 2147483648) / 65536) - ((((v_5 * 1103515245) + 12345) - ((v_5 * 1103515245) + 12345) / 2147483648 * 2147483648) / 65536) / 6 * 6).toInt32)) ((16 : Int32).toNatClampNeg) ((((((v_5 * 1103515245) + 12345) - ((v_5 * 1103515245) + 12345) / 2147483648 * 2147483648) / 1048576) - ((((v_5 * 1103515245) + 12345) - ((v_5 * 1103515245) + 12345) / 2147483648 * 2147483648) / 1048576) / 10 * 10).toInt32)) ((4 : Int32).toNatClampNeg) 0)))]) [3] (by decide) rfl
          have hFc := va_free (wc := [(q_a0_hand, .inl (cI, 42, .inl (upd (upd (upd w_4 ((15 : Int32).toNatClampNeg) ((((((v_5 * 1103515245) + 12345) - ((v_5 * 1103515245) + 12345) / 2147483648 * 2147483648) / 65536) - ((((v_5 * 1103515245) + 12345) - ((v_5 * 1103515245) + 12345) / 2147483648 * 2147483648) / 65536) / 6 * 6).toInt32)) ((16 : Int32).toNatClampNeg) ((((((v_5 * 1103515245) + 12345) - ((v_5 * 1103515245) + 12345) / 2147483648 * 2147483648) / 1048576) - ((((v_5 * 1103515245) + 12345) - ((v_5 * 1103515245) + 12345) / 2147483648 * 2147483648) / 1048576) / 10 * 10).toInt32)) ((4 : Int32).toNatClampNeg) 0)))]) hD hS hA [3] rfl
          refine va_calli (va_runS (As := [.ref q_a0_hand, .int r_10]) (rest := [.int v_6]) ⟨hx, hb, hml, hown, hts⟩ (c_X9_goDrive l D cI cZ cO q_a0_hand 42 (upd (upd (upd w_4 ((15 : Int32).toNatClampNeg) ((((((v_5 * 1103515245) + 12345) - ((v_5 * 1103515245) + 12345) / 2147483648 * 2147483648) / 65536) - ((((v_5 * 1103515245) + 12345) - ((v_5 * 1103515245) + 12345) / 2147483648 * 2147483648) / 65536) / 6 * 6).toInt32)) ((16 : Int32).toNatClampNeg) ((((((v_5 * 1103515245) + 12345) - ((v_5 * 1103515245) + 12345) / 2147483648 * 2147483648) / 1048576) - ((((v_5 * 1103515245) + 12345) - ((v_5 * 1103515245) + 12345) / 2147483648 * 2147483648) / 1048576) / 10 * 10).toInt32)) ((4 : Int32).toNatClampNeg) 0) H.size r_10 _ hf) (va_cwS 2 hts gX9_rallies_X9_goDrive rfl rfl rfl (by decide +kernel) ⟨Nat.le_of_ble_eq_true rfl, Nat.le_of_ble_eq_true rfl⟩) (ps_rw hPc hDc hX) rfl rfl hl.1 rfl (lv_room (Nat.le_of_ble_eq_true rfl)) dX9_rallies_141 ⟨Nat.zero_le _, Nat.zero_le _⟩) hS (fun q _ h => hFc q h) hFc (fun r_11 u t H1 locs ht hvm hf hB hz1 hk1 hS => ?_)
          obtain ⟨u_12, rfl⟩ : ∃ z, z = u := ⟨_, rfl⟩
          obtain ⟨hP1, hD1⟩ := hB
          rw [ht] at hP1
          clear hvm
          obtain ⟨hP, hD⟩ := va_join (wr := [(q_a0, .inr (8, [.ref q_a0_told, .ref q_a0_kept, .ref q_a0_isKept, .ref q_a0_refused, .long a0_above, .long a0_below, .ref q_a0_manyBy, .ref q_a0_hers, .ref q_a0_his, .ref q_a0_hand, .ref q_a0_bytes, .int a0_bytesLong, .int a0_tokenAt, .int a0_tokenLong, .int a0_token, .int a0_value, .ref q_a0_anew, .ref q_a0_values])), (q_a0_told, .inl (cI, 163, .inl a0_told)), (q_a0_refused, .inl (cI, 3, .inl a0_refused))]) (w1 := [(q_a0_hand, .inl (cI, 42, .inl u_12))]) hP hD [3] [0, 1, 2] rfl rfl (by decide) (by decide) hk1 hFc hP1 hD1
          clear hz1 hk1 hPc hDc hFc hP1 hD1
          generalize H1 = H at hP hS ⊢
          have hP : va_P D vwCl [(q_a0, .inr (8, [.ref q_a0_told, .ref q_a0_kept, .ref q_a0_isKept, .ref q_a0_refused, .long a0_above, .long a0_below, .ref q_a0_manyBy, .ref q_a0_hers, .ref q_a0_his, .ref q_a0_hand, .ref q_a0_bytes, .int a0_bytesLong, .int a0_tokenAt, .int a0_tokenLong, .int a0_token, .int a0_value, .ref q_a0_anew, .ref q_a0_values])), (q_a0_told, .inl (cI, 163, .inl a0_told)), (q_a0_refused, .inl (cI, 3, .inl a0_refused)), (q_a0_hand, .inl (cI, 42, .inl u_12))] H := hP
          have hD : va_D A [(q_a0, .inr (8, [.ref q_a0_told, .ref q_a0_kept, .ref q_a0_isKept, .ref q_a0_refused, .long a0_above, .long a0_below, .ref q_a0_manyBy, .ref q_a0_hers, .ref q_a0_his, .ref q_a0_hand, .ref q_a0_bytes, .int a0_bytesLong, .int a0_tokenAt, .int a0_tokenLong, .int a0_token, .int a0_value, .ref q_a0_anew, .ref q_a0_values])), (q_a0_told, .inl (cI, 163, .inl a0_told)), (q_a0_refused, .inl (cI, 3, .inl a0_refused)), (q_a0_hand, .inl (cI, 42, .inl u_12))] := hD
          refine lv_iadd hx hb dX9_rallies_144 ?_
          refine lv_istore (lv' := [(5, .int (v_6 + r_11)), (3, .long (((v_5 * 1103515245) + 12345) - ((v_5 * 1103515245) + 12345) / 2147483648 * 2147483648)), (0, .ref q_a0), (2, .int x2), (6, .int v_7)]) hx hb dX9_rallies_145 hl (by decide) rfl (fun ls hl => ?_)
          refine lv_iinc (v := v_7 + 1) (lv' := [(6, .int (v_7 + 1)), (5, .int (v_6 + r_11)), (3, .long (((v_5 * 1103515245) + 12345) - ((v_5 * 1103515245) + 12345) / 2147483648 * 2147483648)), (0, .ref q_a0), (2, .int x2)]) hx hb dX9_rallies_147 hl (k := 4) rfl rfl (by decide) rfl (fun ls hl => ?_)
          refine lv_goto (tgt := 70) hx hb dX9_rallies_150 (by decide) ?_
          exact ih u_12 (((v_5 * 1103515245) + 12345) - ((v_5 * 1103515245) + 12345) / 2147483648 * 2147483648) (v_6 + r_11) (v_7 + 1) _ _ ls hf (hP.sub [0, 1, 2, 3] rfl) (hD.sub [0, 1, 2, 3] (by decide) rfl) hS (lv_sub hl [3, 4, 2, 1, 0] rfl)
    exact hlp_70 1000 w_1 v_2 v_3 0 _ _ ls hf (hP.sub [0, 1, 2, 3] rfl) (hD.sub [0, 1, 2, 3] (by decide) rfl) hS (lv_sub hl [1, 2, 3, 4, 0] rfl)
  unfold p_X9_rallies at hf
  refine lv_iload_n hx hb dX9_rallies_0 rfl (lv_at hl 1 rfl) ?_
  refine lv_i2l hx hb dX9_rallies_1 rfl ?_
  refine lv_lconst (v := 0) hx hb dX9_rallies_2 (by decide) ?_
  refine lv_ldc2 (v := 999999) hx hb hown kc_167 dX9_rallies_3 ?_
  refine ya_csi (va_runS (As := [.long x1.toInt64, .long 0, .long 999999]) (rest := []) ⟨hx, hb, hml, hown, hts⟩ (c_X9_in l D cI cZ cO  x1.toInt64 0 999999 _ hf) (va_cwS 3 hts gX9_rallies_X9_in rfl rfl rfl (by decide +kernel) ⟨Nat.le_of_ble_eq_true rfl, Nat.le_of_ble_eq_true rfl⟩) (ps_ro va_P0 hX) rfl rfl hl.1 rfl (lv_room (Nat.le_of_ble_eq_true rfl)) dX9_rallies_6 ⟨Nat.zero_le _, Nat.zero_le _⟩) (fun r_13 hf => ?_)
  refine lv_if_eq (tgt := 24) hx hb dX9_rallies_9 (by decide) (fun c_14 => ?_) (fun c_14 => ?_)
  · have hf := it_t c_14 hf
    refine lv_aload_n hx hb dX9_rallies_24 rfl (lv_at hl 0 rfl) ?_
    refine lv_bipush (v := (-2)) hx hb dX9_rallies_25 (by decide) ?_
    have hPc := hP.sub (ws' := [(q_a0, .inr (8, [.ref q_a0_told, .ref q_a0_kept, .ref q_a0_isKept, .ref q_a0_refused, .long a0_above, .long a0_below, .ref q_a0_manyBy, .ref q_a0_hers, .ref q_a0_his, .ref q_a0_hand, .ref q_a0_bytes, .int a0_bytesLong, .int a0_tokenAt, .int a0_tokenLong, .int a0_token, .int a0_value, .ref q_a0_anew, .ref q_a0_values])), (q_a0_refused, .inl (cI, 3, .inl a0_refused))]) [0, 2] rfl
    have hDc := hD.sub (ws' := [(q_a0, .inr (8, [.ref q_a0_told, .ref q_a0_kept, .ref q_a0_isKept, .ref q_a0_refused, .long a0_above, .long a0_below, .ref q_a0_manyBy, .ref q_a0_hers, .ref q_a0_his, .ref q_a0_hand, .ref q_a0_bytes, .int a0_bytesLong, .int a0_tokenAt, .int a0_tokenLong, .int a0_token, .int a0_value, .ref q_a0_anew, .ref q_a0_values])), (q_a0_refused, .inl (cI, 3, .inl a0_refused))]) [0, 2] (by decide) rfl
    have hFc := va_free (wc := [(q_a0, .inr (8, [.ref q_a0_told, .ref q_a0_kept, .ref q_a0_isKept, .ref q_a0_refused, .long a0_above, .long a0_below, .ref q_a0_manyBy, .ref q_a0_hers, .ref q_a0_his, .ref q_a0_hand, .ref q_a0_bytes, .int a0_bytesLong, .int a0_tokenAt, .int a0_tokenLong, .int a0_token, .int a0_value, .ref q_a0_anew, .ref q_a0_values])), (q_a0_refused, .inl (cI, 3, .inl a0_refused))]) hD hS hA [0, 2] rfl
    refine va_calli (va_runV (As := [.int (-2)]) (rest := []) ⟨hx, hb, hml, hown, hts⟩ (c_X9_bad l D cI cZ cO q_a0 q_a0_told q_a0_kept q_a0_isKept q_a0_refused q_a0_manyBy q_a0_hers q_a0_his q_a0_hand q_a0_bytes q_a0_anew q_a0_values a0_above a0_below a0_bytesLong a0_tokenAt a0_tokenLong a0_token a0_value a0_refused s.heap.size (-2) _ hf) (cwV 1 hts gX9_rallies_X9_bad rfl rfl rfl (by decide +kernel) ⟨Nat.le_of_ble_eq_true rfl, Nat.le_of_ble_eq_true rfl⟩) (pv_rw (ci := 8) (q0 := 0) hPc hDc hX rfl rfl) rfl rfl hl.1 rfl (lv_room (Nat.le_of_ble_eq_true rfl)) dX9_rallies_27 ⟨Nat.zero_le _, Nat.zero_le _⟩) hS (fun q _ h => hFc q h) hFc (fun r_15 u t H1 locs ht hvm hf hB hz1 hk1 hS => ?_)
    obtain ⟨u_16, rfl⟩ : ∃ z, z = u := ⟨_, rfl⟩
    obtain ⟨hP1, hD1⟩ := hB
    rw [ht] at hP1
    clear hvm
    obtain ⟨hP, hD⟩ := va_join (wr := [(q_a0_told, .inl (cI, 163, .inl a0_told)), (q_a0_hand, .inl (cI, 42, .inl a0_hand))]) (w1 := [(q_a0, .inr (8, [.ref q_a0_told, .ref q_a0_kept, .ref q_a0_isKept, .ref q_a0_refused, .long a0_above, .long a0_below, .ref q_a0_manyBy, .ref q_a0_hers, .ref q_a0_his, .ref q_a0_hand, .ref q_a0_bytes, .int a0_bytesLong, .int a0_tokenAt, .int a0_tokenLong, .int a0_token, .int a0_value, .ref q_a0_anew, .ref q_a0_values])), (q_a0_refused, .inl (cI, 3, .inl u_16))]) hP hD [0, 2] [1, 3] rfl rfl (by decide) (by decide) hk1 hFc hP1 hD1
    clear hz1 hk1 hPc hDc hFc hP1 hD1
    generalize H1 = H at hP hS ⊢
    have hP : va_P D vwCl [(q_a0_told, .inl (cI, 163, .inl a0_told)), (q_a0_hand, .inl (cI, 42, .inl a0_hand)), (q_a0, .inr (8, [.ref q_a0_told, .ref q_a0_kept, .ref q_a0_isKept, .ref q_a0_refused, .long a0_above, .long a0_below, .ref q_a0_manyBy, .ref q_a0_hers, .ref q_a0_his, .ref q_a0_hand, .ref q_a0_bytes, .int a0_bytesLong, .int a0_tokenAt, .int a0_tokenLong, .int a0_token, .int a0_value, .ref q_a0_anew, .ref q_a0_values])), (q_a0_refused, .inl (cI, 3, .inl u_16))] H := hP
    have hD : va_D A [(q_a0_told, .inl (cI, 163, .inl a0_told)), (q_a0_hand, .inl (cI, 42, .inl a0_hand)), (q_a0, .inr (8, [.ref q_a0_told, .ref q_a0_kept, .ref q_a0_isKept, .ref q_a0_refused, .long a0_above, .long a0_below, .ref q_a0_manyBy, .ref q_a0_hers, .ref q_a0_his, .ref q_a0_hand, .ref q_a0_bytes, .int a0_bytesLong, .int a0_tokenAt, .int a0_tokenLong, .int a0_token, .int a0_value, .ref q_a0_anew, .ref q_a0_values])), (q_a0_refused, .inl (cI, 3, .inl u_16))] := hD
    subst hQQ
    have hP9 := hP.sub (ws' := [(q_a0, .inr (8, [.ref q_a0_told, .ref q_a0_kept, .ref q_a0_isKept, .ref q_a0_refused, .long a0_above, .long a0_below, .ref q_a0_manyBy, .ref q_a0_hers, .ref q_a0_his, .ref q_a0_hand, .ref q_a0_bytes, .int a0_bytesLong, .int a0_tokenAt, .int a0_tokenLong, .int a0_token, .int a0_value, .ref q_a0_anew, .ref q_a0_values])), (q_a0_told, .inl (cI, 163, .inl a0_told)), (q_a0_refused, .inl (cI, 3, .inl u_16)), (q_a0_hand, .inl (cI, 42, .inl a0_hand))]) [2, 0, 3, 1] rfl
    have hD9 := hD.sub (ws' := [(q_a0, .inr (8, [.ref q_a0_told, .ref q_a0_kept, .ref q_a0_isKept, .ref q_a0_refused, .long a0_above, .long a0_below, .ref q_a0_manyBy, .ref q_a0_hers, .ref q_a0_his, .ref q_a0_hand, .ref q_a0_bytes, .int a0_bytesLong, .int a0_tokenAt, .int a0_tokenLong, .int a0_token, .int a0_value, .ref q_a0_anew, .ref q_a0_values])), (q_a0_told, .inl (cI, 163, .inl a0_told)), (q_a0_refused, .inl (cI, 3, .inl u_16)), (q_a0_hand, .inl (cI, 42, .inl a0_hand))]) [2, 0, 3, 1] (by decide) rfl
    exact W.iret hx hb hr (fun t ht hW => ⟨⟨r_15, (u_16, a0_hand), rfl, hf, by rw [ht]; exact hP9, hD9⟩, hS.F ht⟩) hS.2.2 dX9_rallies_30
  · have hf := it_f c_14 hf
    refine lv_iload_n hx hb dX9_rallies_12 rfl (lv_at hl 2 rfl) ?_
    refine lv_i2l hx hb dX9_rallies_13 rfl ?_
    refine lv_lconst (v := 0) hx hb dX9_rallies_14 (by decide) ?_
    refine lv_ldc2 (v := 60) hx hb hown kc_169 dX9_rallies_15 ?_
    refine ya_csi (va_runS (As := [.long x2.toInt64, .long 0, .long 60]) (rest := []) ⟨hx, hb, hml, hown, hts⟩ (c_X9_in l D cI cZ cO  x2.toInt64 0 60 _ hf) (va_cwS 3 hts gX9_rallies_X9_in rfl rfl rfl (by decide +kernel) ⟨Nat.le_of_ble_eq_true rfl, Nat.le_of_ble_eq_true rfl⟩) (ps_ro va_P0 hX) rfl rfl hl.1 rfl (lv_room (Nat.le_of_ble_eq_true rfl)) dX9_rallies_18 ⟨Nat.zero_le _, Nat.zero_le _⟩) (fun r_17 hf => ?_)
    refine lv_if_ne (tgt := 31) hx hb dX9_rallies_21 (by decide) (fun c_18 => ?_) (fun c_18 => ?_)
    · have hf := it_f c_18 hf
      refine lv_iload_n hx hb dX9_rallies_31 rfl (lv_at hl 1 rfl) ?_
      refine lv_i2l hx hb dX9_rallies_32 rfl ?_
      refine lv_lstore_n (lv' := [(3, .long x1.toInt64), (0, .ref q_a0), (1, .int x1), (2, .int x2)]) hx hb dX9_rallies_33 rfl hl (by decide) rfl (fun ls hl => ?_)
      refine lv_iconst (v := 0) hx hb dX9_rallies_34 (by decide) ?_
      refine lv_istore (lv' := [(5, .int 0), (3, .long x1.toInt64), (0, .ref q_a0), (1, .int x1), (2, .int x2)]) hx hb dX9_rallies_35 hl (by decide) rfl (fun ls hl => ?_)
      refine lv_iconst (v := 0) hx hb dX9_rallies_37 (by decide) ?_
      refine lv_istore (lv' := [(6, .int 0), (5, .int 0), (3, .long x1.toInt64), (0, .ref q_a0), (1, .int x1), (2, .int x2)]) hx hb dX9_rallies_38 hl (by decide) rfl (fun ls hl => ?_)
      have hlp_40 : ∀ (n_40 : Nat) (w_19 : Nat → Int32) (v_20 : Int32) (H : Heap) (locs : List Loc) (ls : Array Slot), lq2 (bX9_rallies_40 a0_told a0_refused x1 x2 Q) n_40 w_19 v_20 → va_P D vwCl [(q_a0, .inr (8, [.ref q_a0_told, .ref q_a0_kept, .ref q_a0_isKept, .ref q_a0_refused, .long a0_above, .long a0_below, .ref q_a0_manyBy, .ref q_a0_hers, .ref q_a0_his, .ref q_a0_hand, .ref q_a0_bytes, .int a0_bytesLong, .int a0_tokenAt, .int a0_tokenLong, .int a0_token, .int a0_value, .ref q_a0_anew, .ref q_a0_values])), (q_a0_told, .inl (cI, 163, .inl a0_told)), (q_a0_refused, .inl (cI, 3, .inl a0_refused)), (q_a0_hand, .inl (cI, 42, .inl w_19))] H → va_D A [(q_a0, .inr (8, [.ref q_a0_told, .ref q_a0_kept, .ref q_a0_isKept, .ref q_a0_refused, .long a0_above, .long a0_below, .ref q_a0_manyBy, .ref q_a0_hers, .ref q_a0_his, .ref q_a0_hand, .ref q_a0_bytes, .int a0_bytesLong, .int a0_tokenAt, .int a0_tokenLong, .int a0_token, .int a0_value, .ref q_a0_anew, .ref q_a0_values])), (q_a0_told, .inl (cI, 163, .inl a0_told)), (q_a0_refused, .inl (cI, 3, .inl a0_refused)), (q_a0_hand, .inl (cI, 42, .inl w_19))] → va_S A s.heap H locs → lv_has ls 7 [(0, .ref q_a0), (2, .int x2), (3, .long x1.toInt64), (5, .int 0), (6, .int v_20)] → W p l e (headSpec wsX9_rallies rmX9_rallies).room s m ([.ref q_a0, .int x1, .int x2] : List Value).toArray below meth c H locs 0 0 QQ (F0 m 40 ls []) := by
        intro n_40
        induction n_40 with
        | zero => intro w_19 v_20 H locs ls hf; exact (lq2_0 hf).elim
        | succ n_40 ih =>
          have ih_40 := ih
          intro w_19 v_20 H locs ls hf hP hD hS hl
          have hf := lq2_s hf
          unfold bX9_rallies_40 at hf
          refine lv_iload hx hb dX9_rallies_40 (lv_at hl 4 rfl) ?_
          refine lv_bipush (v := 42) hx hb dX9_rallies_42 (by decide) ?_
          refine lv_icmp_ge (tgt := 67) hx hb dX9_rallies_44 (by decide) (fun c_22 => ?_) (fun c_22 => ?_)
          · have hf := it_t c_22 hf
            exact hj_67 w_19 x1.toInt64 0 _ _ hf (hP.sub [0, 1, 2, 3] rfl) (hD.sub [0, 1, 2, 3] (by decide) rfl) hS ls (lv_sub hl [0, 1, 2, 3] rfl)
          · have hf := it_f c_22 hf
            refine lv_aload_n hx hb dX9_rallies_47 rfl (lv_at hl 0 rfl) ?_
            refine va_get (D := D) (ci := 8) (v := .ref q_a0_hand) (C := RX9) (T := TX9) (N := 18) hx hb hts in_X9 hown hK hP 0 rfl rfl 9 (by decide) kf_36 (fun _ h9 => h9) rfl dX9_rallies_48 ?_
            refine lv_iload hx hb dX9_rallies_51 (lv_at hl 4 rfl) ?_
            refine lv_aload_n hx hb dX9_rallies_53 rfl (lv_at hl 0 rfl) ?_
            refine va_get (D := D) (ci := 8) (v := .ref q_a0_told) (C := RX9) (T := TX9) (N := 18) hx hb hts in_X9 hown hK hP 0 rfl rfl 0 (by decide) kf_7 (fun _ h9 => h9) rfl dX9_rallies_54 ?_
            refine lv_iload hx hb dX9_rallies_57 (lv_at hl 4 rfl) ?_
            refine va_iald hx hb hK hP 1 0 rfl rfl hf.1 dX9_rallies_59 ?_
            have hf := hf.2
            refine va_iast hx hb hK hP hD hS 3 0 rfl rfl hf.1 dX9_rallies_60 (fun H locs hP hD hS => ?_)
            have hP : va_P D vwCl [(q_a0, .inr (8, [.ref q_a0_told, .ref q_a0_kept, .ref q_a0_isKept, .ref q_a0_refused, .long a0_above, .long a0_below, .ref q_a0_manyBy, .ref q_a0_hers, .ref q_a0_his, .ref q_a0_hand, .ref q_a0_bytes, .int a0_bytesLong, .int a0_tokenAt, .int a0_tokenLong, .int a0_token, .int a0_value, .ref q_a0_anew, .ref q_a0_values])), (q_a0_told, .inl (cI, 163, .inl a0_told)), (q_a0_refused, .inl (cI, 3, .inl a0_refused)), (q_a0_hand, .inl (cI, 42, .inl (upd w_19 (v_20.toNatClampNeg) (a0_told v_20.toNatClampNeg))))] H := hP
            have hD : va_D A [(q_a0, .inr (8, [.ref q_a0_told, .ref q_a0_kept, .ref q_a0_isKept, .ref q_a0_refused, .long a0_above, .long a0_below, .ref q_a0_manyBy, .ref q_a0_hers, .ref q_a0_his, .ref q_a0_hand, .ref q_a0_bytes, .int a0_bytesLong, .int a0_tokenAt, .int a0_tokenLong, .int a0_token, .int a0_value, .ref q_a0_anew, .ref q_a0_values])), (q_a0_told, .inl (cI, 163, .inl a0_told)), (q_a0_refused, .inl (cI, 3, .inl a0_refused)), (q_a0_hand, .inl (cI, 42, .inl (upd w_19 (v_20.toNatClampNeg) (a0_told v_20.toNatClampNeg))))] := hD
            have hf := hf.2
            refine lv_iinc (v := v_20 + 1) (lv' := [(6, .int (v_20 + 1)), (0, .ref q_a0), (2, .int x2), (3, .long x1.toInt64), (5, .int 0)]) hx hb dX9_rallies_61 hl (k := 4) rfl rfl (by decide) rfl (fun ls hl => ?_)
            refine lv_goto (tgt := 40) hx hb dX9_rallies_64 (by decide) ?_
            exact ih (upd w_19 (v_20.toNatClampNeg) (a0_told v_20.toNatClampNeg)) (v_20 + 1) _ _ ls hf (hP.sub [0, 1, 2, 3] rfl) (hD.sub [0, 1, 2, 3] (by decide) rfl) hS (lv_sub hl [1, 2, 3, 4, 0] rfl)
      exact hlp_40 1000 a0_hand 0 _ _ ls hf (hP.sub [0, 1, 2, 3] rfl) (hD.sub [0, 1, 2, 3] (by decide) rfl) hS (lv_sub hl [3, 5, 2, 1, 0] rfl)
    · have hf := it_t c_18 hf
      refine lv_aload_n hx hb dX9_rallies_24 rfl (lv_at hl 0 rfl) ?_
      refine lv_bipush (v := (-2)) hx hb dX9_rallies_25 (by decide) ?_
      have hPc := hP.sub (ws' := [(q_a0, .inr (8, [.ref q_a0_told, .ref q_a0_kept, .ref q_a0_isKept, .ref q_a0_refused, .long a0_above, .long a0_below, .ref q_a0_manyBy, .ref q_a0_hers, .ref q_a0_his, .ref q_a0_hand, .ref q_a0_bytes, .int a0_bytesLong, .int a0_tokenAt, .int a0_tokenLong, .int a0_token, .int a0_value, .ref q_a0_anew, .ref q_a0_values])), (q_a0_refused, .inl (cI, 3, .inl a0_refused))]) [0, 2] rfl
      have hDc := hD.sub (ws' := [(q_a0, .inr (8, [.ref q_a0_told, .ref q_a0_kept, .ref q_a0_isKept, .ref q_a0_refused, .long a0_above, .long a0_below, .ref q_a0_manyBy, .ref q_a0_hers, .ref q_a0_his, .ref q_a0_hand, .ref q_a0_bytes, .int a0_bytesLong, .int a0_tokenAt, .int a0_tokenLong, .int a0_token, .int a0_value, .ref q_a0_anew, .ref q_a0_values])), (q_a0_refused, .inl (cI, 3, .inl a0_refused))]) [0, 2] (by decide) rfl
      have hFc := va_free (wc := [(q_a0, .inr (8, [.ref q_a0_told, .ref q_a0_kept, .ref q_a0_isKept, .ref q_a0_refused, .long a0_above, .long a0_below, .ref q_a0_manyBy, .ref q_a0_hers, .ref q_a0_his, .ref q_a0_hand, .ref q_a0_bytes, .int a0_bytesLong, .int a0_tokenAt, .int a0_tokenLong, .int a0_token, .int a0_value, .ref q_a0_anew, .ref q_a0_values])), (q_a0_refused, .inl (cI, 3, .inl a0_refused))]) hD hS hA [0, 2] rfl
      refine va_calli (va_runV (As := [.int (-2)]) (rest := []) ⟨hx, hb, hml, hown, hts⟩ (c_X9_bad l D cI cZ cO q_a0 q_a0_told q_a0_kept q_a0_isKept q_a0_refused q_a0_manyBy q_a0_hers q_a0_his q_a0_hand q_a0_bytes q_a0_anew q_a0_values a0_above a0_below a0_bytesLong a0_tokenAt a0_tokenLong a0_token a0_value a0_refused s.heap.size (-2) _ hf) (cwV 1 hts gX9_rallies_X9_bad rfl rfl rfl (by decide +kernel) ⟨Nat.le_of_ble_eq_true rfl, Nat.le_of_ble_eq_true rfl⟩) (pv_rw (ci := 8) (q0 := 0) hPc hDc hX rfl rfl) rfl rfl hl.1 rfl (lv_room (Nat.le_of_ble_eq_true rfl)) dX9_rallies_27 ⟨Nat.zero_le _, Nat.zero_le _⟩) hS (fun q _ h => hFc q h) hFc (fun r_23 u t H1 locs ht hvm hf hB hz1 hk1 hS => ?_)
      obtain ⟨u_24, rfl⟩ : ∃ z, z = u := ⟨_, rfl⟩
      obtain ⟨hP1, hD1⟩ := hB
      rw [ht] at hP1
      clear hvm
      obtain ⟨hP, hD⟩ := va_join (wr := [(q_a0_told, .inl (cI, 163, .inl a0_told)), (q_a0_hand, .inl (cI, 42, .inl a0_hand))]) (w1 := [(q_a0, .inr (8, [.ref q_a0_told, .ref q_a0_kept, .ref q_a0_isKept, .ref q_a0_refused, .long a0_above, .long a0_below, .ref q_a0_manyBy, .ref q_a0_hers, .ref q_a0_his, .ref q_a0_hand, .ref q_a0_bytes, .int a0_bytesLong, .int a0_tokenAt, .int a0_tokenLong, .int a0_token, .int a0_value, .ref q_a0_anew, .ref q_a0_values])), (q_a0_refused, .inl (cI, 3, .inl u_24))]) hP hD [0, 2] [1, 3] rfl rfl (by decide) (by decide) hk1 hFc hP1 hD1
      clear hz1 hk1 hPc hDc hFc hP1 hD1
      generalize H1 = H at hP hS ⊢
      have hP : va_P D vwCl [(q_a0_told, .inl (cI, 163, .inl a0_told)), (q_a0_hand, .inl (cI, 42, .inl a0_hand)), (q_a0, .inr (8, [.ref q_a0_told, .ref q_a0_kept, .ref q_a0_isKept, .ref q_a0_refused, .long a0_above, .long a0_below, .ref q_a0_manyBy, .ref q_a0_hers, .ref q_a0_his, .ref q_a0_hand, .ref q_a0_bytes, .int a0_bytesLong, .int a0_tokenAt, .int a0_tokenLong, .int a0_token, .int a0_value, .ref q_a0_anew, .ref q_a0_values])), (q_a0_refused, .inl (cI, 3, .inl u_24))] H := hP
      have hD : va_D A [(q_a0_told, .inl (cI, 163, .inl a0_told)), (q_a0_hand, .inl (cI, 42, .inl a0_hand)), (q_a0, .inr (8, [.ref q_a0_told, .ref q_a0_kept, .ref q_a0_isKept, .ref q_a0_refused, .long a0_above, .long a0_below, .ref q_a0_manyBy, .ref q_a0_hers, .ref q_a0_his, .ref q_a0_hand, .ref q_a0_bytes, .int a0_bytesLong, .int a0_tokenAt, .int a0_tokenLong, .int a0_token, .int a0_value, .ref q_a0_anew, .ref q_a0_values])), (q_a0_refused, .inl (cI, 3, .inl u_24))] := hD
      subst hQQ
      have hP9 := hP.sub (ws' := [(q_a0, .inr (8, [.ref q_a0_told, .ref q_a0_kept, .ref q_a0_isKept, .ref q_a0_refused, .long a0_above, .long a0_below, .ref q_a0_manyBy, .ref q_a0_hers, .ref q_a0_his, .ref q_a0_hand, .ref q_a0_bytes, .int a0_bytesLong, .int a0_tokenAt, .int a0_tokenLong, .int a0_token, .int a0_value, .ref q_a0_anew, .ref q_a0_values])), (q_a0_told, .inl (cI, 163, .inl a0_told)), (q_a0_refused, .inl (cI, 3, .inl u_24)), (q_a0_hand, .inl (cI, 42, .inl a0_hand))]) [2, 0, 3, 1] rfl
      have hD9 := hD.sub (ws' := [(q_a0, .inr (8, [.ref q_a0_told, .ref q_a0_kept, .ref q_a0_isKept, .ref q_a0_refused, .long a0_above, .long a0_below, .ref q_a0_manyBy, .ref q_a0_hers, .ref q_a0_his, .ref q_a0_hand, .ref q_a0_bytes, .int a0_bytesLong, .int a0_tokenAt, .int a0_tokenLong, .int a0_token, .int a0_value, .ref q_a0_anew, .ref q_a0_values])), (q_a0_told, .inl (cI, 163, .inl a0_told)), (q_a0_refused, .inl (cI, 3, .inl u_24)), (q_a0_hand, .inl (cI, 42, .inl a0_hand))]) [2, 0, 3, 1] (by decide) rfl
      exact W.iret hx hb hr (fun t ht hW => ⟨⟨r_23, (u_24, a0_hand), rfl, hf, by rw [ht]; exact hP9, hD9⟩, hS.F ht⟩) hS.2.2 dX9_rallies_30
def p_X9_type (a0_refused : Nat → Int32) (a0_bytes : Nat → Int32) (a0_bytesLong : Int32) (x1 : Int32) (Q : Int32 → (Nat → Int32) → (Nat → Int32) → Int32 → Prop) : Prop :=
  p_X9_in x1.toInt64 0 127 (fun r_1 => if r_1 = 0 then (p_X9_bad a0_refused (-2) (fun r_6 u_7 => Q r_6 u_7 a0_bytes a0_bytesLong)) else (if a0_bytesLong = 150 then (p_X9_full a0_refused (fun r_4 u_5 => Q r_4 u_5 a0_bytes a0_bytesLong)) else (vp_in a0_bytesLong 150 ∧ (Q (a0_bytesLong + 1) a0_refused (upd a0_bytes (a0_bytesLong.toNatClampNeg) x1) (a0_bytesLong + 1)))))
def rmX9_type : Room := { frames := 1, cells := 0, slots := 0, locals := 25 }
set_option maxHeartbeats 4000000 in
set_option maxRecDepth 100000 in
theorem c_X9_type (l : Launch) (D : va_G) (cI cZ cO : ClassId) (q_a0 q_a0_told q_a0_kept q_a0_isKept q_a0_refused q_a0_manyBy q_a0_hers q_a0_his q_a0_hand q_a0_bytes q_a0_anew q_a0_values : Nat) (a0_above : Int64) (a0_below : Int64) (a0_bytesLong : Int32) (a0_tokenAt : Int32) (a0_tokenLong : Int32) (a0_token : Int32) (a0_value : Int32) (a0_refused : Nat → Int32) (a0_bytes : Nat → Int32) (sz : Nat) (x1 : Int32) (Q : Int32 → (Nat → Int32) → (Nat → Int32) → Int32 → Prop) (hf : p_X9_type a0_refused a0_bytes a0_bytesLong x1 Q) : Met l yX9_type wsX9_type rmX9_type (va_Pc [.ref q_a0, .int x1] (fun U => U.heap.size = sz ∧ va_P D vwCl [(q_a0, .inr (8, [.ref q_a0_told, .ref q_a0_kept, .ref q_a0_isKept, .ref q_a0_refused, .long a0_above, .long a0_below, .ref q_a0_manyBy, .ref q_a0_hers, .ref q_a0_his, .ref q_a0_hand, .ref q_a0_bytes, .int a0_bytesLong, .int a0_tokenAt, .int a0_tokenLong, .int a0_token, .int a0_value, .ref q_a0_anew, .ref q_a0_values])), (q_a0_refused, .inl (cI, 3, .inl a0_refused)), (q_a0_bytes, .inl (cI, 150, .inl a0_bytes))] U.heap ∧ XK D cI cZ cO U ∧ va_D (fun _ => True) [(q_a0, .inr (8, [.ref q_a0_told, .ref q_a0_kept, .ref q_a0_isKept, .ref q_a0_refused, .long a0_above, .long a0_below, .ref q_a0_manyBy, .ref q_a0_hers, .ref q_a0_his, .ref q_a0_hand, .ref q_a0_bytes, .int a0_bytesLong, .int a0_tokenAt, .int a0_tokenLong, .int a0_token, .int a0_value, .ref q_a0_anew, .ref q_a0_values])), (q_a0_refused, .inl (cI, 3, .inl a0_refused)), (q_a0_bytes, .inl (cI, 150, .inl a0_bytes))])) (va_Qi (fun r (u : (Nat → Int32) × (Nat → Int32) × Int32) => Q r u.1 u.2.1 u.2.2) (fun (u : (Nat → Int32) × (Nat → Int32) × Int32) t => va_P D vwCl [(q_a0, .inr (8, [.ref q_a0_told, .ref q_a0_kept, .ref q_a0_isKept, .ref q_a0_refused, .long a0_above, .long a0_below, .ref q_a0_manyBy, .ref q_a0_hers, .ref q_a0_his, .ref q_a0_hand, .ref q_a0_bytes, .int u.2.2, .int a0_tokenAt, .int a0_tokenLong, .int a0_token, .int a0_value, .ref q_a0_anew, .ref q_a0_values])), (q_a0_refused, .inl (cI, 3, .inl u.1)), (q_a0_bytes, .inl (cI, 150, .inl u.2.1))] t.heap ∧ va_D (va_A [(q_a0, .inr (8, [.ref q_a0_told, .ref q_a0_kept, .ref q_a0_isKept, .ref q_a0_refused, .long a0_above, .long a0_below, .ref q_a0_manyBy, .ref q_a0_hers, .ref q_a0_his, .ref q_a0_hand, .ref q_a0_bytes, .int a0_bytesLong, .int a0_tokenAt, .int a0_tokenLong, .int a0_token, .int a0_value, .ref q_a0_anew, .ref q_a0_values])), (q_a0_refused, .inl (cI, 3, .inl a0_refused)), (q_a0_bytes, .inl (cI, 150, .inl a0_bytes))] sz) [(q_a0, .inr (8, [.ref q_a0_told, .ref q_a0_kept, .ref q_a0_isKept, .ref q_a0_refused, .long a0_above, .long a0_below, .ref q_a0_manyBy, .ref q_a0_hers, .ref q_a0_his, .ref q_a0_hand, .ref q_a0_bytes, .int u.2.2, .int a0_tokenAt, .int a0_tokenLong, .int a0_token, .int a0_value, .ref q_a0_anew, .ref q_a0_values])), (q_a0_refused, .inl (cI, 3, .inl u.1)), (q_a0_bytes, .inl (cI, 150, .inl u.2.1))]) (va_A [(q_a0, .inr (8, [.ref q_a0_told, .ref q_a0_kept, .ref q_a0_isKept, .ref q_a0_refused, .long a0_above, .long a0_below, .ref q_a0_manyBy, .ref q_a0_hers, .ref q_a0_his, .ref q_a0_hand, .ref q_a0_bytes, .int a0_bytesLong, .int a0_tokenAt, .int a0_tokenLong, .int a0_token, .int a0_value, .ref q_a0_anew, .ref q_a0_values])), (q_a0_refused, .inl (cI, 3, .inl a0_refused)), (q_a0_bytes, .inl (cI, 150, .inl a0_bytes))] sz)) 0 0 (va_A [(q_a0, .inr (8, [.ref q_a0_told, .ref q_a0_kept, .ref q_a0_isKept, .ref q_a0_refused, .long a0_above, .long a0_below, .ref q_a0_manyBy, .ref q_a0_hers, .ref q_a0_his, .ref q_a0_hand, .ref q_a0_bytes, .int a0_bytesLong, .int a0_tokenAt, .int a0_tokenLong, .int a0_token, .int a0_value, .ref q_a0_anew, .ref q_a0_values])), (q_a0_refused, .inl (cI, 3, .inl a0_refused)), (q_a0_bytes, .inl (cI, 150, .inl a0_bytes))] sz) := by
  refine Met.ofW (cc := cX9_type) (maxL := 2) (ret := (some .int)) (by decide) rfl ?_
  intro p e s m args below meth c s₁ B hml hv
  obtain ⟨rfl, hsz, hP, hX, hD0⟩ := hv
  have hK := hX.1
  have hx := B.exec
  have hb := B.bytes
  have hr := B.returns
  have hts := atoms_spec (ws := wsX9_type) B.pre
  have hown : s.vm.findClass RX9 = some m.cls := findClass_of_methodNamed B.named
  have hlocks := B.notSynchronized
  have in_X9 : ∀ w ∈ wsX90, w ∈ wsX9_type := fun _ h => List.mem_cons_of_mem _ (List.mem_append_right _ h)
  have kc_181 := hts (.constantLong RX9 181 (127)) (by decide +kernel)
  have kf_183 := hts (.fieldLink RX9 183 "LeftCrestModel" "bytesLong" "I") (by decide +kernel)
  have kf_39 := hts (.fieldLink RX9 39 "LeftCrestModel" "bytes" "[I") (by decide +kernel)
  subst hsz
  have hD := hD0.self (sz := s.heap.size)
  generalize hAe : va_A [(q_a0, .inr (8, [.ref q_a0_told, .ref q_a0_kept, .ref q_a0_isKept, .ref q_a0_refused, .long a0_above, .long a0_below, .ref q_a0_manyBy, .ref q_a0_hers, .ref q_a0_his, .ref q_a0_hand, .ref q_a0_bytes, .int a0_bytesLong, .int a0_tokenAt, .int a0_tokenLong, .int a0_token, .int a0_value, .ref q_a0_anew, .ref q_a0_values])), (q_a0_refused, .inl (cI, 3, .inl a0_refused)), (q_a0_bytes, .inl (cI, 150, .inl a0_bytes))] s.heap.size = A at hD ⊢
  have hA : ∀ q : Nat, s.heap.size ≤ q → A q := fun q h => by rw [← hAe]; exact Or.inr h
  have hS : va_S A s.heap s.heap [] := va_S.rf
  have hP : va_P D vwCl [(q_a0, .inr (8, [.ref q_a0_told, .ref q_a0_kept, .ref q_a0_isKept, .ref q_a0_refused, .long a0_above, .long a0_below, .ref q_a0_manyBy, .ref q_a0_hers, .ref q_a0_his, .ref q_a0_hand, .ref q_a0_bytes, .int a0_bytesLong, .int a0_tokenAt, .int a0_tokenLong, .int a0_token, .int a0_value, .ref q_a0_anew, .ref q_a0_values])), (q_a0_refused, .inl (cI, 3, .inl a0_refused)), (q_a0_bytes, .inl (cI, 150, .inl a0_bytes))] s.heap := hP
  generalize hQQ : MQ below _ _ s _ _ _ = QQ
  have hl := lv_entry ([.ref q_a0, .int x1]) (n := 2) (Nat.le_of_ble_eq_true rfl)
  rw [lg_entry_eq]
  generalize (lg_sl ([.ref q_a0, .int x1]) ++ List.replicate (2 - (lg_sl ([.ref q_a0, .int x1])).length) Slot.unset).toArray = ls at hl ⊢
  have hl : lv_has ls 2 [(0, .ref q_a0), (1, .int x1)] := hl
  unfold p_X9_type at hf
  refine lv_iload_n hx hb dX9_type_0 rfl (lv_at hl 1 rfl) ?_
  refine lv_i2l hx hb dX9_type_1 rfl ?_
  refine lv_lconst (v := 0) hx hb dX9_type_2 (by decide) ?_
  refine lv_ldc2 (v := 127) hx hb hown kc_181 dX9_type_3 ?_
  refine ya_csi (va_runS (As := [.long x1.toInt64, .long 0, .long 127]) (rest := []) ⟨hx, hb, hml, hown, hts⟩ (c_X9_in l D cI cZ cO  x1.toInt64 0 127 _ hf) (va_cwS 3 hts gX9_type_X9_in rfl rfl rfl (by decide +kernel) ⟨Nat.le_of_ble_eq_true rfl, Nat.le_of_ble_eq_true rfl⟩) (ps_ro va_P0 hX) rfl rfl hl.1 rfl (lv_room (Nat.le_of_ble_eq_true rfl)) dX9_type_6 ⟨Nat.zero_le _, Nat.zero_le _⟩) (fun r_1 hf => ?_)
  refine lv_if_ne (tgt := 19) hx hb dX9_type_9 (by decide) (fun c_2 => ?_) (fun c_2 => ?_)
  · have hf := it_f c_2 hf
    refine lv_aload_n hx hb dX9_type_19 rfl (lv_at hl 0 rfl) ?_
    refine va_get (D := D) (ci := 8) (v := .int a0_bytesLong) (C := RX9) (T := TX9) (N := 18) hx hb hts in_X9 hown hK hP 0 rfl rfl 11 (by decide) kf_183 (fun _ h9 => h9) rfl dX9_type_20 ?_
    refine lv_sipush (v := 150) hx hb dX9_type_23 (by decide) ?_
    refine lv_icmp_ne (tgt := 34) hx hb dX9_type_26 (by decide) (fun c_3 => ?_) (fun c_3 => ?_)
    · have hf := it_f c_3 hf
      refine lv_aload_n hx hb dX9_type_34 rfl (lv_at hl 0 rfl) ?_
      refine va_get (D := D) (ci := 8) (v := .ref q_a0_bytes) (C := RX9) (T := TX9) (N := 18) hx hb hts in_X9 hown hK hP 0 rfl rfl 10 (by decide) kf_39 (fun _ h9 => h9) rfl dX9_type_35 ?_
      refine lv_aload_n hx hb dX9_type_38 rfl (lv_at hl 0 rfl) ?_
      refine va_get (D := D) (ci := 8) (v := .int a0_bytesLong) (C := RX9) (T := TX9) (N := 18) hx hb hts in_X9 hown hK hP 0 rfl rfl 11 (by decide) kf_183 (fun _ h9 => h9) rfl dX9_type_39 ?_
      refine lv_iload_n hx hb dX9_type_42 rfl (lv_at hl 1 rfl) ?_
      refine va_iast hx hb hK hP hD hS 2 0 rfl rfl hf.1 dX9_type_43 (fun H locs hP hD hS => ?_)
      have hP : va_P D vwCl [(q_a0, .inr (8, [.ref q_a0_told, .ref q_a0_kept, .ref q_a0_isKept, .ref q_a0_refused, .long a0_above, .long a0_below, .ref q_a0_manyBy, .ref q_a0_hers, .ref q_a0_his, .ref q_a0_hand, .ref q_a0_bytes, .int a0_bytesLong, .int a0_tokenAt, .int a0_tokenLong, .int a0_token, .int a0_value, .ref q_a0_anew, .ref q_a0_values])), (q_a0_refused, .inl (cI, 3, .inl a0_refused)), (q_a0_bytes, .inl (cI, 150, .inl (upd a0_bytes (a0_bytesLong.toNatClampNeg) x1)))] H := hP
      have hD : va_D A [(q_a0, .inr (8, [.ref q_a0_told, .ref q_a0_kept, .ref q_a0_isKept, .ref q_a0_refused, .long a0_above, .long a0_below, .ref q_a0_manyBy, .ref q_a0_hers, .ref q_a0_his, .ref q_a0_hand, .ref q_a0_bytes, .int a0_bytesLong, .int a0_tokenAt, .int a0_tokenLong, .int a0_token, .int a0_value, .ref q_a0_anew, .ref q_a0_values])), (q_a0_refused, .inl (cI, 3, .inl a0_refused)), (q_a0_bytes, .inl (cI, 150, .inl (upd a0_bytes (a0_bytesLong.toNatClampNeg) x1)))] := hD
      have hf := hf.2
      refine lv_aload_n hx hb dX9_type_44 rfl (lv_at hl 0 rfl) ?_
      refine lv_dup hx hb dX9_type_45 rfl ?_
      refine va_get (D := D) (ci := 8) (v := .int a0_bytesLong) (C := RX9) (T := TX9) (N := 18) hx hb hts in_X9 hown hK hP 0 rfl rfl 11 (by decide) kf_183 (fun _ h9 => h9) rfl dX9_type_46 ?_
      refine lv_iconst (v := 1) hx hb dX9_type_49 (by decide) ?_
      refine lv_iadd hx hb dX9_type_50 ?_
      refine va_put (D := D) (ci := 8) (v := .int (a0_bytesLong + 1)) (ty := .int) (C := RX9) (T := TX9) (N := 18) hx hb hts in_X9 tyX9 tyX9_ok nmX9 hown hK hP hD hS 0 rfl rfl 11 (by decide) kf_183 (fun _ h9 => h9) rfl (by decide +kernel) rfl rfl (Nat.le_of_ble_eq_true rfl) dX9_type_51 (fun H locs hP hD hS => ?_)
      have hP : va_P D vwCl [(q_a0, .inr (8, [.ref q_a0_told, .ref q_a0_kept, .ref q_a0_isKept, .ref q_a0_refused, .long a0_above, .long a0_below, .ref q_a0_manyBy, .ref q_a0_hers, .ref q_a0_his, .ref q_a0_hand, .ref q_a0_bytes, .int (a0_bytesLong + 1), .int a0_tokenAt, .int a0_tokenLong, .int a0_token, .int a0_value, .ref q_a0_anew, .ref q_a0_values])), (q_a0_refused, .inl (cI, 3, .inl a0_refused)), (q_a0_bytes, .inl (cI, 150, .inl (upd a0_bytes (a0_bytesLong.toNatClampNeg) x1)))] H := hP
      have hD : va_D A [(q_a0, .inr (8, [.ref q_a0_told, .ref q_a0_kept, .ref q_a0_isKept, .ref q_a0_refused, .long a0_above, .long a0_below, .ref q_a0_manyBy, .ref q_a0_hers, .ref q_a0_his, .ref q_a0_hand, .ref q_a0_bytes, .int (a0_bytesLong + 1), .int a0_tokenAt, .int a0_tokenLong, .int a0_token, .int a0_value, .ref q_a0_anew, .ref q_a0_values])), (q_a0_refused, .inl (cI, 3, .inl a0_refused)), (q_a0_bytes, .inl (cI, 150, .inl (upd a0_bytes (a0_bytesLong.toNatClampNeg) x1)))] := hD
      refine lv_aload_n hx hb dX9_type_54 rfl (lv_at hl 0 rfl) ?_
      refine va_get (D := D) (ci := 8) (v := .int (a0_bytesLong + 1)) (C := RX9) (T := TX9) (N := 18) hx hb hts in_X9 hown hK hP 0 rfl rfl 11 (by decide) kf_183 (fun _ h9 => h9) rfl dX9_type_55 ?_
      subst hQQ
      have hP9 := hP.sub (ws' := [(q_a0, .inr (8, [.ref q_a0_told, .ref q_a0_kept, .ref q_a0_isKept, .ref q_a0_refused, .long a0_above, .long a0_below, .ref q_a0_manyBy, .ref q_a0_hers, .ref q_a0_his, .ref q_a0_hand, .ref q_a0_bytes, .int (a0_bytesLong + 1), .int a0_tokenAt, .int a0_tokenLong, .int a0_token, .int a0_value, .ref q_a0_anew, .ref q_a0_values])), (q_a0_refused, .inl (cI, 3, .inl a0_refused)), (q_a0_bytes, .inl (cI, 150, .inl (upd a0_bytes (a0_bytesLong.toNatClampNeg) x1)))]) [0, 1, 2] rfl
      have hD9 := hD.sub (ws' := [(q_a0, .inr (8, [.ref q_a0_told, .ref q_a0_kept, .ref q_a0_isKept, .ref q_a0_refused, .long a0_above, .long a0_below, .ref q_a0_manyBy, .ref q_a0_hers, .ref q_a0_his, .ref q_a0_hand, .ref q_a0_bytes, .int (a0_bytesLong + 1), .int a0_tokenAt, .int a0_tokenLong, .int a0_token, .int a0_value, .ref q_a0_anew, .ref q_a0_values])), (q_a0_refused, .inl (cI, 3, .inl a0_refused)), (q_a0_bytes, .inl (cI, 150, .inl (upd a0_bytes (a0_bytesLong.toNatClampNeg) x1)))]) [0, 1, 2] (by decide) rfl
      exact W.iret hx hb hr (fun t ht hW => ⟨⟨(a0_bytesLong + 1), (a0_refused, upd a0_bytes (a0_bytesLong.toNatClampNeg) x1, a0_bytesLong + 1), rfl, hf, by rw [ht]; exact hP9, hD9⟩, hS.F ht⟩) hS.2.2 dX9_type_58
    · have hf := it_t c_3 hf
      refine lv_aload_n hx hb dX9_type_29 rfl (lv_at hl 0 rfl) ?_
      have hPc := hP.sub (ws' := [(q_a0, .inr (8, [.ref q_a0_told, .ref q_a0_kept, .ref q_a0_isKept, .ref q_a0_refused, .long a0_above, .long a0_below, .ref q_a0_manyBy, .ref q_a0_hers, .ref q_a0_his, .ref q_a0_hand, .ref q_a0_bytes, .int a0_bytesLong, .int a0_tokenAt, .int a0_tokenLong, .int a0_token, .int a0_value, .ref q_a0_anew, .ref q_a0_values])), (q_a0_refused, .inl (cI, 3, .inl a0_refused))]) [0, 1] rfl
      have hDc := hD.sub (ws' := [(q_a0, .inr (8, [.ref q_a0_told, .ref q_a0_kept, .ref q_a0_isKept, .ref q_a0_refused, .long a0_above, .long a0_below, .ref q_a0_manyBy, .ref q_a0_hers, .ref q_a0_his, .ref q_a0_hand, .ref q_a0_bytes, .int a0_bytesLong, .int a0_tokenAt, .int a0_tokenLong, .int a0_token, .int a0_value, .ref q_a0_anew, .ref q_a0_values])), (q_a0_refused, .inl (cI, 3, .inl a0_refused))]) [0, 1] (by decide) rfl
      have hFc := va_free (wc := [(q_a0, .inr (8, [.ref q_a0_told, .ref q_a0_kept, .ref q_a0_isKept, .ref q_a0_refused, .long a0_above, .long a0_below, .ref q_a0_manyBy, .ref q_a0_hers, .ref q_a0_his, .ref q_a0_hand, .ref q_a0_bytes, .int a0_bytesLong, .int a0_tokenAt, .int a0_tokenLong, .int a0_token, .int a0_value, .ref q_a0_anew, .ref q_a0_values])), (q_a0_refused, .inl (cI, 3, .inl a0_refused))]) hD hS hA [0, 1] rfl
      refine va_calli (va_runV (As := []) (rest := []) ⟨hx, hb, hml, hown, hts⟩ (c_X9_full l D cI cZ cO q_a0 q_a0_told q_a0_kept q_a0_isKept q_a0_refused q_a0_manyBy q_a0_hers q_a0_his q_a0_hand q_a0_bytes q_a0_anew q_a0_values a0_above a0_below a0_bytesLong a0_tokenAt a0_tokenLong a0_token a0_value a0_refused s.heap.size  _ hf) (cwV 0 hts gX9_type_X9_full rfl rfl rfl (by decide +kernel) ⟨Nat.le_of_ble_eq_true rfl, Nat.le_of_ble_eq_true rfl⟩) (pv_rw (ci := 8) (q0 := 0) hPc hDc hX rfl rfl) rfl rfl hl.1 rfl (lv_room (Nat.le_of_ble_eq_true rfl)) dX9_type_30 ⟨Nat.zero_le _, Nat.zero_le _⟩) hS (fun q _ h => hFc q h) hFc (fun r_4 u t H1 locs ht hvm hf hB hz1 hk1 hS => ?_)
      obtain ⟨u_5, rfl⟩ : ∃ z, z = u := ⟨_, rfl⟩
      obtain ⟨hP1, hD1⟩ := hB
      rw [ht] at hP1
      clear hvm
      obtain ⟨hP, hD⟩ := va_join (wr := [(q_a0_bytes, .inl (cI, 150, .inl a0_bytes))]) (w1 := [(q_a0, .inr (8, [.ref q_a0_told, .ref q_a0_kept, .ref q_a0_isKept, .ref q_a0_refused, .long a0_above, .long a0_below, .ref q_a0_manyBy, .ref q_a0_hers, .ref q_a0_his, .ref q_a0_hand, .ref q_a0_bytes, .int a0_bytesLong, .int a0_tokenAt, .int a0_tokenLong, .int a0_token, .int a0_value, .ref q_a0_anew, .ref q_a0_values])), (q_a0_refused, .inl (cI, 3, .inl u_5))]) hP hD [0, 1] [2] rfl rfl (by decide) (by decide) hk1 hFc hP1 hD1
      clear hz1 hk1 hPc hDc hFc hP1 hD1
      generalize H1 = H at hP hS ⊢
      have hP : va_P D vwCl [(q_a0_bytes, .inl (cI, 150, .inl a0_bytes)), (q_a0, .inr (8, [.ref q_a0_told, .ref q_a0_kept, .ref q_a0_isKept, .ref q_a0_refused, .long a0_above, .long a0_below, .ref q_a0_manyBy, .ref q_a0_hers, .ref q_a0_his, .ref q_a0_hand, .ref q_a0_bytes, .int a0_bytesLong, .int a0_tokenAt, .int a0_tokenLong, .int a0_token, .int a0_value, .ref q_a0_anew, .ref q_a0_values])), (q_a0_refused, .inl (cI, 3, .inl u_5))] H := hP
      have hD : va_D A [(q_a0_bytes, .inl (cI, 150, .inl a0_bytes)), (q_a0, .inr (8, [.ref q_a0_told, .ref q_a0_kept, .ref q_a0_isKept, .ref q_a0_refused, .long a0_above, .long a0_below, .ref q_a0_manyBy, .ref q_a0_hers, .ref q_a0_his, .ref q_a0_hand, .ref q_a0_bytes, .int a0_bytesLong, .int a0_tokenAt, .int a0_tokenLong, .int a0_token, .int a0_value, .ref q_a0_anew, .ref q_a0_values])), (q_a0_refused, .inl (cI, 3, .inl u_5))] := hD
      subst hQQ
      have hP9 := hP.sub (ws' := [(q_a0, .inr (8, [.ref q_a0_told, .ref q_a0_kept, .ref q_a0_isKept, .ref q_a0_refused, .long a0_above, .long a0_below, .ref q_a0_manyBy, .ref q_a0_hers, .ref q_a0_his, .ref q_a0_hand, .ref q_a0_bytes, .int a0_bytesLong, .int a0_tokenAt, .int a0_tokenLong, .int a0_token, .int a0_value, .ref q_a0_anew, .ref q_a0_values])), (q_a0_refused, .inl (cI, 3, .inl u_5)), (q_a0_bytes, .inl (cI, 150, .inl a0_bytes))]) [1, 2, 0] rfl
      have hD9 := hD.sub (ws' := [(q_a0, .inr (8, [.ref q_a0_told, .ref q_a0_kept, .ref q_a0_isKept, .ref q_a0_refused, .long a0_above, .long a0_below, .ref q_a0_manyBy, .ref q_a0_hers, .ref q_a0_his, .ref q_a0_hand, .ref q_a0_bytes, .int a0_bytesLong, .int a0_tokenAt, .int a0_tokenLong, .int a0_token, .int a0_value, .ref q_a0_anew, .ref q_a0_values])), (q_a0_refused, .inl (cI, 3, .inl u_5)), (q_a0_bytes, .inl (cI, 150, .inl a0_bytes))]) [1, 2, 0] (by decide) rfl
      exact W.iret hx hb hr (fun t ht hW => ⟨⟨r_4, (u_5, a0_bytes, a0_bytesLong), rfl, hf, by rw [ht]; exact hP9, hD9⟩, hS.F ht⟩) hS.2.2 dX9_type_33
  · have hf := it_t c_2 hf
    refine lv_aload_n hx hb dX9_type_12 rfl (lv_at hl 0 rfl) ?_
    refine lv_bipush (v := (-2)) hx hb dX9_type_13 (by decide) ?_
    have hPc := hP.sub (ws' := [(q_a0, .inr (8, [.ref q_a0_told, .ref q_a0_kept, .ref q_a0_isKept, .ref q_a0_refused, .long a0_above, .long a0_below, .ref q_a0_manyBy, .ref q_a0_hers, .ref q_a0_his, .ref q_a0_hand, .ref q_a0_bytes, .int a0_bytesLong, .int a0_tokenAt, .int a0_tokenLong, .int a0_token, .int a0_value, .ref q_a0_anew, .ref q_a0_values])), (q_a0_refused, .inl (cI, 3, .inl a0_refused))]) [0, 1] rfl
    have hDc := hD.sub (ws' := [(q_a0, .inr (8, [.ref q_a0_told, .ref q_a0_kept, .ref q_a0_isKept, .ref q_a0_refused, .long a0_above, .long a0_below, .ref q_a0_manyBy, .ref q_a0_hers, .ref q_a0_his, .ref q_a0_hand, .ref q_a0_bytes, .int a0_bytesLong, .int a0_tokenAt, .int a0_tokenLong, .int a0_token, .int a0_value, .ref q_a0_anew, .ref q_a0_values])), (q_a0_refused, .inl (cI, 3, .inl a0_refused))]) [0, 1] (by decide) rfl
    have hFc := va_free (wc := [(q_a0, .inr (8, [.ref q_a0_told, .ref q_a0_kept, .ref q_a0_isKept, .ref q_a0_refused, .long a0_above, .long a0_below, .ref q_a0_manyBy, .ref q_a0_hers, .ref q_a0_his, .ref q_a0_hand, .ref q_a0_bytes, .int a0_bytesLong, .int a0_tokenAt, .int a0_tokenLong, .int a0_token, .int a0_value, .ref q_a0_anew, .ref q_a0_values])), (q_a0_refused, .inl (cI, 3, .inl a0_refused))]) hD hS hA [0, 1] rfl
    refine va_calli (va_runV (As := [.int (-2)]) (rest := []) ⟨hx, hb, hml, hown, hts⟩ (c_X9_bad l D cI cZ cO q_a0 q_a0_told q_a0_kept q_a0_isKept q_a0_refused q_a0_manyBy q_a0_hers q_a0_his q_a0_hand q_a0_bytes q_a0_anew q_a0_values a0_above a0_below a0_bytesLong a0_tokenAt a0_tokenLong a0_token a0_value a0_refused s.heap.size (-2) _ hf) (cwV 1 hts gX9_type_X9_bad rfl rfl rfl (by decide +kernel) ⟨Nat.le_of_ble_eq_true rfl, Nat.le_of_ble_eq_true rfl⟩) (pv_rw (ci := 8) (q0 := 0) hPc hDc hX rfl rfl) rfl rfl hl.1 rfl (lv_room (Nat.le_of_ble_eq_true rfl)) dX9_type_15 ⟨Nat.zero_le _, Nat.zero_le _⟩) hS (fun q _ h => hFc q h) hFc (fun r_6 u t H1 locs ht hvm hf hB hz1 hk1 hS => ?_)
    obtain ⟨u_7, rfl⟩ : ∃ z, z = u := ⟨_, rfl⟩
    obtain ⟨hP1, hD1⟩ := hB
    rw [ht] at hP1
    clear hvm
    obtain ⟨hP, hD⟩ := va_join (wr := [(q_a0_bytes, .inl (cI, 150, .inl a0_bytes))]) (w1 := [(q_a0, .inr (8, [.ref q_a0_told, .ref q_a0_kept, .ref q_a0_isKept, .ref q_a0_refused, .long a0_above, .long a0_below, .ref q_a0_manyBy, .ref q_a0_hers, .ref q_a0_his, .ref q_a0_hand, .ref q_a0_bytes, .int a0_bytesLong, .int a0_tokenAt, .int a0_tokenLong, .int a0_token, .int a0_value, .ref q_a0_anew, .ref q_a0_values])), (q_a0_refused, .inl (cI, 3, .inl u_7))]) hP hD [0, 1] [2] rfl rfl (by decide) (by decide) hk1 hFc hP1 hD1
    clear hz1 hk1 hPc hDc hFc hP1 hD1
    generalize H1 = H at hP hS ⊢
    have hP : va_P D vwCl [(q_a0_bytes, .inl (cI, 150, .inl a0_bytes)), (q_a0, .inr (8, [.ref q_a0_told, .ref q_a0_kept, .ref q_a0_isKept, .ref q_a0_refused, .long a0_above, .long a0_below, .ref q_a0_manyBy, .ref q_a0_hers, .ref q_a0_his, .ref q_a0_hand, .ref q_a0_bytes, .int a0_bytesLong, .int a0_tokenAt, .int a0_tokenLong, .int a0_token, .int a0_value, .ref q_a0_anew, .ref q_a0_values])), (q_a0_refused, .inl (cI, 3, .inl u_7))] H := hP
    have hD : va_D A [(q_a0_bytes, .inl (cI, 150, .inl a0_bytes)), (q_a0, .inr (8, [.ref q_a0_told, .ref q_a0_kept, .ref q_a0_isKept, .ref q_a0_refused, .long a0_above, .long a0_below, .ref q_a0_manyBy, .ref q_a0_hers, .ref q_a0_his, .ref q_a0_hand, .ref q_a0_bytes, .int a0_bytesLong, .int a0_tokenAt, .int a0_tokenLong, .int a0_token, .int a0_value, .ref q_a0_anew, .ref q_a0_values])), (q_a0_refused, .inl (cI, 3, .inl u_7))] := hD
    subst hQQ
    have hP9 := hP.sub (ws' := [(q_a0, .inr (8, [.ref q_a0_told, .ref q_a0_kept, .ref q_a0_isKept, .ref q_a0_refused, .long a0_above, .long a0_below, .ref q_a0_manyBy, .ref q_a0_hers, .ref q_a0_his, .ref q_a0_hand, .ref q_a0_bytes, .int a0_bytesLong, .int a0_tokenAt, .int a0_tokenLong, .int a0_token, .int a0_value, .ref q_a0_anew, .ref q_a0_values])), (q_a0_refused, .inl (cI, 3, .inl u_7)), (q_a0_bytes, .inl (cI, 150, .inl a0_bytes))]) [1, 2, 0] rfl
    have hD9 := hD.sub (ws' := [(q_a0, .inr (8, [.ref q_a0_told, .ref q_a0_kept, .ref q_a0_isKept, .ref q_a0_refused, .long a0_above, .long a0_below, .ref q_a0_manyBy, .ref q_a0_hers, .ref q_a0_his, .ref q_a0_hand, .ref q_a0_bytes, .int a0_bytesLong, .int a0_tokenAt, .int a0_tokenLong, .int a0_token, .int a0_value, .ref q_a0_anew, .ref q_a0_values])), (q_a0_refused, .inl (cI, 3, .inl u_7)), (q_a0_bytes, .inl (cI, 150, .inl a0_bytes))]) [1, 2, 0] (by decide) rfl
    exact W.iret hx hb hr (fun t ht hW => ⟨⟨r_6, (u_7, a0_bytes, a0_bytesLong), rfl, hf, by rw [ht]; exact hP9, hD9⟩, hS.F ht⟩) hS.2.2 dX9_type_18
def p_X9_clear (a0_bytesLong : Int32) (Q : Int32 → Int32 → Prop) : Prop :=
  Q a0_bytesLong 0
def rmX9_clear : Room := { frames := 0, cells := 0, slots := 0, locals := 0 }
set_option maxHeartbeats 4000000 in
set_option maxRecDepth 100000 in
theorem c_X9_clear (l : Launch) (D : va_G) (cI cZ cO : ClassId) (q_a0 q_a0_told q_a0_kept q_a0_isKept q_a0_refused q_a0_manyBy q_a0_hers q_a0_his q_a0_hand q_a0_bytes q_a0_anew q_a0_values : Nat) (a0_above : Int64) (a0_below : Int64) (a0_bytesLong : Int32) (a0_tokenAt : Int32) (a0_tokenLong : Int32) (a0_token : Int32) (a0_value : Int32) (sz : Nat) (Q : Int32 → Int32 → Prop) (hf : p_X9_clear a0_bytesLong Q) : Met l yX9_clear wsX9_clear rmX9_clear (va_Pc [.ref q_a0] (fun U => U.heap.size = sz ∧ va_P D vwCl [(q_a0, .inr (8, [.ref q_a0_told, .ref q_a0_kept, .ref q_a0_isKept, .ref q_a0_refused, .long a0_above, .long a0_below, .ref q_a0_manyBy, .ref q_a0_hers, .ref q_a0_his, .ref q_a0_hand, .ref q_a0_bytes, .int a0_bytesLong, .int a0_tokenAt, .int a0_tokenLong, .int a0_token, .int a0_value, .ref q_a0_anew, .ref q_a0_values]))] U.heap ∧ XK D cI cZ cO U ∧ va_D (fun _ => True) [(q_a0, .inr (8, [.ref q_a0_told, .ref q_a0_kept, .ref q_a0_isKept, .ref q_a0_refused, .long a0_above, .long a0_below, .ref q_a0_manyBy, .ref q_a0_hers, .ref q_a0_his, .ref q_a0_hand, .ref q_a0_bytes, .int a0_bytesLong, .int a0_tokenAt, .int a0_tokenLong, .int a0_token, .int a0_value, .ref q_a0_anew, .ref q_a0_values]))])) (va_Qi (fun r (u : Int32) => Q r u) (fun (u : Int32) t => va_P D vwCl [(q_a0, .inr (8, [.ref q_a0_told, .ref q_a0_kept, .ref q_a0_isKept, .ref q_a0_refused, .long a0_above, .long a0_below, .ref q_a0_manyBy, .ref q_a0_hers, .ref q_a0_his, .ref q_a0_hand, .ref q_a0_bytes, .int u, .int a0_tokenAt, .int a0_tokenLong, .int a0_token, .int a0_value, .ref q_a0_anew, .ref q_a0_values]))] t.heap ∧ va_D (va_A [(q_a0, .inr (8, [.ref q_a0_told, .ref q_a0_kept, .ref q_a0_isKept, .ref q_a0_refused, .long a0_above, .long a0_below, .ref q_a0_manyBy, .ref q_a0_hers, .ref q_a0_his, .ref q_a0_hand, .ref q_a0_bytes, .int a0_bytesLong, .int a0_tokenAt, .int a0_tokenLong, .int a0_token, .int a0_value, .ref q_a0_anew, .ref q_a0_values]))] sz) [(q_a0, .inr (8, [.ref q_a0_told, .ref q_a0_kept, .ref q_a0_isKept, .ref q_a0_refused, .long a0_above, .long a0_below, .ref q_a0_manyBy, .ref q_a0_hers, .ref q_a0_his, .ref q_a0_hand, .ref q_a0_bytes, .int u, .int a0_tokenAt, .int a0_tokenLong, .int a0_token, .int a0_value, .ref q_a0_anew, .ref q_a0_values]))]) (va_A [(q_a0, .inr (8, [.ref q_a0_told, .ref q_a0_kept, .ref q_a0_isKept, .ref q_a0_refused, .long a0_above, .long a0_below, .ref q_a0_manyBy, .ref q_a0_hers, .ref q_a0_his, .ref q_a0_hand, .ref q_a0_bytes, .int a0_bytesLong, .int a0_tokenAt, .int a0_tokenLong, .int a0_token, .int a0_value, .ref q_a0_anew, .ref q_a0_values]))] sz)) 0 0 (va_A [(q_a0, .inr (8, [.ref q_a0_told, .ref q_a0_kept, .ref q_a0_isKept, .ref q_a0_refused, .long a0_above, .long a0_below, .ref q_a0_manyBy, .ref q_a0_hers, .ref q_a0_his, .ref q_a0_hand, .ref q_a0_bytes, .int a0_bytesLong, .int a0_tokenAt, .int a0_tokenLong, .int a0_token, .int a0_value, .ref q_a0_anew, .ref q_a0_values]))] sz) := by
  refine Met.ofW (cc := cX9_clear) (maxL := 2) (ret := (some .int)) (by decide) rfl ?_
  intro p e s m args below meth c s₁ B hml hv
  obtain ⟨rfl, hsz, hP, hX, hD0⟩ := hv
  have hK := hX.1
  have hx := B.exec
  have hb := B.bytes
  have hr := B.returns
  have hts := atoms_spec (ws := wsX9_clear) B.pre
  have hown : s.vm.findClass RX9 = some m.cls := findClass_of_methodNamed B.named
  have hlocks := B.notSynchronized
  have in_X9 : ∀ w ∈ wsX90, w ∈ wsX9_clear := fun _ h => List.mem_cons_of_mem _ (List.mem_append_right _ h)
  have kf_183 := hts (.fieldLink RX9 183 "LeftCrestModel" "bytesLong" "I") (by decide +kernel)
  subst hsz
  have hD := hD0.self (sz := s.heap.size)
  generalize hAe : va_A [(q_a0, .inr (8, [.ref q_a0_told, .ref q_a0_kept, .ref q_a0_isKept, .ref q_a0_refused, .long a0_above, .long a0_below, .ref q_a0_manyBy, .ref q_a0_hers, .ref q_a0_his, .ref q_a0_hand, .ref q_a0_bytes, .int a0_bytesLong, .int a0_tokenAt, .int a0_tokenLong, .int a0_token, .int a0_value, .ref q_a0_anew, .ref q_a0_values]))] s.heap.size = A at hD ⊢
  have hA : ∀ q : Nat, s.heap.size ≤ q → A q := fun q h => by rw [← hAe]; exact Or.inr h
  have hS : va_S A s.heap s.heap [] := va_S.rf
  have hP : va_P D vwCl [(q_a0, .inr (8, [.ref q_a0_told, .ref q_a0_kept, .ref q_a0_isKept, .ref q_a0_refused, .long a0_above, .long a0_below, .ref q_a0_manyBy, .ref q_a0_hers, .ref q_a0_his, .ref q_a0_hand, .ref q_a0_bytes, .int a0_bytesLong, .int a0_tokenAt, .int a0_tokenLong, .int a0_token, .int a0_value, .ref q_a0_anew, .ref q_a0_values]))] s.heap := hP
  generalize hQQ : MQ below _ _ s _ _ _ = QQ
  have hl := lv_entry ([.ref q_a0]) (n := 2) (Nat.le_of_ble_eq_true rfl)
  rw [lg_entry_eq]
  generalize (lg_sl ([.ref q_a0]) ++ List.replicate (2 - (lg_sl ([.ref q_a0])).length) Slot.unset).toArray = ls at hl ⊢
  have hl : lv_has ls 2 [(0, .ref q_a0)] := hl
  unfold p_X9_clear at hf
  refine lv_aload_n hx hb dX9_clear_0 rfl (lv_at hl 0 rfl) ?_
  refine va_get (D := D) (ci := 8) (v := .int a0_bytesLong) (C := RX9) (T := TX9) (N := 18) hx hb hts in_X9 hown hK hP 0 rfl rfl 11 (by decide) kf_183 (fun _ h9 => h9) rfl dX9_clear_1 ?_
  refine lv_istore_n (lv' := [(1, .int a0_bytesLong), (0, .ref q_a0)]) hx hb dX9_clear_4 rfl hl (by decide) rfl (fun ls hl => ?_)
  refine lv_aload_n hx hb dX9_clear_5 rfl (lv_at hl 1 rfl) ?_
  refine lv_iconst (v := 0) hx hb dX9_clear_6 (by decide) ?_
  refine va_put (D := D) (ci := 8) (v := .int 0) (ty := .int) (C := RX9) (T := TX9) (N := 18) hx hb hts in_X9 tyX9 tyX9_ok nmX9 hown hK hP hD hS 0 rfl rfl 11 (by decide) kf_183 (fun _ h9 => h9) rfl (by decide +kernel) rfl rfl (Nat.le_of_ble_eq_true rfl) dX9_clear_7 (fun H locs hP hD hS => ?_)
  have hP : va_P D vwCl [(q_a0, .inr (8, [.ref q_a0_told, .ref q_a0_kept, .ref q_a0_isKept, .ref q_a0_refused, .long a0_above, .long a0_below, .ref q_a0_manyBy, .ref q_a0_hers, .ref q_a0_his, .ref q_a0_hand, .ref q_a0_bytes, .int 0, .int a0_tokenAt, .int a0_tokenLong, .int a0_token, .int a0_value, .ref q_a0_anew, .ref q_a0_values]))] H := hP
  have hD : va_D A [(q_a0, .inr (8, [.ref q_a0_told, .ref q_a0_kept, .ref q_a0_isKept, .ref q_a0_refused, .long a0_above, .long a0_below, .ref q_a0_manyBy, .ref q_a0_hers, .ref q_a0_his, .ref q_a0_hand, .ref q_a0_bytes, .int 0, .int a0_tokenAt, .int a0_tokenLong, .int a0_token, .int a0_value, .ref q_a0_anew, .ref q_a0_values]))] := hD
  refine lv_iload_n hx hb dX9_clear_10 rfl (lv_at hl 0 rfl) ?_
  subst hQQ
  have hP9 := hP.sub (ws' := [(q_a0, .inr (8, [.ref q_a0_told, .ref q_a0_kept, .ref q_a0_isKept, .ref q_a0_refused, .long a0_above, .long a0_below, .ref q_a0_manyBy, .ref q_a0_hers, .ref q_a0_his, .ref q_a0_hand, .ref q_a0_bytes, .int 0, .int a0_tokenAt, .int a0_tokenLong, .int a0_token, .int a0_value, .ref q_a0_anew, .ref q_a0_values]))]) [0] rfl
  have hD9 := hD.sub (ws' := [(q_a0, .inr (8, [.ref q_a0_told, .ref q_a0_kept, .ref q_a0_isKept, .ref q_a0_refused, .long a0_above, .long a0_below, .ref q_a0_manyBy, .ref q_a0_hers, .ref q_a0_his, .ref q_a0_hand, .ref q_a0_bytes, .int 0, .int a0_tokenAt, .int a0_tokenLong, .int a0_token, .int a0_value, .ref q_a0_anew, .ref q_a0_values]))]) [0] (by decide) rfl
  exact W.iret hx hb hr (fun t ht hW => ⟨⟨a0_bytesLong, 0, rfl, hf, by rw [ht]; exact hP9, hD9⟩, hS.F ht⟩) hS.2.2 dX9_clear_11
