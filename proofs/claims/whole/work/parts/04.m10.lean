def p_X9_drive (a0_told : Nat → Int32) (a0_refused : Nat → Int32) (x1 : Int32) (Q : Int32 → (Nat → Int32) → (Nat → Int32) → Prop) : Prop :=
  p_X9_in x1.toInt64 1 8 (fun r_1 => if r_1 = 0 then (p_X9_bad a0_refused (-2) (fun r_10 u_11 => Q r_10 a0_told u_11)) else (p_X9_many a0_told (fun r_3 => if ((a0_told (4 : Int32).toNatClampNeg) + x1) ≤ r_3 then (p_X9_keep a0_told (fun u_5 => p_X9_goDrive 163 u_5 x1 (fun r_6 u_7 => Q r_6 u_7 a0_refused))) else (p_X9_no a0_refused (fun r_8 u_9 => Q r_8 a0_told u_9)))))
def rmX9_drive : Room := { frames := 4, cells := 0, slots := 0, locals := 96 }
set_option maxHeartbeats 4000000 in
set_option maxRecDepth 100000 in
theorem c_X9_drive (l : Launch) (D : va_G) (cI cZ cO : ClassId) (q_a0 q_a0_told q_a0_kept q_a0_isKept q_a0_refused q_a0_manyBy q_a0_hers q_a0_his q_a0_hand q_a0_bytes q_a0_anew q_a0_values : Nat) (a0_above : Int64) (a0_below : Int64) (a0_bytesLong : Int32) (a0_tokenAt : Int32) (a0_tokenLong : Int32) (a0_token : Int32) (a0_value : Int32) (a0_told : Nat → Int32) (a0_refused : Nat → Int32) (sz : Nat) (x1 : Int32) (Q : Int32 → (Nat → Int32) → (Nat → Int32) → Prop) (hf : p_X9_drive a0_told a0_refused x1 Q) : Met l yX9_drive wsX9_drive rmX9_drive (va_Pc [.ref q_a0, .int x1] (fun U => U.heap.size = sz ∧ va_P D vwCl [(q_a0, .inr (8, [.ref q_a0_told, .ref q_a0_kept, .ref q_a0_isKept, .ref q_a0_refused, .long a0_above, .long a0_below, .ref q_a0_manyBy, .ref q_a0_hers, .ref q_a0_his, .ref q_a0_hand, .ref q_a0_bytes, .int a0_bytesLong, .int a0_tokenAt, .int a0_tokenLong, .int a0_token, .int a0_value, .ref q_a0_anew, .ref q_a0_values])), (q_a0_told, .inl (cI, 163, .inl a0_told)), (q_a0_refused, .inl (cI, 3, .inl a0_refused))] U.heap ∧ XK D cI cZ cO U ∧ va_D (fun _ => True) [(q_a0, .inr (8, [.ref q_a0_told, .ref q_a0_kept, .ref q_a0_isKept, .ref q_a0_refused, .long a0_above, .long a0_below, .ref q_a0_manyBy, .ref q_a0_hers, .ref q_a0_his, .ref q_a0_hand, .ref q_a0_bytes, .int a0_bytesLong, .int a0_tokenAt, .int a0_tokenLong, .int a0_token, .int a0_value, .ref q_a0_anew, .ref q_a0_values])), (q_a0_told, .inl (cI, 163, .inl a0_told)), (q_a0_refused, .inl (cI, 3, .inl a0_refused))])) (va_Qi (fun r (u : (Nat → Int32) × (Nat → Int32)) => Q r u.1 u.2) (fun (u : (Nat → Int32) × (Nat → Int32)) t => va_P D vwCl [(q_a0, .inr (8, [.ref q_a0_told, .ref q_a0_kept, .ref q_a0_isKept, .ref q_a0_refused, .long a0_above, .long a0_below, .ref q_a0_manyBy, .ref q_a0_hers, .ref q_a0_his, .ref q_a0_hand, .ref q_a0_bytes, .int a0_bytesLong, .int a0_tokenAt, .int a0_tokenLong, .int a0_token, .int a0_value, .ref q_a0_anew, .ref q_a0_values])), (q_a0_told, .inl (cI, 163, .inl u.1)), (q_a0_refused, .inl (cI, 3, .inl u.2))] t.heap ∧ va_D (va_A [(q_a0, .inr (8, [.ref q_a0_told, .ref q_a0_kept, .ref q_a0_isKept, .ref q_a0_refused, .long a0_above, .long a0_below, .ref q_a0_manyBy, .ref q_a0_hers, .ref q_a0_his, .ref q_a0_hand, .ref q_a0_bytes, .int a0_bytesLong, .int a0_tokenAt, .int a0_tokenLong, .int a0_token, .int a0_value, .ref q_a0_anew, .ref q_a0_values])), (q_a0_told, .inl (cI, 163, .inl a0_told)), (q_a0_refused, .inl (cI, 3, .inl a0_refused))] sz) [(q_a0, .inr (8, [.ref q_a0_told, .ref q_a0_kept, .ref q_a0_isKept, .ref q_a0_refused, .long a0_above, .long a0_below, .ref q_a0_manyBy, .ref q_a0_hers, .ref q_a0_his, .ref q_a0_hand, .ref q_a0_bytes, .int a0_bytesLong, .int a0_tokenAt, .int a0_tokenLong, .int a0_token, .int a0_value, .ref q_a0_anew, .ref q_a0_values])), (q_a0_told, .inl (cI, 163, .inl u.1)), (q_a0_refused, .inl (cI, 3, .inl u.2))]) (va_A [(q_a0, .inr (8, [.ref q_a0_told, .ref q_a0_kept, .ref q_a0_isKept, .ref q_a0_refused, .long a0_above, .long a0_below, .ref q_a0_manyBy, .ref q_a0_hers, .ref q_a0_his, .ref q_a0_hand, .ref q_a0_bytes, .int a0_bytesLong, .int a0_tokenAt, .int a0_tokenLong, .int a0_token, .int a0_value, .ref q_a0_anew, .ref q_a0_values])), (q_a0_told, .inl (cI, 163, .inl a0_told)), (q_a0_refused, .inl (cI, 3, .inl a0_refused))] sz)) 0 0 (va_A [(q_a0, .inr (8, [.ref q_a0_told, .ref q_a0_kept, .ref q_a0_isKept, .ref q_a0_refused, .long a0_above, .long a0_below, .ref q_a0_manyBy, .ref q_a0_hers, .ref q_a0_his, .ref q_a0_hand, .ref q_a0_bytes, .int a0_bytesLong, .int a0_tokenAt, .int a0_tokenLong, .int a0_token, .int a0_value, .ref q_a0_anew, .ref q_a0_values])), (q_a0_told, .inl (cI, 163, .inl a0_told)), (q_a0_refused, .inl (cI, 3, .inl a0_refused))] sz) := by
  refine Met.ofW (cc := cX9_drive) (maxL := 2) (ret := (some .int)) (by decide) rfl ?_
  intro p e s m args below meth c s₁ B hml hv
  obtain ⟨rfl, hsz, hP, hX, hD0⟩ := hv
  have hK := hX.1
  have hx := B.exec
  have hb := B.bytes
  have hr := B.returns
  have hts := atoms_spec (ws := wsX9_drive) B.pre
  have hown : s.vm.findClass RX9 = some m.cls := findClass_of_methodNamed B.named
  have hlocks := B.notSynchronized
  have in_X9 : ∀ w ∈ wsX90, w ∈ wsX9_drive := fun _ h => List.mem_cons_of_mem _ (List.mem_append_right _ h)
  have kc_113 := hts (.constantLong RX9 113 (8)) (by decide +kernel)
  have kf_7 := hts (.fieldLink RX9 7 "LeftCrestModel" "told" "[I") (by decide +kernel)
  subst hsz
  have hD := hD0.self (sz := s.heap.size)
  generalize hAe : va_A [(q_a0, .inr (8, [.ref q_a0_told, .ref q_a0_kept, .ref q_a0_isKept, .ref q_a0_refused, .long a0_above, .long a0_below, .ref q_a0_manyBy, .ref q_a0_hers, .ref q_a0_his, .ref q_a0_hand, .ref q_a0_bytes, .int a0_bytesLong, .int a0_tokenAt, .int a0_tokenLong, .int a0_token, .int a0_value, .ref q_a0_anew, .ref q_a0_values])), (q_a0_told, .inl (cI, 163, .inl a0_told)), (q_a0_refused, .inl (cI, 3, .inl a0_refused))] s.heap.size = A at hD ⊢
  have hA : ∀ q : Nat, s.heap.size ≤ q → A q := fun q h => by rw [← hAe]; exact Or.inr h
  have hS : va_S A s.heap s.heap [] := va_S.rf
  have hP : va_P D vwCl [(q_a0, .inr (8, [.ref q_a0_told, .ref q_a0_kept, .ref q_a0_isKept, .ref q_a0_refused, .long a0_above, .long a0_below, .ref q_a0_manyBy, .ref q_a0_hers, .ref q_a0_his, .ref q_a0_hand, .ref q_a0_bytes, .int a0_bytesLong, .int a0_tokenAt, .int a0_tokenLong, .int a0_token, .int a0_value, .ref q_a0_anew, .ref q_a0_values])), (q_a0_told, .inl (cI, 163, .inl a0_told)), (q_a0_refused, .inl (cI, 3, .inl a0_refused))] s.heap := hP
  generalize hQQ : MQ below _ _ s _ _ _ = QQ
  have hl := lv_entry ([.ref q_a0, .int x1]) (n := 2) (Nat.le_of_ble_eq_true rfl)
  rw [lg_entry_eq]
  generalize (lg_sl ([.ref q_a0, .int x1]) ++ List.replicate (2 - (lg_sl ([.ref q_a0, .int x1])).length) Slot.unset).toArray = ls at hl ⊢
  have hl : lv_has ls 2 [(0, .ref q_a0), (1, .int x1)] := hl
  unfold p_X9_drive at hf
  refine lv_iload_n hx hb dX9_drive_0 rfl (lv_at hl 1 rfl) ?_
  refine lv_i2l hx hb dX9_drive_1 rfl ?_
  refine lv_lconst (v := 1) hx hb dX9_drive_2 (by decide) ?_
  refine lv_ldc2 (v := 8) hx hb hown kc_113 dX9_drive_3 ?_
  refine ya_csi (va_runS (As := [.long x1.toInt64, .long 1, .long 8]) (rest := []) ⟨hx, hb, hml, hown, hts⟩ (c_X9_in l D cI cZ cO  x1.toInt64 1 8 _ hf) (va_cwS 3 hts gX9_drive_X9_in rfl rfl rfl (by decide +kernel) ⟨Nat.le_of_ble_eq_true rfl, Nat.le_of_ble_eq_true rfl⟩) (ps_ro va_P0 hX) rfl rfl hl.1 rfl (lv_room (Nat.le_of_ble_eq_true rfl)) dX9_drive_6 ⟨Nat.zero_le _, Nat.zero_le _⟩) (fun r_1 hf => ?_)
  refine lv_if_ne (tgt := 19) hx hb dX9_drive_9 (by decide) (fun c_2 => ?_) (fun c_2 => ?_)
  · have hf := it_f c_2 hf
    refine lv_aload_n hx hb dX9_drive_19 rfl (lv_at hl 0 rfl) ?_
    refine va_get (D := D) (ci := 8) (v := .ref q_a0_told) (C := RX9) (T := TX9) (N := 18) hx hb hts in_X9 hown hK hP 0 rfl rfl 0 (by decide) kf_7 (fun _ h9 => h9) rfl dX9_drive_20 ?_
    refine lv_iconst (v := 4) hx hb dX9_drive_23 (by decide) ?_
    refine va_iald hx hb hK hP 1 0 rfl rfl (by unfold vp_in; decide) dX9_drive_24 ?_
    refine lv_iload_n hx hb dX9_drive_25 rfl (lv_at hl 1 rfl) ?_
    refine lv_iadd hx hb dX9_drive_26 ?_
    refine lv_aload_n hx hb dX9_drive_27 rfl (lv_at hl 0 rfl) ?_
    refine ya_csi (va_runV (As := []) (rest := [.int ((a0_told (4 : Int32).toNatClampNeg) + x1)]) ⟨hx, hb, hml, hown, hts⟩ (c_X9_many l D cI cZ cO q_a0 q_a0_told q_a0_kept q_a0_isKept q_a0_refused q_a0_manyBy q_a0_hers q_a0_his q_a0_hand q_a0_bytes q_a0_anew q_a0_values a0_above a0_below a0_bytesLong a0_tokenAt a0_tokenLong a0_token a0_value a0_told  _ hf) (cwV 0 hts gX9_drive_X9_many rfl rfl rfl (by decide +kernel) ⟨Nat.le_of_ble_eq_true rfl, Nat.le_of_ble_eq_true rfl⟩) (pv_ro (ci := 8) (q0 := 0) (hP.sub [0, 1] rfl) hX rfl rfl) rfl rfl hl.1 rfl (lv_room (Nat.le_of_ble_eq_true rfl)) dX9_drive_28 ⟨Nat.zero_le _, Nat.zero_le _⟩) (fun r_3 hf => ?_)
    refine lv_icmp_le (tgt := 39) hx hb dX9_drive_31 (by decide) (fun c_4 => ?_) (fun c_4 => ?_)
    · have hf := it_t c_4 hf
      refine lv_aload_n hx hb dX9_drive_39 rfl (lv_at hl 0 rfl) ?_
      have hPc := hP.sub (ws' := [(q_a0, .inr (8, [.ref q_a0_told, .ref q_a0_kept, .ref q_a0_isKept, .ref q_a0_refused, .long a0_above, .long a0_below, .ref q_a0_manyBy, .ref q_a0_hers, .ref q_a0_his, .ref q_a0_hand, .ref q_a0_bytes, .int a0_bytesLong, .int a0_tokenAt, .int a0_tokenLong, .int a0_token, .int a0_value, .ref q_a0_anew, .ref q_a0_values])), (q_a0_told, .inl (cI, 163, .inl a0_told))]) [0, 1] rfl
      have hDc := hD.sub (ws' := [(q_a0, .inr (8, [.ref q_a0_told, .ref q_a0_kept, .ref q_a0_isKept, .ref q_a0_refused, .long a0_above, .long a0_below, .ref q_a0_manyBy, .ref q_a0_hers, .ref q_a0_his, .ref q_a0_hand, .ref q_a0_bytes, .int a0_bytesLong, .int a0_tokenAt, .int a0_tokenLong, .int a0_token, .int a0_value, .ref q_a0_anew, .ref q_a0_values])), (q_a0_told, .inl (cI, 163, .inl a0_told))]) [0, 1] (by decide) rfl
      have hFc := va_free (wc := [(q_a0, .inr (8, [.ref q_a0_told, .ref q_a0_kept, .ref q_a0_isKept, .ref q_a0_refused, .long a0_above, .long a0_below, .ref q_a0_manyBy, .ref q_a0_hers, .ref q_a0_his, .ref q_a0_hand, .ref q_a0_bytes, .int a0_bytesLong, .int a0_tokenAt, .int a0_tokenLong, .int a0_token, .int a0_value, .ref q_a0_anew, .ref q_a0_values])), (q_a0_told, .inl (cI, 163, .inl a0_told))]) hD hS hA [0, 1] rfl
      refine va_callv (va_runV (As := []) (rest := []) ⟨hx, hb, hml, hown, hts⟩ (c_X9_keep l D cI cZ cO q_a0 q_a0_told q_a0_kept q_a0_isKept q_a0_refused q_a0_manyBy q_a0_hers q_a0_his q_a0_hand q_a0_bytes q_a0_anew q_a0_values a0_above a0_below a0_bytesLong a0_tokenAt a0_tokenLong a0_token a0_value a0_told s.heap.size  _ hf) (cwV 0 hts gX9_drive_X9_keep rfl rfl rfl (by decide +kernel) ⟨Nat.le_of_ble_eq_true rfl, Nat.le_of_ble_eq_true rfl⟩) (pv_rw (ci := 8) (q0 := 0) hPc hDc hX rfl rfl) rfl rfl hl.1 rfl (lv_room (Nat.le_of_ble_eq_true rfl)) dX9_drive_40 ⟨Nat.zero_le _, Nat.zero_le _⟩) hS (fun q _ h => hFc q h) hFc (fun u t H1 locs ht hvm hf hB hz1 hk1 hS => ?_)
      obtain ⟨u_5, rfl⟩ : ∃ z, z = u := ⟨_, rfl⟩
      obtain ⟨hP1, hD1⟩ := hB
      rw [ht] at hP1
      clear hvm
      obtain ⟨hP, hD⟩ := va_join (wr := [(q_a0_refused, .inl (cI, 3, .inl a0_refused))]) (w1 := [(q_a0, .inr (8, [.ref q_a0_told, .ref q_a0_kept, .ref q_a0_isKept, .ref q_a0_refused, .long a0_above, .long a0_below, .ref q_a0_manyBy, .ref q_a0_hers, .ref q_a0_his, .ref q_a0_hand, .ref q_a0_bytes, .int a0_bytesLong, .int a0_tokenAt, .int a0_tokenLong, .int a0_token, .int a0_value, .ref q_a0_anew, .ref q_a0_values])), (q_a0_told, .inl (cI, 163, .inl u_5))]) hP hD [0, 1] [2] rfl rfl (by decide) (by decide) hk1 hFc hP1 hD1
      clear hz1 hk1 hPc hDc hFc hP1 hD1
      generalize H1 = H at hP hS ⊢
      have hP : va_P D vwCl [(q_a0_refused, .inl (cI, 3, .inl a0_refused)), (q_a0, .inr (8, [.ref q_a0_told, .ref q_a0_kept, .ref q_a0_isKept, .ref q_a0_refused, .long a0_above, .long a0_below, .ref q_a0_manyBy, .ref q_a0_hers, .ref q_a0_his, .ref q_a0_hand, .ref q_a0_bytes, .int a0_bytesLong, .int a0_tokenAt, .int a0_tokenLong, .int a0_token, .int a0_value, .ref q_a0_anew, .ref q_a0_values])), (q_a0_told, .inl (cI, 163, .inl u_5))] H := hP
      have hD : va_D A [(q_a0_refused, .inl (cI, 3, .inl a0_refused)), (q_a0, .inr (8, [.ref q_a0_told, .ref q_a0_kept, .ref q_a0_isKept, .ref q_a0_refused, .long a0_above, .long a0_below, .ref q_a0_manyBy, .ref q_a0_hers, .ref q_a0_his, .ref q_a0_hand, .ref q_a0_bytes, .int a0_bytesLong, .int a0_tokenAt, .int a0_tokenLong, .int a0_token, .int a0_value, .ref q_a0_anew, .ref q_a0_values])), (q_a0_told, .inl (cI, 163, .inl u_5))] := hD
      refine lv_aload_n hx hb dX9_drive_43 rfl (lv_at hl 0 rfl) ?_
      refine va_get (D := D) (ci := 8) (v := .ref q_a0_told) (C := RX9) (T := TX9) (N := 18) hx hb hts in_X9 hown hK hP 1 rfl rfl 0 (by decide) kf_7 (fun _ h9 => h9) rfl dX9_drive_44 ?_
      refine lv_iload_n hx hb dX9_drive_47 rfl (lv_at hl 1 rfl) ?_
      have hPc := hP.sub (ws' := [(q_a0_told, .inl (cI, 163, .inl u_5))]) [2] rfl
      have hDc := hD.sub (ws' := [(q_a0_told, .inl (cI, 163, .inl u_5))]) [2] (by decide) rfl
      have hFc := va_free (wc := [(q_a0_told, .inl (cI, 163, .inl u_5))]) hD hS hA [2] rfl
      refine va_calli (va_runS (As := [.ref q_a0_told, .int x1]) (rest := []) ⟨hx, hb, hml, hown, hts⟩ (c_X9_goDrive l D cI cZ cO q_a0_told 163 u_5 H.size x1 _ hf) (va_cwS 2 hts gX9_drive_X9_goDrive rfl rfl rfl (by decide +kernel) ⟨Nat.le_of_ble_eq_true rfl, Nat.le_of_ble_eq_true rfl⟩) (ps_rw hPc hDc hX) rfl rfl hl.1 rfl (lv_room (Nat.le_of_ble_eq_true rfl)) dX9_drive_48 ⟨Nat.zero_le _, Nat.zero_le _⟩) hS (fun q _ h => hFc q h) hFc (fun r_6 u t H1 locs ht hvm hf hB hz1 hk1 hS => ?_)
      obtain ⟨u_7, rfl⟩ : ∃ z, z = u := ⟨_, rfl⟩
      obtain ⟨hP1, hD1⟩ := hB
      rw [ht] at hP1
      clear hvm
      obtain ⟨hP, hD⟩ := va_join (wr := [(q_a0_refused, .inl (cI, 3, .inl a0_refused)), (q_a0, .inr (8, [.ref q_a0_told, .ref q_a0_kept, .ref q_a0_isKept, .ref q_a0_refused, .long a0_above, .long a0_below, .ref q_a0_manyBy, .ref q_a0_hers, .ref q_a0_his, .ref q_a0_hand, .ref q_a0_bytes, .int a0_bytesLong, .int a0_tokenAt, .int a0_tokenLong, .int a0_token, .int a0_value, .ref q_a0_anew, .ref q_a0_values]))]) (w1 := [(q_a0_told, .inl (cI, 163, .inl u_7))]) hP hD [2] [0, 1] rfl rfl (by decide) (by decide) hk1 hFc hP1 hD1
      clear hz1 hk1 hPc hDc hFc hP1 hD1
      generalize H1 = H at hP hS ⊢
      have hP : va_P D vwCl [(q_a0_refused, .inl (cI, 3, .inl a0_refused)), (q_a0, .inr (8, [.ref q_a0_told, .ref q_a0_kept, .ref q_a0_isKept, .ref q_a0_refused, .long a0_above, .long a0_below, .ref q_a0_manyBy, .ref q_a0_hers, .ref q_a0_his, .ref q_a0_hand, .ref q_a0_bytes, .int a0_bytesLong, .int a0_tokenAt, .int a0_tokenLong, .int a0_token, .int a0_value, .ref q_a0_anew, .ref q_a0_values])), (q_a0_told, .inl (cI, 163, .inl u_7))] H := hP
      have hD : va_D A [(q_a0_refused, .inl (cI, 3, .inl a0_refused)), (q_a0, .inr (8, [.ref q_a0_told, .ref q_a0_kept, .ref q_a0_isKept, .ref q_a0_refused, .long a0_above, .long a0_below, .ref q_a0_manyBy, .ref q_a0_hers, .ref q_a0_his, .ref q_a0_hand, .ref q_a0_bytes, .int a0_bytesLong, .int a0_tokenAt, .int a0_tokenLong, .int a0_token, .int a0_value, .ref q_a0_anew, .ref q_a0_values])), (q_a0_told, .inl (cI, 163, .inl u_7))] := hD
      subst hQQ
      have hP9 := hP.sub (ws' := [(q_a0, .inr (8, [.ref q_a0_told, .ref q_a0_kept, .ref q_a0_isKept, .ref q_a0_refused, .long a0_above, .long a0_below, .ref q_a0_manyBy, .ref q_a0_hers, .ref q_a0_his, .ref q_a0_hand, .ref q_a0_bytes, .int a0_bytesLong, .int a0_tokenAt, .int a0_tokenLong, .int a0_token, .int a0_value, .ref q_a0_anew, .ref q_a0_values])), (q_a0_told, .inl (cI, 163, .inl u_7)), (q_a0_refused, .inl (cI, 3, .inl a0_refused))]) [1, 2, 0] rfl
      have hD9 := hD.sub (ws' := [(q_a0, .inr (8, [.ref q_a0_told, .ref q_a0_kept, .ref q_a0_isKept, .ref q_a0_refused, .long a0_above, .long a0_below, .ref q_a0_manyBy, .ref q_a0_hers, .ref q_a0_his, .ref q_a0_hand, .ref q_a0_bytes, .int a0_bytesLong, .int a0_tokenAt, .int a0_tokenLong, .int a0_token, .int a0_value, .ref q_a0_anew, .ref q_a0_values])), (q_a0_told, .inl (cI, 163, .inl u_7)), (q_a0_refused, .inl (cI, 3, .inl a0_refused))]) [1, 2, 0] (by decide) rfl
      exact W.iret hx hb hr (fun t ht hW => ⟨⟨r_6, (u_7, a0_refused), rfl, hf, by rw [ht]; exact hP9, hD9⟩, hS.F ht⟩) hS.2.2 dX9_drive_51
    · have hf := it_f c_4 hf
      refine lv_aload_n hx hb dX9_drive_34 rfl (lv_at hl 0 rfl) ?_
      have hPc := hP.sub (ws' := [(q_a0, .inr (8, [.ref q_a0_told, .ref q_a0_kept, .ref q_a0_isKept, .ref q_a0_refused, .long a0_above, .long a0_below, .ref q_a0_manyBy, .ref q_a0_hers, .ref q_a0_his, .ref q_a0_hand, .ref q_a0_bytes, .int a0_bytesLong, .int a0_tokenAt, .int a0_tokenLong, .int a0_token, .int a0_value, .ref q_a0_anew, .ref q_a0_values])), (q_a0_refused, .inl (cI, 3, .inl a0_refused))]) [0, 2] rfl
      have hDc := hD.sub (ws' := [(q_a0, .inr (8, [.ref q_a0_told, .ref q_a0_kept, .ref q_a0_isKept, .ref q_a0_refused, .long a0_above, .long a0_below, .ref q_a0_manyBy, .ref q_a0_hers, .ref q_a0_his, .ref q_a0_hand, .ref q_a0_bytes, .int a0_bytesLong, .int a0_tokenAt, .int a0_tokenLong, .int a0_token, .int a0_value, .ref q_a0_anew, .ref q_a0_values])), (q_a0_refused, .inl (cI, 3, .inl a0_refused))]) [0, 2] (by decide) rfl
      have hFc := va_free (wc := [(q_a0, .inr (8, [.ref q_a0_told, .ref q_a0_kept, .ref q_a0_isKept, .ref q_a0_refused, .long a0_above, .long a0_below, .ref q_a0_manyBy, .ref q_a0_hers, .ref q_a0_his, .ref q_a0_hand, .ref q_a0_bytes, .int a0_bytesLong, .int a0_tokenAt, .int a0_tokenLong, .int a0_token, .int a0_value, .ref q_a0_anew, .ref q_a0_values])), (q_a0_refused, .inl (cI, 3, .inl a0_refused))]) hD hS hA [0, 2] rfl
      refine va_calli (va_runV (As := []) (rest := []) ⟨hx, hb, hml, hown, hts⟩ (c_X9_no l D cI cZ cO q_a0 q_a0_told q_a0_kept q_a0_isKept q_a0_refused q_a0_manyBy q_a0_hers q_a0_his q_a0_hand q_a0_bytes q_a0_anew q_a0_values a0_above a0_below a0_bytesLong a0_tokenAt a0_tokenLong a0_token a0_value a0_refused s.heap.size  _ hf) (cwV 0 hts gX9_drive_X9_no rfl rfl rfl (by decide +kernel) ⟨Nat.le_of_ble_eq_true rfl, Nat.le_of_ble_eq_true rfl⟩) (pv_rw (ci := 8) (q0 := 0) hPc hDc hX rfl rfl) rfl rfl hl.1 rfl (lv_room (Nat.le_of_ble_eq_true rfl)) dX9_drive_35 ⟨Nat.zero_le _, Nat.zero_le _⟩) hS (fun q _ h => hFc q h) hFc (fun r_8 u t H1 locs ht hvm hf hB hz1 hk1 hS => ?_)
      obtain ⟨u_9, rfl⟩ : ∃ z, z = u := ⟨_, rfl⟩
      obtain ⟨hP1, hD1⟩ := hB
      rw [ht] at hP1
      clear hvm
      obtain ⟨hP, hD⟩ := va_join (wr := [(q_a0_told, .inl (cI, 163, .inl a0_told))]) (w1 := [(q_a0, .inr (8, [.ref q_a0_told, .ref q_a0_kept, .ref q_a0_isKept, .ref q_a0_refused, .long a0_above, .long a0_below, .ref q_a0_manyBy, .ref q_a0_hers, .ref q_a0_his, .ref q_a0_hand, .ref q_a0_bytes, .int a0_bytesLong, .int a0_tokenAt, .int a0_tokenLong, .int a0_token, .int a0_value, .ref q_a0_anew, .ref q_a0_values])), (q_a0_refused, .inl (cI, 3, .inl u_9))]) hP hD [0, 2] [1] rfl rfl (by decide) (by decide) hk1 hFc hP1 hD1
      clear hz1 hk1 hPc hDc hFc hP1 hD1
      generalize H1 = H at hP hS ⊢
      have hP : va_P D vwCl [(q_a0_told, .inl (cI, 163, .inl a0_told)), (q_a0, .inr (8, [.ref q_a0_told, .ref q_a0_kept, .ref q_a0_isKept, .ref q_a0_refused, .long a0_above, .long a0_below, .ref q_a0_manyBy, .ref q_a0_hers, .ref q_a0_his, .ref q_a0_hand, .ref q_a0_bytes, .int a0_bytesLong, .int a0_tokenAt, .int a0_tokenLong, .int a0_token, .int a0_value, .ref q_a0_anew, .ref q_a0_values])), (q_a0_refused, .inl (cI, 3, .inl u_9))] H := hP
      have hD : va_D A [(q_a0_told, .inl (cI, 163, .inl a0_told)), (q_a0, .inr (8, [.ref q_a0_told, .ref q_a0_kept, .ref q_a0_isKept, .ref q_a0_refused, .long a0_above, .long a0_below, .ref q_a0_manyBy, .ref q_a0_hers, .ref q_a0_his, .ref q_a0_hand, .ref q_a0_bytes, .int a0_bytesLong, .int a0_tokenAt, .int a0_tokenLong, .int a0_token, .int a0_value, .ref q_a0_anew, .ref q_a0_values])), (q_a0_refused, .inl (cI, 3, .inl u_9))] := hD
      subst hQQ
      have hP9 := hP.sub (ws' := [(q_a0, .inr (8, [.ref q_a0_told, .ref q_a0_kept, .ref q_a0_isKept, .ref q_a0_refused, .long a0_above, .long a0_below, .ref q_a0_manyBy, .ref q_a0_hers, .ref q_a0_his, .ref q_a0_hand, .ref q_a0_bytes, .int a0_bytesLong, .int a0_tokenAt, .int a0_tokenLong, .int a0_token, .int a0_value, .ref q_a0_anew, .ref q_a0_values])), (q_a0_told, .inl (cI, 163, .inl a0_told)), (q_a0_refused, .inl (cI, 3, .inl u_9))]) [1, 0, 2] rfl
      have hD9 := hD.sub (ws' := [(q_a0, .inr (8, [.ref q_a0_told, .ref q_a0_kept, .ref q_a0_isKept, .ref q_a0_refused, .long a0_above, .long a0_below, .ref q_a0_manyBy, .ref q_a0_hers, .ref q_a0_his, .ref q_a0_hand, .ref q_a0_bytes, .int a0_bytesLong, .int a0_tokenAt, .int a0_tokenLong, .int a0_token, .int a0_value, .ref q_a0_anew, .ref q_a0_values])), (q_a0_told, .inl (cI, 163, .inl a0_told)), (q_a0_refused, .inl (cI, 3, .inl u_9))]) [1, 0, 2] (by decide) rfl
      exact W.iret hx hb hr (fun t ht hW => ⟨⟨r_8, (a0_told, u_9), rfl, hf, by rw [ht]; exact hP9, hD9⟩, hS.F ht⟩) hS.2.2 dX9_drive_38
  · have hf := it_t c_2 hf
    refine lv_aload_n hx hb dX9_drive_12 rfl (lv_at hl 0 rfl) ?_
    refine lv_bipush (v := (-2)) hx hb dX9_drive_13 (by decide) ?_
    have hPc := hP.sub (ws' := [(q_a0, .inr (8, [.ref q_a0_told, .ref q_a0_kept, .ref q_a0_isKept, .ref q_a0_refused, .long a0_above, .long a0_below, .ref q_a0_manyBy, .ref q_a0_hers, .ref q_a0_his, .ref q_a0_hand, .ref q_a0_bytes, .int a0_bytesLong, .int a0_tokenAt, .int a0_tokenLong, .int a0_token, .int a0_value, .ref q_a0_anew, .ref q_a0_values])), (q_a0_refused, .inl (cI, 3, .inl a0_refused))]) [0, 2] rfl
    have hDc := hD.sub (ws' := [(q_a0, .inr (8, [.ref q_a0_told, .ref q_a0_kept, .ref q_a0_isKept, .ref q_a0_refused, .long a0_above, .long a0_below, .ref q_a0_manyBy, .ref q_a0_hers, .ref q_a0_his, .ref q_a0_hand, .ref q_a0_bytes, .int a0_bytesLong, .int a0_tokenAt, .int a0_tokenLong, .int a0_token, .int a0_value, .ref q_a0_anew, .ref q_a0_values])), (q_a0_refused, .inl (cI, 3, .inl a0_refused))]) [0, 2] (by decide) rfl
    have hFc := va_free (wc := [(q_a0, .inr (8, [.ref q_a0_told, .ref q_a0_kept, .ref q_a0_isKept, .ref q_a0_refused, .long a0_above, .long a0_below, .ref q_a0_manyBy, .ref q_a0_hers, .ref q_a0_his, .ref q_a0_hand, .ref q_a0_bytes, .int a0_bytesLong, .int a0_tokenAt, .int a0_tokenLong, .int a0_token, .int a0_value, .ref q_a0_anew, .ref q_a0_values])), (q_a0_refused, .inl (cI, 3, .inl a0_refused))]) hD hS hA [0, 2] rfl
    refine va_calli (va_runV (As := [.int (-2)]) (rest := []) ⟨hx, hb, hml, hown, hts⟩ (c_X9_bad l D cI cZ cO q_a0 q_a0_told q_a0_kept q_a0_isKept q_a0_refused q_a0_manyBy q_a0_hers q_a0_his q_a0_hand q_a0_bytes q_a0_anew q_a0_values a0_above a0_below a0_bytesLong a0_tokenAt a0_tokenLong a0_token a0_value a0_refused s.heap.size (-2) _ hf) (cwV 1 hts gX9_drive_X9_bad rfl rfl rfl (by decide +kernel) ⟨Nat.le_of_ble_eq_true rfl, Nat.le_of_ble_eq_true rfl⟩) (pv_rw (ci := 8) (q0 := 0) hPc hDc hX rfl rfl) rfl rfl hl.1 rfl (lv_room (Nat.le_of_ble_eq_true rfl)) dX9_drive_15 ⟨Nat.zero_le _, Nat.zero_le _⟩) hS (fun q _ h => hFc q h) hFc (fun r_10 u t H1 locs ht hvm hf hB hz1 hk1 hS => ?_)
    obtain ⟨u_11, rfl⟩ : ∃ z, z = u := ⟨_, rfl⟩
    obtain ⟨hP1, hD1⟩ := hB
    rw [ht] at hP1
    clear hvm
    obtain ⟨hP, hD⟩ := va_join (wr := [(q_a0_told, .inl (cI, 163, .inl a0_told))]) (w1 := [(q_a0, .inr (8, [.ref q_a0_told, .ref q_a0_kept, .ref q_a0_isKept, .ref q_a0_refused, .long a0_above, .long a0_below, .ref q_a0_manyBy, .ref q_a0_hers, .ref q_a0_his, .ref q_a0_hand, .ref q_a0_bytes, .int a0_bytesLong, .int a0_tokenAt, .int a0_tokenLong, .int a0_token, .int a0_value, .ref q_a0_anew, .ref q_a0_values])), (q_a0_refused, .inl (cI, 3, .inl u_11))]) hP hD [0, 2] [1] rfl rfl (by decide) (by decide) hk1 hFc hP1 hD1
    clear hz1 hk1 hPc hDc hFc hP1 hD1
    generalize H1 = H at hP hS ⊢
    have hP : va_P D vwCl [(q_a0_told, .inl (cI, 163, .inl a0_told)), (q_a0, .inr (8, [.ref q_a0_told, .ref q_a0_kept, .ref q_a0_isKept, .ref q_a0_refused, .long a0_above, .long a0_below, .ref q_a0_manyBy, .ref q_a0_hers, .ref q_a0_his, .ref q_a0_hand, .ref q_a0_bytes, .int a0_bytesLong, .int a0_tokenAt, .int a0_tokenLong, .int a0_token, .int a0_value, .ref q_a0_anew, .ref q_a0_values])), (q_a0_refused, .inl (cI, 3, .inl u_11))] H := hP
    have hD : va_D A [(q_a0_told, .inl (cI, 163, .inl a0_told)), (q_a0, .inr (8, [.ref q_a0_told, .ref q_a0_kept, .ref q_a0_isKept, .ref q_a0_refused, .long a0_above, .long a0_below, .ref q_a0_manyBy, .ref q_a0_hers, .ref q_a0_his, .ref q_a0_hand, .ref q_a0_bytes, .int a0_bytesLong, .int a0_tokenAt, .int a0_tokenLong, .int a0_token, .int a0_value, .ref q_a0_anew, .ref q_a0_values])), (q_a0_refused, .inl (cI, 3, .inl u_11))] := hD
    subst hQQ
    have hP9 := hP.sub (ws' := [(q_a0, .inr (8, [.ref q_a0_told, .ref q_a0_kept, .ref q_a0_isKept, .ref q_a0_refused, .long a0_above, .long a0_below, .ref q_a0_manyBy, .ref q_a0_hers, .ref q_a0_his, .ref q_a0_hand, .ref q_a0_bytes, .int a0_bytesLong, .int a0_tokenAt, .int a0_tokenLong, .int a0_token, .int a0_value, .ref q_a0_anew, .ref q_a0_values])), (q_a0_told, .inl (cI, 163, .inl a0_told)), (q_a0_refused, .inl (cI, 3, .inl u_11))]) [1, 0, 2] rfl
    have hD9 := hD.sub (ws' := [(q_a0, .inr (8, [.ref q_a0_told, .ref q_a0_kept, .ref q_a0_isKept, .ref q_a0_refused, .long a0_above, .long a0_below, .ref q_a0_manyBy, .ref q_a0_hers, .ref q_a0_his, .ref q_a0_hand, .ref q_a0_bytes, .int a0_bytesLong, .int a0_tokenAt, .int a0_tokenLong, .int a0_token, .int a0_value, .ref q_a0_anew, .ref q_a0_values])), (q_a0_told, .inl (cI, 163, .inl a0_told)), (q_a0_refused, .inl (cI, 3, .inl u_11))]) [1, 0, 2] (by decide) rfl
    exact W.iret hx hb hr (fun t ht hW => ⟨⟨r_10, (a0_told, u_11), rfl, hf, by rw [ht]; exact hP9, hD9⟩, hS.F ht⟩) hS.2.2 dX9_drive_18
def p_X9_write (a0_told : Nat → Int32) (a0_refused : Nat → Int32) (x1 : Int32) (x2 : Int32) (Q : Int32 → (Nat → Int32) → (Nat → Int32) → Prop) : Prop :=
  p_X9_isBend a0_told x1 (fun r_1 => if r_1 = 0 then (p_X9_bad a0_refused (-2) (fun r_3 u_4 => Q r_3 a0_told u_4)) else (p_X9_isNote x2 (fun r_5 => if r_5 = 0 then (p_X9_bad a0_refused (-2) (fun r_9 u_10 => Q r_9 a0_told u_10)) else (p_X9_noteOf a0_told x1 (fun r_7 => p_X9_keep a0_told (fun u_8 => vp_in (7 + x1) 163 ∧ (Q r_7 (upd u_8 ((7 + x1).toNatClampNeg) x2) a0_refused)))))))
def rmX9_write : Room := { frames := 2, cells := 0, slots := 0, locals := 46 }
set_option maxHeartbeats 4000000 in
set_option maxRecDepth 100000 in
theorem c_X9_write (l : Launch) (D : va_G) (cI cZ cO : ClassId) (q_a0 q_a0_told q_a0_kept q_a0_isKept q_a0_refused q_a0_manyBy q_a0_hers q_a0_his q_a0_hand q_a0_bytes q_a0_anew q_a0_values : Nat) (a0_above : Int64) (a0_below : Int64) (a0_bytesLong : Int32) (a0_tokenAt : Int32) (a0_tokenLong : Int32) (a0_token : Int32) (a0_value : Int32) (a0_told : Nat → Int32) (a0_refused : Nat → Int32) (sz : Nat) (x1 : Int32) (x2 : Int32) (Q : Int32 → (Nat → Int32) → (Nat → Int32) → Prop) (hf : p_X9_write a0_told a0_refused x1 x2 Q) : Met l yX9_write wsX9_write rmX9_write (va_Pc [.ref q_a0, .int x1, .int x2] (fun U => U.heap.size = sz ∧ va_P D vwCl [(q_a0, .inr (8, [.ref q_a0_told, .ref q_a0_kept, .ref q_a0_isKept, .ref q_a0_refused, .long a0_above, .long a0_below, .ref q_a0_manyBy, .ref q_a0_hers, .ref q_a0_his, .ref q_a0_hand, .ref q_a0_bytes, .int a0_bytesLong, .int a0_tokenAt, .int a0_tokenLong, .int a0_token, .int a0_value, .ref q_a0_anew, .ref q_a0_values])), (q_a0_told, .inl (cI, 163, .inl a0_told)), (q_a0_refused, .inl (cI, 3, .inl a0_refused))] U.heap ∧ XK D cI cZ cO U ∧ va_D (fun _ => True) [(q_a0, .inr (8, [.ref q_a0_told, .ref q_a0_kept, .ref q_a0_isKept, .ref q_a0_refused, .long a0_above, .long a0_below, .ref q_a0_manyBy, .ref q_a0_hers, .ref q_a0_his, .ref q_a0_hand, .ref q_a0_bytes, .int a0_bytesLong, .int a0_tokenAt, .int a0_tokenLong, .int a0_token, .int a0_value, .ref q_a0_anew, .ref q_a0_values])), (q_a0_told, .inl (cI, 163, .inl a0_told)), (q_a0_refused, .inl (cI, 3, .inl a0_refused))])) (va_Qi (fun r (u : (Nat → Int32) × (Nat → Int32)) => Q r u.1 u.2) (fun (u : (Nat → Int32) × (Nat → Int32)) t => va_P D vwCl [(q_a0, .inr (8, [.ref q_a0_told, .ref q_a0_kept, .ref q_a0_isKept, .ref q_a0_refused, .long a0_above, .long a0_below, .ref q_a0_manyBy, .ref q_a0_hers, .ref q_a0_his, .ref q_a0_hand, .ref q_a0_bytes, .int a0_bytesLong, .int a0_tokenAt, .int a0_tokenLong, .int a0_token, .int a0_value, .ref q_a0_anew, .ref q_a0_values])), (q_a0_told, .inl (cI, 163, .inl u.1)), (q_a0_refused, .inl (cI, 3, .inl u.2))] t.heap ∧ va_D (va_A [(q_a0, .inr (8, [.ref q_a0_told, .ref q_a0_kept, .ref q_a0_isKept, .ref q_a0_refused, .long a0_above, .long a0_below, .ref q_a0_manyBy, .ref q_a0_hers, .ref q_a0_his, .ref q_a0_hand, .ref q_a0_bytes, .int a0_bytesLong, .int a0_tokenAt, .int a0_tokenLong, .int a0_token, .int a0_value, .ref q_a0_anew, .ref q_a0_values])), (q_a0_told, .inl (cI, 163, .inl a0_told)), (q_a0_refused, .inl (cI, 3, .inl a0_refused))] sz) [(q_a0, .inr (8, [.ref q_a0_told, .ref q_a0_kept, .ref q_a0_isKept, .ref q_a0_refused, .long a0_above, .long a0_below, .ref q_a0_manyBy, .ref q_a0_hers, .ref q_a0_his, .ref q_a0_hand, .ref q_a0_bytes, .int a0_bytesLong, .int a0_tokenAt, .int a0_tokenLong, .int a0_token, .int a0_value, .ref q_a0_anew, .ref q_a0_values])), (q_a0_told, .inl (cI, 163, .inl u.1)), (q_a0_refused, .inl (cI, 3, .inl u.2))]) (va_A [(q_a0, .inr (8, [.ref q_a0_told, .ref q_a0_kept, .ref q_a0_isKept, .ref q_a0_refused, .long a0_above, .long a0_below, .ref q_a0_manyBy, .ref q_a0_hers, .ref q_a0_his, .ref q_a0_hand, .ref q_a0_bytes, .int a0_bytesLong, .int a0_tokenAt, .int a0_tokenLong, .int a0_token, .int a0_value, .ref q_a0_anew, .ref q_a0_values])), (q_a0_told, .inl (cI, 163, .inl a0_told)), (q_a0_refused, .inl (cI, 3, .inl a0_refused))] sz)) 0 0 (va_A [(q_a0, .inr (8, [.ref q_a0_told, .ref q_a0_kept, .ref q_a0_isKept, .ref q_a0_refused, .long a0_above, .long a0_below, .ref q_a0_manyBy, .ref q_a0_hers, .ref q_a0_his, .ref q_a0_hand, .ref q_a0_bytes, .int a0_bytesLong, .int a0_tokenAt, .int a0_tokenLong, .int a0_token, .int a0_value, .ref q_a0_anew, .ref q_a0_values])), (q_a0_told, .inl (cI, 163, .inl a0_told)), (q_a0_refused, .inl (cI, 3, .inl a0_refused))] sz) := by
  refine Met.ofW (cc := cX9_write) (maxL := 4) (ret := (some .int)) (by decide) rfl ?_
  intro p e s m args below meth c s₁ B hml hv
  obtain ⟨rfl, hsz, hP, hX, hD0⟩ := hv
  have hK := hX.1
  have hx := B.exec
  have hb := B.bytes
  have hr := B.returns
  have hts := atoms_spec (ws := wsX9_write) B.pre
  have hown : s.vm.findClass RX9 = some m.cls := findClass_of_methodNamed B.named
  have hlocks := B.notSynchronized
  have in_X9 : ∀ w ∈ wsX90, w ∈ wsX9_write := fun _ h => List.mem_cons_of_mem _ (List.mem_append_right _ h)
  have kf_7 := hts (.fieldLink RX9 7 "LeftCrestModel" "told" "[I") (by decide +kernel)
  subst hsz
  have hD := hD0.self (sz := s.heap.size)
  generalize hAe : va_A [(q_a0, .inr (8, [.ref q_a0_told, .ref q_a0_kept, .ref q_a0_isKept, .ref q_a0_refused, .long a0_above, .long a0_below, .ref q_a0_manyBy, .ref q_a0_hers, .ref q_a0_his, .ref q_a0_hand, .ref q_a0_bytes, .int a0_bytesLong, .int a0_tokenAt, .int a0_tokenLong, .int a0_token, .int a0_value, .ref q_a0_anew, .ref q_a0_values])), (q_a0_told, .inl (cI, 163, .inl a0_told)), (q_a0_refused, .inl (cI, 3, .inl a0_refused))] s.heap.size = A at hD ⊢
  have hA : ∀ q : Nat, s.heap.size ≤ q → A q := fun q h => by rw [← hAe]; exact Or.inr h
  have hS : va_S A s.heap s.heap [] := va_S.rf
  have hP : va_P D vwCl [(q_a0, .inr (8, [.ref q_a0_told, .ref q_a0_kept, .ref q_a0_isKept, .ref q_a0_refused, .long a0_above, .long a0_below, .ref q_a0_manyBy, .ref q_a0_hers, .ref q_a0_his, .ref q_a0_hand, .ref q_a0_bytes, .int a0_bytesLong, .int a0_tokenAt, .int a0_tokenLong, .int a0_token, .int a0_value, .ref q_a0_anew, .ref q_a0_values])), (q_a0_told, .inl (cI, 163, .inl a0_told)), (q_a0_refused, .inl (cI, 3, .inl a0_refused))] s.heap := hP
  generalize hQQ : MQ below _ _ s _ _ _ = QQ
  have hl := lv_entry ([.ref q_a0, .int x1, .int x2]) (n := 4) (Nat.le_of_ble_eq_true rfl)
  rw [lg_entry_eq]
  generalize (lg_sl ([.ref q_a0, .int x1, .int x2]) ++ List.replicate (4 - (lg_sl ([.ref q_a0, .int x1, .int x2])).length) Slot.unset).toArray = ls at hl ⊢
  have hl : lv_has ls 4 [(0, .ref q_a0), (1, .int x1), (2, .int x2)] := hl
  unfold p_X9_write at hf
  refine lv_aload_n hx hb dX9_write_0 rfl (lv_at hl 0 rfl) ?_
  refine lv_iload_n hx hb dX9_write_1 rfl (lv_at hl 1 rfl) ?_
  refine ya_csi (va_runV (As := [.int x1]) (rest := []) ⟨hx, hb, hml, hown, hts⟩ (c_X9_isBend l D cI cZ cO q_a0 q_a0_told q_a0_kept q_a0_isKept q_a0_refused q_a0_manyBy q_a0_hers q_a0_his q_a0_hand q_a0_bytes q_a0_anew q_a0_values a0_above a0_below a0_bytesLong a0_tokenAt a0_tokenLong a0_token a0_value a0_told x1 _ hf) (cwV 1 hts gX9_write_X9_isBend rfl rfl rfl (by decide +kernel) ⟨Nat.le_of_ble_eq_true rfl, Nat.le_of_ble_eq_true rfl⟩) (pv_ro (ci := 8) (q0 := 0) (hP.sub [0, 1] rfl) hX rfl rfl) rfl rfl hl.1 rfl (lv_room (Nat.le_of_ble_eq_true rfl)) dX9_write_2 ⟨Nat.zero_le _, Nat.zero_le _⟩) (fun r_1 hf => ?_)
  refine lv_if_eq (tgt := 15) hx hb dX9_write_5 (by decide) (fun c_2 => ?_) (fun c_2 => ?_)
  · have hf := it_t c_2 hf
    refine lv_aload_n hx hb dX9_write_15 rfl (lv_at hl 0 rfl) ?_
    refine lv_bipush (v := (-2)) hx hb dX9_write_16 (by decide) ?_
    have hPc := hP.sub (ws' := [(q_a0, .inr (8, [.ref q_a0_told, .ref q_a0_kept, .ref q_a0_isKept, .ref q_a0_refused, .long a0_above, .long a0_below, .ref q_a0_manyBy, .ref q_a0_hers, .ref q_a0_his, .ref q_a0_hand, .ref q_a0_bytes, .int a0_bytesLong, .int a0_tokenAt, .int a0_tokenLong, .int a0_token, .int a0_value, .ref q_a0_anew, .ref q_a0_values])), (q_a0_refused, .inl (cI, 3, .inl a0_refused))]) [0, 2] rfl
    have hDc := hD.sub (ws' := [(q_a0, .inr (8, [.ref q_a0_told, .ref q_a0_kept, .ref q_a0_isKept, .ref q_a0_refused, .long a0_above, .long a0_below, .ref q_a0_manyBy, .ref q_a0_hers, .ref q_a0_his, .ref q_a0_hand, .ref q_a0_bytes, .int a0_bytesLong, .int a0_tokenAt, .int a0_tokenLong, .int a0_token, .int a0_value, .ref q_a0_anew, .ref q_a0_values])), (q_a0_refused, .inl (cI, 3, .inl a0_refused))]) [0, 2] (by decide) rfl
    have hFc := va_free (wc := [(q_a0, .inr (8, [.ref q_a0_told, .ref q_a0_kept, .ref q_a0_isKept, .ref q_a0_refused, .long a0_above, .long a0_below, .ref q_a0_manyBy, .ref q_a0_hers, .ref q_a0_his, .ref q_a0_hand, .ref q_a0_bytes, .int a0_bytesLong, .int a0_tokenAt, .int a0_tokenLong, .int a0_token, .int a0_value, .ref q_a0_anew, .ref q_a0_values])), (q_a0_refused, .inl (cI, 3, .inl a0_refused))]) hD hS hA [0, 2] rfl
    refine va_calli (va_runV (As := [.int (-2)]) (rest := []) ⟨hx, hb, hml, hown, hts⟩ (c_X9_bad l D cI cZ cO q_a0 q_a0_told q_a0_kept q_a0_isKept q_a0_refused q_a0_manyBy q_a0_hers q_a0_his q_a0_hand q_a0_bytes q_a0_anew q_a0_values a0_above a0_below a0_bytesLong a0_tokenAt a0_tokenLong a0_token a0_value a0_refused s.heap.size (-2) _ hf) (cwV 1 hts gX9_write_X9_bad rfl rfl rfl (by decide +kernel) ⟨Nat.le_of_ble_eq_true rfl, Nat.le_of_ble_eq_true rfl⟩) (pv_rw (ci := 8) (q0 := 0) hPc hDc hX rfl rfl) rfl rfl hl.1 rfl (lv_room (Nat.le_of_ble_eq_true rfl)) dX9_write_18 ⟨Nat.zero_le _, Nat.zero_le _⟩) hS (fun q _ h => hFc q h) hFc (fun r_3 u t H1 locs ht hvm hf hB hz1 hk1 hS => ?_)
    obtain ⟨u_4, rfl⟩ : ∃ z, z = u := ⟨_, rfl⟩
    obtain ⟨hP1, hD1⟩ := hB
    rw [ht] at hP1
    clear hvm
    obtain ⟨hP, hD⟩ := va_join (wr := [(q_a0_told, .inl (cI, 163, .inl a0_told))]) (w1 := [(q_a0, .inr (8, [.ref q_a0_told, .ref q_a0_kept, .ref q_a0_isKept, .ref q_a0_refused, .long a0_above, .long a0_below, .ref q_a0_manyBy, .ref q_a0_hers, .ref q_a0_his, .ref q_a0_hand, .ref q_a0_bytes, .int a0_bytesLong, .int a0_tokenAt, .int a0_tokenLong, .int a0_token, .int a0_value, .ref q_a0_anew, .ref q_a0_values])), (q_a0_refused, .inl (cI, 3, .inl u_4))]) hP hD [0, 2] [1] rfl rfl (by decide) (by decide) hk1 hFc hP1 hD1
    clear hz1 hk1 hPc hDc hFc hP1 hD1
    generalize H1 = H at hP hS ⊢
    have hP : va_P D vwCl [(q_a0_told, .inl (cI, 163, .inl a0_told)), (q_a0, .inr (8, [.ref q_a0_told, .ref q_a0_kept, .ref q_a0_isKept, .ref q_a0_refused, .long a0_above, .long a0_below, .ref q_a0_manyBy, .ref q_a0_hers, .ref q_a0_his, .ref q_a0_hand, .ref q_a0_bytes, .int a0_bytesLong, .int a0_tokenAt, .int a0_tokenLong, .int a0_token, .int a0_value, .ref q_a0_anew, .ref q_a0_values])), (q_a0_refused, .inl (cI, 3, .inl u_4))] H := hP
    have hD : va_D A [(q_a0_told, .inl (cI, 163, .inl a0_told)), (q_a0, .inr (8, [.ref q_a0_told, .ref q_a0_kept, .ref q_a0_isKept, .ref q_a0_refused, .long a0_above, .long a0_below, .ref q_a0_manyBy, .ref q_a0_hers, .ref q_a0_his, .ref q_a0_hand, .ref q_a0_bytes, .int a0_bytesLong, .int a0_tokenAt, .int a0_tokenLong, .int a0_token, .int a0_value, .ref q_a0_anew, .ref q_a0_values])), (q_a0_refused, .inl (cI, 3, .inl u_4))] := hD
    subst hQQ
    have hP9 := hP.sub (ws' := [(q_a0, .inr (8, [.ref q_a0_told, .ref q_a0_kept, .ref q_a0_isKept, .ref q_a0_refused, .long a0_above, .long a0_below, .ref q_a0_manyBy, .ref q_a0_hers, .ref q_a0_his, .ref q_a0_hand, .ref q_a0_bytes, .int a0_bytesLong, .int a0_tokenAt, .int a0_tokenLong, .int a0_token, .int a0_value, .ref q_a0_anew, .ref q_a0_values])), (q_a0_told, .inl (cI, 163, .inl a0_told)), (q_a0_refused, .inl (cI, 3, .inl u_4))]) [1, 0, 2] rfl
    have hD9 := hD.sub (ws' := [(q_a0, .inr (8, [.ref q_a0_told, .ref q_a0_kept, .ref q_a0_isKept, .ref q_a0_refused, .long a0_above, .long a0_below, .ref q_a0_manyBy, .ref q_a0_hers, .ref q_a0_his, .ref q_a0_hand, .ref q_a0_bytes, .int a0_bytesLong, .int a0_tokenAt, .int a0_tokenLong, .int a0_token, .int a0_value, .ref q_a0_anew, .ref q_a0_values])), (q_a0_told, .inl (cI, 163, .inl a0_told)), (q_a0_refused, .inl (cI, 3, .inl u_4))]) [1, 0, 2] (by decide) rfl
    exact W.iret hx hb hr (fun t ht hW => ⟨⟨r_3, (a0_told, u_4), rfl, hf, by rw [ht]; exact hP9, hD9⟩, hS.F ht⟩) hS.2.2 dX9_write_21
  · have hf := it_f c_2 hf
    refine lv_iload_n hx hb dX9_write_8 rfl (lv_at hl 2 rfl) ?_
    refine ya_csi (va_runS (As := [.int x2]) (rest := []) ⟨hx, hb, hml, hown, hts⟩ (c_X9_isNote l D cI cZ cO  x2 _ hf) (va_cwS 1 hts gX9_write_X9_isNote rfl rfl rfl (by decide +kernel) ⟨Nat.le_of_ble_eq_true rfl, Nat.le_of_ble_eq_true rfl⟩) (ps_ro va_P0 hX) rfl rfl hl.1 rfl (lv_room (Nat.le_of_ble_eq_true rfl)) dX9_write_9 ⟨Nat.zero_le _, Nat.zero_le _⟩) (fun r_5 hf => ?_)
    refine lv_if_ne (tgt := 22) hx hb dX9_write_12 (by decide) (fun c_6 => ?_) (fun c_6 => ?_)
    · have hf := it_f c_6 hf
      refine lv_aload_n hx hb dX9_write_22 rfl (lv_at hl 0 rfl) ?_
      refine lv_iload_n hx hb dX9_write_23 rfl (lv_at hl 1 rfl) ?_
      refine ya_csi (va_runV (As := [.int x1]) (rest := []) ⟨hx, hb, hml, hown, hts⟩ (c_X9_noteOf l D cI cZ cO q_a0 q_a0_told q_a0_kept q_a0_isKept q_a0_refused q_a0_manyBy q_a0_hers q_a0_his q_a0_hand q_a0_bytes q_a0_anew q_a0_values a0_above a0_below a0_bytesLong a0_tokenAt a0_tokenLong a0_token a0_value a0_told x1 _ hf) (cwV 1 hts gX9_write_X9_noteOf rfl rfl rfl (by decide +kernel) ⟨Nat.le_of_ble_eq_true rfl, Nat.le_of_ble_eq_true rfl⟩) (pv_ro (ci := 8) (q0 := 0) (hP.sub [0, 1] rfl) hX rfl rfl) rfl rfl hl.1 rfl (lv_room (Nat.le_of_ble_eq_true rfl)) dX9_write_24 ⟨Nat.zero_le _, Nat.zero_le _⟩) (fun r_7 hf => ?_)
      refine lv_istore_n (lv' := [(3, .int r_7), (0, .ref q_a0), (1, .int x1), (2, .int x2)]) hx hb dX9_write_27 rfl hl (by decide) rfl (fun ls hl => ?_)
      refine lv_aload_n hx hb dX9_write_28 rfl (lv_at hl 1 rfl) ?_
      have hPc := hP.sub (ws' := [(q_a0, .inr (8, [.ref q_a0_told, .ref q_a0_kept, .ref q_a0_isKept, .ref q_a0_refused, .long a0_above, .long a0_below, .ref q_a0_manyBy, .ref q_a0_hers, .ref q_a0_his, .ref q_a0_hand, .ref q_a0_bytes, .int a0_bytesLong, .int a0_tokenAt, .int a0_tokenLong, .int a0_token, .int a0_value, .ref q_a0_anew, .ref q_a0_values])), (q_a0_told, .inl (cI, 163, .inl a0_told))]) [0, 1] rfl
      have hDc := hD.sub (ws' := [(q_a0, .inr (8, [.ref q_a0_told, .ref q_a0_kept, .ref q_a0_isKept, .ref q_a0_refused, .long a0_above, .long a0_below, .ref q_a0_manyBy, .ref q_a0_hers, .ref q_a0_his, .ref q_a0_hand, .ref q_a0_bytes, .int a0_bytesLong, .int a0_tokenAt, .int a0_tokenLong, .int a0_token, .int a0_value, .ref q_a0_anew, .ref q_a0_values])), (q_a0_told, .inl (cI, 163, .inl a0_told))]) [0, 1] (by decide) rfl
      have hFc := va_free (wc := [(q_a0, .inr (8, [.ref q_a0_told, .ref q_a0_kept, .ref q_a0_isKept, .ref q_a0_refused, .long a0_above, .long a0_below, .ref q_a0_manyBy, .ref q_a0_hers, .ref q_a0_his, .ref q_a0_hand, .ref q_a0_bytes, .int a0_bytesLong, .int a0_tokenAt, .int a0_tokenLong, .int a0_token, .int a0_value, .ref q_a0_anew, .ref q_a0_values])), (q_a0_told, .inl (cI, 163, .inl a0_told))]) hD hS hA [0, 1] rfl
      refine va_callv (va_runV (As := []) (rest := []) ⟨hx, hb, hml, hown, hts⟩ (c_X9_keep l D cI cZ cO q_a0 q_a0_told q_a0_kept q_a0_isKept q_a0_refused q_a0_manyBy q_a0_hers q_a0_his q_a0_hand q_a0_bytes q_a0_anew q_a0_values a0_above a0_below a0_bytesLong a0_tokenAt a0_tokenLong a0_token a0_value a0_told s.heap.size  _ hf) (cwV 0 hts gX9_write_X9_keep rfl rfl rfl (by decide +kernel) ⟨Nat.le_of_ble_eq_true rfl, Nat.le_of_ble_eq_true rfl⟩) (pv_rw (ci := 8) (q0 := 0) hPc hDc hX rfl rfl) rfl rfl hl.1 rfl (lv_room (Nat.le_of_ble_eq_true rfl)) dX9_write_29 ⟨Nat.zero_le _, Nat.zero_le _⟩) hS (fun q _ h => hFc q h) hFc (fun u t H1 locs ht hvm hf hB hz1 hk1 hS => ?_)
      obtain ⟨u_8, rfl⟩ : ∃ z, z = u := ⟨_, rfl⟩
      obtain ⟨hP1, hD1⟩ := hB
      rw [ht] at hP1
      clear hvm
      obtain ⟨hP, hD⟩ := va_join (wr := [(q_a0_refused, .inl (cI, 3, .inl a0_refused))]) (w1 := [(q_a0, .inr (8, [.ref q_a0_told, .ref q_a0_kept, .ref q_a0_isKept, .ref q_a0_refused, .long a0_above, .long a0_below, .ref q_a0_manyBy, .ref q_a0_hers, .ref q_a0_his, .ref q_a0_hand, .ref q_a0_bytes, .int a0_bytesLong, .int a0_tokenAt, .int a0_tokenLong, .int a0_token, .int a0_value, .ref q_a0_anew, .ref q_a0_values])), (q_a0_told, .inl (cI, 163, .inl u_8))]) hP hD [0, 1] [2] rfl rfl (by decide) (by decide) hk1 hFc hP1 hD1
      clear hz1 hk1 hPc hDc hFc hP1 hD1
      generalize H1 = H at hP hS ⊢
      have hP : va_P D vwCl [(q_a0_refused, .inl (cI, 3, .inl a0_refused)), (q_a0, .inr (8, [.ref q_a0_told, .ref q_a0_kept, .ref q_a0_isKept, .ref q_a0_refused, .long a0_above, .long a0_below, .ref q_a0_manyBy, .ref q_a0_hers, .ref q_a0_his, .ref q_a0_hand, .ref q_a0_bytes, .int a0_bytesLong, .int a0_tokenAt, .int a0_tokenLong, .int a0_token, .int a0_value, .ref q_a0_anew, .ref q_a0_values])), (q_a0_told, .inl (cI, 163, .inl u_8))] H := hP
      have hD : va_D A [(q_a0_refused, .inl (cI, 3, .inl a0_refused)), (q_a0, .inr (8, [.ref q_a0_told, .ref q_a0_kept, .ref q_a0_isKept, .ref q_a0_refused, .long a0_above, .long a0_below, .ref q_a0_manyBy, .ref q_a0_hers, .ref q_a0_his, .ref q_a0_hand, .ref q_a0_bytes, .int a0_bytesLong, .int a0_tokenAt, .int a0_tokenLong, .int a0_token, .int a0_value, .ref q_a0_anew, .ref q_a0_values])), (q_a0_told, .inl (cI, 163, .inl u_8))] := hD
      refine lv_aload_n hx hb dX9_write_32 rfl (lv_at hl 1 rfl) ?_
      refine va_get (D := D) (ci := 8) (v := .ref q_a0_told) (C := RX9) (T := TX9) (N := 18) hx hb hts in_X9 hown hK hP 1 rfl rfl 0 (by decide) kf_7 (fun _ h9 => h9) rfl dX9_write_33 ?_
      refine lv_bipush (v := 7) hx hb dX9_write_36 (by decide) ?_
      refine lv_iload_n hx hb dX9_write_38 rfl (lv_at hl 2 rfl) ?_
      refine lv_iadd hx hb dX9_write_39 ?_
      refine lv_iload_n hx hb dX9_write_40 rfl (lv_at hl 3 rfl) ?_
      refine va_iast hx hb hK hP hD hS 2 0 rfl rfl hf.1 dX9_write_41 (fun H locs hP hD hS => ?_)
      have hP : va_P D vwCl [(q_a0_refused, .inl (cI, 3, .inl a0_refused)), (q_a0, .inr (8, [.ref q_a0_told, .ref q_a0_kept, .ref q_a0_isKept, .ref q_a0_refused, .long a0_above, .long a0_below, .ref q_a0_manyBy, .ref q_a0_hers, .ref q_a0_his, .ref q_a0_hand, .ref q_a0_bytes, .int a0_bytesLong, .int a0_tokenAt, .int a0_tokenLong, .int a0_token, .int a0_value, .ref q_a0_anew, .ref q_a0_values])), (q_a0_told, .inl (cI, 163, .inl (upd u_8 ((7 + x1).toNatClampNeg) x2)))] H := hP
      have hD : va_D A [(q_a0_refused, .inl (cI, 3, .inl a0_refused)), (q_a0, .inr (8, [.ref q_a0_told, .ref q_a0_kept, .ref q_a0_isKept, .ref q_a0_refused, .long a0_above, .long a0_below, .ref q_a0_manyBy, .ref q_a0_hers, .ref q_a0_his, .ref q_a0_hand, .ref q_a0_bytes, .int a0_bytesLong, .int a0_tokenAt, .int a0_tokenLong, .int a0_token, .int a0_value, .ref q_a0_anew, .ref q_a0_values])), (q_a0_told, .inl (cI, 163, .inl (upd u_8 ((7 + x1).toNatClampNeg) x2)))] := hD
      have hf := hf.2
      refine lv_iload_n hx hb dX9_write_42 rfl (lv_at hl 0 rfl) ?_
      subst hQQ
      have hP9 := hP.sub (ws' := [(q_a0, .inr (8, [.ref q_a0_told, .ref q_a0_kept, .ref q_a0_isKept, .ref q_a0_refused, .long a0_above, .long a0_below, .ref q_a0_manyBy, .ref q_a0_hers, .ref q_a0_his, .ref q_a0_hand, .ref q_a0_bytes, .int a0_bytesLong, .int a0_tokenAt, .int a0_tokenLong, .int a0_token, .int a0_value, .ref q_a0_anew, .ref q_a0_values])), (q_a0_told, .inl (cI, 163, .inl (upd u_8 ((7 + x1).toNatClampNeg) x2))), (q_a0_refused, .inl (cI, 3, .inl a0_refused))]) [1, 2, 0] rfl
      have hD9 := hD.sub (ws' := [(q_a0, .inr (8, [.ref q_a0_told, .ref q_a0_kept, .ref q_a0_isKept, .ref q_a0_refused, .long a0_above, .long a0_below, .ref q_a0_manyBy, .ref q_a0_hers, .ref q_a0_his, .ref q_a0_hand, .ref q_a0_bytes, .int a0_bytesLong, .int a0_tokenAt, .int a0_tokenLong, .int a0_token, .int a0_value, .ref q_a0_anew, .ref q_a0_values])), (q_a0_told, .inl (cI, 163, .inl (upd u_8 ((7 + x1).toNatClampNeg) x2))), (q_a0_refused, .inl (cI, 3, .inl a0_refused))]) [1, 2, 0] (by decide) rfl
      exact W.iret hx hb hr (fun t ht hW => ⟨⟨r_7, (upd u_8 ((7 + x1).toNatClampNeg) x2, a0_refused), rfl, hf, by rw [ht]; exact hP9, hD9⟩, hS.F ht⟩) hS.2.2 dX9_write_43
    · have hf := it_t c_6 hf
      refine lv_aload_n hx hb dX9_write_15 rfl (lv_at hl 0 rfl) ?_
      refine lv_bipush (v := (-2)) hx hb dX9_write_16 (by decide) ?_
      have hPc := hP.sub (ws' := [(q_a0, .inr (8, [.ref q_a0_told, .ref q_a0_kept, .ref q_a0_isKept, .ref q_a0_refused, .long a0_above, .long a0_below, .ref q_a0_manyBy, .ref q_a0_hers, .ref q_a0_his, .ref q_a0_hand, .ref q_a0_bytes, .int a0_bytesLong, .int a0_tokenAt, .int a0_tokenLong, .int a0_token, .int a0_value, .ref q_a0_anew, .ref q_a0_values])), (q_a0_refused, .inl (cI, 3, .inl a0_refused))]) [0, 2] rfl
      have hDc := hD.sub (ws' := [(q_a0, .inr (8, [.ref q_a0_told, .ref q_a0_kept, .ref q_a0_isKept, .ref q_a0_refused, .long a0_above, .long a0_below, .ref q_a0_manyBy, .ref q_a0_hers, .ref q_a0_his, .ref q_a0_hand, .ref q_a0_bytes, .int a0_bytesLong, .int a0_tokenAt, .int a0_tokenLong, .int a0_token, .int a0_value, .ref q_a0_anew, .ref q_a0_values])), (q_a0_refused, .inl (cI, 3, .inl a0_refused))]) [0, 2] (by decide) rfl
      have hFc := va_free (wc := [(q_a0, .inr (8, [.ref q_a0_told, .ref q_a0_kept, .ref q_a0_isKept, .ref q_a0_refused, .long a0_above, .long a0_below, .ref q_a0_manyBy, .ref q_a0_hers, .ref q_a0_his, .ref q_a0_hand, .ref q_a0_bytes, .int a0_bytesLong, .int a0_tokenAt, .int a0_tokenLong, .int a0_token, .int a0_value, .ref q_a0_anew, .ref q_a0_values])), (q_a0_refused, .inl (cI, 3, .inl a0_refused))]) hD hS hA [0, 2] rfl
      refine va_calli (va_runV (As := [.int (-2)]) (rest := []) ⟨hx, hb, hml, hown, hts⟩ (c_X9_bad l D cI cZ cO q_a0 q_a0_told q_a0_kept q_a0_isKept q_a0_refused q_a0_manyBy q_a0_hers q_a0_his q_a0_hand q_a0_bytes q_a0_anew q_a0_values a0_above a0_below a0_bytesLong a0_tokenAt a0_tokenLong a0_token a0_value a0_refused s.heap.size (-2) _ hf) (cwV 1 hts gX9_write_X9_bad rfl rfl rfl (by decide +kernel) ⟨Nat.le_of_ble_eq_true rfl, Nat.le_of_ble_eq_true rfl⟩) (pv_rw (ci := 8) (q0 := 0) hPc hDc hX rfl rfl) rfl rfl hl.1 rfl (lv_room (Nat.le_of_ble_eq_true rfl)) dX9_write_18 ⟨Nat.zero_le _, Nat.zero_le _⟩) hS (fun q _ h => hFc q h) hFc (fun r_9 u t H1 locs ht hvm hf hB hz1 hk1 hS => ?_)
      obtain ⟨u_10, rfl⟩ : ∃ z, z = u := ⟨_, rfl⟩
      obtain ⟨hP1, hD1⟩ := hB
      rw [ht] at hP1
      clear hvm
      obtain ⟨hP, hD⟩ := va_join (wr := [(q_a0_told, .inl (cI, 163, .inl a0_told))]) (w1 := [(q_a0, .inr (8, [.ref q_a0_told, .ref q_a0_kept, .ref q_a0_isKept, .ref q_a0_refused, .long a0_above, .long a0_below, .ref q_a0_manyBy, .ref q_a0_hers, .ref q_a0_his, .ref q_a0_hand, .ref q_a0_bytes, .int a0_bytesLong, .int a0_tokenAt, .int a0_tokenLong, .int a0_token, .int a0_value, .ref q_a0_anew, .ref q_a0_values])), (q_a0_refused, .inl (cI, 3, .inl u_10))]) hP hD [0, 2] [1] rfl rfl (by decide) (by decide) hk1 hFc hP1 hD1
      clear hz1 hk1 hPc hDc hFc hP1 hD1
      generalize H1 = H at hP hS ⊢
      have hP : va_P D vwCl [(q_a0_told, .inl (cI, 163, .inl a0_told)), (q_a0, .inr (8, [.ref q_a0_told, .ref q_a0_kept, .ref q_a0_isKept, .ref q_a0_refused, .long a0_above, .long a0_below, .ref q_a0_manyBy, .ref q_a0_hers, .ref q_a0_his, .ref q_a0_hand, .ref q_a0_bytes, .int a0_bytesLong, .int a0_tokenAt, .int a0_tokenLong, .int a0_token, .int a0_value, .ref q_a0_anew, .ref q_a0_values])), (q_a0_refused, .inl (cI, 3, .inl u_10))] H := hP
      have hD : va_D A [(q_a0_told, .inl (cI, 163, .inl a0_told)), (q_a0, .inr (8, [.ref q_a0_told, .ref q_a0_kept, .ref q_a0_isKept, .ref q_a0_refused, .long a0_above, .long a0_below, .ref q_a0_manyBy, .ref q_a0_hers, .ref q_a0_his, .ref q_a0_hand, .ref q_a0_bytes, .int a0_bytesLong, .int a0_tokenAt, .int a0_tokenLong, .int a0_token, .int a0_value, .ref q_a0_anew, .ref q_a0_values])), (q_a0_refused, .inl (cI, 3, .inl u_10))] := hD
      subst hQQ
      have hP9 := hP.sub (ws' := [(q_a0, .inr (8, [.ref q_a0_told, .ref q_a0_kept, .ref q_a0_isKept, .ref q_a0_refused, .long a0_above, .long a0_below, .ref q_a0_manyBy, .ref q_a0_hers, .ref q_a0_his, .ref q_a0_hand, .ref q_a0_bytes, .int a0_bytesLong, .int a0_tokenAt, .int a0_tokenLong, .int a0_token, .int a0_value, .ref q_a0_anew, .ref q_a0_values])), (q_a0_told, .inl (cI, 163, .inl a0_told)), (q_a0_refused, .inl (cI, 3, .inl u_10))]) [1, 0, 2] rfl
      have hD9 := hD.sub (ws' := [(q_a0, .inr (8, [.ref q_a0_told, .ref q_a0_kept, .ref q_a0_isKept, .ref q_a0_refused, .long a0_above, .long a0_below, .ref q_a0_manyBy, .ref q_a0_hers, .ref q_a0_his, .ref q_a0_hand, .ref q_a0_bytes, .int a0_bytesLong, .int a0_tokenAt, .int a0_tokenLong, .int a0_token, .int a0_value, .ref q_a0_anew, .ref q_a0_values])), (q_a0_told, .inl (cI, 163, .inl a0_told)), (q_a0_refused, .inl (cI, 3, .inl u_10))]) [1, 0, 2] (by decide) rfl
      exact W.iret hx hb hr (fun t ht hW => ⟨⟨r_9, (a0_told, u_10), rfl, hf, by rw [ht]; exact hP9, hD9⟩, hS.F ht⟩) hS.2.2 dX9_write_21
def jX9_undo_65 (a0_refused : Nat → Int32) (Q : Int32 → (Nat → Int32) → (Nat → Int32) → Prop) (w_1 : Nat → Int32) : Prop :=
  Q (w_1 (4 : Int32).toNatClampNeg) w_1 a0_refused
def bX9_undo_26 (a0_refused : Nat → Int32) (Q : Int32 → (Nat → Int32) → (Nat → Int32) → Prop) (k_5 : (Nat → Int32) → Int32 → Prop) (w_3 : Nat → Int32) (v_4 : Int32) : Prop :=
  if 11 ≤ v_4 then (jX9_undo_65 a0_refused Q w_3) else (vp_in ((75 + (11 * (w_3 (3 : Int32).toNatClampNeg))) + v_4) 163 ∧ (vp_in (4 + v_4) 163 ∧ (k_5 (upd w_3 ((4 + v_4).toNatClampNeg) (w_3 ((75 + (11 * (w_3 (3 : Int32).toNatClampNeg))) + v_4).toNatClampNeg)) (v_4 + 1))))
def p_X9_undo (a0_told : Nat → Int32) (a0_refused : Nat → Int32) (Q : Int32 → (Nat → Int32) → (Nat → Int32) → Prop) : Prop :=
  if (a0_told (3 : Int32).toNatClampNeg) = 0 then (p_X9_no a0_refused (fun r_7 u_8 => Q r_7 a0_told u_8)) else (lq2 (bX9_undo_26 a0_refused Q) 1000 (upd a0_told ((3 : Int32).toNatClampNeg) ((a0_told (3 : Int32).toNatClampNeg) - 1)) 0)
def rmX9_undo : Room := { frames := 1, cells := 0, slots := 0, locals := 20 }
set_option maxHeartbeats 4000000 in
set_option maxRecDepth 100000 in
theorem c_X9_undo (l : Launch) (D : va_G) (cI cZ cO : ClassId) (q_a0 q_a0_told q_a0_kept q_a0_isKept q_a0_refused q_a0_manyBy q_a0_hers q_a0_his q_a0_hand q_a0_bytes q_a0_anew q_a0_values : Nat) (a0_above : Int64) (a0_below : Int64) (a0_bytesLong : Int32) (a0_tokenAt : Int32) (a0_tokenLong : Int32) (a0_token : Int32) (a0_value : Int32) (a0_told : Nat → Int32) (a0_refused : Nat → Int32) (sz : Nat) (Q : Int32 → (Nat → Int32) → (Nat → Int32) → Prop) (hf : p_X9_undo a0_told a0_refused Q) : Met l yX9_undo wsX9_undo rmX9_undo (va_Pc [.ref q_a0] (fun U => U.heap.size = sz ∧ va_P D vwCl [(q_a0, .inr (8, [.ref q_a0_told, .ref q_a0_kept, .ref q_a0_isKept, .ref q_a0_refused, .long a0_above, .long a0_below, .ref q_a0_manyBy, .ref q_a0_hers, .ref q_a0_his, .ref q_a0_hand, .ref q_a0_bytes, .int a0_bytesLong, .int a0_tokenAt, .int a0_tokenLong, .int a0_token, .int a0_value, .ref q_a0_anew, .ref q_a0_values])), (q_a0_told, .inl (cI, 163, .inl a0_told)), (q_a0_refused, .inl (cI, 3, .inl a0_refused))] U.heap ∧ XK D cI cZ cO U ∧ va_D (fun _ => True) [(q_a0, .inr (8, [.ref q_a0_told, .ref q_a0_kept, .ref q_a0_isKept, .ref q_a0_refused, .long a0_above, .long a0_below, .ref q_a0_manyBy, .ref q_a0_hers, .ref q_a0_his, .ref q_a0_hand, .ref q_a0_bytes, .int a0_bytesLong, .int a0_tokenAt, .int a0_tokenLong, .int a0_token, .int a0_value, .ref q_a0_anew, .ref q_a0_values])), (q_a0_told, .inl (cI, 163, .inl a0_told)), (q_a0_refused, .inl (cI, 3, .inl a0_refused))])) (va_Qi (fun r (u : (Nat → Int32) × (Nat → Int32)) => Q r u.1 u.2) (fun (u : (Nat → Int32) × (Nat → Int32)) t => va_P D vwCl [(q_a0, .inr (8, [.ref q_a0_told, .ref q_a0_kept, .ref q_a0_isKept, .ref q_a0_refused, .long a0_above, .long a0_below, .ref q_a0_manyBy, .ref q_a0_hers, .ref q_a0_his, .ref q_a0_hand, .ref q_a0_bytes, .int a0_bytesLong, .int a0_tokenAt, .int a0_tokenLong, .int a0_token, .int a0_value, .ref q_a0_anew, .ref q_a0_values])), (q_a0_told, .inl (cI, 163, .inl u.1)), (q_a0_refused, .inl (cI, 3, .inl u.2))] t.heap ∧ va_D (va_A [(q_a0, .inr (8, [.ref q_a0_told, .ref q_a0_kept, .ref q_a0_isKept, .ref q_a0_refused, .long a0_above, .long a0_below, .ref q_a0_manyBy, .ref q_a0_hers, .ref q_a0_his, .ref q_a0_hand, .ref q_a0_bytes, .int a0_bytesLong, .int a0_tokenAt, .int a0_tokenLong, .int a0_token, .int a0_value, .ref q_a0_anew, .ref q_a0_values])), (q_a0_told, .inl (cI, 163, .inl a0_told)), (q_a0_refused, .inl (cI, 3, .inl a0_refused))] sz) [(q_a0, .inr (8, [.ref q_a0_told, .ref q_a0_kept, .ref q_a0_isKept, .ref q_a0_refused, .long a0_above, .long a0_below, .ref q_a0_manyBy, .ref q_a0_hers, .ref q_a0_his, .ref q_a0_hand, .ref q_a0_bytes, .int a0_bytesLong, .int a0_tokenAt, .int a0_tokenLong, .int a0_token, .int a0_value, .ref q_a0_anew, .ref q_a0_values])), (q_a0_told, .inl (cI, 163, .inl u.1)), (q_a0_refused, .inl (cI, 3, .inl u.2))]) (va_A [(q_a0, .inr (8, [.ref q_a0_told, .ref q_a0_kept, .ref q_a0_isKept, .ref q_a0_refused, .long a0_above, .long a0_below, .ref q_a0_manyBy, .ref q_a0_hers, .ref q_a0_his, .ref q_a0_hand, .ref q_a0_bytes, .int a0_bytesLong, .int a0_tokenAt, .int a0_tokenLong, .int a0_token, .int a0_value, .ref q_a0_anew, .ref q_a0_values])), (q_a0_told, .inl (cI, 163, .inl a0_told)), (q_a0_refused, .inl (cI, 3, .inl a0_refused))] sz)) 0 0 (va_A [(q_a0, .inr (8, [.ref q_a0_told, .ref q_a0_kept, .ref q_a0_isKept, .ref q_a0_refused, .long a0_above, .long a0_below, .ref q_a0_manyBy, .ref q_a0_hers, .ref q_a0_his, .ref q_a0_hand, .ref q_a0_bytes, .int a0_bytesLong, .int a0_tokenAt, .int a0_tokenLong, .int a0_token, .int a0_value, .ref q_a0_anew, .ref q_a0_values])), (q_a0_told, .inl (cI, 163, .inl a0_told)), (q_a0_refused, .inl (cI, 3, .inl a0_refused))] sz) := by
  refine Met.ofW (cc := cX9_undo) (maxL := 2) (ret := (some .int)) (by decide) rfl ?_
  intro p e s m args below meth c s₁ B hml hv
  obtain ⟨rfl, hsz, hP, hX, hD0⟩ := hv
  have hK := hX.1
  have hx := B.exec
  have hb := B.bytes
  have hr := B.returns
  have hts := atoms_spec (ws := wsX9_undo) B.pre
  have hown : s.vm.findClass RX9 = some m.cls := findClass_of_methodNamed B.named
  have hlocks := B.notSynchronized
  have in_X9 : ∀ w ∈ wsX90, w ∈ wsX9_undo := fun _ h => List.mem_cons_of_mem _ (List.mem_append_right _ h)
  have kf_7 := hts (.fieldLink RX9 7 "LeftCrestModel" "told" "[I") (by decide +kernel)
  subst hsz
  have hD := hD0.self (sz := s.heap.size)
  generalize hAe : va_A [(q_a0, .inr (8, [.ref q_a0_told, .ref q_a0_kept, .ref q_a0_isKept, .ref q_a0_refused, .long a0_above, .long a0_below, .ref q_a0_manyBy, .ref q_a0_hers, .ref q_a0_his, .ref q_a0_hand, .ref q_a0_bytes, .int a0_bytesLong, .int a0_tokenAt, .int a0_tokenLong, .int a0_token, .int a0_value, .ref q_a0_anew, .ref q_a0_values])), (q_a0_told, .inl (cI, 163, .inl a0_told)), (q_a0_refused, .inl (cI, 3, .inl a0_refused))] s.heap.size = A at hD ⊢
  have hA : ∀ q : Nat, s.heap.size ≤ q → A q := fun q h => by rw [← hAe]; exact Or.inr h
  have hS : va_S A s.heap s.heap [] := va_S.rf
  have hP : va_P D vwCl [(q_a0, .inr (8, [.ref q_a0_told, .ref q_a0_kept, .ref q_a0_isKept, .ref q_a0_refused, .long a0_above, .long a0_below, .ref q_a0_manyBy, .ref q_a0_hers, .ref q_a0_his, .ref q_a0_hand, .ref q_a0_bytes, .int a0_bytesLong, .int a0_tokenAt, .int a0_tokenLong, .int a0_token, .int a0_value, .ref q_a0_anew, .ref q_a0_values])), (q_a0_told, .inl (cI, 163, .inl a0_told)), (q_a0_refused, .inl (cI, 3, .inl a0_refused))] s.heap := hP
  generalize hQQ : MQ below _ _ s _ _ _ = QQ
  have hl := lv_entry ([.ref q_a0]) (n := 2) (Nat.le_of_ble_eq_true rfl)
  rw [lg_entry_eq]
  generalize (lg_sl ([.ref q_a0]) ++ List.replicate (2 - (lg_sl ([.ref q_a0])).length) Slot.unset).toArray = ls at hl ⊢
  have hl : lv_has ls 2 [(0, .ref q_a0)] := hl
  have hj_65 : ∀ (w_1 : Nat → Int32) (H : Heap) (locs : List Loc), jX9_undo_65 a0_refused Q w_1 → va_P D vwCl [(q_a0, .inr (8, [.ref q_a0_told, .ref q_a0_kept, .ref q_a0_isKept, .ref q_a0_refused, .long a0_above, .long a0_below, .ref q_a0_manyBy, .ref q_a0_hers, .ref q_a0_his, .ref q_a0_hand, .ref q_a0_bytes, .int a0_bytesLong, .int a0_tokenAt, .int a0_tokenLong, .int a0_token, .int a0_value, .ref q_a0_anew, .ref q_a0_values])), (q_a0_told, .inl (cI, 163, .inl w_1)), (q_a0_refused, .inl (cI, 3, .inl a0_refused))] H → va_D A [(q_a0, .inr (8, [.ref q_a0_told, .ref q_a0_kept, .ref q_a0_isKept, .ref q_a0_refused, .long a0_above, .long a0_below, .ref q_a0_manyBy, .ref q_a0_hers, .ref q_a0_his, .ref q_a0_hand, .ref q_a0_bytes, .int a0_bytesLong, .int a0_tokenAt, .int a0_tokenLong, .int a0_token, .int a0_value, .ref q_a0_anew, .ref q_a0_values])), (q_a0_told, .inl (cI, 163, .inl w_1)), (q_a0_refused, .inl (cI, 3, .inl a0_refused))] → va_S A s.heap H locs → ∀ ls : Array Slot, lv_has ls 2 [(0, .ref q_a0)] → W p l e (headSpec wsX9_undo rmX9_undo).room s m ([.ref q_a0] : List Value).toArray below meth c H locs 0 0 QQ (F0 m 65 ls []) := by
    intro w_1 H locs hf hP hD hS ls hl
    unfold jX9_undo_65 at hf
    refine lv_aload_n hx hb dX9_undo_65 rfl (lv_at hl 0 rfl) ?_
    refine va_get (D := D) (ci := 8) (v := .ref q_a0_told) (C := RX9) (T := TX9) (N := 18) hx hb hts in_X9 hown hK hP 0 rfl rfl 0 (by decide) kf_7 (fun _ h9 => h9) rfl dX9_undo_66 ?_
    refine lv_iconst (v := 4) hx hb dX9_undo_69 (by decide) ?_
    refine va_iald hx hb hK hP 1 0 rfl rfl (by unfold vp_in; decide) dX9_undo_70 ?_
    subst hQQ
    have hP9 := hP.sub (ws' := [(q_a0, .inr (8, [.ref q_a0_told, .ref q_a0_kept, .ref q_a0_isKept, .ref q_a0_refused, .long a0_above, .long a0_below, .ref q_a0_manyBy, .ref q_a0_hers, .ref q_a0_his, .ref q_a0_hand, .ref q_a0_bytes, .int a0_bytesLong, .int a0_tokenAt, .int a0_tokenLong, .int a0_token, .int a0_value, .ref q_a0_anew, .ref q_a0_values])), (q_a0_told, .inl (cI, 163, .inl w_1)), (q_a0_refused, .inl (cI, 3, .inl a0_refused))]) [0, 1, 2] rfl
    have hD9 := hD.sub (ws' := [(q_a0, .inr (8, [.ref q_a0_told, .ref q_a0_kept, .ref q_a0_isKept, .ref q_a0_refused, .long a0_above, .long a0_below, .ref q_a0_manyBy, .ref q_a0_hers, .ref q_a0_his, .ref q_a0_hand, .ref q_a0_bytes, .int a0_bytesLong, .int a0_tokenAt, .int a0_tokenLong, .int a0_token, .int a0_value, .ref q_a0_anew, .ref q_a0_values])), (q_a0_told, .inl (cI, 163, .inl w_1)), (q_a0_refused, .inl (cI, 3, .inl a0_refused))]) [0, 1, 2] (by decide) rfl
    exact W.iret hx hb hr (fun t ht hW => ⟨⟨(w_1 (4 : Int32).toNatClampNeg), (w_1, a0_refused), rfl, hf, by rw [ht]; exact hP9, hD9⟩, hS.F ht⟩) hS.2.2 dX9_undo_71
  unfold p_X9_undo at hf
  refine lv_aload_n hx hb dX9_undo_0 rfl (lv_at hl 0 rfl) ?_
  refine va_get (D := D) (ci := 8) (v := .ref q_a0_told) (C := RX9) (T := TX9) (N := 18) hx hb hts in_X9 hown hK hP 0 rfl rfl 0 (by decide) kf_7 (fun _ h9 => h9) rfl dX9_undo_1 ?_
  refine lv_iconst (v := 3) hx hb dX9_undo_4 (by decide) ?_
  refine va_iald hx hb hK hP 1 0 rfl rfl (by unfold vp_in; decide) dX9_undo_5 ?_
  refine lv_if_ne (tgt := 14) hx hb dX9_undo_6 (by decide) (fun c_2 => ?_) (fun c_2 => ?_)
  · have hf := it_f c_2 hf
    refine lv_aload_n hx hb dX9_undo_14 rfl (lv_at hl 0 rfl) ?_
    refine va_get (D := D) (ci := 8) (v := .ref q_a0_told) (C := RX9) (T := TX9) (N := 18) hx hb hts in_X9 hown hK hP 0 rfl rfl 0 (by decide) kf_7 (fun _ h9 => h9) rfl dX9_undo_15 ?_
    refine lv_iconst (v := 3) hx hb dX9_undo_18 (by decide) ?_
    refine lv_dup2_11 hx hb dX9_undo_19 rfl rfl ?_
    refine va_iald hx hb hK hP 1 0 rfl rfl (by unfold vp_in; decide) dX9_undo_20 ?_
    refine lv_iconst (v := 1) hx hb dX9_undo_21 (by decide) ?_
    refine lv_isub hx hb dX9_undo_22 ?_
    refine va_iast hx hb hK hP hD hS 1 0 rfl rfl (by unfold vp_in; decide) dX9_undo_23 (fun H locs hP hD hS => ?_)
    have hP : va_P D vwCl [(q_a0, .inr (8, [.ref q_a0_told, .ref q_a0_kept, .ref q_a0_isKept, .ref q_a0_refused, .long a0_above, .long a0_below, .ref q_a0_manyBy, .ref q_a0_hers, .ref q_a0_his, .ref q_a0_hand, .ref q_a0_bytes, .int a0_bytesLong, .int a0_tokenAt, .int a0_tokenLong, .int a0_token, .int a0_value, .ref q_a0_anew, .ref q_a0_values])), (q_a0_told, .inl (cI, 163, .inl (upd a0_told ((3 : Int32).toNatClampNeg) ((a0_told (3 : Int32).toNatClampNeg) - 1)))), (q_a0_refused, .inl (cI, 3, .inl a0_refused))] H := hP
    have hD : va_D A [(q_a0, .inr (8, [.ref q_a0_told, .ref q_a0_kept, .ref q_a0_isKept, .ref q_a0_refused, .long a0_above, .long a0_below, .ref q_a0_manyBy, .ref q_a0_hers, .ref q_a0_his, .ref q_a0_hand, .ref q_a0_bytes, .int a0_bytesLong, .int a0_tokenAt, .int a0_tokenLong, .int a0_token, .int a0_value, .ref q_a0_anew, .ref q_a0_values])), (q_a0_told, .inl (cI, 163, .inl (upd a0_told ((3 : Int32).toNatClampNeg) ((a0_told (3 : Int32).toNatClampNeg) - 1)))), (q_a0_refused, .inl (cI, 3, .inl a0_refused))] := hD
    refine lv_iconst (v := 0) hx hb dX9_undo_24 (by decide) ?_
    refine lv_istore_n (lv' := [(1, .int 0), (0, .ref q_a0)]) hx hb dX9_undo_25 rfl hl (by decide) rfl (fun ls hl => ?_)
    have hlp_26 : ∀ (n_26 : Nat) (w_3 : Nat → Int32) (v_4 : Int32) (H : Heap) (locs : List Loc) (ls : Array Slot), lq2 (bX9_undo_26 a0_refused Q) n_26 w_3 v_4 → va_P D vwCl [(q_a0, .inr (8, [.ref q_a0_told, .ref q_a0_kept, .ref q_a0_isKept, .ref q_a0_refused, .long a0_above, .long a0_below, .ref q_a0_manyBy, .ref q_a0_hers, .ref q_a0_his, .ref q_a0_hand, .ref q_a0_bytes, .int a0_bytesLong, .int a0_tokenAt, .int a0_tokenLong, .int a0_token, .int a0_value, .ref q_a0_anew, .ref q_a0_values])), (q_a0_told, .inl (cI, 163, .inl w_3)), (q_a0_refused, .inl (cI, 3, .inl a0_refused))] H → va_D A [(q_a0, .inr (8, [.ref q_a0_told, .ref q_a0_kept, .ref q_a0_isKept, .ref q_a0_refused, .long a0_above, .long a0_below, .ref q_a0_manyBy, .ref q_a0_hers, .ref q_a0_his, .ref q_a0_hand, .ref q_a0_bytes, .int a0_bytesLong, .int a0_tokenAt, .int a0_tokenLong, .int a0_token, .int a0_value, .ref q_a0_anew, .ref q_a0_values])), (q_a0_told, .inl (cI, 163, .inl w_3)), (q_a0_refused, .inl (cI, 3, .inl a0_refused))] → va_S A s.heap H locs → lv_has ls 2 [(0, .ref q_a0), (1, .int v_4)] → W p l e (headSpec wsX9_undo rmX9_undo).room s m ([.ref q_a0] : List Value).toArray below meth c H locs 0 0 QQ (F0 m 26 ls []) := by
      intro n_26
      induction n_26 with
      | zero => intro w_3 v_4 H locs ls hf; exact (lq2_0 hf).elim
      | succ n_26 ih =>
        have ih_26 := ih
        intro w_3 v_4 H locs ls hf hP hD hS hl
        have hf := lq2_s hf
        unfold bX9_undo_26 at hf
        refine lv_iload_n hx hb dX9_undo_26 rfl (lv_at hl 1 rfl) ?_
        refine lv_bipush (v := 11) hx hb dX9_undo_27 (by decide) ?_
        refine lv_icmp_ge (tgt := 65) hx hb dX9_undo_29 (by decide) (fun c_6 => ?_) (fun c_6 => ?_)
        · have hf := it_t c_6 hf
          exact hj_65 w_3 _ _ hf (hP.sub [0, 1, 2] rfl) (hD.sub [0, 1, 2] (by decide) rfl) hS ls (lv_sub hl [0] rfl)
        · have hf := it_f c_6 hf
          refine lv_aload_n hx hb dX9_undo_32 rfl (lv_at hl 0 rfl) ?_
          refine va_get (D := D) (ci := 8) (v := .ref q_a0_told) (C := RX9) (T := TX9) (N := 18) hx hb hts in_X9 hown hK hP 0 rfl rfl 0 (by decide) kf_7 (fun _ h9 => h9) rfl dX9_undo_33 ?_
          refine lv_iconst (v := 4) hx hb dX9_undo_36 (by decide) ?_
          refine lv_iload_n hx hb dX9_undo_37 rfl (lv_at hl 1 rfl) ?_
          refine lv_iadd hx hb dX9_undo_38 ?_
          refine lv_aload_n hx hb dX9_undo_39 rfl (lv_at hl 0 rfl) ?_
          refine va_get (D := D) (ci := 8) (v := .ref q_a0_told) (C := RX9) (T := TX9) (N := 18) hx hb hts in_X9 hown hK hP 0 rfl rfl 0 (by decide) kf_7 (fun _ h9 => h9) rfl dX9_undo_40 ?_
          refine lv_bipush (v := 75) hx hb dX9_undo_43 (by decide) ?_
          refine lv_bipush (v := 11) hx hb dX9_undo_45 (by decide) ?_
          refine lv_aload_n hx hb dX9_undo_47 rfl (lv_at hl 0 rfl) ?_
          refine va_get (D := D) (ci := 8) (v := .ref q_a0_told) (C := RX9) (T := TX9) (N := 18) hx hb hts in_X9 hown hK hP 0 rfl rfl 0 (by decide) kf_7 (fun _ h9 => h9) rfl dX9_undo_48 ?_
          refine lv_iconst (v := 3) hx hb dX9_undo_51 (by decide) ?_
          refine va_iald hx hb hK hP 1 0 rfl rfl (by unfold vp_in; decide) dX9_undo_52 ?_
          refine lv_imul hx hb dX9_undo_53 ?_
          refine lv_iadd hx hb dX9_undo_54 ?_
          refine lv_iload_n hx hb dX9_undo_55 rfl (lv_at hl 1 rfl) ?_
          refine lv_iadd hx hb dX9_undo_56 ?_
          refine va_iald hx hb hK hP 1 0 rfl rfl hf.1 dX9_undo_57 ?_
          have hf := hf.2
          refine va_iast hx hb hK hP hD hS 1 0 rfl rfl hf.1 dX9_undo_58 (fun H locs hP hD hS => ?_)
          have hP : va_P D vwCl [(q_a0, .inr (8, [.ref q_a0_told, .ref q_a0_kept, .ref q_a0_isKept, .ref q_a0_refused, .long a0_above, .long a0_below, .ref q_a0_manyBy, .ref q_a0_hers, .ref q_a0_his, .ref q_a0_hand, .ref q_a0_bytes, .int a0_bytesLong, .int a0_tokenAt, .int a0_tokenLong, .int a0_token, .int a0_value, .ref q_a0_anew, .ref q_a0_values])), (q_a0_told, .inl (cI, 163, .inl (upd w_3 ((4 + v_4).toNatClampNeg) (w_3 ((75 + (11 * (w_3 (3 : Int32).toNatClampNeg))) + v_4).toNatClampNeg)))), (q_a0_refused, .inl (cI, 3, .inl a0_refused))] H := hP
          have hD : va_D A [(q_a0, .inr (8, [.ref q_a0_told, .ref q_a0_kept, .ref q_a0_isKept, .ref q_a0_refused, .long a0_above, .long a0_below, .ref q_a0_manyBy, .ref q_a0_hers, .ref q_a0_his, .ref q_a0_hand, .ref q_a0_bytes, .int a0_bytesLong, .int a0_tokenAt, .int a0_tokenLong, .int a0_token, .int a0_value, .ref q_a0_anew, .ref q_a0_values])), (q_a0_told, .inl (cI, 163, .inl (upd w_3 ((4 + v_4).toNatClampNeg) (w_3 ((75 + (11 * (w_3 (3 : Int32).toNatClampNeg))) + v_4).toNatClampNeg)))), (q_a0_refused, .inl (cI, 3, .inl a0_refused))] := hD
          have hf := hf.2
          refine lv_iinc (v := v_4 + 1) (lv' := [(1, .int (v_4 + 1)), (0, .ref q_a0)]) hx hb dX9_undo_59 hl (k := 1) rfl rfl (by decide) rfl (fun ls hl => ?_)
          refine lv_goto (tgt := 26) hx hb dX9_undo_62 (by decide) ?_
          exact ih (upd w_3 ((4 + v_4).toNatClampNeg) (w_3 ((75 + (11 * (w_3 (3 : Int32).toNatClampNeg))) + v_4).toNatClampNeg)) (v_4 + 1) _ _ ls hf (hP.sub [0, 1, 2] rfl) (hD.sub [0, 1, 2] (by decide) rfl) hS (lv_sub hl [1, 0] rfl)
    exact hlp_26 1000 (upd a0_told ((3 : Int32).toNatClampNeg) ((a0_told (3 : Int32).toNatClampNeg) - 1)) 0 _ _ ls hf (hP.sub [0, 1, 2] rfl) (hD.sub [0, 1, 2] (by decide) rfl) hS (lv_sub hl [1, 0] rfl)
  · have hf := it_t c_2 hf
    refine lv_aload_n hx hb dX9_undo_9 rfl (lv_at hl 0 rfl) ?_
    have hPc := hP.sub (ws' := [(q_a0, .inr (8, [.ref q_a0_told, .ref q_a0_kept, .ref q_a0_isKept, .ref q_a0_refused, .long a0_above, .long a0_below, .ref q_a0_manyBy, .ref q_a0_hers, .ref q_a0_his, .ref q_a0_hand, .ref q_a0_bytes, .int a0_bytesLong, .int a0_tokenAt, .int a0_tokenLong, .int a0_token, .int a0_value, .ref q_a0_anew, .ref q_a0_values])), (q_a0_refused, .inl (cI, 3, .inl a0_refused))]) [0, 2] rfl
    have hDc := hD.sub (ws' := [(q_a0, .inr (8, [.ref q_a0_told, .ref q_a0_kept, .ref q_a0_isKept, .ref q_a0_refused, .long a0_above, .long a0_below, .ref q_a0_manyBy, .ref q_a0_hers, .ref q_a0_his, .ref q_a0_hand, .ref q_a0_bytes, .int a0_bytesLong, .int a0_tokenAt, .int a0_tokenLong, .int a0_token, .int a0_value, .ref q_a0_anew, .ref q_a0_values])), (q_a0_refused, .inl (cI, 3, .inl a0_refused))]) [0, 2] (by decide) rfl
    have hFc := va_free (wc := [(q_a0, .inr (8, [.ref q_a0_told, .ref q_a0_kept, .ref q_a0_isKept, .ref q_a0_refused, .long a0_above, .long a0_below, .ref q_a0_manyBy, .ref q_a0_hers, .ref q_a0_his, .ref q_a0_hand, .ref q_a0_bytes, .int a0_bytesLong, .int a0_tokenAt, .int a0_tokenLong, .int a0_token, .int a0_value, .ref q_a0_anew, .ref q_a0_values])), (q_a0_refused, .inl (cI, 3, .inl a0_refused))]) hD hS hA [0, 2] rfl
    refine va_calli (va_runV (As := []) (rest := []) ⟨hx, hb, hml, hown, hts⟩ (c_X9_no l D cI cZ cO q_a0 q_a0_told q_a0_kept q_a0_isKept q_a0_refused q_a0_manyBy q_a0_hers q_a0_his q_a0_hand q_a0_bytes q_a0_anew q_a0_values a0_above a0_below a0_bytesLong a0_tokenAt a0_tokenLong a0_token a0_value a0_refused s.heap.size  _ hf) (cwV 0 hts gX9_undo_X9_no rfl rfl rfl (by decide +kernel) ⟨Nat.le_of_ble_eq_true rfl, Nat.le_of_ble_eq_true rfl⟩) (pv_rw (ci := 8) (q0 := 0) hPc hDc hX rfl rfl) rfl rfl hl.1 rfl (lv_room (Nat.le_of_ble_eq_true rfl)) dX9_undo_10 ⟨Nat.zero_le _, Nat.zero_le _⟩) hS (fun q _ h => hFc q h) hFc (fun r_7 u t H1 locs ht hvm hf hB hz1 hk1 hS => ?_)
    obtain ⟨u_8, rfl⟩ : ∃ z, z = u := ⟨_, rfl⟩
    obtain ⟨hP1, hD1⟩ := hB
    rw [ht] at hP1
    clear hvm
    obtain ⟨hP, hD⟩ := va_join (wr := [(q_a0_told, .inl (cI, 163, .inl a0_told))]) (w1 := [(q_a0, .inr (8, [.ref q_a0_told, .ref q_a0_kept, .ref q_a0_isKept, .ref q_a0_refused, .long a0_above, .long a0_below, .ref q_a0_manyBy, .ref q_a0_hers, .ref q_a0_his, .ref q_a0_hand, .ref q_a0_bytes, .int a0_bytesLong, .int a0_tokenAt, .int a0_tokenLong, .int a0_token, .int a0_value, .ref q_a0_anew, .ref q_a0_values])), (q_a0_refused, .inl (cI, 3, .inl u_8))]) hP hD [0, 2] [1] rfl rfl (by decide) (by decide) hk1 hFc hP1 hD1
    clear hz1 hk1 hPc hDc hFc hP1 hD1
    generalize H1 = H at hP hS ⊢
    have hP : va_P D vwCl [(q_a0_told, .inl (cI, 163, .inl a0_told)), (q_a0, .inr (8, [.ref q_a0_told, .ref q_a0_kept, .ref q_a0_isKept, .ref q_a0_refused, .long a0_above, .long a0_below, .ref q_a0_manyBy, .ref q_a0_hers, .ref q_a0_his, .ref q_a0_hand, .ref q_a0_bytes, .int a0_bytesLong, .int a0_tokenAt, .int a0_tokenLong, .int a0_token, .int a0_value, .ref q_a0_anew, .ref q_a0_values])), (q_a0_refused, .inl (cI, 3, .inl u_8))] H := hP
    have hD : va_D A [(q_a0_told, .inl (cI, 163, .inl a0_told)), (q_a0, .inr (8, [.ref q_a0_told, .ref q_a0_kept, .ref q_a0_isKept, .ref q_a0_refused, .long a0_above, .long a0_below, .ref q_a0_manyBy, .ref q_a0_hers, .ref q_a0_his, .ref q_a0_hand, .ref q_a0_bytes, .int a0_bytesLong, .int a0_tokenAt, .int a0_tokenLong, .int a0_token, .int a0_value, .ref q_a0_anew, .ref q_a0_values])), (q_a0_refused, .inl (cI, 3, .inl u_8))] := hD
    subst hQQ
    have hP9 := hP.sub (ws' := [(q_a0, .inr (8, [.ref q_a0_told, .ref q_a0_kept, .ref q_a0_isKept, .ref q_a0_refused, .long a0_above, .long a0_below, .ref q_a0_manyBy, .ref q_a0_hers, .ref q_a0_his, .ref q_a0_hand, .ref q_a0_bytes, .int a0_bytesLong, .int a0_tokenAt, .int a0_tokenLong, .int a0_token, .int a0_value, .ref q_a0_anew, .ref q_a0_values])), (q_a0_told, .inl (cI, 163, .inl a0_told)), (q_a0_refused, .inl (cI, 3, .inl u_8))]) [1, 0, 2] rfl
    have hD9 := hD.sub (ws' := [(q_a0, .inr (8, [.ref q_a0_told, .ref q_a0_kept, .ref q_a0_isKept, .ref q_a0_refused, .long a0_above, .long a0_below, .ref q_a0_manyBy, .ref q_a0_hers, .ref q_a0_his, .ref q_a0_hand, .ref q_a0_bytes, .int a0_bytesLong, .int a0_tokenAt, .int a0_tokenLong, .int a0_token, .int a0_value, .ref q_a0_anew, .ref q_a0_values])), (q_a0_told, .inl (cI, 163, .inl a0_told)), (q_a0_refused, .inl (cI, 3, .inl u_8))]) [1, 0, 2] (by decide) rfl
    exact W.iret hx hb hr (fun t ht hW => ⟨⟨r_7, (a0_told, u_8), rfl, hf, by rw [ht]; exact hP9, hD9⟩, hS.F ht⟩) hS.2.2 dX9_undo_13
def p_X9_of (a0_told : Nat → Int32) (a0_refused : Nat → Int32) (x1 : Int32) (x2 : Int32) (Q : Int32 → (Nat → Int32) → Prop) : Prop :=
  p_X9_isBend a0_told x1 (fun r_1 => if r_1 = 0 then (p_X9_bad a0_refused (-2) (fun r_3 u_4 => Q r_3 u_4)) else (p_X9_in x2.toInt64 0 5 (fun r_5 => if r_5 = 0 then (p_X9_bad a0_refused (-2) (fun r_14 u_15 => Q r_14 u_15)) else (if x2 = 0 then (vp_in (18 + x1) 163 ∧ (Q (a0_told (18 + x1).toNatClampNeg) a0_refused)) else (if x2 = 1 then (vp_in (26 + x1) 163 ∧ (Q (a0_told (26 + x1).toNatClampNeg) a0_refused)) else (if x2 = 2 then (p_X9_noteOf a0_told x1 (fun r_10 => Q r_10 a0_refused)) else (if x2 = 3 then (vp_in (34 + x1) 163 ∧ (Q (a0_told (34 + x1).toNatClampNeg) a0_refused)) else (if x2 = 4 then (Q (((a0_told (17 : Int32).toNatClampNeg) >>> (x1 &&& 31)) &&& 1) a0_refused) else (p_X9_holdsOf 163 a0_told x1 (fun r_13 => Q r_13 a0_refused))))))))))
def rmX9_of : Room := { frames := 2, cells := 0, slots := 0, locals := 46 }
set_option maxHeartbeats 4000000 in
set_option maxRecDepth 100000 in
theorem c_X9_of (l : Launch) (D : va_G) (cI cZ cO : ClassId) (q_a0 q_a0_told q_a0_kept q_a0_isKept q_a0_refused q_a0_manyBy q_a0_hers q_a0_his q_a0_hand q_a0_bytes q_a0_anew q_a0_values : Nat) (a0_above : Int64) (a0_below : Int64) (a0_bytesLong : Int32) (a0_tokenAt : Int32) (a0_tokenLong : Int32) (a0_token : Int32) (a0_value : Int32) (a0_told : Nat → Int32) (a0_refused : Nat → Int32) (sz : Nat) (x1 : Int32) (x2 : Int32) (Q : Int32 → (Nat → Int32) → Prop) (hf : p_X9_of a0_told a0_refused x1 x2 Q) : Met l yX9_of wsX9_of rmX9_of (va_Pc [.ref q_a0, .int x1, .int x2] (fun U => U.heap.size = sz ∧ va_P D vwCl [(q_a0, .inr (8, [.ref q_a0_told, .ref q_a0_kept, .ref q_a0_isKept, .ref q_a0_refused, .long a0_above, .long a0_below, .ref q_a0_manyBy, .ref q_a0_hers, .ref q_a0_his, .ref q_a0_hand, .ref q_a0_bytes, .int a0_bytesLong, .int a0_tokenAt, .int a0_tokenLong, .int a0_token, .int a0_value, .ref q_a0_anew, .ref q_a0_values])), (q_a0_told, .inl (cI, 163, .inl a0_told)), (q_a0_refused, .inl (cI, 3, .inl a0_refused))] U.heap ∧ XK D cI cZ cO U ∧ va_D (fun _ => True) [(q_a0, .inr (8, [.ref q_a0_told, .ref q_a0_kept, .ref q_a0_isKept, .ref q_a0_refused, .long a0_above, .long a0_below, .ref q_a0_manyBy, .ref q_a0_hers, .ref q_a0_his, .ref q_a0_hand, .ref q_a0_bytes, .int a0_bytesLong, .int a0_tokenAt, .int a0_tokenLong, .int a0_token, .int a0_value, .ref q_a0_anew, .ref q_a0_values])), (q_a0_told, .inl (cI, 163, .inl a0_told)), (q_a0_refused, .inl (cI, 3, .inl a0_refused))])) (va_Qi (fun r (u : (Nat → Int32)) => Q r u) (fun (u : (Nat → Int32)) t => va_P D vwCl [(q_a0, .inr (8, [.ref q_a0_told, .ref q_a0_kept, .ref q_a0_isKept, .ref q_a0_refused, .long a0_above, .long a0_below, .ref q_a0_manyBy, .ref q_a0_hers, .ref q_a0_his, .ref q_a0_hand, .ref q_a0_bytes, .int a0_bytesLong, .int a0_tokenAt, .int a0_tokenLong, .int a0_token, .int a0_value, .ref q_a0_anew, .ref q_a0_values])), (q_a0_told, .inl (cI, 163, .inl a0_told)), (q_a0_refused, .inl (cI, 3, .inl u))] t.heap ∧ va_D (va_A [(q_a0, .inr (8, [.ref q_a0_told, .ref q_a0_kept, .ref q_a0_isKept, .ref q_a0_refused, .long a0_above, .long a0_below, .ref q_a0_manyBy, .ref q_a0_hers, .ref q_a0_his, .ref q_a0_hand, .ref q_a0_bytes, .int a0_bytesLong, .int a0_tokenAt, .int a0_tokenLong, .int a0_token, .int a0_value, .ref q_a0_anew, .ref q_a0_values])), (q_a0_told, .inl (cI, 163, .inl a0_told)), (q_a0_refused, .inl (cI, 3, .inl a0_refused))] sz) [(q_a0, .inr (8, [.ref q_a0_told, .ref q_a0_kept, .ref q_a0_isKept, .ref q_a0_refused, .long a0_above, .long a0_below, .ref q_a0_manyBy, .ref q_a0_hers, .ref q_a0_his, .ref q_a0_hand, .ref q_a0_bytes, .int a0_bytesLong, .int a0_tokenAt, .int a0_tokenLong, .int a0_token, .int a0_value, .ref q_a0_anew, .ref q_a0_values])), (q_a0_told, .inl (cI, 163, .inl a0_told)), (q_a0_refused, .inl (cI, 3, .inl u))]) (va_A [(q_a0, .inr (8, [.ref q_a0_told, .ref q_a0_kept, .ref q_a0_isKept, .ref q_a0_refused, .long a0_above, .long a0_below, .ref q_a0_manyBy, .ref q_a0_hers, .ref q_a0_his, .ref q_a0_hand, .ref q_a0_bytes, .int a0_bytesLong, .int a0_tokenAt, .int a0_tokenLong, .int a0_token, .int a0_value, .ref q_a0_anew, .ref q_a0_values])), (q_a0_told, .inl (cI, 163, .inl a0_told)), (q_a0_refused, .inl (cI, 3, .inl a0_refused))] sz)) 0 0 (va_A [(q_a0, .inr (8, [.ref q_a0_told, .ref q_a0_kept, .ref q_a0_isKept, .ref q_a0_refused, .long a0_above, .long a0_below, .ref q_a0_manyBy, .ref q_a0_hers, .ref q_a0_his, .ref q_a0_hand, .ref q_a0_bytes, .int a0_bytesLong, .int a0_tokenAt, .int a0_tokenLong, .int a0_token, .int a0_value, .ref q_a0_anew, .ref q_a0_values])), (q_a0_told, .inl (cI, 163, .inl a0_told)), (q_a0_refused, .inl (cI, 3, .inl a0_refused))] sz) := by
  refine Met.ofW (cc := cX9_of) (maxL := 3) (ret := (some .int)) (by decide) rfl ?_
  intro p e s m args below meth c s₁ B hml hv
  obtain ⟨rfl, hsz, hP, hX, hD0⟩ := hv
  have hK := hX.1
  have hx := B.exec
  have hb := B.bytes
  have hr := B.returns
  have hts := atoms_spec (ws := wsX9_of) B.pre
  have hown : s.vm.findClass RX9 = some m.cls := findClass_of_methodNamed B.named
  have hlocks := B.notSynchronized
  have in_X9 : ∀ w ∈ wsX90, w ∈ wsX9_of := fun _ h => List.mem_cons_of_mem _ (List.mem_append_right _ h)
  have kc_60 := hts (.constantLong RX9 60 (5)) (by decide +kernel)
  have kf_7 := hts (.fieldLink RX9 7 "LeftCrestModel" "told" "[I") (by decide +kernel)
  subst hsz
  have hD := hD0.self (sz := s.heap.size)
  generalize hAe : va_A [(q_a0, .inr (8, [.ref q_a0_told, .ref q_a0_kept, .ref q_a0_isKept, .ref q_a0_refused, .long a0_above, .long a0_below, .ref q_a0_manyBy, .ref q_a0_hers, .ref q_a0_his, .ref q_a0_hand, .ref q_a0_bytes, .int a0_bytesLong, .int a0_tokenAt, .int a0_tokenLong, .int a0_token, .int a0_value, .ref q_a0_anew, .ref q_a0_values])), (q_a0_told, .inl (cI, 163, .inl a0_told)), (q_a0_refused, .inl (cI, 3, .inl a0_refused))] s.heap.size = A at hD ⊢
  have hA : ∀ q : Nat, s.heap.size ≤ q → A q := fun q h => by rw [← hAe]; exact Or.inr h
  have hS : va_S A s.heap s.heap [] := va_S.rf
  have hP : va_P D vwCl [(q_a0, .inr (8, [.ref q_a0_told, .ref q_a0_kept, .ref q_a0_isKept, .ref q_a0_refused, .long a0_above, .long a0_below, .ref q_a0_manyBy, .ref q_a0_hers, .ref q_a0_his, .ref q_a0_hand, .ref q_a0_bytes, .int a0_bytesLong, .int a0_tokenAt, .int a0_tokenLong, .int a0_token, .int a0_value, .ref q_a0_anew, .ref q_a0_values])), (q_a0_told, .inl (cI, 163, .inl a0_told)), (q_a0_refused, .inl (cI, 3, .inl a0_refused))] s.heap := hP
  generalize hQQ : MQ below _ _ s _ _ _ = QQ
  have hl := lv_entry ([.ref q_a0, .int x1, .int x2]) (n := 3) (Nat.le_of_ble_eq_true rfl)
  rw [lg_entry_eq]
  generalize (lg_sl ([.ref q_a0, .int x1, .int x2]) ++ List.replicate (3 - (lg_sl ([.ref q_a0, .int x1, .int x2])).length) Slot.unset).toArray = ls at hl ⊢
  have hl : lv_has ls 3 [(0, .ref q_a0), (1, .int x1), (2, .int x2)] := hl
  unfold p_X9_of at hf
  refine lv_aload_n hx hb dX9_of_0 rfl (lv_at hl 0 rfl) ?_
  refine lv_iload_n hx hb dX9_of_1 rfl (lv_at hl 1 rfl) ?_
  refine ya_csi (va_runV (As := [.int x1]) (rest := []) ⟨hx, hb, hml, hown, hts⟩ (c_X9_isBend l D cI cZ cO q_a0 q_a0_told q_a0_kept q_a0_isKept q_a0_refused q_a0_manyBy q_a0_hers q_a0_his q_a0_hand q_a0_bytes q_a0_anew q_a0_values a0_above a0_below a0_bytesLong a0_tokenAt a0_tokenLong a0_token a0_value a0_told x1 _ hf) (cwV 1 hts gX9_of_X9_isBend rfl rfl rfl (by decide +kernel) ⟨Nat.le_of_ble_eq_true rfl, Nat.le_of_ble_eq_true rfl⟩) (pv_ro (ci := 8) (q0 := 0) (hP.sub [0, 1] rfl) hX rfl rfl) rfl rfl hl.1 rfl (lv_room (Nat.le_of_ble_eq_true rfl)) dX9_of_2 ⟨Nat.zero_le _, Nat.zero_le _⟩) (fun r_1 hf => ?_)
  refine lv_if_eq (tgt := 20) hx hb dX9_of_5 (by decide) (fun c_2 => ?_) (fun c_2 => ?_)
  · have hf := it_t c_2 hf
    refine lv_aload_n hx hb dX9_of_20 rfl (lv_at hl 0 rfl) ?_
    refine lv_bipush (v := (-2)) hx hb dX9_of_21 (by decide) ?_
    have hPc := hP.sub (ws' := [(q_a0, .inr (8, [.ref q_a0_told, .ref q_a0_kept, .ref q_a0_isKept, .ref q_a0_refused, .long a0_above, .long a0_below, .ref q_a0_manyBy, .ref q_a0_hers, .ref q_a0_his, .ref q_a0_hand, .ref q_a0_bytes, .int a0_bytesLong, .int a0_tokenAt, .int a0_tokenLong, .int a0_token, .int a0_value, .ref q_a0_anew, .ref q_a0_values])), (q_a0_refused, .inl (cI, 3, .inl a0_refused))]) [0, 2] rfl
    have hDc := hD.sub (ws' := [(q_a0, .inr (8, [.ref q_a0_told, .ref q_a0_kept, .ref q_a0_isKept, .ref q_a0_refused, .long a0_above, .long a0_below, .ref q_a0_manyBy, .ref q_a0_hers, .ref q_a0_his, .ref q_a0_hand, .ref q_a0_bytes, .int a0_bytesLong, .int a0_tokenAt, .int a0_tokenLong, .int a0_token, .int a0_value, .ref q_a0_anew, .ref q_a0_values])), (q_a0_refused, .inl (cI, 3, .inl a0_refused))]) [0, 2] (by decide) rfl
    have hFc := va_free (wc := [(q_a0, .inr (8, [.ref q_a0_told, .ref q_a0_kept, .ref q_a0_isKept, .ref q_a0_refused, .long a0_above, .long a0_below, .ref q_a0_manyBy, .ref q_a0_hers, .ref q_a0_his, .ref q_a0_hand, .ref q_a0_bytes, .int a0_bytesLong, .int a0_tokenAt, .int a0_tokenLong, .int a0_token, .int a0_value, .ref q_a0_anew, .ref q_a0_values])), (q_a0_refused, .inl (cI, 3, .inl a0_refused))]) hD hS hA [0, 2] rfl
    refine va_calli (va_runV (As := [.int (-2)]) (rest := []) ⟨hx, hb, hml, hown, hts⟩ (c_X9_bad l D cI cZ cO q_a0 q_a0_told q_a0_kept q_a0_isKept q_a0_refused q_a0_manyBy q_a0_hers q_a0_his q_a0_hand q_a0_bytes q_a0_anew q_a0_values a0_above a0_below a0_bytesLong a0_tokenAt a0_tokenLong a0_token a0_value a0_refused s.heap.size (-2) _ hf) (cwV 1 hts gX9_of_X9_bad rfl rfl rfl (by decide +kernel) ⟨Nat.le_of_ble_eq_true rfl, Nat.le_of_ble_eq_true rfl⟩) (pv_rw (ci := 8) (q0 := 0) hPc hDc hX rfl rfl) rfl rfl hl.1 rfl (lv_room (Nat.le_of_ble_eq_true rfl)) dX9_of_23 ⟨Nat.zero_le _, Nat.zero_le _⟩) hS (fun q _ h => hFc q h) hFc (fun r_3 u t H1 locs ht hvm hf hB hz1 hk1 hS => ?_)
    obtain ⟨u_4, rfl⟩ : ∃ z, z = u := ⟨_, rfl⟩
    obtain ⟨hP1, hD1⟩ := hB
    rw [ht] at hP1
    clear hvm
    obtain ⟨hP, hD⟩ := va_join (wr := [(q_a0_told, .inl (cI, 163, .inl a0_told))]) (w1 := [(q_a0, .inr (8, [.ref q_a0_told, .ref q_a0_kept, .ref q_a0_isKept, .ref q_a0_refused, .long a0_above, .long a0_below, .ref q_a0_manyBy, .ref q_a0_hers, .ref q_a0_his, .ref q_a0_hand, .ref q_a0_bytes, .int a0_bytesLong, .int a0_tokenAt, .int a0_tokenLong, .int a0_token, .int a0_value, .ref q_a0_anew, .ref q_a0_values])), (q_a0_refused, .inl (cI, 3, .inl u_4))]) hP hD [0, 2] [1] rfl rfl (by decide) (by decide) hk1 hFc hP1 hD1
    clear hz1 hk1 hPc hDc hFc hP1 hD1
    generalize H1 = H at hP hS ⊢
    have hP : va_P D vwCl [(q_a0_told, .inl (cI, 163, .inl a0_told)), (q_a0, .inr (8, [.ref q_a0_told, .ref q_a0_kept, .ref q_a0_isKept, .ref q_a0_refused, .long a0_above, .long a0_below, .ref q_a0_manyBy, .ref q_a0_hers, .ref q_a0_his, .ref q_a0_hand, .ref q_a0_bytes, .int a0_bytesLong, .int a0_tokenAt, .int a0_tokenLong, .int a0_token, .int a0_value, .ref q_a0_anew, .ref q_a0_values])), (q_a0_refused, .inl (cI, 3, .inl u_4))] H := hP
    have hD : va_D A [(q_a0_told, .inl (cI, 163, .inl a0_told)), (q_a0, .inr (8, [.ref q_a0_told, .ref q_a0_kept, .ref q_a0_isKept, .ref q_a0_refused, .long a0_above, .long a0_below, .ref q_a0_manyBy, .ref q_a0_hers, .ref q_a0_his, .ref q_a0_hand, .ref q_a0_bytes, .int a0_bytesLong, .int a0_tokenAt, .int a0_tokenLong, .int a0_token, .int a0_value, .ref q_a0_anew, .ref q_a0_values])), (q_a0_refused, .inl (cI, 3, .inl u_4))] := hD
    subst hQQ
    have hP9 := hP.sub (ws' := [(q_a0, .inr (8, [.ref q_a0_told, .ref q_a0_kept, .ref q_a0_isKept, .ref q_a0_refused, .long a0_above, .long a0_below, .ref q_a0_manyBy, .ref q_a0_hers, .ref q_a0_his, .ref q_a0_hand, .ref q_a0_bytes, .int a0_bytesLong, .int a0_tokenAt, .int a0_tokenLong, .int a0_token, .int a0_value, .ref q_a0_anew, .ref q_a0_values])), (q_a0_told, .inl (cI, 163, .inl a0_told)), (q_a0_refused, .inl (cI, 3, .inl u_4))]) [1, 0, 2] rfl
    have hD9 := hD.sub (ws' := [(q_a0, .inr (8, [.ref q_a0_told, .ref q_a0_kept, .ref q_a0_isKept, .ref q_a0_refused, .long a0_above, .long a0_below, .ref q_a0_manyBy, .ref q_a0_hers, .ref q_a0_his, .ref q_a0_hand, .ref q_a0_bytes, .int a0_bytesLong, .int a0_tokenAt, .int a0_tokenLong, .int a0_token, .int a0_value, .ref q_a0_anew, .ref q_a0_values])), (q_a0_told, .inl (cI, 163, .inl a0_told)), (q_a0_refused, .inl (cI, 3, .inl u_4))]) [1, 0, 2] (by decide) rfl
    exact W.iret hx hb hr (fun t ht hW => ⟨⟨r_3, u_4, rfl, hf, by rw [ht]; exact hP9, hD9⟩, hS.F ht⟩) hS.2.2 dX9_of_26
  · have hf := it_f c_2 hf
    refine lv_iload_n hx hb dX9_of_8 rfl (lv_at hl 2 rfl) ?_
    refine lv_i2l hx hb dX9_of_9 rfl ?_
    refine lv_lconst (v := 0) hx hb dX9_of_10 (by decide) ?_
    refine lv_ldc2 (v := 5) hx hb hown kc_60 dX9_of_11 ?_
    refine ya_csi (va_runS (As := [.long x2.toInt64, .long 0, .long 5]) (rest := []) ⟨hx, hb, hml, hown, hts⟩ (c_X9_in l D cI cZ cO  x2.toInt64 0 5 _ hf) (va_cwS 3 hts gX9_of_X9_in rfl rfl rfl (by decide +kernel) ⟨Nat.le_of_ble_eq_true rfl, Nat.le_of_ble_eq_true rfl⟩) (ps_ro va_P0 hX) rfl rfl hl.1 rfl (lv_room (Nat.le_of_ble_eq_true rfl)) dX9_of_14 ⟨Nat.zero_le _, Nat.zero_le _⟩) (fun r_5 hf => ?_)
    refine lv_if_ne (tgt := 27) hx hb dX9_of_17 (by decide) (fun c_6 => ?_) (fun c_6 => ?_)
    · have hf := it_f c_6 hf
      refine lv_iload_n hx hb dX9_of_27 rfl (lv_at hl 2 rfl) ?_
      by_cases c_7 : x2 = 0
      · have hf := it_t c_7 hf
        refine lv_tableIn (tgt := 64) (off := 36) hx hb dX9_of_28 (by rw [c_7]; decide) (by rw [c_7]; decide) (by rw [c_7]; rfl) (by decide) ?_
        refine lv_aload_n hx hb dX9_of_64 rfl (lv_at hl 0 rfl) ?_
        refine va_get (D := D) (ci := 8) (v := .ref q_a0_told) (C := RX9) (T := TX9) (N := 18) hx hb hts in_X9 hown hK hP 0 rfl rfl 0 (by decide) kf_7 (fun _ h9 => h9) rfl dX9_of_65 ?_
        refine lv_bipush (v := 18) hx hb dX9_of_68 (by decide) ?_
        refine lv_iload_n hx hb dX9_of_70 rfl (lv_at hl 1 rfl) ?_
        refine lv_iadd hx hb dX9_of_71 ?_
        refine va_iald hx hb hK hP 1 0 rfl rfl hf.1 dX9_of_72 ?_
        have hf := hf.2
        subst hQQ
        have hP9 := hP.sub (ws' := [(q_a0, .inr (8, [.ref q_a0_told, .ref q_a0_kept, .ref q_a0_isKept, .ref q_a0_refused, .long a0_above, .long a0_below, .ref q_a0_manyBy, .ref q_a0_hers, .ref q_a0_his, .ref q_a0_hand, .ref q_a0_bytes, .int a0_bytesLong, .int a0_tokenAt, .int a0_tokenLong, .int a0_token, .int a0_value, .ref q_a0_anew, .ref q_a0_values])), (q_a0_told, .inl (cI, 163, .inl a0_told)), (q_a0_refused, .inl (cI, 3, .inl a0_refused))]) [0, 1, 2] rfl
        have hD9 := hD.sub (ws' := [(q_a0, .inr (8, [.ref q_a0_told, .ref q_a0_kept, .ref q_a0_isKept, .ref q_a0_refused, .long a0_above, .long a0_below, .ref q_a0_manyBy, .ref q_a0_hers, .ref q_a0_his, .ref q_a0_hand, .ref q_a0_bytes, .int a0_bytesLong, .int a0_tokenAt, .int a0_tokenLong, .int a0_token, .int a0_value, .ref q_a0_anew, .ref q_a0_values])), (q_a0_told, .inl (cI, 163, .inl a0_told)), (q_a0_refused, .inl (cI, 3, .inl a0_refused))]) [0, 1, 2] (by decide) rfl
        exact W.iret hx hb hr (fun t ht hW => ⟨⟨(a0_told (18 + x1).toNatClampNeg), a0_refused, rfl, hf, by rw [ht]; exact hP9, hD9⟩, hS.F ht⟩) hS.2.2 dX9_of_73
      have hf := it_f c_7 hf
      by_cases c_8 : x2 = 1
      · have hf := it_t c_8 hf
        refine lv_tableIn (tgt := 74) (off := 46) hx hb dX9_of_28 (by rw [c_8]; decide) (by rw [c_8]; decide) (by rw [c_8]; rfl) (by decide) ?_
        refine lv_aload_n hx hb dX9_of_74 rfl (lv_at hl 0 rfl) ?_
        refine va_get (D := D) (ci := 8) (v := .ref q_a0_told) (C := RX9) (T := TX9) (N := 18) hx hb hts in_X9 hown hK hP 0 rfl rfl 0 (by decide) kf_7 (fun _ h9 => h9) rfl dX9_of_75 ?_
        refine lv_bipush (v := 26) hx hb dX9_of_78 (by decide) ?_
        refine lv_iload_n hx hb dX9_of_80 rfl (lv_at hl 1 rfl) ?_
        refine lv_iadd hx hb dX9_of_81 ?_
        refine va_iald hx hb hK hP 1 0 rfl rfl hf.1 dX9_of_82 ?_
        have hf := hf.2
        subst hQQ
        have hP9 := hP.sub (ws' := [(q_a0, .inr (8, [.ref q_a0_told, .ref q_a0_kept, .ref q_a0_isKept, .ref q_a0_refused, .long a0_above, .long a0_below, .ref q_a0_manyBy, .ref q_a0_hers, .ref q_a0_his, .ref q_a0_hand, .ref q_a0_bytes, .int a0_bytesLong, .int a0_tokenAt, .int a0_tokenLong, .int a0_token, .int a0_value, .ref q_a0_anew, .ref q_a0_values])), (q_a0_told, .inl (cI, 163, .inl a0_told)), (q_a0_refused, .inl (cI, 3, .inl a0_refused))]) [0, 1, 2] rfl
        have hD9 := hD.sub (ws' := [(q_a0, .inr (8, [.ref q_a0_told, .ref q_a0_kept, .ref q_a0_isKept, .ref q_a0_refused, .long a0_above, .long a0_below, .ref q_a0_manyBy, .ref q_a0_hers, .ref q_a0_his, .ref q_a0_hand, .ref q_a0_bytes, .int a0_bytesLong, .int a0_tokenAt, .int a0_tokenLong, .int a0_token, .int a0_value, .ref q_a0_anew, .ref q_a0_values])), (q_a0_told, .inl (cI, 163, .inl a0_told)), (q_a0_refused, .inl (cI, 3, .inl a0_refused))]) [0, 1, 2] (by decide) rfl
        exact W.iret hx hb hr (fun t ht hW => ⟨⟨(a0_told (26 + x1).toNatClampNeg), a0_refused, rfl, hf, by rw [ht]; exact hP9, hD9⟩, hS.F ht⟩) hS.2.2 dX9_of_83
      have hf := it_f c_8 hf
      by_cases c_9 : x2 = 2
      · have hf := it_t c_9 hf
        refine lv_tableIn (tgt := 84) (off := 56) hx hb dX9_of_28 (by rw [c_9]; decide) (by rw [c_9]; decide) (by rw [c_9]; rfl) (by decide) ?_
        refine lv_aload_n hx hb dX9_of_84 rfl (lv_at hl 0 rfl) ?_
        refine lv_iload_n hx hb dX9_of_85 rfl (lv_at hl 1 rfl) ?_
        refine ya_csi (va_runV (As := [.int x1]) (rest := []) ⟨hx, hb, hml, hown, hts⟩ (c_X9_noteOf l D cI cZ cO q_a0 q_a0_told q_a0_kept q_a0_isKept q_a0_refused q_a0_manyBy q_a0_hers q_a0_his q_a0_hand q_a0_bytes q_a0_anew q_a0_values a0_above a0_below a0_bytesLong a0_tokenAt a0_tokenLong a0_token a0_value a0_told x1 _ hf) (cwV 1 hts gX9_of_X9_noteOf rfl rfl rfl (by decide +kernel) ⟨Nat.le_of_ble_eq_true rfl, Nat.le_of_ble_eq_true rfl⟩) (pv_ro (ci := 8) (q0 := 0) (hP.sub [0, 1] rfl) hX rfl rfl) rfl rfl hl.1 rfl (lv_room (Nat.le_of_ble_eq_true rfl)) dX9_of_86 ⟨Nat.zero_le _, Nat.zero_le _⟩) (fun r_10 hf => ?_)
        subst hQQ
        have hP9 := hP.sub (ws' := [(q_a0, .inr (8, [.ref q_a0_told, .ref q_a0_kept, .ref q_a0_isKept, .ref q_a0_refused, .long a0_above, .long a0_below, .ref q_a0_manyBy, .ref q_a0_hers, .ref q_a0_his, .ref q_a0_hand, .ref q_a0_bytes, .int a0_bytesLong, .int a0_tokenAt, .int a0_tokenLong, .int a0_token, .int a0_value, .ref q_a0_anew, .ref q_a0_values])), (q_a0_told, .inl (cI, 163, .inl a0_told)), (q_a0_refused, .inl (cI, 3, .inl a0_refused))]) [0, 1, 2] rfl
        have hD9 := hD.sub (ws' := [(q_a0, .inr (8, [.ref q_a0_told, .ref q_a0_kept, .ref q_a0_isKept, .ref q_a0_refused, .long a0_above, .long a0_below, .ref q_a0_manyBy, .ref q_a0_hers, .ref q_a0_his, .ref q_a0_hand, .ref q_a0_bytes, .int a0_bytesLong, .int a0_tokenAt, .int a0_tokenLong, .int a0_token, .int a0_value, .ref q_a0_anew, .ref q_a0_values])), (q_a0_told, .inl (cI, 163, .inl a0_told)), (q_a0_refused, .inl (cI, 3, .inl a0_refused))]) [0, 1, 2] (by decide) rfl
        exact W.iret hx hb hr (fun t ht hW => ⟨⟨r_10, a0_refused, rfl, hf, by rw [ht]; exact hP9, hD9⟩, hS.F ht⟩) hS.2.2 dX9_of_89
      have hf := it_f c_9 hf
      by_cases c_11 : x2 = 3
      · have hf := it_t c_11 hf
        refine lv_tableIn (tgt := 90) (off := 62) hx hb dX9_of_28 (by rw [c_11]; decide) (by rw [c_11]; decide) (by rw [c_11]; rfl) (by decide) ?_
        refine lv_aload_n hx hb dX9_of_90 rfl (lv_at hl 0 rfl) ?_
        refine va_get (D := D) (ci := 8) (v := .ref q_a0_told) (C := RX9) (T := TX9) (N := 18) hx hb hts in_X9 hown hK hP 0 rfl rfl 0 (by decide) kf_7 (fun _ h9 => h9) rfl dX9_of_91 ?_
        refine lv_bipush (v := 34) hx hb dX9_of_94 (by decide) ?_
        refine lv_iload_n hx hb dX9_of_96 rfl (lv_at hl 1 rfl) ?_
        refine lv_iadd hx hb dX9_of_97 ?_
        refine va_iald hx hb hK hP 1 0 rfl rfl hf.1 dX9_of_98 ?_
        have hf := hf.2
        subst hQQ
        have hP9 := hP.sub (ws' := [(q_a0, .inr (8, [.ref q_a0_told, .ref q_a0_kept, .ref q_a0_isKept, .ref q_a0_refused, .long a0_above, .long a0_below, .ref q_a0_manyBy, .ref q_a0_hers, .ref q_a0_his, .ref q_a0_hand, .ref q_a0_bytes, .int a0_bytesLong, .int a0_tokenAt, .int a0_tokenLong, .int a0_token, .int a0_value, .ref q_a0_anew, .ref q_a0_values])), (q_a0_told, .inl (cI, 163, .inl a0_told)), (q_a0_refused, .inl (cI, 3, .inl a0_refused))]) [0, 1, 2] rfl
        have hD9 := hD.sub (ws' := [(q_a0, .inr (8, [.ref q_a0_told, .ref q_a0_kept, .ref q_a0_isKept, .ref q_a0_refused, .long a0_above, .long a0_below, .ref q_a0_manyBy, .ref q_a0_hers, .ref q_a0_his, .ref q_a0_hand, .ref q_a0_bytes, .int a0_bytesLong, .int a0_tokenAt, .int a0_tokenLong, .int a0_token, .int a0_value, .ref q_a0_anew, .ref q_a0_values])), (q_a0_told, .inl (cI, 163, .inl a0_told)), (q_a0_refused, .inl (cI, 3, .inl a0_refused))]) [0, 1, 2] (by decide) rfl
        exact W.iret hx hb hr (fun t ht hW => ⟨⟨(a0_told (34 + x1).toNatClampNeg), a0_refused, rfl, hf, by rw [ht]; exact hP9, hD9⟩, hS.F ht⟩) hS.2.2 dX9_of_99
      have hf := it_f c_11 hf
      by_cases c_12 : x2 = 4
      · have hf := it_t c_12 hf
        refine lv_tableIn (tgt := 100) (off := 72) hx hb dX9_of_28 (by rw [c_12]; decide) (by rw [c_12]; decide) (by rw [c_12]; rfl) (by decide) ?_
        refine lv_aload_n hx hb dX9_of_100 rfl (lv_at hl 0 rfl) ?_
        refine va_get (D := D) (ci := 8) (v := .ref q_a0_told) (C := RX9) (T := TX9) (N := 18) hx hb hts in_X9 hown hK hP 0 rfl rfl 0 (by decide) kf_7 (fun _ h9 => h9) rfl dX9_of_101 ?_
        refine lv_bipush (v := 17) hx hb dX9_of_104 (by decide) ?_
        refine va_iald hx hb hK hP 1 0 rfl rfl (by unfold vp_in; decide) dX9_of_106 ?_
        refine lv_iload_n hx hb dX9_of_107 rfl (lv_at hl 1 rfl) ?_
        refine lv_ishr hx hb dX9_of_108 ?_
        refine lv_iconst (v := 1) hx hb dX9_of_109 (by decide) ?_
        refine lv_iand hx hb dX9_of_110 ?_
        subst hQQ
        have hP9 := hP.sub (ws' := [(q_a0, .inr (8, [.ref q_a0_told, .ref q_a0_kept, .ref q_a0_isKept, .ref q_a0_refused, .long a0_above, .long a0_below, .ref q_a0_manyBy, .ref q_a0_hers, .ref q_a0_his, .ref q_a0_hand, .ref q_a0_bytes, .int a0_bytesLong, .int a0_tokenAt, .int a0_tokenLong, .int a0_token, .int a0_value, .ref q_a0_anew, .ref q_a0_values])), (q_a0_told, .inl (cI, 163, .inl a0_told)), (q_a0_refused, .inl (cI, 3, .inl a0_refused))]) [0, 1, 2] rfl
        have hD9 := hD.sub (ws' := [(q_a0, .inr (8, [.ref q_a0_told, .ref q_a0_kept, .ref q_a0_isKept, .ref q_a0_refused, .long a0_above, .long a0_below, .ref q_a0_manyBy, .ref q_a0_hers, .ref q_a0_his, .ref q_a0_hand, .ref q_a0_bytes, .int a0_bytesLong, .int a0_tokenAt, .int a0_tokenLong, .int a0_token, .int a0_value, .ref q_a0_anew, .ref q_a0_values])), (q_a0_told, .inl (cI, 163, .inl a0_told)), (q_a0_refused, .inl (cI, 3, .inl a0_refused))]) [0, 1, 2] (by decide) rfl
        exact W.iret hx hb hr (fun t ht hW => ⟨⟨(((a0_told (17 : Int32).toNatClampNeg) >>> (x1 &&& 31)) &&& 1), a0_refused, rfl, hf, by rw [ht]; exact hP9, hD9⟩, hS.F ht⟩) hS.2.2 dX9_of_111
      have hf := it_f c_12 hf
      have gc_7 := lv_neT (k := 0) c_7 (a := 0) (by decide)
      have gc_8 := lv_neT (k := 1) c_8 (a := 1) (by decide)
      have gc_9 := lv_neT (k := 2) c_9 (a := 2) (by decide)
      have gc_11 := lv_neT (k := 3) c_11 (a := 3) (by decide)
      have gc_12 := lv_neT (k := 4) c_12 (a := 4) (by decide)
      refine lv_tableOut (tgt := 112) hx hb dX9_of_28 (by omega) (by decide) ?_
      refine lv_aload_n hx hb dX9_of_112 rfl (lv_at hl 0 rfl) ?_
      refine va_get (D := D) (ci := 8) (v := .ref q_a0_told) (C := RX9) (T := TX9) (N := 18) hx hb hts in_X9 hown hK hP 0 rfl rfl 0 (by decide) kf_7 (fun _ h9 => h9) rfl dX9_of_113 ?_
      refine lv_iload_n hx hb dX9_of_116 rfl (lv_at hl 1 rfl) ?_
      refine ya_csi (va_runS (As := [.ref q_a0_told, .int x1]) (rest := []) ⟨hx, hb, hml, hown, hts⟩ (c_X9_holdsOf l D cI cZ cO q_a0_told 163 a0_told x1 _ hf) (va_cwS 2 hts gX9_of_X9_holdsOf rfl rfl rfl (by decide +kernel) ⟨Nat.le_of_ble_eq_true rfl, Nat.le_of_ble_eq_true rfl⟩) (ps_ro (hP.sub [1] rfl) hX) rfl rfl hl.1 rfl (lv_room (Nat.le_of_ble_eq_true rfl)) dX9_of_117 ⟨Nat.zero_le _, Nat.zero_le _⟩) (fun r_13 hf => ?_)
      subst hQQ
      have hP9 := hP.sub (ws' := [(q_a0, .inr (8, [.ref q_a0_told, .ref q_a0_kept, .ref q_a0_isKept, .ref q_a0_refused, .long a0_above, .long a0_below, .ref q_a0_manyBy, .ref q_a0_hers, .ref q_a0_his, .ref q_a0_hand, .ref q_a0_bytes, .int a0_bytesLong, .int a0_tokenAt, .int a0_tokenLong, .int a0_token, .int a0_value, .ref q_a0_anew, .ref q_a0_values])), (q_a0_told, .inl (cI, 163, .inl a0_told)), (q_a0_refused, .inl (cI, 3, .inl a0_refused))]) [0, 1, 2] rfl
      have hD9 := hD.sub (ws' := [(q_a0, .inr (8, [.ref q_a0_told, .ref q_a0_kept, .ref q_a0_isKept, .ref q_a0_refused, .long a0_above, .long a0_below, .ref q_a0_manyBy, .ref q_a0_hers, .ref q_a0_his, .ref q_a0_hand, .ref q_a0_bytes, .int a0_bytesLong, .int a0_tokenAt, .int a0_tokenLong, .int a0_token, .int a0_value, .ref q_a0_anew, .ref q_a0_values])), (q_a0_told, .inl (cI, 163, .inl a0_told)), (q_a0_refused, .inl (cI, 3, .inl a0_refused))]) [0, 1, 2] (by decide) rfl
      exact W.iret hx hb hr (fun t ht hW => ⟨⟨r_13, a0_refused, rfl, hf, by rw [ht]; exact hP9, hD9⟩, hS.F ht⟩) hS.2.2 dX9_of_120
    · have hf := it_t c_6 hf
      refine lv_aload_n hx hb dX9_of_20 rfl (lv_at hl 0 rfl) ?_
      refine lv_bipush (v := (-2)) hx hb dX9_of_21 (by decide) ?_
      have hPc := hP.sub (ws' := [(q_a0, .inr (8, [.ref q_a0_told, .ref q_a0_kept, .ref q_a0_isKept, .ref q_a0_refused, .long a0_above, .long a0_below, .ref q_a0_manyBy, .ref q_a0_hers, .ref q_a0_his, .ref q_a0_hand, .ref q_a0_bytes, .int a0_bytesLong, .int a0_tokenAt, .int a0_tokenLong, .int a0_token, .int a0_value, .ref q_a0_anew, .ref q_a0_values])), (q_a0_refused, .inl (cI, 3, .inl a0_refused))]) [0, 2] rfl
      have hDc := hD.sub (ws' := [(q_a0, .inr (8, [.ref q_a0_told, .ref q_a0_kept, .ref q_a0_isKept, .ref q_a0_refused, .long a0_above, .long a0_below, .ref q_a0_manyBy, .ref q_a0_hers, .ref q_a0_his, .ref q_a0_hand, .ref q_a0_bytes, .int a0_bytesLong, .int a0_tokenAt, .int a0_tokenLong, .int a0_token, .int a0_value, .ref q_a0_anew, .ref q_a0_values])), (q_a0_refused, .inl (cI, 3, .inl a0_refused))]) [0, 2] (by decide) rfl
      have hFc := va_free (wc := [(q_a0, .inr (8, [.ref q_a0_told, .ref q_a0_kept, .ref q_a0_isKept, .ref q_a0_refused, .long a0_above, .long a0_below, .ref q_a0_manyBy, .ref q_a0_hers, .ref q_a0_his, .ref q_a0_hand, .ref q_a0_bytes, .int a0_bytesLong, .int a0_tokenAt, .int a0_tokenLong, .int a0_token, .int a0_value, .ref q_a0_anew, .ref q_a0_values])), (q_a0_refused, .inl (cI, 3, .inl a0_refused))]) hD hS hA [0, 2] rfl
      refine va_calli (va_runV (As := [.int (-2)]) (rest := []) ⟨hx, hb, hml, hown, hts⟩ (c_X9_bad l D cI cZ cO q_a0 q_a0_told q_a0_kept q_a0_isKept q_a0_refused q_a0_manyBy q_a0_hers q_a0_his q_a0_hand q_a0_bytes q_a0_anew q_a0_values a0_above a0_below a0_bytesLong a0_tokenAt a0_tokenLong a0_token a0_value a0_refused s.heap.size (-2) _ hf) (cwV 1 hts gX9_of_X9_bad rfl rfl rfl (by decide +kernel) ⟨Nat.le_of_ble_eq_true rfl, Nat.le_of_ble_eq_true rfl⟩) (pv_rw (ci := 8) (q0 := 0) hPc hDc hX rfl rfl) rfl rfl hl.1 rfl (lv_room (Nat.le_of_ble_eq_true rfl)) dX9_of_23 ⟨Nat.zero_le _, Nat.zero_le _⟩) hS (fun q _ h => hFc q h) hFc (fun r_14 u t H1 locs ht hvm hf hB hz1 hk1 hS => ?_)
      obtain ⟨u_15, rfl⟩ : ∃ z, z = u := ⟨_, rfl⟩
      obtain ⟨hP1, hD1⟩ := hB
      rw [ht] at hP1
      clear hvm
      obtain ⟨hP, hD⟩ := va_join (wr := [(q_a0_told, .inl (cI, 163, .inl a0_told))]) (w1 := [(q_a0, .inr (8, [.ref q_a0_told, .ref q_a0_kept, .ref q_a0_isKept, .ref q_a0_refused, .long a0_above, .long a0_below, .ref q_a0_manyBy, .ref q_a0_hers, .ref q_a0_his, .ref q_a0_hand, .ref q_a0_bytes, .int a0_bytesLong, .int a0_tokenAt, .int a0_tokenLong, .int a0_token, .int a0_value, .ref q_a0_anew, .ref q_a0_values])), (q_a0_refused, .inl (cI, 3, .inl u_15))]) hP hD [0, 2] [1] rfl rfl (by decide) (by decide) hk1 hFc hP1 hD1
      clear hz1 hk1 hPc hDc hFc hP1 hD1
      generalize H1 = H at hP hS ⊢
      have hP : va_P D vwCl [(q_a0_told, .inl (cI, 163, .inl a0_told)), (q_a0, .inr (8, [.ref q_a0_told, .ref q_a0_kept, .ref q_a0_isKept, .ref q_a0_refused, .long a0_above, .long a0_below, .ref q_a0_manyBy, .ref q_a0_hers, .ref q_a0_his, .ref q_a0_hand, .ref q_a0_bytes, .int a0_bytesLong, .int a0_tokenAt, .int a0_tokenLong, .int a0_token, .int a0_value, .ref q_a0_anew, .ref q_a0_values])), (q_a0_refused, .inl (cI, 3, .inl u_15))] H := hP
      have hD : va_D A [(q_a0_told, .inl (cI, 163, .inl a0_told)), (q_a0, .inr (8, [.ref q_a0_told, .ref q_a0_kept, .ref q_a0_isKept, .ref q_a0_refused, .long a0_above, .long a0_below, .ref q_a0_manyBy, .ref q_a0_hers, .ref q_a0_his, .ref q_a0_hand, .ref q_a0_bytes, .int a0_bytesLong, .int a0_tokenAt, .int a0_tokenLong, .int a0_token, .int a0_value, .ref q_a0_anew, .ref q_a0_values])), (q_a0_refused, .inl (cI, 3, .inl u_15))] := hD
      subst hQQ
      have hP9 := hP.sub (ws' := [(q_a0, .inr (8, [.ref q_a0_told, .ref q_a0_kept, .ref q_a0_isKept, .ref q_a0_refused, .long a0_above, .long a0_below, .ref q_a0_manyBy, .ref q_a0_hers, .ref q_a0_his, .ref q_a0_hand, .ref q_a0_bytes, .int a0_bytesLong, .int a0_tokenAt, .int a0_tokenLong, .int a0_token, .int a0_value, .ref q_a0_anew, .ref q_a0_values])), (q_a0_told, .inl (cI, 163, .inl a0_told)), (q_a0_refused, .inl (cI, 3, .inl u_15))]) [1, 0, 2] rfl
      have hD9 := hD.sub (ws' := [(q_a0, .inr (8, [.ref q_a0_told, .ref q_a0_kept, .ref q_a0_isKept, .ref q_a0_refused, .long a0_above, .long a0_below, .ref q_a0_manyBy, .ref q_a0_hers, .ref q_a0_his, .ref q_a0_hand, .ref q_a0_bytes, .int a0_bytesLong, .int a0_tokenAt, .int a0_tokenLong, .int a0_token, .int a0_value, .ref q_a0_anew, .ref q_a0_values])), (q_a0_told, .inl (cI, 163, .inl a0_told)), (q_a0_refused, .inl (cI, 3, .inl u_15))]) [1, 0, 2] (by decide) rfl
      exact W.iret hx hb hr (fun t ht hW => ⟨⟨r_14, u_15, rfl, hf, by rw [ht]; exact hP9, hD9⟩, hS.F ht⟩) hS.2.2 dX9_of_26
def p_X9_nowOf (a0_told : Nat → Int32) (x1 : Int32) (Q : Int32 → Prop) : Prop :=
  if 3 ≤ x1 then (if x1 = 3 then (Q (a0_told (15 : Int32).toNatClampNeg)) else (Q (a0_told (16 : Int32).toNatClampNeg))) else (vp_in (4 + x1) 163 ∧ (Q (a0_told (4 + x1).toNatClampNeg)))
def rmX9_nowOf : Room := { frames := 0, cells := 0, slots := 0, locals := 0 }
set_option maxHeartbeats 4000000 in
set_option maxRecDepth 100000 in
theorem c_X9_nowOf (l : Launch) (D : va_G) (cI cZ cO : ClassId) (q_a0 q_a0_told q_a0_kept q_a0_isKept q_a0_refused q_a0_manyBy q_a0_hers q_a0_his q_a0_hand q_a0_bytes q_a0_anew q_a0_values : Nat) (a0_above : Int64) (a0_below : Int64) (a0_bytesLong : Int32) (a0_tokenAt : Int32) (a0_tokenLong : Int32) (a0_token : Int32) (a0_value : Int32) (a0_told : Nat → Int32) (x1 : Int32) (Q : Int32 → Prop) (hf : p_X9_nowOf a0_told x1 Q) : Met l yX9_nowOf wsX9_nowOf rmX9_nowOf (va_Pc [.ref q_a0, .int x1] (fun U => va_P D vwCl [(q_a0, .inr (8, [.ref q_a0_told, .ref q_a0_kept, .ref q_a0_isKept, .ref q_a0_refused, .long a0_above, .long a0_below, .ref q_a0_manyBy, .ref q_a0_hers, .ref q_a0_his, .ref q_a0_hand, .ref q_a0_bytes, .int a0_bytesLong, .int a0_tokenAt, .int a0_tokenLong, .int a0_token, .int a0_value, .ref q_a0_anew, .ref q_a0_values])), (q_a0_told, .inl (cI, 163, .inl a0_told))] U.heap ∧ XK D cI cZ cO U)) (vp_Si Q) 0 0 (fun _ => False) := by
  refine Met.ofW (cc := cX9_nowOf) (maxL := 2) (ret := (some .int)) (by decide) rfl ?_
  intro p e s m args below meth c s₁ B hml hv
  obtain ⟨rfl, hP, hX⟩ := hv
  have hK := hX.1
  have hx := B.exec
  have hb := B.bytes
  have hr := B.returns
  have hts := atoms_spec (ws := wsX9_nowOf) B.pre
  have hown : s.vm.findClass RX9 = some m.cls := findClass_of_methodNamed B.named
  have hlocks := B.notSynchronized
  have in_X9 : ∀ w ∈ wsX90, w ∈ wsX9_nowOf := fun _ h => List.mem_cons_of_mem _ (List.mem_append_right _ h)
  have kf_7 := hts (.fieldLink RX9 7 "LeftCrestModel" "told" "[I") (by decide +kernel)
  generalize hQQ : MQ below _ _ s _ _ _ = QQ
  have hl := lv_entry ([.ref q_a0, .int x1]) (n := 2) (Nat.le_of_ble_eq_true rfl)
  rw [lg_entry_eq]
  generalize (lg_sl ([.ref q_a0, .int x1]) ++ List.replicate (2 - (lg_sl ([.ref q_a0, .int x1])).length) Slot.unset).toArray = ls at hl ⊢
  have hl : lv_has ls 2 [(0, .ref q_a0), (1, .int x1)] := hl
  unfold p_X9_nowOf at hf
  refine lv_aload_n hx hb dX9_nowOf_0 rfl (lv_at hl 0 rfl) ?_
  refine va_get (D := D) (ci := 8) (v := .ref q_a0_told) (C := RX9) (T := TX9) (N := 18) hx hb hts in_X9 hown hK hP 0 rfl rfl 0 (by decide) kf_7 (fun _ h9 => h9) rfl dX9_nowOf_1 ?_
  refine lv_iload_n hx hb dX9_nowOf_4 rfl (lv_at hl 1 rfl) ?_
  refine lv_iconst (v := 3) hx hb dX9_nowOf_5 (by decide) ?_
  refine lv_icmp_ge (tgt := 15) hx hb dX9_nowOf_6 (by decide) (fun c_1 => ?_) (fun c_1 => ?_)
  · have hf := it_t c_1 hf
    refine lv_iload_n hx hb dX9_nowOf_15 rfl (lv_at hl 1 rfl) ?_
    refine lv_iconst (v := 3) hx hb dX9_nowOf_16 (by decide) ?_
    refine lv_icmp_ne (tgt := 25) hx hb dX9_nowOf_17 (by decide) (fun c_2 => ?_) (fun c_2 => ?_)
    · have hf := it_f c_2 hf
      refine lv_bipush (v := 16) hx hb dX9_nowOf_25 (by decide) ?_
      refine va_iald hx hb hK hP 1 0 rfl rfl (by unfold vp_in; decide) dX9_nowOf_27 ?_
      subst hQQ
      exact W.iret hx hb hr (fun t ht hW => ⟨_, rfl, hf, ht⟩) (fun _ h => absurd h List.not_mem_nil) dX9_nowOf_28
    · have hf := it_t c_2 hf
      refine lv_bipush (v := 15) hx hb dX9_nowOf_20 (by decide) ?_
      refine lv_goto (tgt := 27) hx hb dX9_nowOf_22 (by decide) ?_
      refine va_iald hx hb hK hP 1 0 rfl rfl (by unfold vp_in; decide) dX9_nowOf_27 ?_
      subst hQQ
      exact W.iret hx hb hr (fun t ht hW => ⟨_, rfl, hf, ht⟩) (fun _ h => absurd h List.not_mem_nil) dX9_nowOf_28
  · have hf := it_f c_1 hf
    refine lv_iconst (v := 4) hx hb dX9_nowOf_9 (by decide) ?_
    refine lv_iload_n hx hb dX9_nowOf_10 rfl (lv_at hl 1 rfl) ?_
    refine lv_iadd hx hb dX9_nowOf_11 ?_
    refine lv_goto (tgt := 27) hx hb dX9_nowOf_12 (by decide) ?_
    refine va_iald hx hb hK hP 1 0 rfl rfl hf.1 dX9_nowOf_27 ?_
    have hf := hf.2
    subst hQQ
    exact W.iret hx hb hr (fun t ht hW => ⟨_, rfl, hf, ht⟩) (fun _ h => absurd h List.not_mem_nil) dX9_nowOf_28
def p_X9_now (a0_told : Nat → Int32) (a0_refused : Nat → Int32) (x1 : Int32) (Q : Int32 → (Nat → Int32) → Prop) : Prop :=
  p_X9_in x1.toInt64 0 4 (fun r_1 => if r_1 = 0 then (p_X9_bad a0_refused (-2) (fun r_3 u_4 => Q r_3 u_4)) else (p_X9_nowOf a0_told x1 (fun r_5 => Q r_5 a0_refused)))
def rmX9_now : Room := { frames := 1, cells := 0, slots := 0, locals := 25 }
set_option maxHeartbeats 4000000 in
set_option maxRecDepth 100000 in
theorem c_X9_now (l : Launch) (D : va_G) (cI cZ cO : ClassId) (q_a0 q_a0_told q_a0_kept q_a0_isKept q_a0_refused q_a0_manyBy q_a0_hers q_a0_his q_a0_hand q_a0_bytes q_a0_anew q_a0_values : Nat) (a0_above : Int64) (a0_below : Int64) (a0_bytesLong : Int32) (a0_tokenAt : Int32) (a0_tokenLong : Int32) (a0_token : Int32) (a0_value : Int32) (a0_told : Nat → Int32) (a0_refused : Nat → Int32) (sz : Nat) (x1 : Int32) (Q : Int32 → (Nat → Int32) → Prop) (hf : p_X9_now a0_told a0_refused x1 Q) : Met l yX9_now wsX9_now rmX9_now (va_Pc [.ref q_a0, .int x1] (fun U => U.heap.size = sz ∧ va_P D vwCl [(q_a0, .inr (8, [.ref q_a0_told, .ref q_a0_kept, .ref q_a0_isKept, .ref q_a0_refused, .long a0_above, .long a0_below, .ref q_a0_manyBy, .ref q_a0_hers, .ref q_a0_his, .ref q_a0_hand, .ref q_a0_bytes, .int a0_bytesLong, .int a0_tokenAt, .int a0_tokenLong, .int a0_token, .int a0_value, .ref q_a0_anew, .ref q_a0_values])), (q_a0_told, .inl (cI, 163, .inl a0_told)), (q_a0_refused, .inl (cI, 3, .inl a0_refused))] U.heap ∧ XK D cI cZ cO U ∧ va_D (fun _ => True) [(q_a0, .inr (8, [.ref q_a0_told, .ref q_a0_kept, .ref q_a0_isKept, .ref q_a0_refused, .long a0_above, .long a0_below, .ref q_a0_manyBy, .ref q_a0_hers, .ref q_a0_his, .ref q_a0_hand, .ref q_a0_bytes, .int a0_bytesLong, .int a0_tokenAt, .int a0_tokenLong, .int a0_token, .int a0_value, .ref q_a0_anew, .ref q_a0_values])), (q_a0_told, .inl (cI, 163, .inl a0_told)), (q_a0_refused, .inl (cI, 3, .inl a0_refused))])) (va_Qi (fun r (u : (Nat → Int32)) => Q r u) (fun (u : (Nat → Int32)) t => va_P D vwCl [(q_a0, .inr (8, [.ref q_a0_told, .ref q_a0_kept, .ref q_a0_isKept, .ref q_a0_refused, .long a0_above, .long a0_below, .ref q_a0_manyBy, .ref q_a0_hers, .ref q_a0_his, .ref q_a0_hand, .ref q_a0_bytes, .int a0_bytesLong, .int a0_tokenAt, .int a0_tokenLong, .int a0_token, .int a0_value, .ref q_a0_anew, .ref q_a0_values])), (q_a0_told, .inl (cI, 163, .inl a0_told)), (q_a0_refused, .inl (cI, 3, .inl u))] t.heap ∧ va_D (va_A [(q_a0, .inr (8, [.ref q_a0_told, .ref q_a0_kept, .ref q_a0_isKept, .ref q_a0_refused, .long a0_above, .long a0_below, .ref q_a0_manyBy, .ref q_a0_hers, .ref q_a0_his, .ref q_a0_hand, .ref q_a0_bytes, .int a0_bytesLong, .int a0_tokenAt, .int a0_tokenLong, .int a0_token, .int a0_value, .ref q_a0_anew, .ref q_a0_values])), (q_a0_told, .inl (cI, 163, .inl a0_told)), (q_a0_refused, .inl (cI, 3, .inl a0_refused))] sz) [(q_a0, .inr (8, [.ref q_a0_told, .ref q_a0_kept, .ref q_a0_isKept, .ref q_a0_refused, .long a0_above, .long a0_below, .ref q_a0_manyBy, .ref q_a0_hers, .ref q_a0_his, .ref q_a0_hand, .ref q_a0_bytes, .int a0_bytesLong, .int a0_tokenAt, .int a0_tokenLong, .int a0_token, .int a0_value, .ref q_a0_anew, .ref q_a0_values])), (q_a0_told, .inl (cI, 163, .inl a0_told)), (q_a0_refused, .inl (cI, 3, .inl u))]) (va_A [(q_a0, .inr (8, [.ref q_a0_told, .ref q_a0_kept, .ref q_a0_isKept, .ref q_a0_refused, .long a0_above, .long a0_below, .ref q_a0_manyBy, .ref q_a0_hers, .ref q_a0_his, .ref q_a0_hand, .ref q_a0_bytes, .int a0_bytesLong, .int a0_tokenAt, .int a0_tokenLong, .int a0_token, .int a0_value, .ref q_a0_anew, .ref q_a0_values])), (q_a0_told, .inl (cI, 163, .inl a0_told)), (q_a0_refused, .inl (cI, 3, .inl a0_refused))] sz)) 0 0 (va_A [(q_a0, .inr (8, [.ref q_a0_told, .ref q_a0_kept, .ref q_a0_isKept, .ref q_a0_refused, .long a0_above, .long a0_below, .ref q_a0_manyBy, .ref q_a0_hers, .ref q_a0_his, .ref q_a0_hand, .ref q_a0_bytes, .int a0_bytesLong, .int a0_tokenAt, .int a0_tokenLong, .int a0_token, .int a0_value, .ref q_a0_anew, .ref q_a0_values])), (q_a0_told, .inl (cI, 163, .inl a0_told)), (q_a0_refused, .inl (cI, 3, .inl a0_refused))] sz) := by
  refine Met.ofW (cc := cX9_now) (maxL := 2) (ret := (some .int)) (by decide) rfl ?_
  intro p e s m args below meth c s₁ B hml hv
  obtain ⟨rfl, hsz, hP, hX, hD0⟩ := hv
  have hK := hX.1
  have hx := B.exec
  have hb := B.bytes
  have hr := B.returns
  have hts := atoms_spec (ws := wsX9_now) B.pre
  have hown : s.vm.findClass RX9 = some m.cls := findClass_of_methodNamed B.named
  have hlocks := B.notSynchronized
  have kc_127 := hts (.constantLong RX9 127 (4)) (by decide +kernel)
  subst hsz
  have hD := hD0.self (sz := s.heap.size)
  generalize hAe : va_A [(q_a0, .inr (8, [.ref q_a0_told, .ref q_a0_kept, .ref q_a0_isKept, .ref q_a0_refused, .long a0_above, .long a0_below, .ref q_a0_manyBy, .ref q_a0_hers, .ref q_a0_his, .ref q_a0_hand, .ref q_a0_bytes, .int a0_bytesLong, .int a0_tokenAt, .int a0_tokenLong, .int a0_token, .int a0_value, .ref q_a0_anew, .ref q_a0_values])), (q_a0_told, .inl (cI, 163, .inl a0_told)), (q_a0_refused, .inl (cI, 3, .inl a0_refused))] s.heap.size = A at hD ⊢
  have hA : ∀ q : Nat, s.heap.size ≤ q → A q := fun q h => by rw [← hAe]; exact Or.inr h
  have hS : va_S A s.heap s.heap [] := va_S.rf
  have hP : va_P D vwCl [(q_a0, .inr (8, [.ref q_a0_told, .ref q_a0_kept, .ref q_a0_isKept, .ref q_a0_refused, .long a0_above, .long a0_below, .ref q_a0_manyBy, .ref q_a0_hers, .ref q_a0_his, .ref q_a0_hand, .ref q_a0_bytes, .int a0_bytesLong, .int a0_tokenAt, .int a0_tokenLong, .int a0_token, .int a0_value, .ref q_a0_anew, .ref q_a0_values])), (q_a0_told, .inl (cI, 163, .inl a0_told)), (q_a0_refused, .inl (cI, 3, .inl a0_refused))] s.heap := hP
  generalize hQQ : MQ below _ _ s _ _ _ = QQ
  have hl := lv_entry ([.ref q_a0, .int x1]) (n := 2) (Nat.le_of_ble_eq_true rfl)
  rw [lg_entry_eq]
  generalize (lg_sl ([.ref q_a0, .int x1]) ++ List.replicate (2 - (lg_sl ([.ref q_a0, .int x1])).length) Slot.unset).toArray = ls at hl ⊢
  have hl : lv_has ls 2 [(0, .ref q_a0), (1, .int x1)] := hl
  unfold p_X9_now at hf
  refine lv_iload_n hx hb dX9_now_0 rfl (lv_at hl 1 rfl) ?_
  refine lv_i2l hx hb dX9_now_1 rfl ?_
  refine lv_lconst (v := 0) hx hb dX9_now_2 (by decide) ?_
  refine lv_ldc2 (v := 4) hx hb hown kc_127 dX9_now_3 ?_
  refine ya_csi (va_runS (As := [.long x1.toInt64, .long 0, .long 4]) (rest := []) ⟨hx, hb, hml, hown, hts⟩ (c_X9_in l D cI cZ cO  x1.toInt64 0 4 _ hf) (va_cwS 3 hts gX9_now_X9_in rfl rfl rfl (by decide +kernel) ⟨Nat.le_of_ble_eq_true rfl, Nat.le_of_ble_eq_true rfl⟩) (ps_ro va_P0 hX) rfl rfl hl.1 rfl (lv_room (Nat.le_of_ble_eq_true rfl)) dX9_now_6 ⟨Nat.zero_le _, Nat.zero_le _⟩) (fun r_1 hf => ?_)
  refine lv_if_eq (tgt := 20) hx hb dX9_now_9 (by decide) (fun c_2 => ?_) (fun c_2 => ?_)
  · have hf := it_t c_2 hf
    refine lv_aload_n hx hb dX9_now_20 rfl (lv_at hl 0 rfl) ?_
    refine lv_bipush (v := (-2)) hx hb dX9_now_21 (by decide) ?_
    have hPc := hP.sub (ws' := [(q_a0, .inr (8, [.ref q_a0_told, .ref q_a0_kept, .ref q_a0_isKept, .ref q_a0_refused, .long a0_above, .long a0_below, .ref q_a0_manyBy, .ref q_a0_hers, .ref q_a0_his, .ref q_a0_hand, .ref q_a0_bytes, .int a0_bytesLong, .int a0_tokenAt, .int a0_tokenLong, .int a0_token, .int a0_value, .ref q_a0_anew, .ref q_a0_values])), (q_a0_refused, .inl (cI, 3, .inl a0_refused))]) [0, 2] rfl
    have hDc := hD.sub (ws' := [(q_a0, .inr (8, [.ref q_a0_told, .ref q_a0_kept, .ref q_a0_isKept, .ref q_a0_refused, .long a0_above, .long a0_below, .ref q_a0_manyBy, .ref q_a0_hers, .ref q_a0_his, .ref q_a0_hand, .ref q_a0_bytes, .int a0_bytesLong, .int a0_tokenAt, .int a0_tokenLong, .int a0_token, .int a0_value, .ref q_a0_anew, .ref q_a0_values])), (q_a0_refused, .inl (cI, 3, .inl a0_refused))]) [0, 2] (by decide) rfl
    have hFc := va_free (wc := [(q_a0, .inr (8, [.ref q_a0_told, .ref q_a0_kept, .ref q_a0_isKept, .ref q_a0_refused, .long a0_above, .long a0_below, .ref q_a0_manyBy, .ref q_a0_hers, .ref q_a0_his, .ref q_a0_hand, .ref q_a0_bytes, .int a0_bytesLong, .int a0_tokenAt, .int a0_tokenLong, .int a0_token, .int a0_value, .ref q_a0_anew, .ref q_a0_values])), (q_a0_refused, .inl (cI, 3, .inl a0_refused))]) hD hS hA [0, 2] rfl
    refine va_calli (va_runV (As := [.int (-2)]) (rest := []) ⟨hx, hb, hml, hown, hts⟩ (c_X9_bad l D cI cZ cO q_a0 q_a0_told q_a0_kept q_a0_isKept q_a0_refused q_a0_manyBy q_a0_hers q_a0_his q_a0_hand q_a0_bytes q_a0_anew q_a0_values a0_above a0_below a0_bytesLong a0_tokenAt a0_tokenLong a0_token a0_value a0_refused s.heap.size (-2) _ hf) (cwV 1 hts gX9_now_X9_bad rfl rfl rfl (by decide +kernel) ⟨Nat.le_of_ble_eq_true rfl, Nat.le_of_ble_eq_true rfl⟩) (pv_rw (ci := 8) (q0 := 0) hPc hDc hX rfl rfl) rfl rfl hl.1 rfl (lv_room (Nat.le_of_ble_eq_true rfl)) dX9_now_23 ⟨Nat.zero_le _, Nat.zero_le _⟩) hS (fun q _ h => hFc q h) hFc (fun r_3 u t H1 locs ht hvm hf hB hz1 hk1 hS => ?_)
    obtain ⟨u_4, rfl⟩ : ∃ z, z = u := ⟨_, rfl⟩
    obtain ⟨hP1, hD1⟩ := hB
    rw [ht] at hP1
    clear hvm
    obtain ⟨hP, hD⟩ := va_join (wr := [(q_a0_told, .inl (cI, 163, .inl a0_told))]) (w1 := [(q_a0, .inr (8, [.ref q_a0_told, .ref q_a0_kept, .ref q_a0_isKept, .ref q_a0_refused, .long a0_above, .long a0_below, .ref q_a0_manyBy, .ref q_a0_hers, .ref q_a0_his, .ref q_a0_hand, .ref q_a0_bytes, .int a0_bytesLong, .int a0_tokenAt, .int a0_tokenLong, .int a0_token, .int a0_value, .ref q_a0_anew, .ref q_a0_values])), (q_a0_refused, .inl (cI, 3, .inl u_4))]) hP hD [0, 2] [1] rfl rfl (by decide) (by decide) hk1 hFc hP1 hD1
    clear hz1 hk1 hPc hDc hFc hP1 hD1
    generalize H1 = H at hP hS ⊢
    have hP : va_P D vwCl [(q_a0_told, .inl (cI, 163, .inl a0_told)), (q_a0, .inr (8, [.ref q_a0_told, .ref q_a0_kept, .ref q_a0_isKept, .ref q_a0_refused, .long a0_above, .long a0_below, .ref q_a0_manyBy, .ref q_a0_hers, .ref q_a0_his, .ref q_a0_hand, .ref q_a0_bytes, .int a0_bytesLong, .int a0_tokenAt, .int a0_tokenLong, .int a0_token, .int a0_value, .ref q_a0_anew, .ref q_a0_values])), (q_a0_refused, .inl (cI, 3, .inl u_4))] H := hP
    have hD : va_D A [(q_a0_told, .inl (cI, 163, .inl a0_told)), (q_a0, .inr (8, [.ref q_a0_told, .ref q_a0_kept, .ref q_a0_isKept, .ref q_a0_refused, .long a0_above, .long a0_below, .ref q_a0_manyBy, .ref q_a0_hers, .ref q_a0_his, .ref q_a0_hand, .ref q_a0_bytes, .int a0_bytesLong, .int a0_tokenAt, .int a0_tokenLong, .int a0_token, .int a0_value, .ref q_a0_anew, .ref q_a0_values])), (q_a0_refused, .inl (cI, 3, .inl u_4))] := hD
    subst hQQ
    have hP9 := hP.sub (ws' := [(q_a0, .inr (8, [.ref q_a0_told, .ref q_a0_kept, .ref q_a0_isKept, .ref q_a0_refused, .long a0_above, .long a0_below, .ref q_a0_manyBy, .ref q_a0_hers, .ref q_a0_his, .ref q_a0_hand, .ref q_a0_bytes, .int a0_bytesLong, .int a0_tokenAt, .int a0_tokenLong, .int a0_token, .int a0_value, .ref q_a0_anew, .ref q_a0_values])), (q_a0_told, .inl (cI, 163, .inl a0_told)), (q_a0_refused, .inl (cI, 3, .inl u_4))]) [1, 0, 2] rfl
    have hD9 := hD.sub (ws' := [(q_a0, .inr (8, [.ref q_a0_told, .ref q_a0_kept, .ref q_a0_isKept, .ref q_a0_refused, .long a0_above, .long a0_below, .ref q_a0_manyBy, .ref q_a0_hers, .ref q_a0_his, .ref q_a0_hand, .ref q_a0_bytes, .int a0_bytesLong, .int a0_tokenAt, .int a0_tokenLong, .int a0_token, .int a0_value, .ref q_a0_anew, .ref q_a0_values])), (q_a0_told, .inl (cI, 163, .inl a0_told)), (q_a0_refused, .inl (cI, 3, .inl u_4))]) [1, 0, 2] (by decide) rfl
    exact W.iret hx hb hr (fun t ht hW => ⟨⟨r_3, u_4, rfl, hf, by rw [ht]; exact hP9, hD9⟩, hS.F ht⟩) hS.2.2 dX9_now_26
  · have hf := it_f c_2 hf
    refine lv_aload_n hx hb dX9_now_12 rfl (lv_at hl 0 rfl) ?_
    refine lv_iload_n hx hb dX9_now_13 rfl (lv_at hl 1 rfl) ?_
    refine ya_csi (va_runV (As := [.int x1]) (rest := []) ⟨hx, hb, hml, hown, hts⟩ (c_X9_nowOf l D cI cZ cO q_a0 q_a0_told q_a0_kept q_a0_isKept q_a0_refused q_a0_manyBy q_a0_hers q_a0_his q_a0_hand q_a0_bytes q_a0_anew q_a0_values a0_above a0_below a0_bytesLong a0_tokenAt a0_tokenLong a0_token a0_value a0_told x1 _ hf) (cwV 1 hts gX9_now_X9_nowOf rfl rfl rfl (by decide +kernel) ⟨Nat.le_of_ble_eq_true rfl, Nat.le_of_ble_eq_true rfl⟩) (pv_ro (ci := 8) (q0 := 0) (hP.sub [0, 1] rfl) hX rfl rfl) rfl rfl hl.1 rfl (lv_room (Nat.le_of_ble_eq_true rfl)) dX9_now_14 ⟨Nat.zero_le _, Nat.zero_le _⟩) (fun r_5 hf => ?_)
    refine lv_goto (tgt := 26) hx hb dX9_now_17 (by decide) ?_
    subst hQQ
    have hP9 := hP.sub (ws' := [(q_a0, .inr (8, [.ref q_a0_told, .ref q_a0_kept, .ref q_a0_isKept, .ref q_a0_refused, .long a0_above, .long a0_below, .ref q_a0_manyBy, .ref q_a0_hers, .ref q_a0_his, .ref q_a0_hand, .ref q_a0_bytes, .int a0_bytesLong, .int a0_tokenAt, .int a0_tokenLong, .int a0_token, .int a0_value, .ref q_a0_anew, .ref q_a0_values])), (q_a0_told, .inl (cI, 163, .inl a0_told)), (q_a0_refused, .inl (cI, 3, .inl a0_refused))]) [0, 1, 2] rfl
    have hD9 := hD.sub (ws' := [(q_a0, .inr (8, [.ref q_a0_told, .ref q_a0_kept, .ref q_a0_isKept, .ref q_a0_refused, .long a0_above, .long a0_below, .ref q_a0_manyBy, .ref q_a0_hers, .ref q_a0_his, .ref q_a0_hand, .ref q_a0_bytes, .int a0_bytesLong, .int a0_tokenAt, .int a0_tokenLong, .int a0_token, .int a0_value, .ref q_a0_anew, .ref q_a0_values])), (q_a0_told, .inl (cI, 163, .inl a0_told)), (q_a0_refused, .inl (cI, 3, .inl a0_refused))]) [0, 1, 2] (by decide) rfl
    exact W.iret hx hb hr (fun t ht hW => ⟨⟨r_5, a0_refused, rfl, hf, by rw [ht]; exact hP9, hD9⟩, hS.F ht⟩) hS.2.2 dX9_now_26
def jX9_pace_53 (a0_told : Nat → Int32) (a0_refused : Nat → Int32) (x1 : Int32) (x3 : Int32) (Q : Int32 → (Nat → Int32) → Prop) (t_1 : Int32) : Prop :=
  if x3 = 0 then (p_X9_paceBy 163 a0_told x1 t_1 (fun r_4 => Q r_4 a0_refused)) else (p_X9_cost a0_told x1 t_1 (fun r_3 => Q r_3 a0_refused))
def p_X9_pace (a0_told : Nat → Int32) (a0_refused : Nat → Int32) (x1 : Int32) (x2 : Int32) (x3 : Int32) (Q : Int32 → (Nat → Int32) → Prop) : Prop :=
  p_X9_isBend a0_told x1 (fun r_5 => if r_5 = 0 then (p_X9_bad a0_refused (-2) (fun r_7 u_8 => Q r_7 u_8)) else (p_X9_in x2.toInt64 (-1) 6 (fun r_9 => if r_9 = 0 then (p_X9_bad a0_refused (-2) (fun r_11 u_12 => Q r_11 u_12)) else (p_X9_in x3.toInt64 0 1 (fun r_13 => if r_13 = 0 then (p_X9_bad a0_refused (-2) (fun r_17 u_18 => Q r_17 u_18)) else (if x2 = (-1) then (p_X9_noteOf a0_told x1 (fun r_16 => jX9_pace_53 a0_told a0_refused x1 x3 Q r_16)) else (jX9_pace_53 a0_told a0_refused x1 x3 Q x2)))))))
def rmX9_pace : Room := { frames := 4, cells := 0, slots := 0, locals := 93 }
set_option maxHeartbeats 4000000 in
set_option maxRecDepth 100000 in
theorem c_X9_pace (l : Launch) (D : va_G) (cI cZ cO : ClassId) (q_a0 q_a0_told q_a0_kept q_a0_isKept q_a0_refused q_a0_manyBy q_a0_hers q_a0_his q_a0_hand q_a0_bytes q_a0_anew q_a0_values : Nat) (a0_above : Int64) (a0_below : Int64) (a0_bytesLong : Int32) (a0_tokenAt : Int32) (a0_tokenLong : Int32) (a0_token : Int32) (a0_value : Int32) (a0_told : Nat → Int32) (a0_refused : Nat → Int32) (sz : Nat) (x1 : Int32) (x2 : Int32) (x3 : Int32) (Q : Int32 → (Nat → Int32) → Prop) (hf : p_X9_pace a0_told a0_refused x1 x2 x3 Q) : Met l yX9_pace wsX9_pace rmX9_pace (va_Pc [.ref q_a0, .int x1, .int x2, .int x3] (fun U => U.heap.size = sz ∧ va_P D vwCl [(q_a0, .inr (8, [.ref q_a0_told, .ref q_a0_kept, .ref q_a0_isKept, .ref q_a0_refused, .long a0_above, .long a0_below, .ref q_a0_manyBy, .ref q_a0_hers, .ref q_a0_his, .ref q_a0_hand, .ref q_a0_bytes, .int a0_bytesLong, .int a0_tokenAt, .int a0_tokenLong, .int a0_token, .int a0_value, .ref q_a0_anew, .ref q_a0_values])), (q_a0_told, .inl (cI, 163, .inl a0_told)), (q_a0_refused, .inl (cI, 3, .inl a0_refused))] U.heap ∧ XK D cI cZ cO U ∧ va_D (fun _ => True) [(q_a0, .inr (8, [.ref q_a0_told, .ref q_a0_kept, .ref q_a0_isKept, .ref q_a0_refused, .long a0_above, .long a0_below, .ref q_a0_manyBy, .ref q_a0_hers, .ref q_a0_his, .ref q_a0_hand, .ref q_a0_bytes, .int a0_bytesLong, .int a0_tokenAt, .int a0_tokenLong, .int a0_token, .int a0_value, .ref q_a0_anew, .ref q_a0_values])), (q_a0_told, .inl (cI, 163, .inl a0_told)), (q_a0_refused, .inl (cI, 3, .inl a0_refused))])) (va_Qi (fun r (u : (Nat → Int32)) => Q r u) (fun (u : (Nat → Int32)) t => va_P D vwCl [(q_a0, .inr (8, [.ref q_a0_told, .ref q_a0_kept, .ref q_a0_isKept, .ref q_a0_refused, .long a0_above, .long a0_below, .ref q_a0_manyBy, .ref q_a0_hers, .ref q_a0_his, .ref q_a0_hand, .ref q_a0_bytes, .int a0_bytesLong, .int a0_tokenAt, .int a0_tokenLong, .int a0_token, .int a0_value, .ref q_a0_anew, .ref q_a0_values])), (q_a0_told, .inl (cI, 163, .inl a0_told)), (q_a0_refused, .inl (cI, 3, .inl u))] t.heap ∧ va_D (va_A [(q_a0, .inr (8, [.ref q_a0_told, .ref q_a0_kept, .ref q_a0_isKept, .ref q_a0_refused, .long a0_above, .long a0_below, .ref q_a0_manyBy, .ref q_a0_hers, .ref q_a0_his, .ref q_a0_hand, .ref q_a0_bytes, .int a0_bytesLong, .int a0_tokenAt, .int a0_tokenLong, .int a0_token, .int a0_value, .ref q_a0_anew, .ref q_a0_values])), (q_a0_told, .inl (cI, 163, .inl a0_told)), (q_a0_refused, .inl (cI, 3, .inl a0_refused))] sz) [(q_a0, .inr (8, [.ref q_a0_told, .ref q_a0_kept, .ref q_a0_isKept, .ref q_a0_refused, .long a0_above, .long a0_below, .ref q_a0_manyBy, .ref q_a0_hers, .ref q_a0_his, .ref q_a0_hand, .ref q_a0_bytes, .int a0_bytesLong, .int a0_tokenAt, .int a0_tokenLong, .int a0_token, .int a0_value, .ref q_a0_anew, .ref q_a0_values])), (q_a0_told, .inl (cI, 163, .inl a0_told)), (q_a0_refused, .inl (cI, 3, .inl u))]) (va_A [(q_a0, .inr (8, [.ref q_a0_told, .ref q_a0_kept, .ref q_a0_isKept, .ref q_a0_refused, .long a0_above, .long a0_below, .ref q_a0_manyBy, .ref q_a0_hers, .ref q_a0_his, .ref q_a0_hand, .ref q_a0_bytes, .int a0_bytesLong, .int a0_tokenAt, .int a0_tokenLong, .int a0_token, .int a0_value, .ref q_a0_anew, .ref q_a0_values])), (q_a0_told, .inl (cI, 163, .inl a0_told)), (q_a0_refused, .inl (cI, 3, .inl a0_refused))] sz)) 0 0 (va_A [(q_a0, .inr (8, [.ref q_a0_told, .ref q_a0_kept, .ref q_a0_isKept, .ref q_a0_refused, .long a0_above, .long a0_below, .ref q_a0_manyBy, .ref q_a0_hers, .ref q_a0_his, .ref q_a0_hand, .ref q_a0_bytes, .int a0_bytesLong, .int a0_tokenAt, .int a0_tokenLong, .int a0_token, .int a0_value, .ref q_a0_anew, .ref q_a0_values])), (q_a0_told, .inl (cI, 163, .inl a0_told)), (q_a0_refused, .inl (cI, 3, .inl a0_refused))] sz) := by
  refine Met.ofW (cc := cX9_pace) (maxL := 5) (ret := (some .int)) (by decide) rfl ?_
  intro p e s m args below meth c s₁ B hml hv
  obtain ⟨rfl, hsz, hP, hX, hD0⟩ := hv
  have hK := hX.1
  have hx := B.exec
  have hb := B.bytes
  have hr := B.returns
  have hts := atoms_spec (ws := wsX9_pace) B.pre
  have hown : s.vm.findClass RX9 = some m.cls := findClass_of_methodNamed B.named
  have hlocks := B.notSynchronized
  have in_X9 : ∀ w ∈ wsX90, w ∈ wsX9_pace := fun _ h => List.mem_cons_of_mem _ (List.mem_append_right _ h)
  have kf_7 := hts (.fieldLink RX9 7 "LeftCrestModel" "told" "[I") (by decide +kernel)
  have kc_132 := hts (.constantLong RX9 132 (-1)) (by decide +kernel)
  have kc_62 := hts (.constantLong RX9 62 (6)) (by decide +kernel)
  subst hsz
  have hD := hD0.self (sz := s.heap.size)
  generalize hAe : va_A [(q_a0, .inr (8, [.ref q_a0_told, .ref q_a0_kept, .ref q_a0_isKept, .ref q_a0_refused, .long a0_above, .long a0_below, .ref q_a0_manyBy, .ref q_a0_hers, .ref q_a0_his, .ref q_a0_hand, .ref q_a0_bytes, .int a0_bytesLong, .int a0_tokenAt, .int a0_tokenLong, .int a0_token, .int a0_value, .ref q_a0_anew, .ref q_a0_values])), (q_a0_told, .inl (cI, 163, .inl a0_told)), (q_a0_refused, .inl (cI, 3, .inl a0_refused))] s.heap.size = A at hD ⊢
  have hA : ∀ q : Nat, s.heap.size ≤ q → A q := fun q h => by rw [← hAe]; exact Or.inr h
  have hS : va_S A s.heap s.heap [] := va_S.rf
  have hP : va_P D vwCl [(q_a0, .inr (8, [.ref q_a0_told, .ref q_a0_kept, .ref q_a0_isKept, .ref q_a0_refused, .long a0_above, .long a0_below, .ref q_a0_manyBy, .ref q_a0_hers, .ref q_a0_his, .ref q_a0_hand, .ref q_a0_bytes, .int a0_bytesLong, .int a0_tokenAt, .int a0_tokenLong, .int a0_token, .int a0_value, .ref q_a0_anew, .ref q_a0_values])), (q_a0_told, .inl (cI, 163, .inl a0_told)), (q_a0_refused, .inl (cI, 3, .inl a0_refused))] s.heap := hP
  generalize hQQ : MQ below _ _ s _ _ _ = QQ
  have hl := lv_entry ([.ref q_a0, .int x1, .int x2, .int x3]) (n := 5) (Nat.le_of_ble_eq_true rfl)
  rw [lg_entry_eq]
  generalize (lg_sl ([.ref q_a0, .int x1, .int x2, .int x3]) ++ List.replicate (5 - (lg_sl ([.ref q_a0, .int x1, .int x2, .int x3])).length) Slot.unset).toArray = ls at hl ⊢
  have hl : lv_has ls 5 [(0, .ref q_a0), (1, .int x1), (2, .int x2), (3, .int x3)] := hl
  have hj_53 : ∀ (t_1 : Int32) (H : Heap) (locs : List Loc), jX9_pace_53 a0_told a0_refused x1 x3 Q t_1 → va_P D vwCl [(q_a0, .inr (8, [.ref q_a0_told, .ref q_a0_kept, .ref q_a0_isKept, .ref q_a0_refused, .long a0_above, .long a0_below, .ref q_a0_manyBy, .ref q_a0_hers, .ref q_a0_his, .ref q_a0_hand, .ref q_a0_bytes, .int a0_bytesLong, .int a0_tokenAt, .int a0_tokenLong, .int a0_token, .int a0_value, .ref q_a0_anew, .ref q_a0_values])), (q_a0_told, .inl (cI, 163, .inl a0_told)), (q_a0_refused, .inl (cI, 3, .inl a0_refused))] H → va_D A [(q_a0, .inr (8, [.ref q_a0_told, .ref q_a0_kept, .ref q_a0_isKept, .ref q_a0_refused, .long a0_above, .long a0_below, .ref q_a0_manyBy, .ref q_a0_hers, .ref q_a0_his, .ref q_a0_hand, .ref q_a0_bytes, .int a0_bytesLong, .int a0_tokenAt, .int a0_tokenLong, .int a0_token, .int a0_value, .ref q_a0_anew, .ref q_a0_values])), (q_a0_told, .inl (cI, 163, .inl a0_told)), (q_a0_refused, .inl (cI, 3, .inl a0_refused))] → va_S A s.heap H locs → ∀ ls : Array Slot, lv_has ls 5 [(0, .ref q_a0), (1, .int x1), (3, .int x3)] → W p l e (headSpec wsX9_pace rmX9_pace).room s m ([.ref q_a0, .int x1, .int x2, .int x3] : List Value).toArray below meth c H locs 0 0 QQ (F0 m 53 ls [.int t_1]) := by
    intro t_1 H locs hf hP hD hS ls hl
    unfold jX9_pace_53 at hf
    refine lv_istore (lv' := [(4, .int t_1), (0, .ref q_a0), (1, .int x1), (3, .int x3)]) hx hb dX9_pace_53 hl (by decide) rfl (fun ls hl => ?_)
    refine lv_iload_n hx hb dX9_pace_55 rfl (lv_at hl 3 rfl) ?_
    refine lv_if_ne (tgt := 72) hx hb dX9_pace_56 (by decide) (fun c_2 => ?_) (fun c_2 => ?_)
    · have hf := it_f c_2 hf
      refine lv_aload_n hx hb dX9_pace_72 rfl (lv_at hl 1 rfl) ?_
      refine lv_iload_n hx hb dX9_pace_73 rfl (lv_at hl 2 rfl) ?_
      refine lv_iload hx hb dX9_pace_74 (lv_at hl 0 rfl) ?_
      refine ya_csi (va_runV (As := [.int x1, .int t_1]) (rest := []) ⟨hx, hb, hml, hown, hts⟩ (c_X9_cost l D cI cZ cO q_a0 q_a0_told q_a0_kept q_a0_isKept q_a0_refused q_a0_manyBy q_a0_hers q_a0_his q_a0_hand q_a0_bytes q_a0_anew q_a0_values a0_above a0_below a0_bytesLong a0_tokenAt a0_tokenLong a0_token a0_value a0_told x1 t_1 _ hf) (cwV 2 hts gX9_pace_X9_cost rfl rfl rfl (by decide +kernel) ⟨Nat.le_of_ble_eq_true rfl, Nat.le_of_ble_eq_true rfl⟩) (pv_ro (ci := 8) (q0 := 0) (hP.sub [0, 1] rfl) hX rfl rfl) rfl rfl hl.1 rfl (lv_room (Nat.le_of_ble_eq_true rfl)) dX9_pace_76 ⟨Nat.zero_le _, Nat.zero_le _⟩) (fun r_3 hf => ?_)
      subst hQQ
      have hP9 := hP.sub (ws' := [(q_a0, .inr (8, [.ref q_a0_told, .ref q_a0_kept, .ref q_a0_isKept, .ref q_a0_refused, .long a0_above, .long a0_below, .ref q_a0_manyBy, .ref q_a0_hers, .ref q_a0_his, .ref q_a0_hand, .ref q_a0_bytes, .int a0_bytesLong, .int a0_tokenAt, .int a0_tokenLong, .int a0_token, .int a0_value, .ref q_a0_anew, .ref q_a0_values])), (q_a0_told, .inl (cI, 163, .inl a0_told)), (q_a0_refused, .inl (cI, 3, .inl a0_refused))]) [0, 1, 2] rfl
      have hD9 := hD.sub (ws' := [(q_a0, .inr (8, [.ref q_a0_told, .ref q_a0_kept, .ref q_a0_isKept, .ref q_a0_refused, .long a0_above, .long a0_below, .ref q_a0_manyBy, .ref q_a0_hers, .ref q_a0_his, .ref q_a0_hand, .ref q_a0_bytes, .int a0_bytesLong, .int a0_tokenAt, .int a0_tokenLong, .int a0_token, .int a0_value, .ref q_a0_anew, .ref q_a0_values])), (q_a0_told, .inl (cI, 163, .inl a0_told)), (q_a0_refused, .inl (cI, 3, .inl a0_refused))]) [0, 1, 2] (by decide) rfl
      exact W.iret hx hb hr (fun t ht hW => ⟨⟨r_3, a0_refused, rfl, hf, by rw [ht]; exact hP9, hD9⟩, hS.F ht⟩) hS.2.2 dX9_pace_79
    · have hf := it_t c_2 hf
      refine lv_aload_n hx hb dX9_pace_59 rfl (lv_at hl 1 rfl) ?_
      refine va_get (D := D) (ci := 8) (v := .ref q_a0_told) (C := RX9) (T := TX9) (N := 18) hx hb hts in_X9 hown hK hP 0 rfl rfl 0 (by decide) kf_7 (fun _ h9 => h9) rfl dX9_pace_60 ?_
      refine lv_iload_n hx hb dX9_pace_63 rfl (lv_at hl 2 rfl) ?_
      refine lv_iload hx hb dX9_pace_64 (lv_at hl 0 rfl) ?_
      refine ya_csi (va_runS (As := [.ref q_a0_told, .int x1, .int t_1]) (rest := []) ⟨hx, hb, hml, hown, hts⟩ (c_X9_paceBy l D cI cZ cO q_a0_told 163 a0_told x1 t_1 _ hf) (va_cwS 3 hts gX9_pace_X9_paceBy rfl rfl rfl (by decide +kernel) ⟨Nat.le_of_ble_eq_true rfl, Nat.le_of_ble_eq_true rfl⟩) (ps_ro (hP.sub [1] rfl) hX) rfl rfl hl.1 rfl (lv_room (Nat.le_of_ble_eq_true rfl)) dX9_pace_66 ⟨Nat.zero_le _, Nat.zero_le _⟩) (fun r_4 hf => ?_)
      refine lv_goto (tgt := 79) hx hb dX9_pace_69 (by decide) ?_
      subst hQQ
      have hP9 := hP.sub (ws' := [(q_a0, .inr (8, [.ref q_a0_told, .ref q_a0_kept, .ref q_a0_isKept, .ref q_a0_refused, .long a0_above, .long a0_below, .ref q_a0_manyBy, .ref q_a0_hers, .ref q_a0_his, .ref q_a0_hand, .ref q_a0_bytes, .int a0_bytesLong, .int a0_tokenAt, .int a0_tokenLong, .int a0_token, .int a0_value, .ref q_a0_anew, .ref q_a0_values])), (q_a0_told, .inl (cI, 163, .inl a0_told)), (q_a0_refused, .inl (cI, 3, .inl a0_refused))]) [0, 1, 2] rfl
      have hD9 := hD.sub (ws' := [(q_a0, .inr (8, [.ref q_a0_told, .ref q_a0_kept, .ref q_a0_isKept, .ref q_a0_refused, .long a0_above, .long a0_below, .ref q_a0_manyBy, .ref q_a0_hers, .ref q_a0_his, .ref q_a0_hand, .ref q_a0_bytes, .int a0_bytesLong, .int a0_tokenAt, .int a0_tokenLong, .int a0_token, .int a0_value, .ref q_a0_anew, .ref q_a0_values])), (q_a0_told, .inl (cI, 163, .inl a0_told)), (q_a0_refused, .inl (cI, 3, .inl a0_refused))]) [0, 1, 2] (by decide) rfl
      exact W.iret hx hb hr (fun t ht hW => ⟨⟨r_4, a0_refused, rfl, hf, by rw [ht]; exact hP9, hD9⟩, hS.F ht⟩) hS.2.2 dX9_pace_79
  unfold p_X9_pace at hf
  refine lv_aload_n hx hb dX9_pace_0 rfl (lv_at hl 0 rfl) ?_
  refine lv_iload_n hx hb dX9_pace_1 rfl (lv_at hl 1 rfl) ?_
  refine ya_csi (va_runV (As := [.int x1]) (rest := []) ⟨hx, hb, hml, hown, hts⟩ (c_X9_isBend l D cI cZ cO q_a0 q_a0_told q_a0_kept q_a0_isKept q_a0_refused q_a0_manyBy q_a0_hers q_a0_his q_a0_hand q_a0_bytes q_a0_anew q_a0_values a0_above a0_below a0_bytesLong a0_tokenAt a0_tokenLong a0_token a0_value a0_told x1 _ hf) (cwV 1 hts gX9_pace_X9_isBend rfl rfl rfl (by decide +kernel) ⟨Nat.le_of_ble_eq_true rfl, Nat.le_of_ble_eq_true rfl⟩) (pv_ro (ci := 8) (q0 := 0) (hP.sub [0, 1] rfl) hX rfl rfl) rfl rfl hl.1 rfl (lv_room (Nat.le_of_ble_eq_true rfl)) dX9_pace_2 ⟨Nat.zero_le _, Nat.zero_le _⟩) (fun r_5 hf => ?_)
  refine lv_if_eq (tgt := 32) hx hb dX9_pace_5 (by decide) (fun c_6 => ?_) (fun c_6 => ?_)
  · have hf := it_t c_6 hf
    refine lv_aload_n hx hb dX9_pace_32 rfl (lv_at hl 0 rfl) ?_
    refine lv_bipush (v := (-2)) hx hb dX9_pace_33 (by decide) ?_
    have hPc := hP.sub (ws' := [(q_a0, .inr (8, [.ref q_a0_told, .ref q_a0_kept, .ref q_a0_isKept, .ref q_a0_refused, .long a0_above, .long a0_below, .ref q_a0_manyBy, .ref q_a0_hers, .ref q_a0_his, .ref q_a0_hand, .ref q_a0_bytes, .int a0_bytesLong, .int a0_tokenAt, .int a0_tokenLong, .int a0_token, .int a0_value, .ref q_a0_anew, .ref q_a0_values])), (q_a0_refused, .inl (cI, 3, .inl a0_refused))]) [0, 2] rfl
    have hDc := hD.sub (ws' := [(q_a0, .inr (8, [.ref q_a0_told, .ref q_a0_kept, .ref q_a0_isKept, .ref q_a0_refused, .long a0_above, .long a0_below, .ref q_a0_manyBy, .ref q_a0_hers, .ref q_a0_his, .ref q_a0_hand, .ref q_a0_bytes, .int a0_bytesLong, .int a0_tokenAt, .int a0_tokenLong, .int a0_token, .int a0_value, .ref q_a0_anew, .ref q_a0_values])), (q_a0_refused, .inl (cI, 3, .inl a0_refused))]) [0, 2] (by decide) rfl
    have hFc := va_free (wc := [(q_a0, .inr (8, [.ref q_a0_told, .ref q_a0_kept, .ref q_a0_isKept, .ref q_a0_refused, .long a0_above, .long a0_below, .ref q_a0_manyBy, .ref q_a0_hers, .ref q_a0_his, .ref q_a0_hand, .ref q_a0_bytes, .int a0_bytesLong, .int a0_tokenAt, .int a0_tokenLong, .int a0_token, .int a0_value, .ref q_a0_anew, .ref q_a0_values])), (q_a0_refused, .inl (cI, 3, .inl a0_refused))]) hD hS hA [0, 2] rfl
    refine va_calli (va_runV (As := [.int (-2)]) (rest := []) ⟨hx, hb, hml, hown, hts⟩ (c_X9_bad l D cI cZ cO q_a0 q_a0_told q_a0_kept q_a0_isKept q_a0_refused q_a0_manyBy q_a0_hers q_a0_his q_a0_hand q_a0_bytes q_a0_anew q_a0_values a0_above a0_below a0_bytesLong a0_tokenAt a0_tokenLong a0_token a0_value a0_refused s.heap.size (-2) _ hf) (cwV 1 hts gX9_pace_X9_bad rfl rfl rfl (by decide +kernel) ⟨Nat.le_of_ble_eq_true rfl, Nat.le_of_ble_eq_true rfl⟩) (pv_rw (ci := 8) (q0 := 0) hPc hDc hX rfl rfl) rfl rfl hl.1 rfl (lv_room (Nat.le_of_ble_eq_true rfl)) dX9_pace_35 ⟨Nat.zero_le _, Nat.zero_le _⟩) hS (fun q _ h => hFc q h) hFc (fun r_7 u t H1 locs ht hvm hf hB hz1 hk1 hS => ?_)
    obtain ⟨u_8, rfl⟩ : ∃ z, z = u := ⟨_, rfl⟩
    obtain ⟨hP1, hD1⟩ := hB
    rw [ht] at hP1
    clear hvm
    obtain ⟨hP, hD⟩ := va_join (wr := [(q_a0_told, .inl (cI, 163, .inl a0_told))]) (w1 := [(q_a0, .inr (8, [.ref q_a0_told, .ref q_a0_kept, .ref q_a0_isKept, .ref q_a0_refused, .long a0_above, .long a0_below, .ref q_a0_manyBy, .ref q_a0_hers, .ref q_a0_his, .ref q_a0_hand, .ref q_a0_bytes, .int a0_bytesLong, .int a0_tokenAt, .int a0_tokenLong, .int a0_token, .int a0_value, .ref q_a0_anew, .ref q_a0_values])), (q_a0_refused, .inl (cI, 3, .inl u_8))]) hP hD [0, 2] [1] rfl rfl (by decide) (by decide) hk1 hFc hP1 hD1
    clear hz1 hk1 hPc hDc hFc hP1 hD1
    generalize H1 = H at hP hS ⊢
    have hP : va_P D vwCl [(q_a0_told, .inl (cI, 163, .inl a0_told)), (q_a0, .inr (8, [.ref q_a0_told, .ref q_a0_kept, .ref q_a0_isKept, .ref q_a0_refused, .long a0_above, .long a0_below, .ref q_a0_manyBy, .ref q_a0_hers, .ref q_a0_his, .ref q_a0_hand, .ref q_a0_bytes, .int a0_bytesLong, .int a0_tokenAt, .int a0_tokenLong, .int a0_token, .int a0_value, .ref q_a0_anew, .ref q_a0_values])), (q_a0_refused, .inl (cI, 3, .inl u_8))] H := hP
    have hD : va_D A [(q_a0_told, .inl (cI, 163, .inl a0_told)), (q_a0, .inr (8, [.ref q_a0_told, .ref q_a0_kept, .ref q_a0_isKept, .ref q_a0_refused, .long a0_above, .long a0_below, .ref q_a0_manyBy, .ref q_a0_hers, .ref q_a0_his, .ref q_a0_hand, .ref q_a0_bytes, .int a0_bytesLong, .int a0_tokenAt, .int a0_tokenLong, .int a0_token, .int a0_value, .ref q_a0_anew, .ref q_a0_values])), (q_a0_refused, .inl (cI, 3, .inl u_8))] := hD
    subst hQQ
    have hP9 := hP.sub (ws' := [(q_a0, .inr (8, [.ref q_a0_told, .ref q_a0_kept, .ref q_a0_isKept, .ref q_a0_refused, .long a0_above, .long a0_below, .ref q_a0_manyBy, .ref q_a0_hers, .ref q_a0_his, .ref q_a0_hand, .ref q_a0_bytes, .int a0_bytesLong, .int a0_tokenAt, .int a0_tokenLong, .int a0_token, .int a0_value, .ref q_a0_anew, .ref q_a0_values])), (q_a0_told, .inl (cI, 163, .inl a0_told)), (q_a0_refused, .inl (cI, 3, .inl u_8))]) [1, 0, 2] rfl
    have hD9 := hD.sub (ws' := [(q_a0, .inr (8, [.ref q_a0_told, .ref q_a0_kept, .ref q_a0_isKept, .ref q_a0_refused, .long a0_above, .long a0_below, .ref q_a0_manyBy, .ref q_a0_hers, .ref q_a0_his, .ref q_a0_hand, .ref q_a0_bytes, .int a0_bytesLong, .int a0_tokenAt, .int a0_tokenLong, .int a0_token, .int a0_value, .ref q_a0_anew, .ref q_a0_values])), (q_a0_told, .inl (cI, 163, .inl a0_told)), (q_a0_refused, .inl (cI, 3, .inl u_8))]) [1, 0, 2] (by decide) rfl
    exact W.iret hx hb hr (fun t ht hW => ⟨⟨r_7, u_8, rfl, hf, by rw [ht]; exact hP9, hD9⟩, hS.F ht⟩) hS.2.2 dX9_pace_38
  · have hf := it_f c_6 hf
    refine lv_iload_n hx hb dX9_pace_8 rfl (lv_at hl 2 rfl) ?_
    refine lv_i2l hx hb dX9_pace_9 rfl ?_
    refine lv_ldc2 (v := (-1)) hx hb hown kc_132 dX9_pace_10 ?_
    refine lv_ldc2 (v := 6) hx hb hown kc_62 dX9_pace_13 ?_
    refine ya_csi (va_runS (As := [.long x2.toInt64, .long (-1), .long 6]) (rest := []) ⟨hx, hb, hml, hown, hts⟩ (c_X9_in l D cI cZ cO  x2.toInt64 (-1) 6 _ hf) (va_cwS 3 hts gX9_pace_X9_in rfl rfl rfl (by decide +kernel) ⟨Nat.le_of_ble_eq_true rfl, Nat.le_of_ble_eq_true rfl⟩) (ps_ro va_P0 hX) rfl rfl hl.1 rfl (lv_room (Nat.le_of_ble_eq_true rfl)) dX9_pace_16 ⟨Nat.zero_le _, Nat.zero_le _⟩) (fun r_9 hf => ?_)
    refine lv_if_eq (tgt := 32) hx hb dX9_pace_19 (by decide) (fun c_10 => ?_) (fun c_10 => ?_)
    · have hf := it_t c_10 hf
      refine lv_aload_n hx hb dX9_pace_32 rfl (lv_at hl 0 rfl) ?_
      refine lv_bipush (v := (-2)) hx hb dX9_pace_33 (by decide) ?_
      have hPc := hP.sub (ws' := [(q_a0, .inr (8, [.ref q_a0_told, .ref q_a0_kept, .ref q_a0_isKept, .ref q_a0_refused, .long a0_above, .long a0_below, .ref q_a0_manyBy, .ref q_a0_hers, .ref q_a0_his, .ref q_a0_hand, .ref q_a0_bytes, .int a0_bytesLong, .int a0_tokenAt, .int a0_tokenLong, .int a0_token, .int a0_value, .ref q_a0_anew, .ref q_a0_values])), (q_a0_refused, .inl (cI, 3, .inl a0_refused))]) [0, 2] rfl
      have hDc := hD.sub (ws' := [(q_a0, .inr (8, [.ref q_a0_told, .ref q_a0_kept, .ref q_a0_isKept, .ref q_a0_refused, .long a0_above, .long a0_below, .ref q_a0_manyBy, .ref q_a0_hers, .ref q_a0_his, .ref q_a0_hand, .ref q_a0_bytes, .int a0_bytesLong, .int a0_tokenAt, .int a0_tokenLong, .int a0_token, .int a0_value, .ref q_a0_anew, .ref q_a0_values])), (q_a0_refused, .inl (cI, 3, .inl a0_refused))]) [0, 2] (by decide) rfl
      have hFc := va_free (wc := [(q_a0, .inr (8, [.ref q_a0_told, .ref q_a0_kept, .ref q_a0_isKept, .ref q_a0_refused, .long a0_above, .long a0_below, .ref q_a0_manyBy, .ref q_a0_hers, .ref q_a0_his, .ref q_a0_hand, .ref q_a0_bytes, .int a0_bytesLong, .int a0_tokenAt, .int a0_tokenLong, .int a0_token, .int a0_value, .ref q_a0_anew, .ref q_a0_values])), (q_a0_refused, .inl (cI, 3, .inl a0_refused))]) hD hS hA [0, 2] rfl
      refine va_calli (va_runV (As := [.int (-2)]) (rest := []) ⟨hx, hb, hml, hown, hts⟩ (c_X9_bad l D cI cZ cO q_a0 q_a0_told q_a0_kept q_a0_isKept q_a0_refused q_a0_manyBy q_a0_hers q_a0_his q_a0_hand q_a0_bytes q_a0_anew q_a0_values a0_above a0_below a0_bytesLong a0_tokenAt a0_tokenLong a0_token a0_value a0_refused s.heap.size (-2) _ hf) (cwV 1 hts gX9_pace_X9_bad rfl rfl rfl (by decide +kernel) ⟨Nat.le_of_ble_eq_true rfl, Nat.le_of_ble_eq_true rfl⟩) (pv_rw (ci := 8) (q0 := 0) hPc hDc hX rfl rfl) rfl rfl hl.1 rfl (lv_room (Nat.le_of_ble_eq_true rfl)) dX9_pace_35 ⟨Nat.zero_le _, Nat.zero_le _⟩) hS (fun q _ h => hFc q h) hFc (fun r_11 u t H1 locs ht hvm hf hB hz1 hk1 hS => ?_)
      obtain ⟨u_12, rfl⟩ : ∃ z, z = u := ⟨_, rfl⟩
      obtain ⟨hP1, hD1⟩ := hB
      rw [ht] at hP1
      clear hvm
      obtain ⟨hP, hD⟩ := va_join (wr := [(q_a0_told, .inl (cI, 163, .inl a0_told))]) (w1 := [(q_a0, .inr (8, [.ref q_a0_told, .ref q_a0_kept, .ref q_a0_isKept, .ref q_a0_refused, .long a0_above, .long a0_below, .ref q_a0_manyBy, .ref q_a0_hers, .ref q_a0_his, .ref q_a0_hand, .ref q_a0_bytes, .int a0_bytesLong, .int a0_tokenAt, .int a0_tokenLong, .int a0_token, .int a0_value, .ref q_a0_anew, .ref q_a0_values])), (q_a0_refused, .inl (cI, 3, .inl u_12))]) hP hD [0, 2] [1] rfl rfl (by decide) (by decide) hk1 hFc hP1 hD1
      clear hz1 hk1 hPc hDc hFc hP1 hD1
      generalize H1 = H at hP hS ⊢
      have hP : va_P D vwCl [(q_a0_told, .inl (cI, 163, .inl a0_told)), (q_a0, .inr (8, [.ref q_a0_told, .ref q_a0_kept, .ref q_a0_isKept, .ref q_a0_refused, .long a0_above, .long a0_below, .ref q_a0_manyBy, .ref q_a0_hers, .ref q_a0_his, .ref q_a0_hand, .ref q_a0_bytes, .int a0_bytesLong, .int a0_tokenAt, .int a0_tokenLong, .int a0_token, .int a0_value, .ref q_a0_anew, .ref q_a0_values])), (q_a0_refused, .inl (cI, 3, .inl u_12))] H := hP
      have hD : va_D A [(q_a0_told, .inl (cI, 163, .inl a0_told)), (q_a0, .inr (8, [.ref q_a0_told, .ref q_a0_kept, .ref q_a0_isKept, .ref q_a0_refused, .long a0_above, .long a0_below, .ref q_a0_manyBy, .ref q_a0_hers, .ref q_a0_his, .ref q_a0_hand, .ref q_a0_bytes, .int a0_bytesLong, .int a0_tokenAt, .int a0_tokenLong, .int a0_token, .int a0_value, .ref q_a0_anew, .ref q_a0_values])), (q_a0_refused, .inl (cI, 3, .inl u_12))] := hD
      subst hQQ
      have hP9 := hP.sub (ws' := [(q_a0, .inr (8, [.ref q_a0_told, .ref q_a0_kept, .ref q_a0_isKept, .ref q_a0_refused, .long a0_above, .long a0_below, .ref q_a0_manyBy, .ref q_a0_hers, .ref q_a0_his, .ref q_a0_hand, .ref q_a0_bytes, .int a0_bytesLong, .int a0_tokenAt, .int a0_tokenLong, .int a0_token, .int a0_value, .ref q_a0_anew, .ref q_a0_values])), (q_a0_told, .inl (cI, 163, .inl a0_told)), (q_a0_refused, .inl (cI, 3, .inl u_12))]) [1, 0, 2] rfl
      have hD9 := hD.sub (ws' := [(q_a0, .inr (8, [.ref q_a0_told, .ref q_a0_kept, .ref q_a0_isKept, .ref q_a0_refused, .long a0_above, .long a0_below, .ref q_a0_manyBy, .ref q_a0_hers, .ref q_a0_his, .ref q_a0_hand, .ref q_a0_bytes, .int a0_bytesLong, .int a0_tokenAt, .int a0_tokenLong, .int a0_token, .int a0_value, .ref q_a0_anew, .ref q_a0_values])), (q_a0_told, .inl (cI, 163, .inl a0_told)), (q_a0_refused, .inl (cI, 3, .inl u_12))]) [1, 0, 2] (by decide) rfl
      exact W.iret hx hb hr (fun t ht hW => ⟨⟨r_11, u_12, rfl, hf, by rw [ht]; exact hP9, hD9⟩, hS.F ht⟩) hS.2.2 dX9_pace_38
    · have hf := it_f c_10 hf
      refine lv_iload_n hx hb dX9_pace_22 rfl (lv_at hl 3 rfl) ?_
      refine lv_i2l hx hb dX9_pace_23 rfl ?_
      refine lv_lconst (v := 0) hx hb dX9_pace_24 (by decide) ?_
      refine lv_lconst (v := 1) hx hb dX9_pace_25 (by decide) ?_
      refine ya_csi (va_runS (As := [.long x3.toInt64, .long 0, .long 1]) (rest := []) ⟨hx, hb, hml, hown, hts⟩ (c_X9_in l D cI cZ cO  x3.toInt64 0 1 _ hf) (va_cwS 3 hts gX9_pace_X9_in rfl rfl rfl (by decide +kernel) ⟨Nat.le_of_ble_eq_true rfl, Nat.le_of_ble_eq_true rfl⟩) (ps_ro va_P0 hX) rfl rfl hl.1 rfl (lv_room (Nat.le_of_ble_eq_true rfl)) dX9_pace_26 ⟨Nat.zero_le _, Nat.zero_le _⟩) (fun r_13 hf => ?_)
      refine lv_if_ne (tgt := 39) hx hb dX9_pace_29 (by decide) (fun c_14 => ?_) (fun c_14 => ?_)
      · have hf := it_f c_14 hf
        refine lv_iload_n hx hb dX9_pace_39 rfl (lv_at hl 2 rfl) ?_
        refine lv_iconst (v := (-1)) hx hb dX9_pace_40 (by decide) ?_
        refine lv_icmp_ne (tgt := 52) hx hb dX9_pace_41 (by decide) (fun c_15 => ?_) (fun c_15 => ?_)
        · have hf := it_f c_15 hf
          refine lv_iload_n hx hb dX9_pace_52 rfl (lv_at hl 2 rfl) ?_
          exact hj_53 x2 _ _ hf (hP.sub [0, 1, 2] rfl) (hD.sub [0, 1, 2] (by decide) rfl) hS ls (lv_sub hl [0, 1, 3] rfl)
        · have hf := it_t c_15 hf
          refine lv_aload_n hx hb dX9_pace_44 rfl (lv_at hl 0 rfl) ?_
          refine lv_iload_n hx hb dX9_pace_45 rfl (lv_at hl 1 rfl) ?_
          refine ya_csi (va_runV (As := [.int x1]) (rest := []) ⟨hx, hb, hml, hown, hts⟩ (c_X9_noteOf l D cI cZ cO q_a0 q_a0_told q_a0_kept q_a0_isKept q_a0_refused q_a0_manyBy q_a0_hers q_a0_his q_a0_hand q_a0_bytes q_a0_anew q_a0_values a0_above a0_below a0_bytesLong a0_tokenAt a0_tokenLong a0_token a0_value a0_told x1 _ hf) (cwV 1 hts gX9_pace_X9_noteOf rfl rfl rfl (by decide +kernel) ⟨Nat.le_of_ble_eq_true rfl, Nat.le_of_ble_eq_true rfl⟩) (pv_ro (ci := 8) (q0 := 0) (hP.sub [0, 1] rfl) hX rfl rfl) rfl rfl hl.1 rfl (lv_room (Nat.le_of_ble_eq_true rfl)) dX9_pace_46 ⟨Nat.zero_le _, Nat.zero_le _⟩) (fun r_16 hf => ?_)
          refine lv_goto (tgt := 53) hx hb dX9_pace_49 (by decide) ?_
          exact hj_53 r_16 _ _ hf (hP.sub [0, 1, 2] rfl) (hD.sub [0, 1, 2] (by decide) rfl) hS ls (lv_sub hl [0, 1, 3] rfl)
      · have hf := it_t c_14 hf
        refine lv_aload_n hx hb dX9_pace_32 rfl (lv_at hl 0 rfl) ?_
        refine lv_bipush (v := (-2)) hx hb dX9_pace_33 (by decide) ?_
        have hPc := hP.sub (ws' := [(q_a0, .inr (8, [.ref q_a0_told, .ref q_a0_kept, .ref q_a0_isKept, .ref q_a0_refused, .long a0_above, .long a0_below, .ref q_a0_manyBy, .ref q_a0_hers, .ref q_a0_his, .ref q_a0_hand, .ref q_a0_bytes, .int a0_bytesLong, .int a0_tokenAt, .int a0_tokenLong, .int a0_token, .int a0_value, .ref q_a0_anew, .ref q_a0_values])), (q_a0_refused, .inl (cI, 3, .inl a0_refused))]) [0, 2] rfl
        have hDc := hD.sub (ws' := [(q_a0, .inr (8, [.ref q_a0_told, .ref q_a0_kept, .ref q_a0_isKept, .ref q_a0_refused, .long a0_above, .long a0_below, .ref q_a0_manyBy, .ref q_a0_hers, .ref q_a0_his, .ref q_a0_hand, .ref q_a0_bytes, .int a0_bytesLong, .int a0_tokenAt, .int a0_tokenLong, .int a0_token, .int a0_value, .ref q_a0_anew, .ref q_a0_values])), (q_a0_refused, .inl (cI, 3, .inl a0_refused))]) [0, 2] (by decide) rfl
        have hFc := va_free (wc := [(q_a0, .inr (8, [.ref q_a0_told, .ref q_a0_kept, .ref q_a0_isKept, .ref q_a0_refused, .long a0_above, .long a0_below, .ref q_a0_manyBy, .ref q_a0_hers, .ref q_a0_his, .ref q_a0_hand, .ref q_a0_bytes, .int a0_bytesLong, .int a0_tokenAt, .int a0_tokenLong, .int a0_token, .int a0_value, .ref q_a0_anew, .ref q_a0_values])), (q_a0_refused, .inl (cI, 3, .inl a0_refused))]) hD hS hA [0, 2] rfl
        refine va_calli (va_runV (As := [.int (-2)]) (rest := []) ⟨hx, hb, hml, hown, hts⟩ (c_X9_bad l D cI cZ cO q_a0 q_a0_told q_a0_kept q_a0_isKept q_a0_refused q_a0_manyBy q_a0_hers q_a0_his q_a0_hand q_a0_bytes q_a0_anew q_a0_values a0_above a0_below a0_bytesLong a0_tokenAt a0_tokenLong a0_token a0_value a0_refused s.heap.size (-2) _ hf) (cwV 1 hts gX9_pace_X9_bad rfl rfl rfl (by decide +kernel) ⟨Nat.le_of_ble_eq_true rfl, Nat.le_of_ble_eq_true rfl⟩) (pv_rw (ci := 8) (q0 := 0) hPc hDc hX rfl rfl) rfl rfl hl.1 rfl (lv_room (Nat.le_of_ble_eq_true rfl)) dX9_pace_35 ⟨Nat.zero_le _, Nat.zero_le _⟩) hS (fun q _ h => hFc q h) hFc (fun r_17 u t H1 locs ht hvm hf hB hz1 hk1 hS => ?_)
        obtain ⟨u_18, rfl⟩ : ∃ z, z = u := ⟨_, rfl⟩
        obtain ⟨hP1, hD1⟩ := hB
        rw [ht] at hP1
        clear hvm
        obtain ⟨hP, hD⟩ := va_join (wr := [(q_a0_told, .inl (cI, 163, .inl a0_told))]) (w1 := [(q_a0, .inr (8, [.ref q_a0_told, .ref q_a0_kept, .ref q_a0_isKept, .ref q_a0_refused, .long a0_above, .long a0_below, .ref q_a0_manyBy, .ref q_a0_hers, .ref q_a0_his, .ref q_a0_hand, .ref q_a0_bytes, .int a0_bytesLong, .int a0_tokenAt, .int a0_tokenLong, .int a0_token, .int a0_value, .ref q_a0_anew, .ref q_a0_values])), (q_a0_refused, .inl (cI, 3, .inl u_18))]) hP hD [0, 2] [1] rfl rfl (by decide) (by decide) hk1 hFc hP1 hD1
        clear hz1 hk1 hPc hDc hFc hP1 hD1
        generalize H1 = H at hP hS ⊢
        have hP : va_P D vwCl [(q_a0_told, .inl (cI, 163, .inl a0_told)), (q_a0, .inr (8, [.ref q_a0_told, .ref q_a0_kept, .ref q_a0_isKept, .ref q_a0_refused, .long a0_above, .long a0_below, .ref q_a0_manyBy, .ref q_a0_hers, .ref q_a0_his, .ref q_a0_hand, .ref q_a0_bytes, .int a0_bytesLong, .int a0_tokenAt, .int a0_tokenLong, .int a0_token, .int a0_value, .ref q_a0_anew, .ref q_a0_values])), (q_a0_refused, .inl (cI, 3, .inl u_18))] H := hP
        have hD : va_D A [(q_a0_told, .inl (cI, 163, .inl a0_told)), (q_a0, .inr (8, [.ref q_a0_told, .ref q_a0_kept, .ref q_a0_isKept, .ref q_a0_refused, .long a0_above, .long a0_below, .ref q_a0_manyBy, .ref q_a0_hers, .ref q_a0_his, .ref q_a0_hand, .ref q_a0_bytes, .int a0_bytesLong, .int a0_tokenAt, .int a0_tokenLong, .int a0_token, .int a0_value, .ref q_a0_anew, .ref q_a0_values])), (q_a0_refused, .inl (cI, 3, .inl u_18))] := hD
        subst hQQ
        have hP9 := hP.sub (ws' := [(q_a0, .inr (8, [.ref q_a0_told, .ref q_a0_kept, .ref q_a0_isKept, .ref q_a0_refused, .long a0_above, .long a0_below, .ref q_a0_manyBy, .ref q_a0_hers, .ref q_a0_his, .ref q_a0_hand, .ref q_a0_bytes, .int a0_bytesLong, .int a0_tokenAt, .int a0_tokenLong, .int a0_token, .int a0_value, .ref q_a0_anew, .ref q_a0_values])), (q_a0_told, .inl (cI, 163, .inl a0_told)), (q_a0_refused, .inl (cI, 3, .inl u_18))]) [1, 0, 2] rfl
        have hD9 := hD.sub (ws' := [(q_a0, .inr (8, [.ref q_a0_told, .ref q_a0_kept, .ref q_a0_isKept, .ref q_a0_refused, .long a0_above, .long a0_below, .ref q_a0_manyBy, .ref q_a0_hers, .ref q_a0_his, .ref q_a0_hand, .ref q_a0_bytes, .int a0_bytesLong, .int a0_tokenAt, .int a0_tokenLong, .int a0_token, .int a0_value, .ref q_a0_anew, .ref q_a0_values])), (q_a0_told, .inl (cI, 163, .inl a0_told)), (q_a0_refused, .inl (cI, 3, .inl u_18))]) [1, 0, 2] (by decide) rfl
        exact W.iret hx hb hr (fun t ht hW => ⟨⟨r_17, u_18, rfl, hf, by rw [ht]; exact hP9, hD9⟩, hS.F ht⟩) hS.2.2 dX9_pace_38
def bX9_left_9 (a0_told : Nat → Int32) (Q : Int32 → Prop) (k_3 : Int32 → Int32 → Prop) (v_1 : Int32) (v_2 : Int32) : Prop :=
  p_X9_many a0_told (fun r_4 => if r_4 ≤ v_2 then (Q v_1) else (vp_in (18 + v_2) 163 ∧ (p_X9_noteOf a0_told v_2 (fun r_6 => p_X9_cost a0_told v_2 r_6 (fun r_7 => k_3 (v_1 + ((a0_told (18 + v_2).toNatClampNeg) + r_7)) (v_2 + 1))))))
def p_X9_left (a0_told : Nat → Int32) (Q : Int32 → Prop) : Prop :=
  lq2 (bX9_left_9 a0_told Q) 1000 0 (a0_told (4 : Int32).toNatClampNeg)
def rmX9_left : Room := { frames := 4, cells := 0, slots := 0, locals := 93 }
set_option maxHeartbeats 4000000 in
set_option maxRecDepth 100000 in
theorem c_X9_left (l : Launch) (D : va_G) (cI cZ cO : ClassId) (q_a0 q_a0_told q_a0_kept q_a0_isKept q_a0_refused q_a0_manyBy q_a0_hers q_a0_his q_a0_hand q_a0_bytes q_a0_anew q_a0_values : Nat) (a0_above : Int64) (a0_below : Int64) (a0_bytesLong : Int32) (a0_tokenAt : Int32) (a0_tokenLong : Int32) (a0_token : Int32) (a0_value : Int32) (a0_told : Nat → Int32) (Q : Int32 → Prop) (hf : p_X9_left a0_told Q) : Met l yX9_left wsX9_left rmX9_left (va_Pc [.ref q_a0] (fun U => va_P D vwCl [(q_a0, .inr (8, [.ref q_a0_told, .ref q_a0_kept, .ref q_a0_isKept, .ref q_a0_refused, .long a0_above, .long a0_below, .ref q_a0_manyBy, .ref q_a0_hers, .ref q_a0_his, .ref q_a0_hand, .ref q_a0_bytes, .int a0_bytesLong, .int a0_tokenAt, .int a0_tokenLong, .int a0_token, .int a0_value, .ref q_a0_anew, .ref q_a0_values])), (q_a0_told, .inl (cI, 163, .inl a0_told))] U.heap ∧ XK D cI cZ cO U)) (vp_Si Q) 0 0 (fun _ => False) := by
  refine Met.ofW (cc := cX9_left) (maxL := 3) (ret := (some .int)) (by decide) rfl ?_
  intro p e s m args below meth c s₁ B hml hv
  obtain ⟨rfl, hP, hX⟩ := hv
  have hK := hX.1
  have hx := B.exec
  have hb := B.bytes
  have hr := B.returns
  have hts := atoms_spec (ws := wsX9_left) B.pre
  have hown : s.vm.findClass RX9 = some m.cls := findClass_of_methodNamed B.named
  have hlocks := B.notSynchronized
  have in_X9 : ∀ w ∈ wsX90, w ∈ wsX9_left := fun _ h => List.mem_cons_of_mem _ (List.mem_append_right _ h)
  have kf_7 := hts (.fieldLink RX9 7 "LeftCrestModel" "told" "[I") (by decide +kernel)
  generalize hQQ : MQ below _ _ s _ _ _ = QQ
  have hl := lv_entry ([.ref q_a0]) (n := 3) (Nat.le_of_ble_eq_true rfl)
  rw [lg_entry_eq]
  generalize (lg_sl ([.ref q_a0]) ++ List.replicate (3 - (lg_sl ([.ref q_a0])).length) Slot.unset).toArray = ls at hl ⊢
  have hl : lv_has ls 3 [(0, .ref q_a0)] := hl
  unfold p_X9_left at hf
  refine lv_iconst (v := 0) hx hb dX9_left_0 (by decide) ?_
  refine lv_istore_n (lv' := [(1, .int 0), (0, .ref q_a0)]) hx hb dX9_left_1 rfl hl (by decide) rfl (fun ls hl => ?_)
  refine lv_aload_n hx hb dX9_left_2 rfl (lv_at hl 1 rfl) ?_
  refine va_get (D := D) (ci := 8) (v := .ref q_a0_told) (C := RX9) (T := TX9) (N := 18) hx hb hts in_X9 hown hK hP 0 rfl rfl 0 (by decide) kf_7 (fun _ h9 => h9) rfl dX9_left_3 ?_
  refine lv_iconst (v := 4) hx hb dX9_left_6 (by decide) ?_
  refine va_iald hx hb hK hP 1 0 rfl rfl (by unfold vp_in; decide) dX9_left_7 ?_
  refine lv_istore_n (lv' := [(2, .int (a0_told (4 : Int32).toNatClampNeg)), (1, .int 0), (0, .ref q_a0)]) hx hb dX9_left_8 rfl hl (by decide) rfl (fun ls hl => ?_)
  have hlp_9 : ∀ (n_9 : Nat) (v_1 : Int32) (v_2 : Int32) (ls : Array Slot), lq2 (bX9_left_9 a0_told Q) n_9 v_1 v_2 → lv_has ls 3 [(0, .ref q_a0), (1, .int v_1), (2, .int v_2)] → W p l e (headSpec wsX9_left rmX9_left).room s m ([.ref q_a0] : List Value).toArray below meth c s.heap [] 0 0 QQ (F0 m 9 ls []) := by
    intro n_9
    induction n_9 with
    | zero => intro v_1 v_2 ls hf; exact (lq2_0 hf).elim
    | succ n_9 ih =>
      have ih_9 := ih
      intro v_1 v_2 ls hf hl
      have hf := lq2_s hf
      unfold bX9_left_9 at hf
      refine lv_iload_n hx hb dX9_left_9 rfl (lv_at hl 2 rfl) ?_
      refine lv_aload_n hx hb dX9_left_10 rfl (lv_at hl 0 rfl) ?_
      refine ya_csi (va_runV (As := []) (rest := [.int v_2]) ⟨hx, hb, hml, hown, hts⟩ (c_X9_many l D cI cZ cO q_a0 q_a0_told q_a0_kept q_a0_isKept q_a0_refused q_a0_manyBy q_a0_hers q_a0_his q_a0_hand q_a0_bytes q_a0_anew q_a0_values a0_above a0_below a0_bytesLong a0_tokenAt a0_tokenLong a0_token a0_value a0_told  _ hf) (cwV 0 hts gX9_left_X9_many rfl rfl rfl (by decide +kernel) ⟨Nat.le_of_ble_eq_true rfl, Nat.le_of_ble_eq_true rfl⟩) (pv_ro (ci := 8) (q0 := 0) (hP.sub [0, 1] rfl) hX rfl rfl) rfl rfl hl.1 rfl (lv_room (Nat.le_of_ble_eq_true rfl)) dX9_left_11 ⟨Nat.zero_le _, Nat.zero_le _⟩) (fun r_4 hf => ?_)
      refine lv_icmp_ge (tgt := 46) hx hb dX9_left_14 (by decide) (fun c_5 => ?_) (fun c_5 => ?_)
      · have hf := it_t c_5 hf
        refine lv_iload_n hx hb dX9_left_46 rfl (lv_at hl 1 rfl) ?_
        subst hQQ
        exact W.iret hx hb hr (fun t ht hW => ⟨_, rfl, hf, ht⟩) (fun _ h => absurd h List.not_mem_nil) dX9_left_47
      · have hf := it_f c_5 hf
        refine lv_iload_n hx hb dX9_left_17 rfl (lv_at hl 1 rfl) ?_
        refine lv_aload_n hx hb dX9_left_18 rfl (lv_at hl 0 rfl) ?_
        refine va_get (D := D) (ci := 8) (v := .ref q_a0_told) (C := RX9) (T := TX9) (N := 18) hx hb hts in_X9 hown hK hP 0 rfl rfl 0 (by decide) kf_7 (fun _ h9 => h9) rfl dX9_left_19 ?_
        refine lv_bipush (v := 18) hx hb dX9_left_22 (by decide) ?_
        refine lv_iload_n hx hb dX9_left_24 rfl (lv_at hl 2 rfl) ?_
        refine lv_iadd hx hb dX9_left_25 ?_
        refine va_iald hx hb hK hP 1 0 rfl rfl hf.1 dX9_left_26 ?_
        have hf := hf.2
        refine lv_aload_n hx hb dX9_left_27 rfl (lv_at hl 0 rfl) ?_
        refine lv_iload_n hx hb dX9_left_28 rfl (lv_at hl 2 rfl) ?_
        refine lv_aload_n hx hb dX9_left_29 rfl (lv_at hl 0 rfl) ?_
        refine lv_iload_n hx hb dX9_left_30 rfl (lv_at hl 2 rfl) ?_
        refine ya_csi (va_runV (As := [.int v_2]) (rest := [.int v_2, .ref q_a0, .int (a0_told (18 + v_2).toNatClampNeg), .int v_1]) ⟨hx, hb, hml, hown, hts⟩ (c_X9_noteOf l D cI cZ cO q_a0 q_a0_told q_a0_kept q_a0_isKept q_a0_refused q_a0_manyBy q_a0_hers q_a0_his q_a0_hand q_a0_bytes q_a0_anew q_a0_values a0_above a0_below a0_bytesLong a0_tokenAt a0_tokenLong a0_token a0_value a0_told v_2 _ hf) (cwV 1 hts gX9_left_X9_noteOf rfl rfl rfl (by decide +kernel) ⟨Nat.le_of_ble_eq_true rfl, Nat.le_of_ble_eq_true rfl⟩) (pv_ro (ci := 8) (q0 := 0) (hP.sub [0, 1] rfl) hX rfl rfl) rfl rfl hl.1 rfl (lv_room (Nat.le_of_ble_eq_true rfl)) dX9_left_31 ⟨Nat.zero_le _, Nat.zero_le _⟩) (fun r_6 hf => ?_)
        refine ya_csi (va_runV (As := [.int v_2, .int r_6]) (rest := [.int (a0_told (18 + v_2).toNatClampNeg), .int v_1]) ⟨hx, hb, hml, hown, hts⟩ (c_X9_cost l D cI cZ cO q_a0 q_a0_told q_a0_kept q_a0_isKept q_a0_refused q_a0_manyBy q_a0_hers q_a0_his q_a0_hand q_a0_bytes q_a0_anew q_a0_values a0_above a0_below a0_bytesLong a0_tokenAt a0_tokenLong a0_token a0_value a0_told v_2 r_6 _ hf) (cwV 2 hts gX9_left_X9_cost rfl rfl rfl (by decide +kernel) ⟨Nat.le_of_ble_eq_true rfl, Nat.le_of_ble_eq_true rfl⟩) (pv_ro (ci := 8) (q0 := 0) (hP.sub [0, 1] rfl) hX rfl rfl) rfl rfl hl.1 rfl (lv_room (Nat.le_of_ble_eq_true rfl)) dX9_left_34 ⟨Nat.zero_le _, Nat.zero_le _⟩) (fun r_7 hf => ?_)
        refine lv_iadd hx hb dX9_left_37 ?_
        refine lv_iadd hx hb dX9_left_38 ?_
        refine lv_istore_n (lv' := [(1, .int (v_1 + ((a0_told (18 + v_2).toNatClampNeg) + r_7))), (0, .ref q_a0), (2, .int v_2)]) hx hb dX9_left_39 rfl hl (by decide) rfl (fun ls hl => ?_)
        refine lv_iinc (v := v_2 + 1) (lv' := [(2, .int (v_2 + 1)), (1, .int (v_1 + ((a0_told (18 + v_2).toNatClampNeg) + r_7))), (0, .ref q_a0)]) hx hb dX9_left_40 hl (k := 2) rfl rfl (by decide) rfl (fun ls hl => ?_)
        refine lv_goto (tgt := 9) hx hb dX9_left_43 (by decide) ?_
        exact ih (v_1 + ((a0_told (18 + v_2).toNatClampNeg) + r_7)) (v_2 + 1) ls hf (lv_sub hl [2, 1, 0] rfl)
  exact hlp_9 1000 0 (a0_told (4 : Int32).toNatClampNeg) ls hf (lv_sub hl [2, 1, 0] rfl)
def jX9_savedAt_38 (a0_told : Nat → Int32) (x1 : Int32) (Q : Int32 → Prop) (v_1 : Int32) : Prop :=
  p_X9_noteOf a0_told x1 (fun r_2 => p_X9_cost a0_told x1 r_2 (fun r_3 => Q (r_3 - v_1)))
def bX9_savedAt_5 (a0_told : Nat → Int32) (x1 : Int32) (Q : Int32 → Prop) (k_6 : Int32 → Int32 → Prop) (v_4 : Int32) (v_5 : Int32) : Prop :=
  if 7 ≤ v_5 then (jX9_savedAt_38 a0_told x1 Q v_4) else (p_X9_cost a0_told x1 v_5 (fun r_8 => if v_4 ≤ r_8 then (k_6 v_4 (v_5 + 1)) else (p_X9_cost a0_told x1 v_5 (fun r_10 => k_6 r_10 (v_5 + 1)))))
def p_X9_savedAt (a0_told : Nat → Int32) (x1 : Int32) (Q : Int32 → Prop) : Prop :=
  lq2 (bX9_savedAt_5 a0_told x1 Q) 1000 1000000 0
def rmX9_savedAt : Room := { frames := 4, cells := 0, slots := 0, locals := 93 }
set_option maxHeartbeats 4000000 in
set_option maxRecDepth 100000 in
theorem c_X9_savedAt (l : Launch) (D : va_G) (cI cZ cO : ClassId) (q_a0 q_a0_told q_a0_kept q_a0_isKept q_a0_refused q_a0_manyBy q_a0_hers q_a0_his q_a0_hand q_a0_bytes q_a0_anew q_a0_values : Nat) (a0_above : Int64) (a0_below : Int64) (a0_bytesLong : Int32) (a0_tokenAt : Int32) (a0_tokenLong : Int32) (a0_token : Int32) (a0_value : Int32) (a0_told : Nat → Int32) (x1 : Int32) (Q : Int32 → Prop) (hf : p_X9_savedAt a0_told x1 Q) : Met l yX9_savedAt wsX9_savedAt rmX9_savedAt (va_Pc [.ref q_a0, .int x1] (fun U => va_P D vwCl [(q_a0, .inr (8, [.ref q_a0_told, .ref q_a0_kept, .ref q_a0_isKept, .ref q_a0_refused, .long a0_above, .long a0_below, .ref q_a0_manyBy, .ref q_a0_hers, .ref q_a0_his, .ref q_a0_hand, .ref q_a0_bytes, .int a0_bytesLong, .int a0_tokenAt, .int a0_tokenLong, .int a0_token, .int a0_value, .ref q_a0_anew, .ref q_a0_values])), (q_a0_told, .inl (cI, 163, .inl a0_told))] U.heap ∧ XK D cI cZ cO U)) (vp_Si Q) 0 0 (fun _ => False) := by
  refine Met.ofW (cc := cX9_savedAt) (maxL := 4) (ret := (some .int)) (by decide) rfl ?_
  intro p e s m args below meth c s₁ B hml hv
  obtain ⟨rfl, hP, hX⟩ := hv
  have hK := hX.1
  have hx := B.exec
  have hb := B.bytes
  have hr := B.returns
  have hts := atoms_spec (ws := wsX9_savedAt) B.pre
  have hown : s.vm.findClass RX9 = some m.cls := findClass_of_methodNamed B.named
  have hlocks := B.notSynchronized
  have kc_137 := hts (.constant RX9 137 (1000000)) (by decide +kernel)
  generalize hQQ : MQ below _ _ s _ _ _ = QQ
  have hl := lv_entry ([.ref q_a0, .int x1]) (n := 4) (Nat.le_of_ble_eq_true rfl)
  rw [lg_entry_eq]
  generalize (lg_sl ([.ref q_a0, .int x1]) ++ List.replicate (4 - (lg_sl ([.ref q_a0, .int x1])).length) Slot.unset).toArray = ls at hl ⊢
  have hl : lv_has ls 4 [(0, .ref q_a0), (1, .int x1)] := hl
  have hj_38 : ∀ (v_1 : Int32), jX9_savedAt_38 a0_told x1 Q v_1 → ∀ ls : Array Slot, lv_has ls 4 [(0, .ref q_a0), (1, .int x1), (2, .int v_1)] → W p l e (headSpec wsX9_savedAt rmX9_savedAt).room s m ([.ref q_a0, .int x1] : List Value).toArray below meth c s.heap [] 0 0 QQ (F0 m 38 ls []) := by
    intro v_1 hf ls hl
    unfold jX9_savedAt_38 at hf
    refine lv_aload_n hx hb dX9_savedAt_38 rfl (lv_at hl 0 rfl) ?_
    refine lv_iload_n hx hb dX9_savedAt_39 rfl (lv_at hl 1 rfl) ?_
    refine lv_aload_n hx hb dX9_savedAt_40 rfl (lv_at hl 0 rfl) ?_
    refine lv_iload_n hx hb dX9_savedAt_41 rfl (lv_at hl 1 rfl) ?_
    refine ya_csi (va_runV (As := [.int x1]) (rest := [.int x1, .ref q_a0]) ⟨hx, hb, hml, hown, hts⟩ (c_X9_noteOf l D cI cZ cO q_a0 q_a0_told q_a0_kept q_a0_isKept q_a0_refused q_a0_manyBy q_a0_hers q_a0_his q_a0_hand q_a0_bytes q_a0_anew q_a0_values a0_above a0_below a0_bytesLong a0_tokenAt a0_tokenLong a0_token a0_value a0_told x1 _ hf) (cwV 1 hts gX9_savedAt_X9_noteOf rfl rfl rfl (by decide +kernel) ⟨Nat.le_of_ble_eq_true rfl, Nat.le_of_ble_eq_true rfl⟩) (pv_ro (ci := 8) (q0 := 0) (hP.sub [0, 1] rfl) hX rfl rfl) rfl rfl hl.1 rfl (lv_room (Nat.le_of_ble_eq_true rfl)) dX9_savedAt_42 ⟨Nat.zero_le _, Nat.zero_le _⟩) (fun r_2 hf => ?_)
    refine ya_csi (va_runV (As := [.int x1, .int r_2]) (rest := []) ⟨hx, hb, hml, hown, hts⟩ (c_X9_cost l D cI cZ cO q_a0 q_a0_told q_a0_kept q_a0_isKept q_a0_refused q_a0_manyBy q_a0_hers q_a0_his q_a0_hand q_a0_bytes q_a0_anew q_a0_values a0_above a0_below a0_bytesLong a0_tokenAt a0_tokenLong a0_token a0_value a0_told x1 r_2 _ hf) (cwV 2 hts gX9_savedAt_X9_cost rfl rfl rfl (by decide +kernel) ⟨Nat.le_of_ble_eq_true rfl, Nat.le_of_ble_eq_true rfl⟩) (pv_ro (ci := 8) (q0 := 0) (hP.sub [0, 1] rfl) hX rfl rfl) rfl rfl hl.1 rfl (lv_room (Nat.le_of_ble_eq_true rfl)) dX9_savedAt_45 ⟨Nat.zero_le _, Nat.zero_le _⟩) (fun r_3 hf => ?_)
    refine lv_iload_n hx hb dX9_savedAt_48 rfl (lv_at hl 2 rfl) ?_
    refine lv_isub hx hb dX9_savedAt_49 ?_
    subst hQQ
    exact W.iret hx hb hr (fun t ht hW => ⟨_, rfl, hf, ht⟩) (fun _ h => absurd h List.not_mem_nil) dX9_savedAt_50
  unfold p_X9_savedAt at hf
  refine lv_ldc (v := 1000000) hx hb hown kc_137 dX9_savedAt_0 ?_
  refine lv_istore_n (lv' := [(2, .int 1000000), (0, .ref q_a0), (1, .int x1)]) hx hb dX9_savedAt_2 rfl hl (by decide) rfl (fun ls hl => ?_)
  refine lv_iconst (v := 0) hx hb dX9_savedAt_3 (by decide) ?_
  refine lv_istore_n (lv' := [(3, .int 0), (2, .int 1000000), (0, .ref q_a0), (1, .int x1)]) hx hb dX9_savedAt_4 rfl hl (by decide) rfl (fun ls hl => ?_)
  have hlp_5 : ∀ (n_5 : Nat) (v_4 : Int32) (v_5 : Int32) (ls : Array Slot), lq2 (bX9_savedAt_5 a0_told x1 Q) n_5 v_4 v_5 → lv_has ls 4 [(0, .ref q_a0), (1, .int x1), (2, .int v_4), (3, .int v_5)] → W p l e (headSpec wsX9_savedAt rmX9_savedAt).room s m ([.ref q_a0, .int x1] : List Value).toArray below meth c s.heap [] 0 0 QQ (F0 m 5 ls []) := by
    intro n_5
    induction n_5 with
    | zero => intro v_4 v_5 ls hf; exact (lq2_0 hf).elim
    | succ n_5 ih =>
      have ih_5 := ih
      intro v_4 v_5 ls hf hl
      have hf := lq2_s hf
      unfold bX9_savedAt_5 at hf
      refine lv_iload_n hx hb dX9_savedAt_5 rfl (lv_at hl 3 rfl) ?_
      refine lv_bipush (v := 7) hx hb dX9_savedAt_6 (by decide) ?_
      refine lv_icmp_ge (tgt := 38) hx hb dX9_savedAt_8 (by decide) (fun c_7 => ?_) (fun c_7 => ?_)
      · have hf := it_t c_7 hf
        exact hj_38 v_4 hf ls (lv_sub hl [0, 1, 2] rfl)
      · have hf := it_f c_7 hf
        refine lv_aload_n hx hb dX9_savedAt_11 rfl (lv_at hl 0 rfl) ?_
        refine lv_iload_n hx hb dX9_savedAt_12 rfl (lv_at hl 1 rfl) ?_
        refine lv_iload_n hx hb dX9_savedAt_13 rfl (lv_at hl 3 rfl) ?_
        refine ya_csi (va_runV (As := [.int x1, .int v_5]) (rest := []) ⟨hx, hb, hml, hown, hts⟩ (c_X9_cost l D cI cZ cO q_a0 q_a0_told q_a0_kept q_a0_isKept q_a0_refused q_a0_manyBy q_a0_hers q_a0_his q_a0_hand q_a0_bytes q_a0_anew q_a0_values a0_above a0_below a0_bytesLong a0_tokenAt a0_tokenLong a0_token a0_value a0_told x1 v_5 _ hf) (cwV 2 hts gX9_savedAt_X9_cost rfl rfl rfl (by decide +kernel) ⟨Nat.le_of_ble_eq_true rfl, Nat.le_of_ble_eq_true rfl⟩) (pv_ro (ci := 8) (q0 := 0) (hP.sub [0, 1] rfl) hX rfl rfl) rfl rfl hl.1 rfl (lv_room (Nat.le_of_ble_eq_true rfl)) dX9_savedAt_14 ⟨Nat.zero_le _, Nat.zero_le _⟩) (fun r_8 hf => ?_)
        refine lv_iload_n hx hb dX9_savedAt_17 rfl (lv_at hl 2 rfl) ?_
        refine lv_icmp_ge (tgt := 30) hx hb dX9_savedAt_18 (by decide) (fun c_9 => ?_) (fun c_9 => ?_)
        · have hf := it_t c_9 hf
          refine lv_iload_n hx hb dX9_savedAt_30 rfl (lv_at hl 2 rfl) ?_
          refine lv_istore_n (lv' := [(2, .int v_4), (0, .ref q_a0), (1, .int x1), (3, .int v_5)]) hx hb dX9_savedAt_31 rfl hl (by decide) rfl (fun ls hl => ?_)
          refine lv_iinc (v := v_5 + 1) (lv' := [(3, .int (v_5 + 1)), (2, .int v_4), (0, .ref q_a0), (1, .int x1)]) hx hb dX9_savedAt_32 hl (k := 3) rfl rfl (by decide) rfl (fun ls hl => ?_)
          refine lv_goto (tgt := 5) hx hb dX9_savedAt_35 (by decide) ?_
          exact ih v_4 (v_5 + 1) ls hf (lv_sub hl [2, 3, 1, 0] rfl)
        · have hf := it_f c_9 hf
          refine lv_aload_n hx hb dX9_savedAt_21 rfl (lv_at hl 0 rfl) ?_
          refine lv_iload_n hx hb dX9_savedAt_22 rfl (lv_at hl 1 rfl) ?_
          refine lv_iload_n hx hb dX9_savedAt_23 rfl (lv_at hl 3 rfl) ?_
          refine ya_csi (va_runV (As := [.int x1, .int v_5]) (rest := []) ⟨hx, hb, hml, hown, hts⟩ (c_X9_cost l D cI cZ cO q_a0 q_a0_told q_a0_kept q_a0_isKept q_a0_refused q_a0_manyBy q_a0_hers q_a0_his q_a0_hand q_a0_bytes q_a0_anew q_a0_values a0_above a0_below a0_bytesLong a0_tokenAt a0_tokenLong a0_token a0_value a0_told x1 v_5 _ hf) (cwV 2 hts gX9_savedAt_X9_cost rfl rfl rfl (by decide +kernel) ⟨Nat.le_of_ble_eq_true rfl, Nat.le_of_ble_eq_true rfl⟩) (pv_ro (ci := 8) (q0 := 0) (hP.sub [0, 1] rfl) hX rfl rfl) rfl rfl hl.1 rfl (lv_room (Nat.le_of_ble_eq_true rfl)) dX9_savedAt_24 ⟨Nat.zero_le _, Nat.zero_le _⟩) (fun r_10 hf => ?_)
          refine lv_goto (tgt := 31) hx hb dX9_savedAt_27 (by decide) ?_
          refine lv_istore_n (lv' := [(2, .int r_10), (0, .ref q_a0), (1, .int x1), (3, .int v_5)]) hx hb dX9_savedAt_31 rfl hl (by decide) rfl (fun ls hl => ?_)
          refine lv_iinc (v := v_5 + 1) (lv' := [(3, .int (v_5 + 1)), (2, .int r_10), (0, .ref q_a0), (1, .int x1)]) hx hb dX9_savedAt_32 hl (k := 3) rfl rfl (by decide) rfl (fun ls hl => ?_)
          refine lv_goto (tgt := 5) hx hb dX9_savedAt_35 (by decide) ?_
          exact ih r_10 (v_5 + 1) ls hf (lv_sub hl [2, 3, 1, 0] rfl)
  exact hlp_5 1000 1000000 0 ls hf (lv_sub hl [2, 3, 1, 0] rfl)
def p_X9_isAhead (a0_told : Nat → Int32) (x1 : Int32) (Q : Int32 → Prop) : Prop :=
  if (x1 &&& ((1 <<< ((a0_told (4 : Int32).toNatClampNeg) &&& 31)) - 1)) = 0 then (Q 1) else (Q 0)
def rmX9_isAhead : Room := { frames := 0, cells := 0, slots := 0, locals := 0 }
set_option maxHeartbeats 4000000 in
set_option maxRecDepth 100000 in
theorem c_X9_isAhead (l : Launch) (D : va_G) (cI cZ cO : ClassId) (q_a0 q_a0_told q_a0_kept q_a0_isKept q_a0_refused q_a0_manyBy q_a0_hers q_a0_his q_a0_hand q_a0_bytes q_a0_anew q_a0_values : Nat) (a0_above : Int64) (a0_below : Int64) (a0_bytesLong : Int32) (a0_tokenAt : Int32) (a0_tokenLong : Int32) (a0_token : Int32) (a0_value : Int32) (a0_told : Nat → Int32) (x1 : Int32) (Q : Int32 → Prop) (hf : p_X9_isAhead a0_told x1 Q) : Met l yX9_isAhead wsX9_isAhead rmX9_isAhead (va_Pc [.ref q_a0, .int x1] (fun U => va_P D vwCl [(q_a0, .inr (8, [.ref q_a0_told, .ref q_a0_kept, .ref q_a0_isKept, .ref q_a0_refused, .long a0_above, .long a0_below, .ref q_a0_manyBy, .ref q_a0_hers, .ref q_a0_his, .ref q_a0_hand, .ref q_a0_bytes, .int a0_bytesLong, .int a0_tokenAt, .int a0_tokenLong, .int a0_token, .int a0_value, .ref q_a0_anew, .ref q_a0_values])), (q_a0_told, .inl (cI, 163, .inl a0_told))] U.heap ∧ XK D cI cZ cO U)) (vp_Si Q) 0 0 (fun _ => False) := by
  refine Met.ofW (cc := cX9_isAhead) (maxL := 2) (ret := (some .boolean)) (by decide) rfl ?_
  intro p e s m args below meth c s₁ B hml hv
  obtain ⟨rfl, hP, hX⟩ := hv
  have hK := hX.1
  have hx := B.exec
  have hb := B.bytes
  have hr := B.returns
  have hts := atoms_spec (ws := wsX9_isAhead) B.pre
  have hown : s.vm.findClass RX9 = some m.cls := findClass_of_methodNamed B.named
  have hlocks := B.notSynchronized
  have in_X9 : ∀ w ∈ wsX90, w ∈ wsX9_isAhead := fun _ h => List.mem_cons_of_mem _ (List.mem_append_right _ h)
  have kf_7 := hts (.fieldLink RX9 7 "LeftCrestModel" "told" "[I") (by decide +kernel)
  generalize hQQ : MQ below _ _ s _ _ _ = QQ
  have hl := lv_entry ([.ref q_a0, .int x1]) (n := 2) (Nat.le_of_ble_eq_true rfl)
  rw [lg_entry_eq]
  generalize (lg_sl ([.ref q_a0, .int x1]) ++ List.replicate (2 - (lg_sl ([.ref q_a0, .int x1])).length) Slot.unset).toArray = ls at hl ⊢
  have hl : lv_has ls 2 [(0, .ref q_a0), (1, .int x1)] := hl
  unfold p_X9_isAhead at hf
  refine lv_iload_n hx hb dX9_isAhead_0 rfl (lv_at hl 1 rfl) ?_
  refine lv_iconst (v := 1) hx hb dX9_isAhead_1 (by decide) ?_
  refine lv_aload_n hx hb dX9_isAhead_2 rfl (lv_at hl 0 rfl) ?_
  refine va_get (D := D) (ci := 8) (v := .ref q_a0_told) (C := RX9) (T := TX9) (N := 18) hx hb hts in_X9 hown hK hP 0 rfl rfl 0 (by decide) kf_7 (fun _ h9 => h9) rfl dX9_isAhead_3 ?_
  refine lv_iconst (v := 4) hx hb dX9_isAhead_6 (by decide) ?_
  refine va_iald hx hb hK hP 1 0 rfl rfl (by unfold vp_in; decide) dX9_isAhead_7 ?_
  refine lv_ishl hx hb dX9_isAhead_8 ?_
  refine lv_iconst (v := 1) hx hb dX9_isAhead_9 (by decide) ?_
  refine lv_isub hx hb dX9_isAhead_10 ?_
  refine lv_iand hx hb dX9_isAhead_11 ?_
  refine lv_if_ne (tgt := 19) hx hb dX9_isAhead_12 (by decide) (fun c_1 => ?_) (fun c_1 => ?_)
  · have hf := it_f c_1 hf
    refine lv_iconst (v := 0) hx hb dX9_isAhead_19 (by decide) ?_
    subst hQQ
    exact W.zret hx hb hr rfl (fun t ht hW => ⟨_, rfl, hf, ht⟩) (fun _ h => absurd h List.not_mem_nil) dX9_isAhead_20
  · have hf := it_t c_1 hf
    refine lv_iconst (v := 1) hx hb dX9_isAhead_15 (by decide) ?_
    refine lv_goto (tgt := 20) hx hb dX9_isAhead_16 (by decide) ?_
    subst hQQ
    exact W.zret hx hb hr rfl (fun t ht hW => ⟨_, rfl, hf, ht⟩) (fun _ h => absurd h List.not_mem_nil) dX9_isAhead_20
def jX9_mend_163 (a0_refused : Nat → Int32) (x2 : Int32) (Q : Int32 → (Nat → Int32) → Prop) (v_1 : Int32) (v_2 : Int32) : Prop :=
  if x2 = 0 then (Q v_2 a0_refused) else (Q v_1 a0_refused)
def jX9_mend_125 (a0_told : Nat → Int32) (x1 : Int32) (k_13 : Int32 → Int32 → Int32 → Prop) (v_10 : Int32) (v_11 : Int32) (v_12 : Int32) (v_14 : Int32) (t_15 : Int32) : Prop :=
  p_X9_isAhead a0_told v_12 (fun r_16 => if r_16 = 0 then (k_13 v_10 v_11 (v_12 + 1)) else (p_X9_bits v_12 (fun r_18 => if x1 < r_18 then (k_13 v_10 v_11 (v_12 + 1)) else (if t_15 = 0 then (k_13 v_10 v_11 (v_12 + 1)) else (k_13 v_12 v_14 (v_12 + 1))))))
def jX9_mend_124 (a0_told : Nat → Int32) (x1 : Int32) (k_13 : Int32 → Int32 → Int32 → Prop) (v_10 : Int32) (v_11 : Int32) (v_12 : Int32) (v_21 : Int32) : Prop :=
  jX9_mend_125 a0_told x1 k_13 v_10 v_11 v_12 v_21 0
def jX9_mend_120 (a0_told : Nat → Int32) (x1 : Int32) (k_13 : Int32 → Int32 → Int32 → Prop) (v_10 : Int32) (v_11 : Int32) (v_12 : Int32) (v_22 : Int32) : Prop :=
  jX9_mend_125 a0_told x1 k_13 v_10 v_11 v_12 v_22 1
def jX9_mend_94 (a0_told : Nat → Int32) (x1 : Int32) (k_13 : Int32 → Int32 → Int32 → Prop) (v_10 : Int32) (v_11 : Int32) (v_12 : Int32) (v_23 : Int32) : Prop :=
  if v_11 < v_23 then (jX9_mend_120 a0_told x1 k_13 v_10 v_11 v_12 v_23) else (if v_23 = v_11 then (p_X9_bits v_12 (fun r_26 => p_X9_bits v_10 (fun r_27 => if r_27 ≤ r_26 then (jX9_mend_124 a0_told x1 k_13 v_10 v_11 v_12 v_23) else (jX9_mend_120 a0_told x1 k_13 v_10 v_11 v_12 v_23)))) else (jX9_mend_124 a0_told x1 k_13 v_10 v_11 v_12 v_23))
def bX9_mend_54 (a0_told : Nat → Int32) (x1 : Int32) (k_13 : Int32 → Int32 → Int32 → Prop) (v_10 : Int32) (v_11 : Int32) (v_12 : Int32) (k_33 : Int32 → Int32 → Prop) (v_31 : Int32) (v_32 : Int32) : Prop :=
  p_X9_many a0_told (fun r_34 => if r_34 ≤ v_32 then (jX9_mend_94 a0_told x1 k_13 v_10 v_11 v_12 v_31) else (p_X9_has v_12 v_32 (fun r_36 => if r_36 = 0 then (k_33 (v_31 + 0) (v_32 + 1)) else (p_X9_savedAt a0_told v_32 (fun r_38 => k_33 (v_31 + r_38) (v_32 + 1))))))
def bX9_mend_37 (a0_told : Nat → Int32) (a0_refused : Nat → Int32) (x1 : Int32) (x2 : Int32) (Q : Int32 → (Nat → Int32) → Prop) (k_13 : Int32 → Int32 → Int32 → Prop) (v_10 : Int32) (v_11 : Int32) (v_12 : Int32) : Prop :=
  p_X9_many a0_told (fun r_29 => if (1 <<< (r_29 &&& 31)) ≤ v_12 then (jX9_mend_163 a0_refused x2 Q v_10 v_11) else (lq2 (bX9_mend_54 a0_told x1 k_13 v_10 v_11 v_12) 1000 0 0))
def p_X9_mend (a0_told : Nat → Int32) (a0_refused : Nat → Int32) (x1 : Int32) (x2 : Int32) (Q : Int32 → (Nat → Int32) → Prop) : Prop :=
  p_X9_in x1.toInt64 0 8 (fun r_4 => if r_4 = 0 then (p_X9_bad a0_refused (-2) (fun r_6 u_7 => Q r_6 u_7)) else (p_X9_in x2.toInt64 0 1 (fun r_8 => if r_8 = 0 then (p_X9_bad a0_refused (-2) (fun r_39 u_40 => Q r_39 u_40)) else (lq3 (bX9_mend_37 a0_told a0_refused x1 x2 Q) 1000 0 0 1))))
def rmX9_mend : Room := { frames := 5, cells := 0, slots := 0, locals := 116 }
set_option maxHeartbeats 4000000 in
set_option maxRecDepth 100000 in
theorem c_X9_mend (l : Launch) (D : va_G) (cI cZ cO : ClassId) (q_a0 q_a0_told q_a0_kept q_a0_isKept q_a0_refused q_a0_manyBy q_a0_hers q_a0_his q_a0_hand q_a0_bytes q_a0_anew q_a0_values : Nat) (a0_above : Int64) (a0_below : Int64) (a0_bytesLong : Int32) (a0_tokenAt : Int32) (a0_tokenLong : Int32) (a0_token : Int32) (a0_value : Int32) (a0_told : Nat → Int32) (a0_refused : Nat → Int32) (sz : Nat) (x1 : Int32) (x2 : Int32) (Q : Int32 → (Nat → Int32) → Prop) (hf : p_X9_mend a0_told a0_refused x1 x2 Q) : Met l yX9_mend wsX9_mend rmX9_mend (va_Pc [.ref q_a0, .int x1, .int x2] (fun U => U.heap.size = sz ∧ va_P D vwCl [(q_a0, .inr (8, [.ref q_a0_told, .ref q_a0_kept, .ref q_a0_isKept, .ref q_a0_refused, .long a0_above, .long a0_below, .ref q_a0_manyBy, .ref q_a0_hers, .ref q_a0_his, .ref q_a0_hand, .ref q_a0_bytes, .int a0_bytesLong, .int a0_tokenAt, .int a0_tokenLong, .int a0_token, .int a0_value, .ref q_a0_anew, .ref q_a0_values])), (q_a0_told, .inl (cI, 163, .inl a0_told)), (q_a0_refused, .inl (cI, 3, .inl a0_refused))] U.heap ∧ XK D cI cZ cO U ∧ va_D (fun _ => True) [(q_a0, .inr (8, [.ref q_a0_told, .ref q_a0_kept, .ref q_a0_isKept, .ref q_a0_refused, .long a0_above, .long a0_below, .ref q_a0_manyBy, .ref q_a0_hers, .ref q_a0_his, .ref q_a0_hand, .ref q_a0_bytes, .int a0_bytesLong, .int a0_tokenAt, .int a0_tokenLong, .int a0_token, .int a0_value, .ref q_a0_anew, .ref q_a0_values])), (q_a0_told, .inl (cI, 163, .inl a0_told)), (q_a0_refused, .inl (cI, 3, .inl a0_refused))])) (va_Qi (fun r (u : (Nat → Int32)) => Q r u) (fun (u : (Nat → Int32)) t => va_P D vwCl [(q_a0, .inr (8, [.ref q_a0_told, .ref q_a0_kept, .ref q_a0_isKept, .ref q_a0_refused, .long a0_above, .long a0_below, .ref q_a0_manyBy, .ref q_a0_hers, .ref q_a0_his, .ref q_a0_hand, .ref q_a0_bytes, .int a0_bytesLong, .int a0_tokenAt, .int a0_tokenLong, .int a0_token, .int a0_value, .ref q_a0_anew, .ref q_a0_values])), (q_a0_told, .inl (cI, 163, .inl a0_told)), (q_a0_refused, .inl (cI, 3, .inl u))] t.heap ∧ va_D (va_A [(q_a0, .inr (8, [.ref q_a0_told, .ref q_a0_kept, .ref q_a0_isKept, .ref q_a0_refused, .long a0_above, .long a0_below, .ref q_a0_manyBy, .ref q_a0_hers, .ref q_a0_his, .ref q_a0_hand, .ref q_a0_bytes, .int a0_bytesLong, .int a0_tokenAt, .int a0_tokenLong, .int a0_token, .int a0_value, .ref q_a0_anew, .ref q_a0_values])), (q_a0_told, .inl (cI, 163, .inl a0_told)), (q_a0_refused, .inl (cI, 3, .inl a0_refused))] sz) [(q_a0, .inr (8, [.ref q_a0_told, .ref q_a0_kept, .ref q_a0_isKept, .ref q_a0_refused, .long a0_above, .long a0_below, .ref q_a0_manyBy, .ref q_a0_hers, .ref q_a0_his, .ref q_a0_hand, .ref q_a0_bytes, .int a0_bytesLong, .int a0_tokenAt, .int a0_tokenLong, .int a0_token, .int a0_value, .ref q_a0_anew, .ref q_a0_values])), (q_a0_told, .inl (cI, 163, .inl a0_told)), (q_a0_refused, .inl (cI, 3, .inl u))]) (va_A [(q_a0, .inr (8, [.ref q_a0_told, .ref q_a0_kept, .ref q_a0_isKept, .ref q_a0_refused, .long a0_above, .long a0_below, .ref q_a0_manyBy, .ref q_a0_hers, .ref q_a0_his, .ref q_a0_hand, .ref q_a0_bytes, .int a0_bytesLong, .int a0_tokenAt, .int a0_tokenLong, .int a0_token, .int a0_value, .ref q_a0_anew, .ref q_a0_values])), (q_a0_told, .inl (cI, 163, .inl a0_told)), (q_a0_refused, .inl (cI, 3, .inl a0_refused))] sz)) 0 0 (va_A [(q_a0, .inr (8, [.ref q_a0_told, .ref q_a0_kept, .ref q_a0_isKept, .ref q_a0_refused, .long a0_above, .long a0_below, .ref q_a0_manyBy, .ref q_a0_hers, .ref q_a0_his, .ref q_a0_hand, .ref q_a0_bytes, .int a0_bytesLong, .int a0_tokenAt, .int a0_tokenLong, .int a0_token, .int a0_value, .ref q_a0_anew, .ref q_a0_values])), (q_a0_told, .inl (cI, 163, .inl a0_told)), (q_a0_refused, .inl (cI, 3, .inl a0_refused))] sz) := by
  refine Met.ofW (cc := cX9_mend) (maxL := 8) (ret := (some .int)) (by decide) rfl ?_
  intro p e s m args below meth c s₁ B hml hv
  obtain ⟨rfl, hsz, hP, hX, hD0⟩ := hv
  have hK := hX.1
  have hx := B.exec
  have hb := B.bytes
  have hr := B.returns
  have hts := atoms_spec (ws := wsX9_mend) B.pre
  have hown : s.vm.findClass RX9 = some m.cls := findClass_of_methodNamed B.named
  have hlocks := B.notSynchronized
  have kc_113 := hts (.constantLong RX9 113 (8)) (by decide +kernel)
  subst hsz
  have hD := hD0.self (sz := s.heap.size)
  generalize hAe : va_A [(q_a0, .inr (8, [.ref q_a0_told, .ref q_a0_kept, .ref q_a0_isKept, .ref q_a0_refused, .long a0_above, .long a0_below, .ref q_a0_manyBy, .ref q_a0_hers, .ref q_a0_his, .ref q_a0_hand, .ref q_a0_bytes, .int a0_bytesLong, .int a0_tokenAt, .int a0_tokenLong, .int a0_token, .int a0_value, .ref q_a0_anew, .ref q_a0_values])), (q_a0_told, .inl (cI, 163, .inl a0_told)), (q_a0_refused, .inl (cI, 3, .inl a0_refused))] s.heap.size = A at hD ⊢
  have hA : ∀ q : Nat, s.heap.size ≤ q → A q := fun q h => by rw [← hAe]; exact Or.inr h
  have hS : va_S A s.heap s.heap [] := va_S.rf
  have hP : va_P D vwCl [(q_a0, .inr (8, [.ref q_a0_told, .ref q_a0_kept, .ref q_a0_isKept, .ref q_a0_refused, .long a0_above, .long a0_below, .ref q_a0_manyBy, .ref q_a0_hers, .ref q_a0_his, .ref q_a0_hand, .ref q_a0_bytes, .int a0_bytesLong, .int a0_tokenAt, .int a0_tokenLong, .int a0_token, .int a0_value, .ref q_a0_anew, .ref q_a0_values])), (q_a0_told, .inl (cI, 163, .inl a0_told)), (q_a0_refused, .inl (cI, 3, .inl a0_refused))] s.heap := hP
  generalize hQQ : MQ below _ _ s _ _ _ = QQ
  have hl := lv_entry ([.ref q_a0, .int x1, .int x2]) (n := 8) (Nat.le_of_ble_eq_true rfl)
  rw [lg_entry_eq]
  generalize (lg_sl ([.ref q_a0, .int x1, .int x2]) ++ List.replicate (8 - (lg_sl ([.ref q_a0, .int x1, .int x2])).length) Slot.unset).toArray = ls at hl ⊢
  have hl : lv_has ls 8 [(0, .ref q_a0), (1, .int x1), (2, .int x2)] := hl
  have hj_163 : ∀ (v_1 : Int32) (v_2 : Int32) (H : Heap) (locs : List Loc), jX9_mend_163 a0_refused x2 Q v_1 v_2 → va_P D vwCl [(q_a0, .inr (8, [.ref q_a0_told, .ref q_a0_kept, .ref q_a0_isKept, .ref q_a0_refused, .long a0_above, .long a0_below, .ref q_a0_manyBy, .ref q_a0_hers, .ref q_a0_his, .ref q_a0_hand, .ref q_a0_bytes, .int a0_bytesLong, .int a0_tokenAt, .int a0_tokenLong, .int a0_token, .int a0_value, .ref q_a0_anew, .ref q_a0_values])), (q_a0_told, .inl (cI, 163, .inl a0_told)), (q_a0_refused, .inl (cI, 3, .inl a0_refused))] H → va_D A [(q_a0, .inr (8, [.ref q_a0_told, .ref q_a0_kept, .ref q_a0_isKept, .ref q_a0_refused, .long a0_above, .long a0_below, .ref q_a0_manyBy, .ref q_a0_hers, .ref q_a0_his, .ref q_a0_hand, .ref q_a0_bytes, .int a0_bytesLong, .int a0_tokenAt, .int a0_tokenLong, .int a0_token, .int a0_value, .ref q_a0_anew, .ref q_a0_values])), (q_a0_told, .inl (cI, 163, .inl a0_told)), (q_a0_refused, .inl (cI, 3, .inl a0_refused))] → va_S A s.heap H locs → ∀ ls : Array Slot, lv_has ls 8 [(2, .int x2), (3, .int v_1), (4, .int v_2)] → W p l e (headSpec wsX9_mend rmX9_mend).room s m ([.ref q_a0, .int x1, .int x2] : List Value).toArray below meth c H locs 0 0 QQ (F0 m 163 ls []) := by
    intro v_1 v_2 H locs hf hP hD hS ls hl
    unfold jX9_mend_163 at hf
    refine lv_iload_n hx hb dX9_mend_163 rfl (lv_at hl 0 rfl) ?_
    refine lv_if_ne (tgt := 172) hx hb dX9_mend_164 (by decide) (fun c_3 => ?_) (fun c_3 => ?_)
    · have hf := it_f c_3 hf
      refine lv_iload_n hx hb dX9_mend_172 rfl (lv_at hl 1 rfl) ?_
      subst hQQ
      have hP9 := hP.sub (ws' := [(q_a0, .inr (8, [.ref q_a0_told, .ref q_a0_kept, .ref q_a0_isKept, .ref q_a0_refused, .long a0_above, .long a0_below, .ref q_a0_manyBy, .ref q_a0_hers, .ref q_a0_his, .ref q_a0_hand, .ref q_a0_bytes, .int a0_bytesLong, .int a0_tokenAt, .int a0_tokenLong, .int a0_token, .int a0_value, .ref q_a0_anew, .ref q_a0_values])), (q_a0_told, .inl (cI, 163, .inl a0_told)), (q_a0_refused, .inl (cI, 3, .inl a0_refused))]) [0, 1, 2] rfl
      have hD9 := hD.sub (ws' := [(q_a0, .inr (8, [.ref q_a0_told, .ref q_a0_kept, .ref q_a0_isKept, .ref q_a0_refused, .long a0_above, .long a0_below, .ref q_a0_manyBy, .ref q_a0_hers, .ref q_a0_his, .ref q_a0_hand, .ref q_a0_bytes, .int a0_bytesLong, .int a0_tokenAt, .int a0_tokenLong, .int a0_token, .int a0_value, .ref q_a0_anew, .ref q_a0_values])), (q_a0_told, .inl (cI, 163, .inl a0_told)), (q_a0_refused, .inl (cI, 3, .inl a0_refused))]) [0, 1, 2] (by decide) rfl
      exact W.iret hx hb hr (fun t ht hW => ⟨⟨v_1, a0_refused, rfl, hf, by rw [ht]; exact hP9, hD9⟩, hS.F ht⟩) hS.2.2 dX9_mend_173
    · have hf := it_t c_3 hf
      refine lv_iload hx hb dX9_mend_167 (lv_at hl 2 rfl) ?_
      refine lv_goto (tgt := 173) hx hb dX9_mend_169 (by decide) ?_
      subst hQQ
      have hP9 := hP.sub (ws' := [(q_a0, .inr (8, [.ref q_a0_told, .ref q_a0_kept, .ref q_a0_isKept, .ref q_a0_refused, .long a0_above, .long a0_below, .ref q_a0_manyBy, .ref q_a0_hers, .ref q_a0_his, .ref q_a0_hand, .ref q_a0_bytes, .int a0_bytesLong, .int a0_tokenAt, .int a0_tokenLong, .int a0_token, .int a0_value, .ref q_a0_anew, .ref q_a0_values])), (q_a0_told, .inl (cI, 163, .inl a0_told)), (q_a0_refused, .inl (cI, 3, .inl a0_refused))]) [0, 1, 2] rfl
      have hD9 := hD.sub (ws' := [(q_a0, .inr (8, [.ref q_a0_told, .ref q_a0_kept, .ref q_a0_isKept, .ref q_a0_refused, .long a0_above, .long a0_below, .ref q_a0_manyBy, .ref q_a0_hers, .ref q_a0_his, .ref q_a0_hand, .ref q_a0_bytes, .int a0_bytesLong, .int a0_tokenAt, .int a0_tokenLong, .int a0_token, .int a0_value, .ref q_a0_anew, .ref q_a0_values])), (q_a0_told, .inl (cI, 163, .inl a0_told)), (q_a0_refused, .inl (cI, 3, .inl a0_refused))]) [0, 1, 2] (by decide) rfl
      exact W.iret hx hb hr (fun t ht hW => ⟨⟨v_2, a0_refused, rfl, hf, by rw [ht]; exact hP9, hD9⟩, hS.F ht⟩) hS.2.2 dX9_mend_173
  unfold p_X9_mend at hf
  refine lv_iload_n hx hb dX9_mend_0 rfl (lv_at hl 1 rfl) ?_
  refine lv_i2l hx hb dX9_mend_1 rfl ?_
  refine lv_lconst (v := 0) hx hb dX9_mend_2 (by decide) ?_
  refine lv_ldc2 (v := 8) hx hb hown kc_113 dX9_mend_3 ?_
  refine ya_csi (va_runS (As := [.long x1.toInt64, .long 0, .long 8]) (rest := []) ⟨hx, hb, hml, hown, hts⟩ (c_X9_in l D cI cZ cO  x1.toInt64 0 8 _ hf) (va_cwS 3 hts gX9_mend_X9_in rfl rfl rfl (by decide +kernel) ⟨Nat.le_of_ble_eq_true rfl, Nat.le_of_ble_eq_true rfl⟩) (ps_ro va_P0 hX) rfl rfl hl.1 rfl (lv_room (Nat.le_of_ble_eq_true rfl)) dX9_mend_6 ⟨Nat.zero_le _, Nat.zero_le _⟩) (fun r_4 hf => ?_)
  refine lv_if_eq (tgt := 22) hx hb dX9_mend_9 (by decide) (fun c_5 => ?_) (fun c_5 => ?_)
  · have hf := it_t c_5 hf
    refine lv_aload_n hx hb dX9_mend_22 rfl (lv_at hl 0 rfl) ?_
    refine lv_bipush (v := (-2)) hx hb dX9_mend_23 (by decide) ?_
    have hPc := hP.sub (ws' := [(q_a0, .inr (8, [.ref q_a0_told, .ref q_a0_kept, .ref q_a0_isKept, .ref q_a0_refused, .long a0_above, .long a0_below, .ref q_a0_manyBy, .ref q_a0_hers, .ref q_a0_his, .ref q_a0_hand, .ref q_a0_bytes, .int a0_bytesLong, .int a0_tokenAt, .int a0_tokenLong, .int a0_token, .int a0_value, .ref q_a0_anew, .ref q_a0_values])), (q_a0_refused, .inl (cI, 3, .inl a0_refused))]) [0, 2] rfl
    have hDc := hD.sub (ws' := [(q_a0, .inr (8, [.ref q_a0_told, .ref q_a0_kept, .ref q_a0_isKept, .ref q_a0_refused, .long a0_above, .long a0_below, .ref q_a0_manyBy, .ref q_a0_hers, .ref q_a0_his, .ref q_a0_hand, .ref q_a0_bytes, .int a0_bytesLong, .int a0_tokenAt, .int a0_tokenLong, .int a0_token, .int a0_value, .ref q_a0_anew, .ref q_a0_values])), (q_a0_refused, .inl (cI, 3, .inl a0_refused))]) [0, 2] (by decide) rfl
    have hFc := va_free (wc := [(q_a0, .inr (8, [.ref q_a0_told, .ref q_a0_kept, .ref q_a0_isKept, .ref q_a0_refused, .long a0_above, .long a0_below, .ref q_a0_manyBy, .ref q_a0_hers, .ref q_a0_his, .ref q_a0_hand, .ref q_a0_bytes, .int a0_bytesLong, .int a0_tokenAt, .int a0_tokenLong, .int a0_token, .int a0_value, .ref q_a0_anew, .ref q_a0_values])), (q_a0_refused, .inl (cI, 3, .inl a0_refused))]) hD hS hA [0, 2] rfl
    refine va_calli (va_runV (As := [.int (-2)]) (rest := []) ⟨hx, hb, hml, hown, hts⟩ (c_X9_bad l D cI cZ cO q_a0 q_a0_told q_a0_kept q_a0_isKept q_a0_refused q_a0_manyBy q_a0_hers q_a0_his q_a0_hand q_a0_bytes q_a0_anew q_a0_values a0_above a0_below a0_bytesLong a0_tokenAt a0_tokenLong a0_token a0_value a0_refused s.heap.size (-2) _ hf) (cwV 1 hts gX9_mend_X9_bad rfl rfl rfl (by decide +kernel) ⟨Nat.le_of_ble_eq_true rfl, Nat.le_of_ble_eq_true rfl⟩) (pv_rw (ci := 8) (q0 := 0) hPc hDc hX rfl rfl) rfl rfl hl.1 rfl (lv_room (Nat.le_of_ble_eq_true rfl)) dX9_mend_25 ⟨Nat.zero_le _, Nat.zero_le _⟩) hS (fun q _ h => hFc q h) hFc (fun r_6 u t H1 locs ht hvm hf hB hz1 hk1 hS => ?_)
    obtain ⟨u_7, rfl⟩ : ∃ z, z = u := ⟨_, rfl⟩
    obtain ⟨hP1, hD1⟩ := hB
    rw [ht] at hP1
    clear hvm
    obtain ⟨hP, hD⟩ := va_join (wr := [(q_a0_told, .inl (cI, 163, .inl a0_told))]) (w1 := [(q_a0, .inr (8, [.ref q_a0_told, .ref q_a0_kept, .ref q_a0_isKept, .ref q_a0_refused, .long a0_above, .long a0_below, .ref q_a0_manyBy, .ref q_a0_hers, .ref q_a0_his, .ref q_a0_hand, .ref q_a0_bytes, .int a0_bytesLong, .int a0_tokenAt, .int a0_tokenLong, .int a0_token, .int a0_value, .ref q_a0_anew, .ref q_a0_values])), (q_a0_refused, .inl (cI, 3, .inl u_7))]) hP hD [0, 2] [1] rfl rfl (by decide) (by decide) hk1 hFc hP1 hD1
    clear hz1 hk1 hPc hDc hFc hP1 hD1
    generalize H1 = H at hP hS ⊢
    have hP : va_P D vwCl [(q_a0_told, .inl (cI, 163, .inl a0_told)), (q_a0, .inr (8, [.ref q_a0_told, .ref q_a0_kept, .ref q_a0_isKept, .ref q_a0_refused, .long a0_above, .long a0_below, .ref q_a0_manyBy, .ref q_a0_hers, .ref q_a0_his, .ref q_a0_hand, .ref q_a0_bytes, .int a0_bytesLong, .int a0_tokenAt, .int a0_tokenLong, .int a0_token, .int a0_value, .ref q_a0_anew, .ref q_a0_values])), (q_a0_refused, .inl (cI, 3, .inl u_7))] H := hP
    have hD : va_D A [(q_a0_told, .inl (cI, 163, .inl a0_told)), (q_a0, .inr (8, [.ref q_a0_told, .ref q_a0_kept, .ref q_a0_isKept, .ref q_a0_refused, .long a0_above, .long a0_below, .ref q_a0_manyBy, .ref q_a0_hers, .ref q_a0_his, .ref q_a0_hand, .ref q_a0_bytes, .int a0_bytesLong, .int a0_tokenAt, .int a0_tokenLong, .int a0_token, .int a0_value, .ref q_a0_anew, .ref q_a0_values])), (q_a0_refused, .inl (cI, 3, .inl u_7))] := hD
    subst hQQ
    have hP9 := hP.sub (ws' := [(q_a0, .inr (8, [.ref q_a0_told, .ref q_a0_kept, .ref q_a0_isKept, .ref q_a0_refused, .long a0_above, .long a0_below, .ref q_a0_manyBy, .ref q_a0_hers, .ref q_a0_his, .ref q_a0_hand, .ref q_a0_bytes, .int a0_bytesLong, .int a0_tokenAt, .int a0_tokenLong, .int a0_token, .int a0_value, .ref q_a0_anew, .ref q_a0_values])), (q_a0_told, .inl (cI, 163, .inl a0_told)), (q_a0_refused, .inl (cI, 3, .inl u_7))]) [1, 0, 2] rfl
    have hD9 := hD.sub (ws' := [(q_a0, .inr (8, [.ref q_a0_told, .ref q_a0_kept, .ref q_a0_isKept, .ref q_a0_refused, .long a0_above, .long a0_below, .ref q_a0_manyBy, .ref q_a0_hers, .ref q_a0_his, .ref q_a0_hand, .ref q_a0_bytes, .int a0_bytesLong, .int a0_tokenAt, .int a0_tokenLong, .int a0_token, .int a0_value, .ref q_a0_anew, .ref q_a0_values])), (q_a0_told, .inl (cI, 163, .inl a0_told)), (q_a0_refused, .inl (cI, 3, .inl u_7))]) [1, 0, 2] (by decide) rfl
    exact W.iret hx hb hr (fun t ht hW => ⟨⟨r_6, u_7, rfl, hf, by rw [ht]; exact hP9, hD9⟩, hS.F ht⟩) hS.2.2 dX9_mend_28
  · have hf := it_f c_5 hf
    refine lv_iload_n hx hb dX9_mend_12 rfl (lv_at hl 2 rfl) ?_
    refine lv_i2l hx hb dX9_mend_13 rfl ?_
    refine lv_lconst (v := 0) hx hb dX9_mend_14 (by decide) ?_
    refine lv_lconst (v := 1) hx hb dX9_mend_15 (by decide) ?_
    refine ya_csi (va_runS (As := [.long x2.toInt64, .long 0, .long 1]) (rest := []) ⟨hx, hb, hml, hown, hts⟩ (c_X9_in l D cI cZ cO  x2.toInt64 0 1 _ hf) (va_cwS 3 hts gX9_mend_X9_in rfl rfl rfl (by decide +kernel) ⟨Nat.le_of_ble_eq_true rfl, Nat.le_of_ble_eq_true rfl⟩) (ps_ro va_P0 hX) rfl rfl hl.1 rfl (lv_room (Nat.le_of_ble_eq_true rfl)) dX9_mend_16 ⟨Nat.zero_le _, Nat.zero_le _⟩) (fun r_8 hf => ?_)
    refine lv_if_ne (tgt := 29) hx hb dX9_mend_19 (by decide) (fun c_9 => ?_) (fun c_9 => ?_)
    · have hf := it_f c_9 hf
      refine lv_iconst (v := 0) hx hb dX9_mend_29 (by decide) ?_
      refine lv_istore_n (lv' := [(3, .int 0), (0, .ref q_a0), (1, .int x1), (2, .int x2)]) hx hb dX9_mend_30 rfl hl (by decide) rfl (fun ls hl => ?_)
      refine lv_iconst (v := 0) hx hb dX9_mend_31 (by decide) ?_
      refine lv_istore (lv' := [(4, .int 0), (3, .int 0), (0, .ref q_a0), (1, .int x1), (2, .int x2)]) hx hb dX9_mend_32 hl (by decide) rfl (fun ls hl => ?_)
      refine lv_iconst (v := 1) hx hb dX9_mend_34 (by decide) ?_
      refine lv_istore (lv' := [(5, .int 1), (4, .int 0), (3, .int 0), (0, .ref q_a0), (1, .int x1), (2, .int x2)]) hx hb dX9_mend_35 hl (by decide) rfl (fun ls hl => ?_)
      have hlp_37 : ∀ (n_37 : Nat) (v_10 : Int32) (v_11 : Int32) (v_12 : Int32) (H : Heap) (locs : List Loc) (ls : Array Slot), lq3 (bX9_mend_37 a0_told a0_refused x1 x2 Q) n_37 v_10 v_11 v_12 → va_P D vwCl [(q_a0, .inr (8, [.ref q_a0_told, .ref q_a0_kept, .ref q_a0_isKept, .ref q_a0_refused, .long a0_above, .long a0_below, .ref q_a0_manyBy, .ref q_a0_hers, .ref q_a0_his, .ref q_a0_hand, .ref q_a0_bytes, .int a0_bytesLong, .int a0_tokenAt, .int a0_tokenLong, .int a0_token, .int a0_value, .ref q_a0_anew, .ref q_a0_values])), (q_a0_told, .inl (cI, 163, .inl a0_told)), (q_a0_refused, .inl (cI, 3, .inl a0_refused))] H → va_D A [(q_a0, .inr (8, [.ref q_a0_told, .ref q_a0_kept, .ref q_a0_isKept, .ref q_a0_refused, .long a0_above, .long a0_below, .ref q_a0_manyBy, .ref q_a0_hers, .ref q_a0_his, .ref q_a0_hand, .ref q_a0_bytes, .int a0_bytesLong, .int a0_tokenAt, .int a0_tokenLong, .int a0_token, .int a0_value, .ref q_a0_anew, .ref q_a0_values])), (q_a0_told, .inl (cI, 163, .inl a0_told)), (q_a0_refused, .inl (cI, 3, .inl a0_refused))] → va_S A s.heap H locs → lv_has ls 8 [(0, .ref q_a0), (1, .int x1), (2, .int x2), (3, .int v_10), (4, .int v_11), (5, .int v_12)] → W p l e (headSpec wsX9_mend rmX9_mend).room s m ([.ref q_a0, .int x1, .int x2] : List Value).toArray below meth c H locs 0 0 QQ (F0 m 37 ls []) := by
        intro n_37
        induction n_37 with
        | zero => intro v_10 v_11 v_12 H locs ls hf; exact (lq3_0 hf).elim
        | succ n_37 ih =>
          have ih_37 := ih
          intro v_10 v_11 v_12 H locs ls hf hP hD hS hl
          have hj_125 : ∀ (v_14 : Int32) (t_15 : Int32) (H : Heap) (locs : List Loc), jX9_mend_125 a0_told x1 (lq3 (bX9_mend_37 a0_told a0_refused x1 x2 Q) n_37) v_10 v_11 v_12 v_14 t_15 → va_P D vwCl [(q_a0, .inr (8, [.ref q_a0_told, .ref q_a0_kept, .ref q_a0_isKept, .ref q_a0_refused, .long a0_above, .long a0_below, .ref q_a0_manyBy, .ref q_a0_hers, .ref q_a0_his, .ref q_a0_hand, .ref q_a0_bytes, .int a0_bytesLong, .int a0_tokenAt, .int a0_tokenLong, .int a0_token, .int a0_value, .ref q_a0_anew, .ref q_a0_values])), (q_a0_told, .inl (cI, 163, .inl a0_told)), (q_a0_refused, .inl (cI, 3, .inl a0_refused))] H → va_D A [(q_a0, .inr (8, [.ref q_a0_told, .ref q_a0_kept, .ref q_a0_isKept, .ref q_a0_refused, .long a0_above, .long a0_below, .ref q_a0_manyBy, .ref q_a0_hers, .ref q_a0_his, .ref q_a0_hand, .ref q_a0_bytes, .int a0_bytesLong, .int a0_tokenAt, .int a0_tokenLong, .int a0_token, .int a0_value, .ref q_a0_anew, .ref q_a0_values])), (q_a0_told, .inl (cI, 163, .inl a0_told)), (q_a0_refused, .inl (cI, 3, .inl a0_refused))] → va_S A s.heap H locs → ∀ ls : Array Slot, lv_has ls 8 [(0, .ref q_a0), (1, .int x1), (2, .int x2), (3, .int v_10), (4, .int v_11), (5, .int v_12), (6, .int v_14)] → W p l e (headSpec wsX9_mend rmX9_mend).room s m ([.ref q_a0, .int x1, .int x2] : List Value).toArray below meth c H locs 0 0 QQ (F0 m 125 ls [.int t_15]) := by
            intro v_14 t_15 H locs hf hP hD hS ls hl
            unfold jX9_mend_125 at hf
            refine lv_istore (lv' := [(7, .int t_15), (0, .ref q_a0), (1, .int x1), (2, .int x2), (3, .int v_10), (4, .int v_11), (5, .int v_12), (6, .int v_14)]) hx hb dX9_mend_125 hl (by decide) rfl (fun ls hl => ?_)
            refine lv_aload_n hx hb dX9_mend_127 rfl (lv_at hl 1 rfl) ?_
            refine lv_iload hx hb dX9_mend_128 (lv_at hl 6 rfl) ?_
            refine ya_csi (va_runV (As := [.int v_12]) (rest := []) ⟨hx, hb, hml, hown, hts⟩ (c_X9_isAhead l D cI cZ cO q_a0 q_a0_told q_a0_kept q_a0_isKept q_a0_refused q_a0_manyBy q_a0_hers q_a0_his q_a0_hand q_a0_bytes q_a0_anew q_a0_values a0_above a0_below a0_bytesLong a0_tokenAt a0_tokenLong a0_token a0_value a0_told v_12 _ hf) (cwV 1 hts gX9_mend_X9_isAhead rfl rfl rfl (by decide +kernel) ⟨Nat.le_of_ble_eq_true rfl, Nat.le_of_ble_eq_true rfl⟩) (pv_ro (ci := 8) (q0 := 0) (hP.sub [0, 1] rfl) hX rfl rfl) rfl rfl hl.1 rfl (lv_room (Nat.le_of_ble_eq_true rfl)) dX9_mend_130 ⟨Nat.zero_le _, Nat.zero_le _⟩) (fun r_16 hf => ?_)
            refine lv_if_eq (tgt := 157) hx hb dX9_mend_133 (by decide) (fun c_17 => ?_) (fun c_17 => ?_)
            · have hf := it_t c_17 hf
              refine lv_iinc (v := v_12 + 1) (lv' := [(5, .int (v_12 + 1)), (7, .int t_15), (0, .ref q_a0), (1, .int x1), (2, .int x2), (3, .int v_10), (4, .int v_11), (6, .int v_14)]) hx hb dX9_mend_157 hl (k := 6) rfl rfl (by decide) rfl (fun ls hl => ?_)
              refine lv_goto (tgt := 37) hx hb dX9_mend_160 (by decide) ?_
              exact ih v_10 v_11 (v_12 + 1) _ _ ls hf (hP.sub [0, 1, 2] rfl) (hD.sub [0, 1, 2] (by decide) rfl) hS (lv_sub hl [2, 3, 4, 5, 6, 0] rfl)
            · have hf := it_f c_17 hf
              refine lv_iload hx hb dX9_mend_136 (lv_at hl 6 rfl) ?_
              refine ya_csi (va_runS (As := [.int v_12]) (rest := []) ⟨hx, hb, hml, hown, hts⟩ (c_X9_bits l D cI cZ cO  v_12 _ hf) (va_cwS 1 hts gX9_mend_X9_bits rfl rfl rfl (by decide +kernel) ⟨Nat.le_of_ble_eq_true rfl, Nat.le_of_ble_eq_true rfl⟩) (ps_ro va_P0 hX) rfl rfl hl.1 rfl (lv_room (Nat.le_of_ble_eq_true rfl)) dX9_mend_138 ⟨Nat.zero_le _, Nat.zero_le _⟩) (fun r_18 hf => ?_)
              refine lv_iload_n hx hb dX9_mend_141 rfl (lv_at hl 2 rfl) ?_
              refine lv_icmp_gt (tgt := 157) hx hb dX9_mend_142 (by decide) (fun c_19 => ?_) (fun c_19 => ?_)
              · have hf := it_t c_19 hf
                refine lv_iinc (v := v_12 + 1) (lv' := [(5, .int (v_12 + 1)), (7, .int t_15), (0, .ref q_a0), (1, .int x1), (2, .int x2), (3, .int v_10), (4, .int v_11), (6, .int v_14)]) hx hb dX9_mend_157 hl (k := 6) rfl rfl (by decide) rfl (fun ls hl => ?_)
                refine lv_goto (tgt := 37) hx hb dX9_mend_160 (by decide) ?_
                exact ih v_10 v_11 (v_12 + 1) _ _ ls hf (hP.sub [0, 1, 2] rfl) (hD.sub [0, 1, 2] (by decide) rfl) hS (lv_sub hl [2, 3, 4, 5, 6, 0] rfl)
              · have hf := it_f c_19 hf
                refine lv_iload hx hb dX9_mend_145 (lv_at hl 0 rfl) ?_
                refine lv_if_eq (tgt := 157) hx hb dX9_mend_147 (by decide) (fun c_20 => ?_) (fun c_20 => ?_)
                · have hf := it_t c_20 hf
                  refine lv_iinc (v := v_12 + 1) (lv' := [(5, .int (v_12 + 1)), (7, .int t_15), (0, .ref q_a0), (1, .int x1), (2, .int x2), (3, .int v_10), (4, .int v_11), (6, .int v_14)]) hx hb dX9_mend_157 hl (k := 6) rfl rfl (by decide) rfl (fun ls hl => ?_)
                  refine lv_goto (tgt := 37) hx hb dX9_mend_160 (by decide) ?_
                  exact ih v_10 v_11 (v_12 + 1) _ _ ls hf (hP.sub [0, 1, 2] rfl) (hD.sub [0, 1, 2] (by decide) rfl) hS (lv_sub hl [2, 3, 4, 5, 6, 0] rfl)
                · have hf := it_f c_20 hf
                  refine lv_iload hx hb dX9_mend_150 (lv_at hl 6 rfl) ?_
                  refine lv_istore_n (lv' := [(3, .int v_12), (7, .int t_15), (0, .ref q_a0), (1, .int x1), (2, .int x2), (4, .int v_11), (5, .int v_12), (6, .int v_14)]) hx hb dX9_mend_152 rfl hl (by decide) rfl (fun ls hl => ?_)
                  refine lv_iload hx hb dX9_mend_153 (lv_at hl 7 rfl) ?_
                  refine lv_istore (lv' := [(4, .int v_14), (3, .int v_12), (7, .int t_15), (0, .ref q_a0), (1, .int x1), (2, .int x2), (5, .int v_12), (6, .int v_14)]) hx hb dX9_mend_155 hl (by decide) rfl (fun ls hl => ?_)
                  refine lv_iinc (v := v_12 + 1) (lv' := [(5, .int (v_12 + 1)), (4, .int v_14), (3, .int v_12), (7, .int t_15), (0, .ref q_a0), (1, .int x1), (2, .int x2), (6, .int v_14)]) hx hb dX9_mend_157 hl (k := 6) rfl rfl (by decide) rfl (fun ls hl => ?_)
                  refine lv_goto (tgt := 37) hx hb dX9_mend_160 (by decide) ?_
                  exact ih v_12 v_14 (v_12 + 1) _ _ ls hf (hP.sub [0, 1, 2] rfl) (hD.sub [0, 1, 2] (by decide) rfl) hS (lv_sub hl [4, 5, 6, 2, 1, 0] rfl)
          have hj_124 : ∀ (v_21 : Int32) (H : Heap) (locs : List Loc), jX9_mend_124 a0_told x1 (lq3 (bX9_mend_37 a0_told a0_refused x1 x2 Q) n_37) v_10 v_11 v_12 v_21 → va_P D vwCl [(q_a0, .inr (8, [.ref q_a0_told, .ref q_a0_kept, .ref q_a0_isKept, .ref q_a0_refused, .long a0_above, .long a0_below, .ref q_a0_manyBy, .ref q_a0_hers, .ref q_a0_his, .ref q_a0_hand, .ref q_a0_bytes, .int a0_bytesLong, .int a0_tokenAt, .int a0_tokenLong, .int a0_token, .int a0_value, .ref q_a0_anew, .ref q_a0_values])), (q_a0_told, .inl (cI, 163, .inl a0_told)), (q_a0_refused, .inl (cI, 3, .inl a0_refused))] H → va_D A [(q_a0, .inr (8, [.ref q_a0_told, .ref q_a0_kept, .ref q_a0_isKept, .ref q_a0_refused, .long a0_above, .long a0_below, .ref q_a0_manyBy, .ref q_a0_hers, .ref q_a0_his, .ref q_a0_hand, .ref q_a0_bytes, .int a0_bytesLong, .int a0_tokenAt, .int a0_tokenLong, .int a0_token, .int a0_value, .ref q_a0_anew, .ref q_a0_values])), (q_a0_told, .inl (cI, 163, .inl a0_told)), (q_a0_refused, .inl (cI, 3, .inl a0_refused))] → va_S A s.heap H locs → ∀ ls : Array Slot, lv_has ls 8 [(0, .ref q_a0), (1, .int x1), (2, .int x2), (3, .int v_10), (4, .int v_11), (5, .int v_12), (6, .int v_21)] → W p l e (headSpec wsX9_mend rmX9_mend).room s m ([.ref q_a0, .int x1, .int x2] : List Value).toArray below meth c H locs 0 0 QQ (F0 m 124 ls []) := by
            intro v_21 H locs hf hP hD hS ls hl
            unfold jX9_mend_124 at hf
            refine lv_iconst (v := 0) hx hb dX9_mend_124 (by decide) ?_
            exact hj_125 v_21 0 _ _ hf (hP.sub [0, 1, 2] rfl) (hD.sub [0, 1, 2] (by decide) rfl) hS ls (lv_sub hl [0, 1, 2, 3, 4, 5, 6] rfl)
          have hj_120 : ∀ (v_22 : Int32) (H : Heap) (locs : List Loc), jX9_mend_120 a0_told x1 (lq3 (bX9_mend_37 a0_told a0_refused x1 x2 Q) n_37) v_10 v_11 v_12 v_22 → va_P D vwCl [(q_a0, .inr (8, [.ref q_a0_told, .ref q_a0_kept, .ref q_a0_isKept, .ref q_a0_refused, .long a0_above, .long a0_below, .ref q_a0_manyBy, .ref q_a0_hers, .ref q_a0_his, .ref q_a0_hand, .ref q_a0_bytes, .int a0_bytesLong, .int a0_tokenAt, .int a0_tokenLong, .int a0_token, .int a0_value, .ref q_a0_anew, .ref q_a0_values])), (q_a0_told, .inl (cI, 163, .inl a0_told)), (q_a0_refused, .inl (cI, 3, .inl a0_refused))] H → va_D A [(q_a0, .inr (8, [.ref q_a0_told, .ref q_a0_kept, .ref q_a0_isKept, .ref q_a0_refused, .long a0_above, .long a0_below, .ref q_a0_manyBy, .ref q_a0_hers, .ref q_a0_his, .ref q_a0_hand, .ref q_a0_bytes, .int a0_bytesLong, .int a0_tokenAt, .int a0_tokenLong, .int a0_token, .int a0_value, .ref q_a0_anew, .ref q_a0_values])), (q_a0_told, .inl (cI, 163, .inl a0_told)), (q_a0_refused, .inl (cI, 3, .inl a0_refused))] → va_S A s.heap H locs → ∀ ls : Array Slot, lv_has ls 8 [(0, .ref q_a0), (1, .int x1), (2, .int x2), (3, .int v_10), (4, .int v_11), (5, .int v_12), (6, .int v_22)] → W p l e (headSpec wsX9_mend rmX9_mend).room s m ([.ref q_a0, .int x1, .int x2] : List Value).toArray below meth c H locs 0 0 QQ (F0 m 120 ls []) := by
            intro v_22 H locs hf hP hD hS ls hl
            unfold jX9_mend_120 at hf
            refine lv_iconst (v := 1) hx hb dX9_mend_120 (by decide) ?_
            refine lv_goto (tgt := 125) hx hb dX9_mend_121 (by decide) ?_
            exact hj_125 v_22 1 _ _ hf (hP.sub [0, 1, 2] rfl) (hD.sub [0, 1, 2] (by decide) rfl) hS ls (lv_sub hl [0, 1, 2, 3, 4, 5, 6] rfl)
          have hj_94 : ∀ (v_23 : Int32) (H : Heap) (locs : List Loc), jX9_mend_94 a0_told x1 (lq3 (bX9_mend_37 a0_told a0_refused x1 x2 Q) n_37) v_10 v_11 v_12 v_23 → va_P D vwCl [(q_a0, .inr (8, [.ref q_a0_told, .ref q_a0_kept, .ref q_a0_isKept, .ref q_a0_refused, .long a0_above, .long a0_below, .ref q_a0_manyBy, .ref q_a0_hers, .ref q_a0_his, .ref q_a0_hand, .ref q_a0_bytes, .int a0_bytesLong, .int a0_tokenAt, .int a0_tokenLong, .int a0_token, .int a0_value, .ref q_a0_anew, .ref q_a0_values])), (q_a0_told, .inl (cI, 163, .inl a0_told)), (q_a0_refused, .inl (cI, 3, .inl a0_refused))] H → va_D A [(q_a0, .inr (8, [.ref q_a0_told, .ref q_a0_kept, .ref q_a0_isKept, .ref q_a0_refused, .long a0_above, .long a0_below, .ref q_a0_manyBy, .ref q_a0_hers, .ref q_a0_his, .ref q_a0_hand, .ref q_a0_bytes, .int a0_bytesLong, .int a0_tokenAt, .int a0_tokenLong, .int a0_token, .int a0_value, .ref q_a0_anew, .ref q_a0_values])), (q_a0_told, .inl (cI, 163, .inl a0_told)), (q_a0_refused, .inl (cI, 3, .inl a0_refused))] → va_S A s.heap H locs → ∀ ls : Array Slot, lv_has ls 8 [(0, .ref q_a0), (1, .int x1), (2, .int x2), (3, .int v_10), (4, .int v_11), (5, .int v_12), (6, .int v_23)] → W p l e (headSpec wsX9_mend rmX9_mend).room s m ([.ref q_a0, .int x1, .int x2] : List Value).toArray below meth c H locs 0 0 QQ (F0 m 94 ls []) := by
            intro v_23 H locs hf hP hD hS ls hl
            unfold jX9_mend_94 at hf
            refine lv_iload hx hb dX9_mend_94 (lv_at hl 6 rfl) ?_
            refine lv_iload hx hb dX9_mend_96 (lv_at hl 4 rfl) ?_
            refine lv_icmp_gt (tgt := 120) hx hb dX9_mend_98 (by decide) (fun c_24 => ?_) (fun c_24 => ?_)
            · have hf := it_t c_24 hf
              exact hj_120 v_23 _ _ hf (hP.sub [0, 1, 2] rfl) (hD.sub [0, 1, 2] (by decide) rfl) hS ls (lv_sub hl [0, 1, 2, 3, 4, 5, 6] rfl)
            · have hf := it_f c_24 hf
              refine lv_iload hx hb dX9_mend_101 (lv_at hl 6 rfl) ?_
              refine lv_iload hx hb dX9_mend_103 (lv_at hl 4 rfl) ?_
              refine lv_icmp_ne (tgt := 124) hx hb dX9_mend_105 (by decide) (fun c_25 => ?_) (fun c_25 => ?_)
              · have hf := it_f c_25 hf
                exact hj_124 v_23 _ _ hf (hP.sub [0, 1, 2] rfl) (hD.sub [0, 1, 2] (by decide) rfl) hS ls (lv_sub hl [0, 1, 2, 3, 4, 5, 6] rfl)
              · have hf := it_t c_25 hf
                refine lv_iload hx hb dX9_mend_108 (lv_at hl 5 rfl) ?_
                refine ya_csi (va_runS (As := [.int v_12]) (rest := []) ⟨hx, hb, hml, hown, hts⟩ (c_X9_bits l D cI cZ cO  v_12 _ hf) (va_cwS 1 hts gX9_mend_X9_bits rfl rfl rfl (by decide +kernel) ⟨Nat.le_of_ble_eq_true rfl, Nat.le_of_ble_eq_true rfl⟩) (ps_ro va_P0 hX) rfl rfl hl.1 rfl (lv_room (Nat.le_of_ble_eq_true rfl)) dX9_mend_110 ⟨Nat.zero_le _, Nat.zero_le _⟩) (fun r_26 hf => ?_)
                refine lv_iload_n hx hb dX9_mend_113 rfl (lv_at hl 3 rfl) ?_
                refine ya_csi (va_runS (As := [.int v_10]) (rest := [.int r_26]) ⟨hx, hb, hml, hown, hts⟩ (c_X9_bits l D cI cZ cO  v_10 _ hf) (va_cwS 1 hts gX9_mend_X9_bits rfl rfl rfl (by decide +kernel) ⟨Nat.le_of_ble_eq_true rfl, Nat.le_of_ble_eq_true rfl⟩) (ps_ro va_P0 hX) rfl rfl hl.1 rfl (lv_room (Nat.le_of_ble_eq_true rfl)) dX9_mend_114 ⟨Nat.zero_le _, Nat.zero_le _⟩) (fun r_27 hf => ?_)
                refine lv_icmp_ge (tgt := 124) hx hb dX9_mend_117 (by decide) (fun c_28 => ?_) (fun c_28 => ?_)
                · have hf := it_t c_28 hf
                  exact hj_124 v_23 _ _ hf (hP.sub [0, 1, 2] rfl) (hD.sub [0, 1, 2] (by decide) rfl) hS ls (lv_sub hl [0, 1, 2, 3, 4, 5, 6] rfl)
                · have hf := it_f c_28 hf
                  exact hj_120 v_23 _ _ hf (hP.sub [0, 1, 2] rfl) (hD.sub [0, 1, 2] (by decide) rfl) hS ls (lv_sub hl [0, 1, 2, 3, 4, 5, 6] rfl)
          have hf := lq3_s hf
          unfold bX9_mend_37 at hf
          refine lv_iload hx hb dX9_mend_37 (lv_at hl 5 rfl) ?_
          refine lv_iconst (v := 1) hx hb dX9_mend_39 (by decide) ?_
          refine lv_aload_n hx hb dX9_mend_40 rfl (lv_at hl 0 rfl) ?_
          refine ya_csi (va_runV (As := []) (rest := [.int 1, .int v_12]) ⟨hx, hb, hml, hown, hts⟩ (c_X9_many l D cI cZ cO q_a0 q_a0_told q_a0_kept q_a0_isKept q_a0_refused q_a0_manyBy q_a0_hers q_a0_his q_a0_hand q_a0_bytes q_a0_anew q_a0_values a0_above a0_below a0_bytesLong a0_tokenAt a0_tokenLong a0_token a0_value a0_told  _ hf) (cwV 0 hts gX9_mend_X9_many rfl rfl rfl (by decide +kernel) ⟨Nat.le_of_ble_eq_true rfl, Nat.le_of_ble_eq_true rfl⟩) (pv_ro (ci := 8) (q0 := 0) (hP.sub [0, 1] rfl) hX rfl rfl) rfl rfl hl.1 rfl (lv_room (Nat.le_of_ble_eq_true rfl)) dX9_mend_41 ⟨Nat.zero_le _, Nat.zero_le _⟩) (fun r_29 hf => ?_)
          refine lv_ishl hx hb dX9_mend_44 ?_
          refine lv_icmp_ge (tgt := 163) hx hb dX9_mend_45 (by decide) (fun c_30 => ?_) (fun c_30 => ?_)
          · have hf := it_t c_30 hf
            exact hj_163 v_10 v_11 _ _ hf (hP.sub [0, 1, 2] rfl) (hD.sub [0, 1, 2] (by decide) rfl) hS ls (lv_sub hl [2, 3, 4] rfl)
          · have hf := it_f c_30 hf
            refine lv_iconst (v := 0) hx hb dX9_mend_48 (by decide) ?_
            refine lv_istore (lv' := [(6, .int 0), (0, .ref q_a0), (1, .int x1), (2, .int x2), (3, .int v_10), (4, .int v_11), (5, .int v_12)]) hx hb dX9_mend_49 hl (by decide) rfl (fun ls hl => ?_)
            refine lv_iconst (v := 0) hx hb dX9_mend_51 (by decide) ?_
            refine lv_istore (lv' := [(7, .int 0), (6, .int 0), (0, .ref q_a0), (1, .int x1), (2, .int x2), (3, .int v_10), (4, .int v_11), (5, .int v_12)]) hx hb dX9_mend_52 hl (by decide) rfl (fun ls hl => ?_)
            have hlp_54 : ∀ (n_54 : Nat) (v_31 : Int32) (v_32 : Int32) (H : Heap) (locs : List Loc) (ls : Array Slot), lq2 (bX9_mend_54 a0_told x1 (lq3 (bX9_mend_37 a0_told a0_refused x1 x2 Q) n_37) v_10 v_11 v_12) n_54 v_31 v_32 → va_P D vwCl [(q_a0, .inr (8, [.ref q_a0_told, .ref q_a0_kept, .ref q_a0_isKept, .ref q_a0_refused, .long a0_above, .long a0_below, .ref q_a0_manyBy, .ref q_a0_hers, .ref q_a0_his, .ref q_a0_hand, .ref q_a0_bytes, .int a0_bytesLong, .int a0_tokenAt, .int a0_tokenLong, .int a0_token, .int a0_value, .ref q_a0_anew, .ref q_a0_values])), (q_a0_told, .inl (cI, 163, .inl a0_told)), (q_a0_refused, .inl (cI, 3, .inl a0_refused))] H → va_D A [(q_a0, .inr (8, [.ref q_a0_told, .ref q_a0_kept, .ref q_a0_isKept, .ref q_a0_refused, .long a0_above, .long a0_below, .ref q_a0_manyBy, .ref q_a0_hers, .ref q_a0_his, .ref q_a0_hand, .ref q_a0_bytes, .int a0_bytesLong, .int a0_tokenAt, .int a0_tokenLong, .int a0_token, .int a0_value, .ref q_a0_anew, .ref q_a0_values])), (q_a0_told, .inl (cI, 163, .inl a0_told)), (q_a0_refused, .inl (cI, 3, .inl a0_refused))] → va_S A s.heap H locs → lv_has ls 8 [(0, .ref q_a0), (1, .int x1), (2, .int x2), (3, .int v_10), (4, .int v_11), (5, .int v_12), (6, .int v_31), (7, .int v_32)] → W p l e (headSpec wsX9_mend rmX9_mend).room s m ([.ref q_a0, .int x1, .int x2] : List Value).toArray below meth c H locs 0 0 QQ (F0 m 54 ls []) := by
              intro n_54
              induction n_54 with
              | zero => intro v_31 v_32 H locs ls hf; exact (lq2_0 hf).elim
              | succ n_54 ih =>
                have ih_54 := ih
                intro v_31 v_32 H locs ls hf hP hD hS hl
                have hf := lq2_s hf
                unfold bX9_mend_54 at hf
                refine lv_iload hx hb dX9_mend_54 (lv_at hl 7 rfl) ?_
                refine lv_aload_n hx hb dX9_mend_56 rfl (lv_at hl 0 rfl) ?_
                refine ya_csi (va_runV (As := []) (rest := [.int v_32]) ⟨hx, hb, hml, hown, hts⟩ (c_X9_many l D cI cZ cO q_a0 q_a0_told q_a0_kept q_a0_isKept q_a0_refused q_a0_manyBy q_a0_hers q_a0_his q_a0_hand q_a0_bytes q_a0_anew q_a0_values a0_above a0_below a0_bytesLong a0_tokenAt a0_tokenLong a0_token a0_value a0_told  _ hf) (cwV 0 hts gX9_mend_X9_many rfl rfl rfl (by decide +kernel) ⟨Nat.le_of_ble_eq_true rfl, Nat.le_of_ble_eq_true rfl⟩) (pv_ro (ci := 8) (q0 := 0) (hP.sub [0, 1] rfl) hX rfl rfl) rfl rfl hl.1 rfl (lv_room (Nat.le_of_ble_eq_true rfl)) dX9_mend_57 ⟨Nat.zero_le _, Nat.zero_le _⟩) (fun r_34 hf => ?_)
                refine lv_icmp_ge (tgt := 94) hx hb dX9_mend_60 (by decide) (fun c_35 => ?_) (fun c_35 => ?_)
                · have hf := it_t c_35 hf
                  exact hj_94 v_31 _ _ hf (hP.sub [0, 1, 2] rfl) (hD.sub [0, 1, 2] (by decide) rfl) hS ls (lv_sub hl [0, 1, 2, 3, 4, 5, 6] rfl)
                · have hf := it_f c_35 hf
                  refine lv_iload hx hb dX9_mend_63 (lv_at hl 6 rfl) ?_
                  refine lv_iload hx hb dX9_mend_65 (lv_at hl 5 rfl) ?_
                  refine lv_iload hx hb dX9_mend_67 (lv_at hl 7 rfl) ?_
                  refine ya_csi (va_runS (As := [.int v_12, .int v_32]) (rest := [.int v_31]) ⟨hx, hb, hml, hown, hts⟩ (c_X9_has l D cI cZ cO  v_12 v_32 _ hf) (va_cwS 2 hts gX9_mend_X9_has rfl rfl rfl (by decide +kernel) ⟨Nat.le_of_ble_eq_true rfl, Nat.le_of_ble_eq_true rfl⟩) (ps_ro va_P0 hX) rfl rfl hl.1 rfl (lv_room (Nat.le_of_ble_eq_true rfl)) dX9_mend_69 ⟨Nat.zero_le _, Nat.zero_le _⟩) (fun r_36 hf => ?_)
                  refine lv_if_eq (tgt := 84) hx hb dX9_mend_72 (by decide) (fun c_37 => ?_) (fun c_37 => ?_)
                  · have hf := it_t c_37 hf
                    refine lv_iconst (v := 0) hx hb dX9_mend_84 (by decide) ?_
                    refine lv_iadd hx hb dX9_mend_85 ?_
                    refine lv_istore (lv' := [(6, .int (v_31 + 0)), (0, .ref q_a0), (1, .int x1), (2, .int x2), (3, .int v_10), (4, .int v_11), (5, .int v_12), (7, .int v_32)]) hx hb dX9_mend_86 hl (by decide) rfl (fun ls hl => ?_)
                    refine lv_iinc (v := v_32 + 1) (lv' := [(7, .int (v_32 + 1)), (6, .int (v_31 + 0)), (0, .ref q_a0), (1, .int x1), (2, .int x2), (3, .int v_10), (4, .int v_11), (5, .int v_12)]) hx hb dX9_mend_88 hl (k := 7) rfl rfl (by decide) rfl (fun ls hl => ?_)
                    refine lv_goto (tgt := 54) hx hb dX9_mend_91 (by decide) ?_
                    exact ih (v_31 + 0) (v_32 + 1) _ _ ls hf (hP.sub [0, 1, 2] rfl) (hD.sub [0, 1, 2] (by decide) rfl) hS (lv_sub hl [2, 3, 4, 5, 6, 7, 1, 0] rfl)
                  · have hf := it_f c_37 hf
                    refine lv_aload_n hx hb dX9_mend_75 rfl (lv_at hl 0 rfl) ?_
                    refine lv_iload hx hb dX9_mend_76 (lv_at hl 7 rfl) ?_
                    refine ya_csi (va_runV (As := [.int v_32]) (rest := [.int v_31]) ⟨hx, hb, hml, hown, hts⟩ (c_X9_savedAt l D cI cZ cO q_a0 q_a0_told q_a0_kept q_a0_isKept q_a0_refused q_a0_manyBy q_a0_hers q_a0_his q_a0_hand q_a0_bytes q_a0_anew q_a0_values a0_above a0_below a0_bytesLong a0_tokenAt a0_tokenLong a0_token a0_value a0_told v_32 _ hf) (cwV 1 hts gX9_mend_X9_savedAt rfl rfl rfl (by decide +kernel) ⟨Nat.le_of_ble_eq_true rfl, Nat.le_of_ble_eq_true rfl⟩) (pv_ro (ci := 8) (q0 := 0) (hP.sub [0, 1] rfl) hX rfl rfl) rfl rfl hl.1 rfl (lv_room (Nat.le_of_ble_eq_true rfl)) dX9_mend_78 ⟨Nat.zero_le _, Nat.zero_le _⟩) (fun r_38 hf => ?_)
                    refine lv_goto (tgt := 85) hx hb dX9_mend_81 (by decide) ?_
                    refine lv_iadd hx hb dX9_mend_85 ?_
                    refine lv_istore (lv' := [(6, .int (v_31 + r_38)), (0, .ref q_a0), (1, .int x1), (2, .int x2), (3, .int v_10), (4, .int v_11), (5, .int v_12), (7, .int v_32)]) hx hb dX9_mend_86 hl (by decide) rfl (fun ls hl => ?_)
                    refine lv_iinc (v := v_32 + 1) (lv' := [(7, .int (v_32 + 1)), (6, .int (v_31 + r_38)), (0, .ref q_a0), (1, .int x1), (2, .int x2), (3, .int v_10), (4, .int v_11), (5, .int v_12)]) hx hb dX9_mend_88 hl (k := 7) rfl rfl (by decide) rfl (fun ls hl => ?_)
                    refine lv_goto (tgt := 54) hx hb dX9_mend_91 (by decide) ?_
                    exact ih (v_31 + r_38) (v_32 + 1) _ _ ls hf (hP.sub [0, 1, 2] rfl) (hD.sub [0, 1, 2] (by decide) rfl) hS (lv_sub hl [2, 3, 4, 5, 6, 7, 1, 0] rfl)
            exact hlp_54 1000 0 0 _ _ ls hf (hP.sub [0, 1, 2] rfl) (hD.sub [0, 1, 2] (by decide) rfl) hS (lv_sub hl [2, 3, 4, 5, 6, 7, 1, 0] rfl)
      exact hlp_37 1000 0 0 1 _ _ ls hf (hP.sub [0, 1, 2] rfl) (hD.sub [0, 1, 2] (by decide) rfl) hS (lv_sub hl [3, 4, 5, 2, 1, 0] rfl)
    · have hf := it_t c_9 hf
      refine lv_aload_n hx hb dX9_mend_22 rfl (lv_at hl 0 rfl) ?_
      refine lv_bipush (v := (-2)) hx hb dX9_mend_23 (by decide) ?_
      have hPc := hP.sub (ws' := [(q_a0, .inr (8, [.ref q_a0_told, .ref q_a0_kept, .ref q_a0_isKept, .ref q_a0_refused, .long a0_above, .long a0_below, .ref q_a0_manyBy, .ref q_a0_hers, .ref q_a0_his, .ref q_a0_hand, .ref q_a0_bytes, .int a0_bytesLong, .int a0_tokenAt, .int a0_tokenLong, .int a0_token, .int a0_value, .ref q_a0_anew, .ref q_a0_values])), (q_a0_refused, .inl (cI, 3, .inl a0_refused))]) [0, 2] rfl
      have hDc := hD.sub (ws' := [(q_a0, .inr (8, [.ref q_a0_told, .ref q_a0_kept, .ref q_a0_isKept, .ref q_a0_refused, .long a0_above, .long a0_below, .ref q_a0_manyBy, .ref q_a0_hers, .ref q_a0_his, .ref q_a0_hand, .ref q_a0_bytes, .int a0_bytesLong, .int a0_tokenAt, .int a0_tokenLong, .int a0_token, .int a0_value, .ref q_a0_anew, .ref q_a0_values])), (q_a0_refused, .inl (cI, 3, .inl a0_refused))]) [0, 2] (by decide) rfl
      have hFc := va_free (wc := [(q_a0, .inr (8, [.ref q_a0_told, .ref q_a0_kept, .ref q_a0_isKept, .ref q_a0_refused, .long a0_above, .long a0_below, .ref q_a0_manyBy, .ref q_a0_hers, .ref q_a0_his, .ref q_a0_hand, .ref q_a0_bytes, .int a0_bytesLong, .int a0_tokenAt, .int a0_tokenLong, .int a0_token, .int a0_value, .ref q_a0_anew, .ref q_a0_values])), (q_a0_refused, .inl (cI, 3, .inl a0_refused))]) hD hS hA [0, 2] rfl
      refine va_calli (va_runV (As := [.int (-2)]) (rest := []) ⟨hx, hb, hml, hown, hts⟩ (c_X9_bad l D cI cZ cO q_a0 q_a0_told q_a0_kept q_a0_isKept q_a0_refused q_a0_manyBy q_a0_hers q_a0_his q_a0_hand q_a0_bytes q_a0_anew q_a0_values a0_above a0_below a0_bytesLong a0_tokenAt a0_tokenLong a0_token a0_value a0_refused s.heap.size (-2) _ hf) (cwV 1 hts gX9_mend_X9_bad rfl rfl rfl (by decide +kernel) ⟨Nat.le_of_ble_eq_true rfl, Nat.le_of_ble_eq_true rfl⟩) (pv_rw (ci := 8) (q0 := 0) hPc hDc hX rfl rfl) rfl rfl hl.1 rfl (lv_room (Nat.le_of_ble_eq_true rfl)) dX9_mend_25 ⟨Nat.zero_le _, Nat.zero_le _⟩) hS (fun q _ h => hFc q h) hFc (fun r_39 u t H1 locs ht hvm hf hB hz1 hk1 hS => ?_)
      obtain ⟨u_40, rfl⟩ : ∃ z, z = u := ⟨_, rfl⟩
      obtain ⟨hP1, hD1⟩ := hB
      rw [ht] at hP1
      clear hvm
      obtain ⟨hP, hD⟩ := va_join (wr := [(q_a0_told, .inl (cI, 163, .inl a0_told))]) (w1 := [(q_a0, .inr (8, [.ref q_a0_told, .ref q_a0_kept, .ref q_a0_isKept, .ref q_a0_refused, .long a0_above, .long a0_below, .ref q_a0_manyBy, .ref q_a0_hers, .ref q_a0_his, .ref q_a0_hand, .ref q_a0_bytes, .int a0_bytesLong, .int a0_tokenAt, .int a0_tokenLong, .int a0_token, .int a0_value, .ref q_a0_anew, .ref q_a0_values])), (q_a0_refused, .inl (cI, 3, .inl u_40))]) hP hD [0, 2] [1] rfl rfl (by decide) (by decide) hk1 hFc hP1 hD1
      clear hz1 hk1 hPc hDc hFc hP1 hD1
      generalize H1 = H at hP hS ⊢
      have hP : va_P D vwCl [(q_a0_told, .inl (cI, 163, .inl a0_told)), (q_a0, .inr (8, [.ref q_a0_told, .ref q_a0_kept, .ref q_a0_isKept, .ref q_a0_refused, .long a0_above, .long a0_below, .ref q_a0_manyBy, .ref q_a0_hers, .ref q_a0_his, .ref q_a0_hand, .ref q_a0_bytes, .int a0_bytesLong, .int a0_tokenAt, .int a0_tokenLong, .int a0_token, .int a0_value, .ref q_a0_anew, .ref q_a0_values])), (q_a0_refused, .inl (cI, 3, .inl u_40))] H := hP
      have hD : va_D A [(q_a0_told, .inl (cI, 163, .inl a0_told)), (q_a0, .inr (8, [.ref q_a0_told, .ref q_a0_kept, .ref q_a0_isKept, .ref q_a0_refused, .long a0_above, .long a0_below, .ref q_a0_manyBy, .ref q_a0_hers, .ref q_a0_his, .ref q_a0_hand, .ref q_a0_bytes, .int a0_bytesLong, .int a0_tokenAt, .int a0_tokenLong, .int a0_token, .int a0_value, .ref q_a0_anew, .ref q_a0_values])), (q_a0_refused, .inl (cI, 3, .inl u_40))] := hD
      subst hQQ
      have hP9 := hP.sub (ws' := [(q_a0, .inr (8, [.ref q_a0_told, .ref q_a0_kept, .ref q_a0_isKept, .ref q_a0_refused, .long a0_above, .long a0_below, .ref q_a0_manyBy, .ref q_a0_hers, .ref q_a0_his, .ref q_a0_hand, .ref q_a0_bytes, .int a0_bytesLong, .int a0_tokenAt, .int a0_tokenLong, .int a0_token, .int a0_value, .ref q_a0_anew, .ref q_a0_values])), (q_a0_told, .inl (cI, 163, .inl a0_told)), (q_a0_refused, .inl (cI, 3, .inl u_40))]) [1, 0, 2] rfl
      have hD9 := hD.sub (ws' := [(q_a0, .inr (8, [.ref q_a0_told, .ref q_a0_kept, .ref q_a0_isKept, .ref q_a0_refused, .long a0_above, .long a0_below, .ref q_a0_manyBy, .ref q_a0_hers, .ref q_a0_his, .ref q_a0_hand, .ref q_a0_bytes, .int a0_bytesLong, .int a0_tokenAt, .int a0_tokenLong, .int a0_token, .int a0_value, .ref q_a0_anew, .ref q_a0_values])), (q_a0_told, .inl (cI, 163, .inl a0_told)), (q_a0_refused, .inl (cI, 3, .inl u_40))]) [1, 0, 2] (by decide) rfl
      exact W.iret hx hb hr (fun t ht hW => ⟨⟨r_39, u_40, rfl, hf, by rw [ht]; exact hP9, hD9⟩, hS.F ht⟩) hS.2.2 dX9_mend_28
def jX9_canRead_69 (a0_told : Nat → Int32) (x1 : Int32) (x2 : Int32) (k_6 : Int32 → Int32 → Int32 → Int32 → Prop) (v_2 : Int32) (v_5 : Int32) (v_7 : Int32) (t_8 : Int32) (t_9 : Int32) : Prop :=
  if v_2 = 0 then (k_6 0 (t_8 + t_9) v_7 (v_5 + 1)) else (p_X9_has x1 v_5 (fun r_11 => if r_11 = 0 then (k_6 1 (t_8 + t_9) v_7 (v_5 + 1)) else (p_X9_noteOf a0_told v_5 (fun r_13 => if r_13 ≤ 0 then (k_6 0 (t_8 + t_9) v_7 (v_5 + 1)) else (if (x2 * v_7) < (t_8 + t_9) then (k_6 0 (t_8 + t_9) v_7 (v_5 + 1)) else (k_6 1 (t_8 + t_9) v_7 (v_5 + 1)))))))
def bX9_canRead_20 (a0_told : Nat → Int32) (x1 : Int32) (x2 : Int32) (Q : Int32 → Prop) (k_6 : Int32 → Int32 → Int32 → Int32 → Prop) (v_2 : Int32) (v_3 : Int32) (v_4 : Int32) (v_5 : Int32) : Prop :=
  p_X9_many a0_told (fun r_16 => if r_16 ≤ v_5 then (zb v_2 ∧ Q v_2) else (vp_in (18 + v_5) 163 ∧ (p_X9_has x1 v_5 (fun r_18 => if r_18 = 0 then (jX9_canRead_69 a0_told x1 x2 k_6 v_2 v_5 (v_4 + (a0_told (18 + v_5).toNatClampNeg)) v_3 0) else (vp_in (34 + v_5) 163 ∧ (jX9_canRead_69 a0_told x1 x2 k_6 v_2 v_5 (v_4 + (a0_told (18 + v_5).toNatClampNeg)) v_3 (a0_told (34 + v_5).toNatClampNeg)))))))
def p_X9_canRead (a0_told : Nat → Int32) (x1 : Int32) (x2 : Int32) (Q : Int32 → Prop) : Prop :=
  p_X9_isAhead a0_told x1 (fun r_1 => lq4 (bX9_canRead_20 a0_told x1 x2 Q) 1000 r_1 0 0 (a0_told (4 : Int32).toNatClampNeg))
def rmX9_canRead : Room := { frames := 1, cells := 0, slots := 0, locals := 21 }
set_option maxHeartbeats 4000000 in
set_option maxRecDepth 100000 in
theorem c_X9_canRead (l : Launch) (D : va_G) (cI cZ cO : ClassId) (q_a0 q_a0_told q_a0_kept q_a0_isKept q_a0_refused q_a0_manyBy q_a0_hers q_a0_his q_a0_hand q_a0_bytes q_a0_anew q_a0_values : Nat) (a0_above : Int64) (a0_below : Int64) (a0_bytesLong : Int32) (a0_tokenAt : Int32) (a0_tokenLong : Int32) (a0_token : Int32) (a0_value : Int32) (a0_told : Nat → Int32) (x1 : Int32) (x2 : Int32) (Q : Int32 → Prop) (hf : p_X9_canRead a0_told x1 x2 Q) : Met l yX9_canRead wsX9_canRead rmX9_canRead (va_Pc [.ref q_a0, .int x1, .int x2] (fun U => va_P D vwCl [(q_a0, .inr (8, [.ref q_a0_told, .ref q_a0_kept, .ref q_a0_isKept, .ref q_a0_refused, .long a0_above, .long a0_below, .ref q_a0_manyBy, .ref q_a0_hers, .ref q_a0_his, .ref q_a0_hand, .ref q_a0_bytes, .int a0_bytesLong, .int a0_tokenAt, .int a0_tokenLong, .int a0_token, .int a0_value, .ref q_a0_anew, .ref q_a0_values])), (q_a0_told, .inl (cI, 163, .inl a0_told))] U.heap ∧ XK D cI cZ cO U)) (vp_Si Q) 0 0 (fun _ => False) := by
  refine Met.ofW (cc := cX9_canRead) (maxL := 7) (ret := (some .boolean)) (by decide) rfl ?_
  intro p e s m args below meth c s₁ B hml hv
  obtain ⟨rfl, hP, hX⟩ := hv
  have hK := hX.1
  have hx := B.exec
  have hb := B.bytes
  have hr := B.returns
  have hts := atoms_spec (ws := wsX9_canRead) B.pre
  have hown : s.vm.findClass RX9 = some m.cls := findClass_of_methodNamed B.named
  have hlocks := B.notSynchronized
  have in_X9 : ∀ w ∈ wsX90, w ∈ wsX9_canRead := fun _ h => List.mem_cons_of_mem _ (List.mem_append_right _ h)
  have kf_7 := hts (.fieldLink RX9 7 "LeftCrestModel" "told" "[I") (by decide +kernel)
  generalize hQQ : MQ below _ _ s _ _ _ = QQ
  have hl := lv_entry ([.ref q_a0, .int x1, .int x2]) (n := 7) (Nat.le_of_ble_eq_true rfl)
  rw [lg_entry_eq]
  generalize (lg_sl ([.ref q_a0, .int x1, .int x2]) ++ List.replicate (7 - (lg_sl ([.ref q_a0, .int x1, .int x2])).length) Slot.unset).toArray = ls at hl ⊢
  have hl : lv_has ls 7 [(0, .ref q_a0), (1, .int x1), (2, .int x2)] := hl
  unfold p_X9_canRead at hf
  refine lv_aload_n hx hb dX9_canRead_0 rfl (lv_at hl 0 rfl) ?_
  refine lv_iload_n hx hb dX9_canRead_1 rfl (lv_at hl 1 rfl) ?_
  refine ya_csi (va_runV (As := [.int x1]) (rest := []) ⟨hx, hb, hml, hown, hts⟩ (c_X9_isAhead l D cI cZ cO q_a0 q_a0_told q_a0_kept q_a0_isKept q_a0_refused q_a0_manyBy q_a0_hers q_a0_his q_a0_hand q_a0_bytes q_a0_anew q_a0_values a0_above a0_below a0_bytesLong a0_tokenAt a0_tokenLong a0_token a0_value a0_told x1 _ hf) (cwV 1 hts gX9_canRead_X9_isAhead rfl rfl rfl (by decide +kernel) ⟨Nat.le_of_ble_eq_true rfl, Nat.le_of_ble_eq_true rfl⟩) (pv_ro (ci := 8) (q0 := 0) (hP.sub [0, 1] rfl) hX rfl rfl) rfl rfl hl.1 rfl (lv_room (Nat.le_of_ble_eq_true rfl)) dX9_canRead_2 ⟨Nat.zero_le _, Nat.zero_le _⟩) (fun r_1 hf => ?_)
  refine lv_istore_n (lv' := [(3, .int r_1), (0, .ref q_a0), (1, .int x1), (2, .int x2)]) hx hb dX9_canRead_5 rfl hl (by decide) rfl (fun ls hl => ?_)
  refine lv_iconst (v := 0) hx hb dX9_canRead_6 (by decide) ?_
  refine lv_istore (lv' := [(4, .int 0), (3, .int r_1), (0, .ref q_a0), (1, .int x1), (2, .int x2)]) hx hb dX9_canRead_7 hl (by decide) rfl (fun ls hl => ?_)
  refine lv_iconst (v := 0) hx hb dX9_canRead_9 (by decide) ?_
  refine lv_istore (lv' := [(5, .int 0), (4, .int 0), (3, .int r_1), (0, .ref q_a0), (1, .int x1), (2, .int x2)]) hx hb dX9_canRead_10 hl (by decide) rfl (fun ls hl => ?_)
  refine lv_aload_n hx hb dX9_canRead_12 rfl (lv_at hl 3 rfl) ?_
  refine va_get (D := D) (ci := 8) (v := .ref q_a0_told) (C := RX9) (T := TX9) (N := 18) hx hb hts in_X9 hown hK hP 0 rfl rfl 0 (by decide) kf_7 (fun _ h9 => h9) rfl dX9_canRead_13 ?_
  refine lv_iconst (v := 4) hx hb dX9_canRead_16 (by decide) ?_
  refine va_iald hx hb hK hP 1 0 rfl rfl (by unfold vp_in; decide) dX9_canRead_17 ?_
  refine lv_istore (lv' := [(6, .int (a0_told (4 : Int32).toNatClampNeg)), (5, .int 0), (4, .int 0), (3, .int r_1), (0, .ref q_a0), (1, .int x1), (2, .int x2)]) hx hb dX9_canRead_18 hl (by decide) rfl (fun ls hl => ?_)
  have hlp_20 : ∀ (n_20 : Nat) (v_2 : Int32) (v_3 : Int32) (v_4 : Int32) (v_5 : Int32) (ls : Array Slot), lq4 (bX9_canRead_20 a0_told x1 x2 Q) n_20 v_2 v_3 v_4 v_5 → lv_has ls 7 [(0, .ref q_a0), (1, .int x1), (2, .int x2), (3, .int v_2), (4, .int v_3), (5, .int v_4), (6, .int v_5)] → W p l e (headSpec wsX9_canRead rmX9_canRead).room s m ([.ref q_a0, .int x1, .int x2] : List Value).toArray below meth c s.heap [] 0 0 QQ (F0 m 20 ls []) := by
    intro n_20
    induction n_20 with
    | zero => intro v_2 v_3 v_4 v_5 ls hf; exact (lq4_0 hf).elim
    | succ n_20 ih =>
      have ih_20 := ih
      intro v_2 v_3 v_4 v_5 ls hf hl
      have hj_69 : ∀ (v_7 : Int32) (t_8 : Int32) (t_9 : Int32), jX9_canRead_69 a0_told x1 x2 (lq4 (bX9_canRead_20 a0_told x1 x2 Q) n_20) v_2 v_5 v_7 t_8 t_9 → ∀ ls : Array Slot, lv_has ls 7 [(0, .ref q_a0), (1, .int x1), (2, .int x2), (3, .int v_2), (5, .int v_7), (6, .int v_5)] → W p l e (headSpec wsX9_canRead rmX9_canRead).room s m ([.ref q_a0, .int x1, .int x2] : List Value).toArray below meth c s.heap [] 0 0 QQ (F0 m 69 ls [.int t_9, .int t_8]) := by
        intro v_7 t_8 t_9 hf ls hl
        unfold jX9_canRead_69 at hf
        refine lv_iadd hx hb dX9_canRead_69 ?_
        refine lv_istore (lv' := [(4, .int (t_8 + t_9)), (0, .ref q_a0), (1, .int x1), (2, .int x2), (3, .int v_2), (5, .int v_7), (6, .int v_5)]) hx hb dX9_canRead_70 hl (by decide) rfl (fun ls hl => ?_)
        refine lv_iload_n hx hb dX9_canRead_72 rfl (lv_at hl 4 rfl) ?_
        refine lv_if_eq (tgt := 107) hx hb dX9_canRead_73 (by decide) (fun c_10 => ?_) (fun c_10 => ?_)
        · have hf := it_t c_10 hf
          refine lv_iconst (v := 0) hx hb dX9_canRead_107 (by decide) ?_
          refine lv_istore_n (lv' := [(3, .int 0), (4, .int (t_8 + t_9)), (0, .ref q_a0), (1, .int x1), (2, .int x2), (5, .int v_7), (6, .int v_5)]) hx hb dX9_canRead_108 rfl hl (by decide) rfl (fun ls hl => ?_)
          refine lv_iinc (v := v_5 + 1) (lv' := [(6, .int (v_5 + 1)), (3, .int 0), (4, .int (t_8 + t_9)), (0, .ref q_a0), (1, .int x1), (2, .int x2), (5, .int v_7)]) hx hb dX9_canRead_109 hl (k := 6) rfl rfl (by decide) rfl (fun ls hl => ?_)
          refine lv_goto (tgt := 20) hx hb dX9_canRead_112 (by decide) ?_
          exact ih 0 (t_8 + t_9) v_7 (v_5 + 1) ls hf (lv_sub hl [3, 4, 5, 1, 2, 6, 0] rfl)
        · have hf := it_f c_10 hf
          refine lv_iload_n hx hb dX9_canRead_76 rfl (lv_at hl 2 rfl) ?_
          refine lv_iload hx hb dX9_canRead_77 (lv_at hl 6 rfl) ?_
          refine ya_csi (va_runS (As := [.int x1, .int v_5]) (rest := []) ⟨hx, hb, hml, hown, hts⟩ (c_X9_has l D cI cZ cO  x1 v_5 _ hf) (va_cwS 2 hts gX9_canRead_X9_has rfl rfl rfl (by decide +kernel) ⟨Nat.le_of_ble_eq_true rfl, Nat.le_of_ble_eq_true rfl⟩) (ps_ro va_P0 hX) rfl rfl hl.1 rfl (lv_room (Nat.le_of_ble_eq_true rfl)) dX9_canRead_79 ⟨Nat.zero_le _, Nat.zero_le _⟩) (fun r_11 hf => ?_)
          refine lv_if_eq (tgt := 103) hx hb dX9_canRead_82 (by decide) (fun c_12 => ?_) (fun c_12 => ?_)
          · have hf := it_t c_12 hf
            refine lv_iconst (v := 1) hx hb dX9_canRead_103 (by decide) ?_
            refine lv_goto (tgt := 108) hx hb dX9_canRead_104 (by decide) ?_
            refine lv_istore_n (lv' := [(3, .int 1), (4, .int (t_8 + t_9)), (0, .ref q_a0), (1, .int x1), (2, .int x2), (5, .int v_7), (6, .int v_5)]) hx hb dX9_canRead_108 rfl hl (by decide) rfl (fun ls hl => ?_)
            refine lv_iinc (v := v_5 + 1) (lv' := [(6, .int (v_5 + 1)), (3, .int 1), (4, .int (t_8 + t_9)), (0, .ref q_a0), (1, .int x1), (2, .int x2), (5, .int v_7)]) hx hb dX9_canRead_109 hl (k := 6) rfl rfl (by decide) rfl (fun ls hl => ?_)
            refine lv_goto (tgt := 20) hx hb dX9_canRead_112 (by decide) ?_
            exact ih 1 (t_8 + t_9) v_7 (v_5 + 1) ls hf (lv_sub hl [3, 4, 5, 1, 2, 6, 0] rfl)
          · have hf := it_f c_12 hf
            refine lv_aload_n hx hb dX9_canRead_85 rfl (lv_at hl 1 rfl) ?_
            refine lv_iload hx hb dX9_canRead_86 (lv_at hl 6 rfl) ?_
            refine ya_csi (va_runV (As := [.int v_5]) (rest := []) ⟨hx, hb, hml, hown, hts⟩ (c_X9_noteOf l D cI cZ cO q_a0 q_a0_told q_a0_kept q_a0_isKept q_a0_refused q_a0_manyBy q_a0_hers q_a0_his q_a0_hand q_a0_bytes q_a0_anew q_a0_values a0_above a0_below a0_bytesLong a0_tokenAt a0_tokenLong a0_token a0_value a0_told v_5 _ hf) (cwV 1 hts gX9_canRead_X9_noteOf rfl rfl rfl (by decide +kernel) ⟨Nat.le_of_ble_eq_true rfl, Nat.le_of_ble_eq_true rfl⟩) (pv_ro (ci := 8) (q0 := 0) (hP.sub [0, 1] rfl) hX rfl rfl) rfl rfl hl.1 rfl (lv_room (Nat.le_of_ble_eq_true rfl)) dX9_canRead_88 ⟨Nat.zero_le _, Nat.zero_le _⟩) (fun r_13 hf => ?_)
            refine lv_if_le (tgt := 107) hx hb dX9_canRead_91 (by decide) (fun c_14 => ?_) (fun c_14 => ?_)
            · have hf := it_t c_14 hf
              refine lv_iconst (v := 0) hx hb dX9_canRead_107 (by decide) ?_
              refine lv_istore_n (lv' := [(3, .int 0), (4, .int (t_8 + t_9)), (0, .ref q_a0), (1, .int x1), (2, .int x2), (5, .int v_7), (6, .int v_5)]) hx hb dX9_canRead_108 rfl hl (by decide) rfl (fun ls hl => ?_)
              refine lv_iinc (v := v_5 + 1) (lv' := [(6, .int (v_5 + 1)), (3, .int 0), (4, .int (t_8 + t_9)), (0, .ref q_a0), (1, .int x1), (2, .int x2), (5, .int v_7)]) hx hb dX9_canRead_109 hl (k := 6) rfl rfl (by decide) rfl (fun ls hl => ?_)
              refine lv_goto (tgt := 20) hx hb dX9_canRead_112 (by decide) ?_
              exact ih 0 (t_8 + t_9) v_7 (v_5 + 1) ls hf (lv_sub hl [3, 4, 5, 1, 2, 6, 0] rfl)
            · have hf := it_f c_14 hf
              refine lv_iload hx hb dX9_canRead_94 (lv_at hl 0 rfl) ?_
              refine lv_iload_n hx hb dX9_canRead_96 rfl (lv_at hl 3 rfl) ?_
              refine lv_iload hx hb dX9_canRead_97 (lv_at hl 5 rfl) ?_
              refine lv_imul hx hb dX9_canRead_99 ?_
              refine lv_icmp_gt (tgt := 107) hx hb dX9_canRead_100 (by decide) (fun c_15 => ?_) (fun c_15 => ?_)
              · have hf := it_t c_15 hf
                refine lv_iconst (v := 0) hx hb dX9_canRead_107 (by decide) ?_
                refine lv_istore_n (lv' := [(3, .int 0), (4, .int (t_8 + t_9)), (0, .ref q_a0), (1, .int x1), (2, .int x2), (5, .int v_7), (6, .int v_5)]) hx hb dX9_canRead_108 rfl hl (by decide) rfl (fun ls hl => ?_)
                refine lv_iinc (v := v_5 + 1) (lv' := [(6, .int (v_5 + 1)), (3, .int 0), (4, .int (t_8 + t_9)), (0, .ref q_a0), (1, .int x1), (2, .int x2), (5, .int v_7)]) hx hb dX9_canRead_109 hl (k := 6) rfl rfl (by decide) rfl (fun ls hl => ?_)
                refine lv_goto (tgt := 20) hx hb dX9_canRead_112 (by decide) ?_
                exact ih 0 (t_8 + t_9) v_7 (v_5 + 1) ls hf (lv_sub hl [3, 4, 5, 1, 2, 6, 0] rfl)
              · have hf := it_f c_15 hf
                refine lv_iconst (v := 1) hx hb dX9_canRead_103 (by decide) ?_
                refine lv_goto (tgt := 108) hx hb dX9_canRead_104 (by decide) ?_
                refine lv_istore_n (lv' := [(3, .int 1), (4, .int (t_8 + t_9)), (0, .ref q_a0), (1, .int x1), (2, .int x2), (5, .int v_7), (6, .int v_5)]) hx hb dX9_canRead_108 rfl hl (by decide) rfl (fun ls hl => ?_)
                refine lv_iinc (v := v_5 + 1) (lv' := [(6, .int (v_5 + 1)), (3, .int 1), (4, .int (t_8 + t_9)), (0, .ref q_a0), (1, .int x1), (2, .int x2), (5, .int v_7)]) hx hb dX9_canRead_109 hl (k := 6) rfl rfl (by decide) rfl (fun ls hl => ?_)
                refine lv_goto (tgt := 20) hx hb dX9_canRead_112 (by decide) ?_
                exact ih 1 (t_8 + t_9) v_7 (v_5 + 1) ls hf (lv_sub hl [3, 4, 5, 1, 2, 6, 0] rfl)
      have hf := lq4_s hf
      unfold bX9_canRead_20 at hf
      refine lv_iload hx hb dX9_canRead_20 (lv_at hl 6 rfl) ?_
      refine lv_aload_n hx hb dX9_canRead_22 rfl (lv_at hl 0 rfl) ?_
      refine ya_csi (va_runV (As := []) (rest := [.int v_5]) ⟨hx, hb, hml, hown, hts⟩ (c_X9_many l D cI cZ cO q_a0 q_a0_told q_a0_kept q_a0_isKept q_a0_refused q_a0_manyBy q_a0_hers q_a0_his q_a0_hand q_a0_bytes q_a0_anew q_a0_values a0_above a0_below a0_bytesLong a0_tokenAt a0_tokenLong a0_token a0_value a0_told  _ hf) (cwV 0 hts gX9_canRead_X9_many rfl rfl rfl (by decide +kernel) ⟨Nat.le_of_ble_eq_true rfl, Nat.le_of_ble_eq_true rfl⟩) (pv_ro (ci := 8) (q0 := 0) (hP.sub [0, 1] rfl) hX rfl rfl) rfl rfl hl.1 rfl (lv_room (Nat.le_of_ble_eq_true rfl)) dX9_canRead_23 ⟨Nat.zero_le _, Nat.zero_le _⟩) (fun r_16 hf => ?_)
      refine lv_icmp_ge (tgt := 115) hx hb dX9_canRead_26 (by decide) (fun c_17 => ?_) (fun c_17 => ?_)
      · have hf := it_t c_17 hf
        refine lv_iload_n hx hb dX9_canRead_115 rfl (lv_at hl 3 rfl) ?_
        subst hQQ
        have hz := hf.1
        have hf := hf.2
        exact W.zret hx hb hr hz (fun t ht hW => ⟨_, rfl, hf, ht⟩) (fun _ h => absurd h List.not_mem_nil) dX9_canRead_116
      · have hf := it_f c_17 hf
        refine lv_iload hx hb dX9_canRead_29 (lv_at hl 5 rfl) ?_
        refine lv_aload_n hx hb dX9_canRead_31 rfl (lv_at hl 0 rfl) ?_
        refine va_get (D := D) (ci := 8) (v := .ref q_a0_told) (C := RX9) (T := TX9) (N := 18) hx hb hts in_X9 hown hK hP 0 rfl rfl 0 (by decide) kf_7 (fun _ h9 => h9) rfl dX9_canRead_32 ?_
        refine lv_bipush (v := 18) hx hb dX9_canRead_35 (by decide) ?_
        refine lv_iload hx hb dX9_canRead_37 (lv_at hl 6 rfl) ?_
        refine lv_iadd hx hb dX9_canRead_39 ?_
        refine va_iald hx hb hK hP 1 0 rfl rfl hf.1 dX9_canRead_40 ?_
        have hf := hf.2
        refine lv_iadd hx hb dX9_canRead_41 ?_
        refine lv_istore (lv' := [(5, .int (v_4 + (a0_told (18 + v_5).toNatClampNeg))), (0, .ref q_a0), (1, .int x1), (2, .int x2), (3, .int v_2), (4, .int v_3), (6, .int v_5)]) hx hb dX9_canRead_42 hl (by decide) rfl (fun ls hl => ?_)
        refine lv_iload hx hb dX9_canRead_44 (lv_at hl 5 rfl) ?_
        refine lv_iload_n hx hb dX9_canRead_46 rfl (lv_at hl 2 rfl) ?_
        refine lv_iload hx hb dX9_canRead_47 (lv_at hl 6 rfl) ?_
        refine ya_csi (va_runS (As := [.int x1, .int v_5]) (rest := [.int v_3]) ⟨hx, hb, hml, hown, hts⟩ (c_X9_has l D cI cZ cO  x1 v_5 _ hf) (va_cwS 2 hts gX9_canRead_X9_has rfl rfl rfl (by decide +kernel) ⟨Nat.le_of_ble_eq_true rfl, Nat.le_of_ble_eq_true rfl⟩) (ps_ro va_P0 hX) rfl rfl hl.1 rfl (lv_room (Nat.le_of_ble_eq_true rfl)) dX9_canRead_49 ⟨Nat.zero_le _, Nat.zero_le _⟩) (fun r_18 hf => ?_)
        refine lv_if_eq (tgt := 68) hx hb dX9_canRead_52 (by decide) (fun c_19 => ?_) (fun c_19 => ?_)
        · have hf := it_t c_19 hf
          refine lv_iconst (v := 0) hx hb dX9_canRead_68 (by decide) ?_
          exact hj_69 (v_4 + (a0_told (18 + v_5).toNatClampNeg)) v_3 0 hf ls (lv_sub hl [1, 2, 3, 4, 0, 6] rfl)
        · have hf := it_f c_19 hf
          refine lv_aload_n hx hb dX9_canRead_55 rfl (lv_at hl 1 rfl) ?_
          refine va_get (D := D) (ci := 8) (v := .ref q_a0_told) (C := RX9) (T := TX9) (N := 18) hx hb hts in_X9 hown hK hP 0 rfl rfl 0 (by decide) kf_7 (fun _ h9 => h9) rfl dX9_canRead_56 ?_
          refine lv_bipush (v := 34) hx hb dX9_canRead_59 (by decide) ?_
          refine lv_iload hx hb dX9_canRead_61 (lv_at hl 6 rfl) ?_
          refine lv_iadd hx hb dX9_canRead_63 ?_
          refine va_iald hx hb hK hP 1 0 rfl rfl hf.1 dX9_canRead_64 ?_
          have hf := hf.2
          refine lv_goto (tgt := 69) hx hb dX9_canRead_65 (by decide) ?_
          exact hj_69 (v_4 + (a0_told (18 + v_5).toNatClampNeg)) v_3 (a0_told (34 + v_5).toNatClampNeg) hf ls (lv_sub hl [1, 2, 3, 4, 0, 6] rfl)
  exact hlp_20 1000 r_1 0 0 (a0_told (4 : Int32).toNatClampNeg) ls hf (lv_sub hl [4, 5, 6, 3, 2, 1, 0] rfl)
