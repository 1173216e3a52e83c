def bX9_bits_4 (Q : Int32 → Prop) (k_3 : Int32 → Int32 → Prop) (v_1 : Int32) (v_2 : Int32) : Prop :=
  if v_2 ≤ 0 then (Q v_1) else (k_3 (v_1 + (v_2 &&& 1)) (v_2 >>> (1 &&& 31)))
def p_X9_bits (x0 : Int32) (Q : Int32 → Prop) : Prop :=
  lq2 (bX9_bits_4 Q) 1000 0 x0
def rmX9_bits : Room := { frames := 0, cells := 0, slots := 0, locals := 0 }
set_option maxHeartbeats 4000000 in
set_option maxRecDepth 100000 in
theorem c_X9_bits (l : Launch) (D : va_G) (cI cZ cO : ClassId) (x0 : Int32) (Q : Int32 → Prop) (hf : p_X9_bits x0 Q) : Met l yX9_bits wsX9_bits rmX9_bits (va_Pc [.int x0] (fun U => va_P D vwCl [] U.heap ∧ XK D cI cZ cO U)) (vp_Si Q) 0 0 (fun _ => False) := by
  refine Met.ofW (cc := cX9_bits) (maxL := 3) (ret := (some .int)) (by decide) rfl ?_
  intro p e s m args below meth c s₁ B hml hv
  obtain ⟨rfl, hP, hX⟩ := hv
  have hK := hX.1
  have hx := B.exec
  have hb := B.bytes
  have hr := B.returns
  have hts := atoms_spec (ws := wsX9_bits) B.pre
  have hown : s.vm.findClass RX9 = some m.cls := findClass_of_methodNamed B.named
  have hlocks := B.notSynchronized
  generalize hQQ : MQ below _ _ s _ _ _ = QQ
  have hl := lv_entry ([.int x0]) (n := 3) (Nat.le_of_ble_eq_true rfl)
  rw [lg_entry_eq]
  generalize (lg_sl ([.int x0]) ++ List.replicate (3 - (lg_sl ([.int x0])).length) Slot.unset).toArray = ls at hl ⊢
  have hl : lv_has ls 3 [(0, .int x0)] := hl
  unfold p_X9_bits at hf
  refine lv_iconst (v := 0) hx hb dX9_bits_0 (by decide) ?_
  refine lv_istore_n (lv' := [(1, .int 0), (0, .int x0)]) hx hb dX9_bits_1 rfl hl (by decide) rfl (fun ls hl => ?_)
  refine lv_iload_n hx hb dX9_bits_2 rfl (lv_at hl 1 rfl) ?_
  refine lv_istore_n (lv' := [(2, .int x0), (1, .int 0), (0, .int x0)]) hx hb dX9_bits_3 rfl hl (by decide) rfl (fun ls hl => ?_)
  have hlp_4 : ∀ (n_4 : Nat) (v_1 : Int32) (v_2 : Int32) (ls : Array Slot), lq2 (bX9_bits_4 Q) n_4 v_1 v_2 → lv_has ls 3 [(1, .int v_1), (2, .int v_2)] → W p l e (headSpec wsX9_bits rmX9_bits).room s m ([.int x0] : List Value).toArray below meth c s.heap [] 0 0 QQ (F0 m 4 ls []) := by
    intro n_4
    induction n_4 with
    | zero => intro v_1 v_2 ls hf; exact (lq2_0 hf).elim
    | succ n_4 ih =>
      have ih_4 := ih
      intro v_1 v_2 ls hf hl
      have hf := lq2_s hf
      unfold bX9_bits_4 at hf
      refine lv_iload_n hx hb dX9_bits_4 rfl (lv_at hl 1 rfl) ?_
      refine lv_if_le (tgt := 21) hx hb dX9_bits_5 (by decide) (fun c_4 => ?_) (fun c_4 => ?_)
      · have hf := it_t c_4 hf
        refine lv_iload_n hx hb dX9_bits_21 rfl (lv_at hl 0 rfl) ?_
        subst hQQ
        exact W.iret hx hb hr (fun t ht hW => ⟨_, rfl, hf, ht⟩) (fun _ h => absurd h List.not_mem_nil) dX9_bits_22
      · have hf := it_f c_4 hf
        refine lv_iload_n hx hb dX9_bits_8 rfl (lv_at hl 0 rfl) ?_
        refine lv_iload_n hx hb dX9_bits_9 rfl (lv_at hl 1 rfl) ?_
        refine lv_iconst (v := 1) hx hb dX9_bits_10 (by decide) ?_
        refine lv_iand hx hb dX9_bits_11 ?_
        refine lv_iadd hx hb dX9_bits_12 ?_
        refine lv_istore_n (lv' := [(1, .int (v_1 + (v_2 &&& 1))), (2, .int v_2)]) hx hb dX9_bits_13 rfl hl (by decide) rfl (fun ls hl => ?_)
        refine lv_iload_n hx hb dX9_bits_14 rfl (lv_at hl 1 rfl) ?_
        refine lv_iconst (v := 1) hx hb dX9_bits_15 (by decide) ?_
        refine lv_ishr hx hb dX9_bits_16 ?_
        refine lv_istore_n (lv' := [(2, .int (v_2 >>> (1 &&& 31))), (1, .int (v_1 + (v_2 &&& 1)))]) hx hb dX9_bits_17 rfl hl (by decide) rfl (fun ls hl => ?_)
        refine lv_goto (tgt := 4) hx hb dX9_bits_18 (by decide) ?_
        exact ih (v_1 + (v_2 &&& 1)) (v_2 >>> (1 &&& 31)) ls hf (lv_sub hl [1, 0] rfl)
  exact hlp_4 1000 0 x0 ls hf (lv_sub hl [1, 0] rfl)
def p_X9_has (x0 : Int32) (x1 : Int32) (Q : Int32 → Prop) : Prop :=
  if ((x0 >>> (x1 &&& 31)) &&& 1) = 1 then (Q 1) else (Q 0)
def rmX9_has : Room := { frames := 0, cells := 0, slots := 0, locals := 0 }
set_option maxHeartbeats 4000000 in
set_option maxRecDepth 100000 in
theorem c_X9_has (l : Launch) (D : va_G) (cI cZ cO : ClassId) (x0 : Int32) (x1 : Int32) (Q : Int32 → Prop) (hf : p_X9_has x0 x1 Q) : Met l yX9_has wsX9_has rmX9_has (va_Pc [.int x0, .int x1] (fun U => va_P D vwCl [] U.heap ∧ XK D cI cZ cO U)) (vp_Si Q) 0 0 (fun _ => False) := by
  refine Met.ofW (cc := cX9_has) (maxL := 2) (ret := (some .boolean)) (by decide) rfl ?_
  intro p e s m args below meth c s₁ B hml hv
  obtain ⟨rfl, hP, hX⟩ := hv
  have hK := hX.1
  have hx := B.exec
  have hb := B.bytes
  have hr := B.returns
  have hts := atoms_spec (ws := wsX9_has) B.pre
  have hown : s.vm.findClass RX9 = some m.cls := findClass_of_methodNamed B.named
  have hlocks := B.notSynchronized
  generalize hQQ : MQ below _ _ s _ _ _ = QQ
  have hl := lv_entry ([.int x0, .int x1]) (n := 2) (Nat.le_of_ble_eq_true rfl)
  rw [lg_entry_eq]
  generalize (lg_sl ([.int x0, .int x1]) ++ List.replicate (2 - (lg_sl ([.int x0, .int x1])).length) Slot.unset).toArray = ls at hl ⊢
  have hl : lv_has ls 2 [(0, .int x0), (1, .int x1)] := hl
  unfold p_X9_has at hf
  refine lv_iload_n hx hb dX9_has_0 rfl (lv_at hl 0 rfl) ?_
  refine lv_iload_n hx hb dX9_has_1 rfl (lv_at hl 1 rfl) ?_
  refine lv_ishr hx hb dX9_has_2 ?_
  refine lv_iconst (v := 1) hx hb dX9_has_3 (by decide) ?_
  refine lv_iand hx hb dX9_has_4 ?_
  refine lv_iconst (v := 1) hx hb dX9_has_5 (by decide) ?_
  refine lv_icmp_ne (tgt := 13) hx hb dX9_has_6 (by decide) (fun c_1 => ?_) (fun c_1 => ?_)
  · have hf := it_f c_1 hf
    refine lv_iconst (v := 0) hx hb dX9_has_13 (by decide) ?_
    subst hQQ
    exact W.zret hx hb hr rfl (fun t ht hW => ⟨_, rfl, hf, ht⟩) (fun _ h => absurd h List.not_mem_nil) dX9_has_14
  · have hf := it_t c_1 hf
    refine lv_iconst (v := 1) hx hb dX9_has_9 (by decide) ?_
    refine lv_goto (tgt := 14) hx hb dX9_has_10 (by decide) ?_
    subst hQQ
    exact W.zret hx hb hr rfl (fun t ht hW => ⟨_, rfl, hf, ht⟩) (fun _ h => absurd h List.not_mem_nil) dX9_has_14
def jX9_begin_18 (n_a0 : Nat) (x1 : Int32) (x2 : Int32) (Q : (Nat → Int32) → Prop) (w_1 : Nat → Int32) : Prop :=
  vp_in 15 n_a0 ∧ (vp_in 16 n_a0 ∧ (Q (upd (upd w_1 ((15 : Int32).toNatClampNeg) x1) ((16 : Int32).toNatClampNeg) x2)))
def bX9_begin_2 (n_a0 : Nat) (x1 : Int32) (x2 : Int32) (Q : (Nat → Int32) → Prop) (k_4 : (Nat → Int32) → Int32 → Prop) (w_2 : Nat → Int32) (v_3 : Int32) : Prop :=
  if 75 ≤ v_3 then (jX9_begin_18 n_a0 x1 x2 Q w_2) else (vp_in v_3 n_a0 ∧ (k_4 (upd w_2 (v_3.toNatClampNeg) 0) (v_3 + 1)))
def p_X9_begin (n_a0 : Nat) (a0 : Nat → Int32) (x1 : Int32) (x2 : Int32) (Q : (Nat → Int32) → Prop) : Prop :=
  lq2 (bX9_begin_2 n_a0 x1 x2 Q) 1000 a0 0
def rmX9_begin : Room := { frames := 0, cells := 0, slots := 0, locals := 0 }
set_option maxHeartbeats 4000000 in
set_option maxRecDepth 100000 in
theorem c_X9_begin (l : Launch) (D : va_G) (cI cZ cO : ClassId) (q_a0 : Nat) (n_a0 : Nat) (a0 : Nat → Int32) (sz : Nat) (x1 : Int32) (x2 : Int32) (Q : (Nat → Int32) → Prop) (hf : p_X9_begin n_a0 a0 x1 x2 Q) : Met l yX9_begin wsX9_begin rmX9_begin (va_Pc [.ref q_a0, .int x1, .int x2] (fun U => U.heap.size = sz ∧ va_P D vwCl [(q_a0, .inl (cI, n_a0, .inl a0))] U.heap ∧ XK D cI cZ cO U ∧ va_D (fun _ => True) [(q_a0, .inl (cI, n_a0, .inl a0))])) (va_Qv (fun (u : (Nat → Int32)) => Q u) (fun (u : (Nat → Int32)) t => va_P D vwCl [(q_a0, .inl (cI, n_a0, .inl u))] t.heap ∧ va_D (va_A [(q_a0, .inl (cI, n_a0, .inl a0))] sz) [(q_a0, .inl (cI, n_a0, .inl u))]) (va_A [(q_a0, .inl (cI, n_a0, .inl a0))] sz)) 0 0 (va_A [(q_a0, .inl (cI, n_a0, .inl a0))] sz) := by
  refine Met.ofW (cc := cX9_begin) (maxL := 4) (ret := none) (by decide) rfl ?_
  intro p e s m args below meth c s₁ B hml hv
  obtain ⟨rfl, hsz, hP, hX, hD0⟩ := hv
  have hK := hX.1
  have hx := B.exec
  have hb := B.bytes
  have hr := B.returns
  have hts := atoms_spec (ws := wsX9_begin) B.pre
  have hown : s.vm.findClass RX9 = some m.cls := findClass_of_methodNamed B.named
  have hlocks := B.notSynchronized
  subst hsz
  have hD := hD0.self (sz := s.heap.size)
  generalize hAe : va_A [(q_a0, .inl (cI, n_a0, .inl a0))] s.heap.size = A at hD ⊢
  have hA : ∀ q : Nat, s.heap.size ≤ q → A q := fun q h => by rw [← hAe]; exact Or.inr h
  have hS : va_S A s.heap s.heap [] := va_S.rf
  have hP : va_P D vwCl [(q_a0, .inl (cI, n_a0, .inl a0))] s.heap := hP
  generalize hQQ : MQ below _ _ s _ _ _ = QQ
  have hl := lv_entry ([.ref q_a0, .int x1, .int x2]) (n := 4) (Nat.le_of_ble_eq_true rfl)
  rw [lg_entry_eq]
  generalize (lg_sl ([.ref q_a0, .int x1, .int x2]) ++ List.replicate (4 - (lg_sl ([.ref q_a0, .int x1, .int x2])).length) Slot.unset).toArray = ls at hl ⊢
  have hl : lv_has ls 4 [(0, .ref q_a0), (1, .int x1), (2, .int x2)] := hl
  have hj_18 : ∀ (w_1 : Nat → Int32) (H : Heap) (locs : List Loc), jX9_begin_18 n_a0 x1 x2 Q w_1 → va_P D vwCl [(q_a0, .inl (cI, n_a0, .inl w_1))] H → va_D A [(q_a0, .inl (cI, n_a0, .inl w_1))] → va_S A s.heap H locs → ∀ ls : Array Slot, lv_has ls 4 [(0, .ref q_a0), (1, .int x1), (2, .int x2)] → W p l e (headSpec wsX9_begin rmX9_begin).room s m ([.ref q_a0, .int x1, .int x2] : List Value).toArray below meth c H locs 0 0 QQ (F0 m 18 ls []) := by
    intro w_1 H locs hf hP hD hS ls hl
    unfold jX9_begin_18 at hf
    refine lv_aload_n hx hb dX9_begin_18 rfl (lv_at hl 0 rfl) ?_
    refine lv_bipush (v := 15) hx hb dX9_begin_19 (by decide) ?_
    refine lv_iload_n hx hb dX9_begin_21 rfl (lv_at hl 1 rfl) ?_
    refine va_iast hx hb hK hP hD hS 0 0 rfl rfl hf.1 dX9_begin_22 (fun H locs hP hD hS => ?_)
    have hP : va_P D vwCl [(q_a0, .inl (cI, n_a0, .inl (upd w_1 ((15 : Int32).toNatClampNeg) x1)))] H := hP
    have hD : va_D A [(q_a0, .inl (cI, n_a0, .inl (upd w_1 ((15 : Int32).toNatClampNeg) x1)))] := hD
    have hf := hf.2
    refine lv_aload_n hx hb dX9_begin_23 rfl (lv_at hl 0 rfl) ?_
    refine lv_bipush (v := 16) hx hb dX9_begin_24 (by decide) ?_
    refine lv_iload_n hx hb dX9_begin_26 rfl (lv_at hl 2 rfl) ?_
    refine va_iast hx hb hK hP hD hS 0 0 rfl rfl hf.1 dX9_begin_27 (fun H locs hP hD hS => ?_)
    have hP : va_P D vwCl [(q_a0, .inl (cI, n_a0, .inl (upd (upd w_1 ((15 : Int32).toNatClampNeg) x1) ((16 : Int32).toNatClampNeg) x2)))] H := hP
    have hD : va_D A [(q_a0, .inl (cI, n_a0, .inl (upd (upd w_1 ((15 : Int32).toNatClampNeg) x1) ((16 : Int32).toNatClampNeg) x2)))] := hD
    have hf := hf.2
    subst hQQ
    have hP9 := hP.sub (ws' := [(q_a0, .inl (cI, n_a0, .inl (upd (upd w_1 ((15 : Int32).toNatClampNeg) x1) ((16 : Int32).toNatClampNeg) x2)))]) [0] rfl
    have hD9 := hD.sub (ws' := [(q_a0, .inl (cI, n_a0, .inl (upd (upd w_1 ((15 : Int32).toNatClampNeg) x1) ((16 : Int32).toNatClampNeg) x2)))]) [0] (by decide) rfl
    exact W.vret hx hb hr (fun t ht hW => ⟨⟨(upd (upd w_1 ((15 : Int32).toNatClampNeg) x1) ((16 : Int32).toNatClampNeg) x2), rfl, hf, by rw [ht]; exact hP9, hD9⟩, hS.F ht⟩) hS.2.2 dX9_begin_28
  unfold p_X9_begin at hf
  refine lv_iconst (v := 0) hx hb dX9_begin_0 (by decide) ?_
  refine lv_istore_n (lv' := [(3, .int 0), (0, .ref q_a0), (1, .int x1), (2, .int x2)]) hx hb dX9_begin_1 rfl hl (by decide) rfl (fun ls hl => ?_)
  have hlp_2 : ∀ (n_2 : Nat) (w_2 : Nat → Int32) (v_3 : Int32) (H : Heap) (locs : List Loc) (ls : Array Slot), lq2 (bX9_begin_2 n_a0 x1 x2 Q) n_2 w_2 v_3 → va_P D vwCl [(q_a0, .inl (cI, n_a0, .inl w_2))] H → va_D A [(q_a0, .inl (cI, n_a0, .inl w_2))] → va_S A s.heap H locs → lv_has ls 4 [(0, .ref q_a0), (1, .int x1), (2, .int x2), (3, .int v_3)] → W p l e (headSpec wsX9_begin rmX9_begin).room s m ([.ref q_a0, .int x1, .int x2] : List Value).toArray below meth c H locs 0 0 QQ (F0 m 2 ls []) := by
    intro n_2
    induction n_2 with
    | zero => intro w_2 v_3 H locs ls hf; exact (lq2_0 hf).elim
    | succ n_2 ih =>
      have ih_2 := ih
      intro w_2 v_3 H locs ls hf hP hD hS hl
      have hf := lq2_s hf
      unfold bX9_begin_2 at hf
      refine lv_iload_n hx hb dX9_begin_2 rfl (lv_at hl 3 rfl) ?_
      refine lv_bipush (v := 75) hx hb dX9_begin_3 (by decide) ?_
      refine lv_icmp_ge (tgt := 18) hx hb dX9_begin_5 (by decide) (fun c_5 => ?_) (fun c_5 => ?_)
      · have hf := it_t c_5 hf
        exact hj_18 w_2 _ _ hf (hP.sub [0] rfl) (hD.sub [0] (by decide) rfl) hS ls (lv_sub hl [0, 1, 2] rfl)
      · have hf := it_f c_5 hf
        refine lv_aload_n hx hb dX9_begin_8 rfl (lv_at hl 0 rfl) ?_
        refine lv_iload_n hx hb dX9_begin_9 rfl (lv_at hl 3 rfl) ?_
        refine lv_iconst (v := 0) hx hb dX9_begin_10 (by decide) ?_
        refine va_iast hx hb hK hP hD hS 0 0 rfl rfl hf.1 dX9_begin_11 (fun H locs hP hD hS => ?_)
        have hP : va_P D vwCl [(q_a0, .inl (cI, n_a0, .inl (upd w_2 (v_3.toNatClampNeg) 0)))] H := hP
        have hD : va_D A [(q_a0, .inl (cI, n_a0, .inl (upd w_2 (v_3.toNatClampNeg) 0)))] := hD
        have hf := hf.2
        refine lv_iinc (v := v_3 + 1) (lv' := [(3, .int (v_3 + 1)), (0, .ref q_a0), (1, .int x1), (2, .int x2)]) hx hb dX9_begin_12 hl (k := 3) rfl rfl (by decide) rfl (fun ls hl => ?_)
        refine lv_goto (tgt := 2) hx hb dX9_begin_15 (by decide) ?_
        exact ih (upd w_2 (v_3.toNatClampNeg) 0) (v_3 + 1) _ _ ls hf (hP.sub [0] rfl) (hD.sub [0] (by decide) rfl) hS (lv_sub hl [1, 2, 3, 0] rfl)
  exact hlp_2 1000 a0 0 _ _ ls hf (hP.sub [0] rfl) (hD.sub [0] (by decide) rfl) hS (lv_sub hl [1, 2, 3, 0] rfl)
def p_X9_many (a0_told : Nat → Int32) (Q : Int32 → Prop) : Prop :=
  Q (a0_told (0 : Int32).toNatClampNeg)
def rmX9_many : Room := { frames := 0, cells := 0, slots := 0, locals := 0 }
set_option maxHeartbeats 4000000 in
set_option maxRecDepth 100000 in
theorem c_X9_many (l : Launch) (D : va_G) (cI cZ cO : ClassId) (q_a0 q_a0_told q_a0_kept q_a0_isKept q_a0_refused q_a0_manyBy q_a0_hers q_a0_his q_a0_hand q_a0_bytes q_a0_anew q_a0_values : Nat) (a0_above : Int64) (a0_below : Int64) (a0_bytesLong : Int32) (a0_tokenAt : Int32) (a0_tokenLong : Int32) (a0_token : Int32) (a0_value : Int32) (a0_told : Nat → Int32) (Q : Int32 → Prop) (hf : p_X9_many a0_told Q) : Met l yX9_many wsX9_many rmX9_many (va_Pc [.ref q_a0] (fun U => va_P D vwCl [(q_a0, .inr (8, [.ref q_a0_told, .ref q_a0_kept, .ref q_a0_isKept, .ref q_a0_refused, .long a0_above, .long a0_below, .ref q_a0_manyBy, .ref q_a0_hers, .ref q_a0_his, .ref q_a0_hand, .ref q_a0_bytes, .int a0_bytesLong, .int a0_tokenAt, .int a0_tokenLong, .int a0_token, .int a0_value, .ref q_a0_anew, .ref q_a0_values])), (q_a0_told, .inl (cI, 163, .inl a0_told))] U.heap ∧ XK D cI cZ cO U)) (vp_Si Q) 0 0 (fun _ => False) := by
  refine Met.ofW (cc := cX9_many) (maxL := 1) (ret := (some .int)) (by decide) rfl ?_
  intro p e s m args below meth c s₁ B hml hv
  obtain ⟨rfl, hP, hX⟩ := hv
  have hK := hX.1
  have hx := B.exec
  have hb := B.bytes
  have hr := B.returns
  have hts := atoms_spec (ws := wsX9_many) B.pre
  have hown : s.vm.findClass RX9 = some m.cls := findClass_of_methodNamed B.named
  have hlocks := B.notSynchronized
  have in_X9 : ∀ w ∈ wsX90, w ∈ wsX9_many := fun _ h => List.mem_cons_of_mem _ (List.mem_append_right _ h)
  have kf_7 := hts (.fieldLink RX9 7 "LeftCrestModel" "told" "[I") (by decide +kernel)
  generalize hQQ : MQ below _ _ s _ _ _ = QQ
  have hl := lv_entry ([.ref q_a0]) (n := 1) (Nat.le_of_ble_eq_true rfl)
  rw [lg_entry_eq]
  generalize (lg_sl ([.ref q_a0]) ++ List.replicate (1 - (lg_sl ([.ref q_a0])).length) Slot.unset).toArray = ls at hl ⊢
  have hl : lv_has ls 1 [(0, .ref q_a0)] := hl
  unfold p_X9_many at hf
  refine lv_aload_n hx hb dX9_many_0 rfl (lv_at hl 0 rfl) ?_
  refine va_get (D := D) (ci := 8) (v := .ref q_a0_told) (C := RX9) (T := TX9) (N := 18) hx hb hts in_X9 hown hK hP 0 rfl rfl 0 (by decide) kf_7 (fun _ h9 => h9) rfl dX9_many_1 ?_
  refine lv_iconst (v := 0) hx hb dX9_many_4 (by decide) ?_
  refine va_iald hx hb hK hP 1 0 rfl rfl (by unfold vp_in; decide) dX9_many_5 ?_
  subst hQQ
  exact W.iret hx hb hr (fun t ht hW => ⟨_, rfl, hf, ht⟩) (fun _ h => absurd h List.not_mem_nil) dX9_many_6
def p_X9_isBend (a0_told : Nat → Int32) (x1 : Int32) (Q : Int32 → Prop) : Prop :=
  p_X9_many a0_told (fun r_1 => p_X9_in x1.toInt64 0 ((r_1 - 1).toInt64) (fun r_2 => zb r_2 ∧ Q r_2))
def rmX9_isBend : Room := { frames := 1, cells := 0, slots := 0, locals := 25 }
set_option maxHeartbeats 4000000 in
set_option maxRecDepth 100000 in
theorem c_X9_isBend (l : Launch) (D : va_G) (cI cZ cO : ClassId) (q_a0 q_a0_told q_a0_kept q_a0_isKept q_a0_refused q_a0_manyBy q_a0_hers q_a0_his q_a0_hand q_a0_bytes q_a0_anew q_a0_values : Nat) (a0_above : Int64) (a0_below : Int64) (a0_bytesLong : Int32) (a0_tokenAt : Int32) (a0_tokenLong : Int32) (a0_token : Int32) (a0_value : Int32) (a0_told : Nat → Int32) (x1 : Int32) (Q : Int32 → Prop) (hf : p_X9_isBend a0_told x1 Q) : Met l yX9_isBend wsX9_isBend rmX9_isBend (va_Pc [.ref q_a0, .int x1] (fun U => va_P D vwCl [(q_a0, .inr (8, [.ref q_a0_told, .ref q_a0_kept, .ref q_a0_isKept, .ref q_a0_refused, .long a0_above, .long a0_below, .ref q_a0_manyBy, .ref q_a0_hers, .ref q_a0_his, .ref q_a0_hand, .ref q_a0_bytes, .int a0_bytesLong, .int a0_tokenAt, .int a0_tokenLong, .int a0_token, .int a0_value, .ref q_a0_anew, .ref q_a0_values])), (q_a0_told, .inl (cI, 163, .inl a0_told))] U.heap ∧ XK D cI cZ cO U)) (vp_Si Q) 0 0 (fun _ => False) := by
  refine Met.ofW (cc := cX9_isBend) (maxL := 2) (ret := (some .boolean)) (by decide) rfl ?_
  intro p e s m args below meth c s₁ B hml hv
  obtain ⟨rfl, hP, hX⟩ := hv
  have hK := hX.1
  have hx := B.exec
  have hb := B.bytes
  have hr := B.returns
  have hts := atoms_spec (ws := wsX9_isBend) B.pre
  have hown : s.vm.findClass RX9 = some m.cls := findClass_of_methodNamed B.named
  have hlocks := B.notSynchronized
  generalize hQQ : MQ below _ _ s _ _ _ = QQ
  have hl := lv_entry ([.ref q_a0, .int x1]) (n := 2) (Nat.le_of_ble_eq_true rfl)
  rw [lg_entry_eq]
  generalize (lg_sl ([.ref q_a0, .int x1]) ++ List.replicate (2 - (lg_sl ([.ref q_a0, .int x1])).length) Slot.unset).toArray = ls at hl ⊢
  have hl : lv_has ls 2 [(0, .ref q_a0), (1, .int x1)] := hl
  unfold p_X9_isBend at hf
  refine lv_iload_n hx hb dX9_isBend_0 rfl (lv_at hl 1 rfl) ?_
  refine lv_i2l hx hb dX9_isBend_1 rfl ?_
  refine lv_lconst (v := 0) hx hb dX9_isBend_2 (by decide) ?_
  refine lv_aload_n hx hb dX9_isBend_3 rfl (lv_at hl 0 rfl) ?_
  refine ya_csi (va_runV (As := []) (rest := [.long 0, .long x1.toInt64]) ⟨hx, hb, hml, hown, hts⟩ (c_X9_many l D cI cZ cO q_a0 q_a0_told q_a0_kept q_a0_isKept q_a0_refused q_a0_manyBy q_a0_hers q_a0_his q_a0_hand q_a0_bytes q_a0_anew q_a0_values a0_above a0_below a0_bytesLong a0_tokenAt a0_tokenLong a0_token a0_value a0_told  _ hf) (cwV 0 hts gX9_isBend_X9_many rfl rfl rfl (by decide +kernel) ⟨Nat.le_of_ble_eq_true rfl, Nat.le_of_ble_eq_true rfl⟩) (pv_ro (ci := 8) (q0 := 0) (hP.sub [0, 1] rfl) hX rfl rfl) rfl rfl hl.1 rfl (lv_room (Nat.le_of_ble_eq_true rfl)) dX9_isBend_4 ⟨Nat.zero_le _, Nat.zero_le _⟩) (fun r_1 hf => ?_)
  refine lv_iconst (v := 1) hx hb dX9_isBend_7 (by decide) ?_
  refine lv_isub hx hb dX9_isBend_8 ?_
  refine lv_i2l hx hb dX9_isBend_9 rfl ?_
  refine ya_csi (va_runS (As := [.long x1.toInt64, .long 0, .long ((r_1 - 1).toInt64)]) (rest := []) ⟨hx, hb, hml, hown, hts⟩ (c_X9_in l D cI cZ cO  x1.toInt64 0 ((r_1 - 1).toInt64) _ hf) (va_cwS 3 hts gX9_isBend_X9_in rfl rfl rfl (by decide +kernel) ⟨Nat.le_of_ble_eq_true rfl, Nat.le_of_ble_eq_true rfl⟩) (ps_ro va_P0 hX) rfl rfl hl.1 rfl (lv_room (Nat.le_of_ble_eq_true rfl)) dX9_isBend_10 ⟨Nat.zero_le _, Nat.zero_le _⟩) (fun r_2 hf => ?_)
  subst hQQ
  have hz := hf.1
  have hf := hf.2
  exact W.zret hx hb hr hz (fun t ht hW => ⟨_, rfl, hf, ht⟩) (fun _ h => absurd h List.not_mem_nil) dX9_isBend_13
def p_X9_isKind (x0 : Int32) (Q : Int32 → Prop) : Prop :=
  p_X9_in x0.toInt64 0 5 (fun r_1 => zb r_1 ∧ Q r_1)
def rmX9_isKind : Room := { frames := 1, cells := 0, slots := 0, locals := 25 }
set_option maxHeartbeats 4000000 in
set_option maxRecDepth 100000 in
theorem c_X9_isKind (l : Launch) (D : va_G) (cI cZ cO : ClassId) (x0 : Int32) (Q : Int32 → Prop) (hf : p_X9_isKind x0 Q) : Met l yX9_isKind wsX9_isKind rmX9_isKind (va_Pc [.int x0] (fun U => va_P D vwCl [] U.heap ∧ XK D cI cZ cO U)) (vp_Si Q) 0 0 (fun _ => False) := by
  refine Met.ofW (cc := cX9_isKind) (maxL := 1) (ret := (some .boolean)) (by decide) rfl ?_
  intro p e s m args below meth c s₁ B hml hv
  obtain ⟨rfl, hP, hX⟩ := hv
  have hK := hX.1
  have hx := B.exec
  have hb := B.bytes
  have hr := B.returns
  have hts := atoms_spec (ws := wsX9_isKind) B.pre
  have hown : s.vm.findClass RX9 = some m.cls := findClass_of_methodNamed B.named
  have hlocks := B.notSynchronized
  have kc_60 := hts (.constantLong RX9 60 (5)) (by decide +kernel)
  generalize hQQ : MQ below _ _ s _ _ _ = QQ
  have hl := lv_entry ([.int x0]) (n := 1) (Nat.le_of_ble_eq_true rfl)
  rw [lg_entry_eq]
  generalize (lg_sl ([.int x0]) ++ List.replicate (1 - (lg_sl ([.int x0])).length) Slot.unset).toArray = ls at hl ⊢
  have hl : lv_has ls 1 [(0, .int x0)] := hl
  unfold p_X9_isKind at hf
  refine lv_iload_n hx hb dX9_isKind_0 rfl (lv_at hl 0 rfl) ?_
  refine lv_i2l hx hb dX9_isKind_1 rfl ?_
  refine lv_lconst (v := 0) hx hb dX9_isKind_2 (by decide) ?_
  refine lv_ldc2 (v := 5) hx hb hown kc_60 dX9_isKind_3 ?_
  refine ya_csi (va_runS (As := [.long x0.toInt64, .long 0, .long 5]) (rest := []) ⟨hx, hb, hml, hown, hts⟩ (c_X9_in l D cI cZ cO  x0.toInt64 0 5 _ hf) (va_cwS 3 hts gX9_isKind_X9_in rfl rfl rfl (by decide +kernel) ⟨Nat.le_of_ble_eq_true rfl, Nat.le_of_ble_eq_true rfl⟩) (ps_ro va_P0 hX) rfl rfl hl.1 rfl (lv_room (Nat.le_of_ble_eq_true rfl)) dX9_isKind_6 ⟨Nat.zero_le _, Nat.zero_le _⟩) (fun r_1 hf => ?_)
  subst hQQ
  have hz := hf.1
  have hf := hf.2
  exact W.zret hx hb hr hz (fun t ht hW => ⟨_, rfl, hf, ht⟩) (fun _ h => absurd h List.not_mem_nil) dX9_isKind_9
def p_X9_isNote (x0 : Int32) (Q : Int32 → Prop) : Prop :=
  p_X9_in x0.toInt64 0 6 (fun r_1 => zb r_1 ∧ Q r_1)
def rmX9_isNote : Room := { frames := 1, cells := 0, slots := 0, locals := 25 }
set_option maxHeartbeats 4000000 in
set_option maxRecDepth 100000 in
theorem c_X9_isNote (l : Launch) (D : va_G) (cI cZ cO : ClassId) (x0 : Int32) (Q : Int32 → Prop) (hf : p_X9_isNote x0 Q) : Met l yX9_isNote wsX9_isNote rmX9_isNote (va_Pc [.int x0] (fun U => va_P D vwCl [] U.heap ∧ XK D cI cZ cO U)) (vp_Si Q) 0 0 (fun _ => False) := by
  refine Met.ofW (cc := cX9_isNote) (maxL := 1) (ret := (some .boolean)) (by decide) rfl ?_
  intro p e s m args below meth c s₁ B hml hv
  obtain ⟨rfl, hP, hX⟩ := hv
  have hK := hX.1
  have hx := B.exec
  have hb := B.bytes
  have hr := B.returns
  have hts := atoms_spec (ws := wsX9_isNote) B.pre
  have hown : s.vm.findClass RX9 = some m.cls := findClass_of_methodNamed B.named
  have hlocks := B.notSynchronized
  have kc_62 := hts (.constantLong RX9 62 (6)) (by decide +kernel)
  generalize hQQ : MQ below _ _ s _ _ _ = QQ
  have hl := lv_entry ([.int x0]) (n := 1) (Nat.le_of_ble_eq_true rfl)
  rw [lg_entry_eq]
  generalize (lg_sl ([.int x0]) ++ List.replicate (1 - (lg_sl ([.int x0])).length) Slot.unset).toArray = ls at hl ⊢
  have hl : lv_has ls 1 [(0, .int x0)] := hl
  unfold p_X9_isNote at hf
  refine lv_iload_n hx hb dX9_isNote_0 rfl (lv_at hl 0 rfl) ?_
  refine lv_i2l hx hb dX9_isNote_1 rfl ?_
  refine lv_lconst (v := 0) hx hb dX9_isNote_2 (by decide) ?_
  refine lv_ldc2 (v := 6) hx hb hown kc_62 dX9_isNote_3 ?_
  refine ya_csi (va_runS (As := [.long x0.toInt64, .long 0, .long 6]) (rest := []) ⟨hx, hb, hml, hown, hts⟩ (c_X9_in l D cI cZ cO  x0.toInt64 0 6 _ hf) (va_cwS 3 hts gX9_isNote_X9_in rfl rfl rfl (by decide +kernel) ⟨Nat.le_of_ble_eq_true rfl, Nat.le_of_ble_eq_true rfl⟩) (ps_ro va_P0 hX) rfl rfl hl.1 rfl (lv_room (Nat.le_of_ble_eq_true rfl)) dX9_isNote_6 ⟨Nat.zero_le _, Nat.zero_le _⟩) (fun r_1 hf => ?_)
  subst hQQ
  have hz := hf.1
  have hf := hf.2
  exact W.zret hx hb hr hz (fun t ht hW => ⟨_, rfl, hf, ht⟩) (fun _ h => absurd h List.not_mem_nil) dX9_isNote_9
def p_X9_isFog (x0 : Int32) (Q : Int32 → Prop) : Prop :=
  p_X9_in x0.toInt64 0 9 (fun r_1 => zb r_1 ∧ Q r_1)
def rmX9_isFog : Room := { frames := 1, cells := 0, slots := 0, locals := 25 }
set_option maxHeartbeats 4000000 in
set_option maxRecDepth 100000 in
theorem c_X9_isFog (l : Launch) (D : va_G) (cI cZ cO : ClassId) (x0 : Int32) (Q : Int32 → Prop) (hf : p_X9_isFog x0 Q) : Met l yX9_isFog wsX9_isFog rmX9_isFog (va_Pc [.int x0] (fun U => va_P D vwCl [] U.heap ∧ XK D cI cZ cO U)) (vp_Si Q) 0 0 (fun _ => False) := by
  refine Met.ofW (cc := cX9_isFog) (maxL := 1) (ret := (some .boolean)) (by decide) rfl ?_
  intro p e s m args below meth c s₁ B hml hv
  obtain ⟨rfl, hP, hX⟩ := hv
  have hK := hX.1
  have hx := B.exec
  have hb := B.bytes
  have hr := B.returns
  have hts := atoms_spec (ws := wsX9_isFog) B.pre
  have hown : s.vm.findClass RX9 = some m.cls := findClass_of_methodNamed B.named
  have hlocks := B.notSynchronized
  have kc_64 := hts (.constantLong RX9 64 (9)) (by decide +kernel)
  generalize hQQ : MQ below _ _ s _ _ _ = QQ
  have hl := lv_entry ([.int x0]) (n := 1) (Nat.le_of_ble_eq_true rfl)
  rw [lg_entry_eq]
  generalize (lg_sl ([.int x0]) ++ List.replicate (1 - (lg_sl ([.int x0])).length) Slot.unset).toArray = ls at hl ⊢
  have hl : lv_has ls 1 [(0, .int x0)] := hl
  unfold p_X9_isFog at hf
  refine lv_iload_n hx hb dX9_isFog_0 rfl (lv_at hl 0 rfl) ?_
  refine lv_i2l hx hb dX9_isFog_1 rfl ?_
  refine lv_lconst (v := 0) hx hb dX9_isFog_2 (by decide) ?_
  refine lv_ldc2 (v := 9) hx hb hown kc_64 dX9_isFog_3 ?_
  refine ya_csi (va_runS (As := [.long x0.toInt64, .long 0, .long 9]) (rest := []) ⟨hx, hb, hml, hown, hts⟩ (c_X9_in l D cI cZ cO  x0.toInt64 0 9 _ hf) (va_cwS 3 hts gX9_isFog_X9_in rfl rfl rfl (by decide +kernel) ⟨Nat.le_of_ble_eq_true rfl, Nat.le_of_ble_eq_true rfl⟩) (ps_ro va_P0 hX) rfl rfl hl.1 rfl (lv_room (Nat.le_of_ble_eq_true rfl)) dX9_isFog_6 ⟨Nat.zero_le _, Nat.zero_le _⟩) (fun r_1 hf => ?_)
  subst hQQ
  have hz := hf.1
  have hf := hf.2
  exact W.zret hx hb hr hz (fun t ht hW => ⟨_, rfl, hf, ht⟩) (fun _ h => absurd h List.not_mem_nil) dX9_isFog_9
def p_X9_road (a0_told : Nat → Int32) (a0_refused : Nat → Int32) (x1 : Int32) (x2 : Int32) (Q : Int32 → (Nat → Int32) → (Nat → Int32) → Prop) : Prop :=
  p_X9_isKind x1 (fun r_1 => if r_1 = 0 then (p_X9_bad a0_refused (-2) (fun r_3 u_4 => Q r_3 a0_told u_4)) else (p_X9_isFog x2 (fun r_5 => if r_5 = 0 then (p_X9_bad a0_refused (-2) (fun r_9 u_10 => Q r_9 a0_told u_10)) else (p_X9_many a0_told (fun r_7 => p_X9_begin 163 a0_told x1 x2 (fun u_8 => Q r_7 u_8 a0_refused))))))
def rmX9_road : Room := { frames := 2, cells := 0, slots := 0, locals := 45 }
set_option maxHeartbeats 4000000 in
set_option maxRecDepth 100000 in
theorem c_X9_road (l : Launch) (D : va_G) (cI cZ cO : ClassId) (q_a0 q_a0_told q_a0_kept q_a0_isKept q_a0_refused q_a0_manyBy q_a0_hers q_a0_his q_a0_hand q_a0_bytes q_a0_anew q_a0_values : Nat) (a0_above : Int64) (a0_below : Int64) (a0_bytesLong : Int32) (a0_tokenAt : Int32) (a0_tokenLong : Int32) (a0_token : Int32) (a0_value : Int32) (a0_told : Nat → Int32) (a0_refused : Nat → Int32) (sz : Nat) (x1 : Int32) (x2 : Int32) (Q : Int32 → (Nat → Int32) → (Nat → Int32) → Prop) (hf : p_X9_road a0_told a0_refused x1 x2 Q) : Met l yX9_road wsX9_road rmX9_road (va_Pc [.ref q_a0, .int x1, .int x2] (fun U => U.heap.size = sz ∧ va_P D vwCl [(q_a0, .inr (8, [.ref q_a0_told, .ref q_a0_kept, .ref q_a0_isKept, .ref q_a0_refused, .long a0_above, .long a0_below, .ref q_a0_manyBy, .ref q_a0_hers, .ref q_a0_his, .ref q_a0_hand, .ref q_a0_bytes, .int a0_bytesLong, .int a0_tokenAt, .int a0_tokenLong, .int a0_token, .int a0_value, .ref q_a0_anew, .ref q_a0_values])), (q_a0_told, .inl (cI, 163, .inl a0_told)), (q_a0_refused, .inl (cI, 3, .inl a0_refused))] U.heap ∧ XK D cI cZ cO U ∧ va_D (fun _ => True) [(q_a0, .inr (8, [.ref q_a0_told, .ref q_a0_kept, .ref q_a0_isKept, .ref q_a0_refused, .long a0_above, .long a0_below, .ref q_a0_manyBy, .ref q_a0_hers, .ref q_a0_his, .ref q_a0_hand, .ref q_a0_bytes, .int a0_bytesLong, .int a0_tokenAt, .int a0_tokenLong, .int a0_token, .int a0_value, .ref q_a0_anew, .ref q_a0_values])), (q_a0_told, .inl (cI, 163, .inl a0_told)), (q_a0_refused, .inl (cI, 3, .inl a0_refused))])) (va_Qi (fun r (u : (Nat → Int32) × (Nat → Int32)) => Q r u.1 u.2) (fun (u : (Nat → Int32) × (Nat → Int32)) t => va_P D vwCl [(q_a0, .inr (8, [.ref q_a0_told, .ref q_a0_kept, .ref q_a0_isKept, .ref q_a0_refused, .long a0_above, .long a0_below, .ref q_a0_manyBy, .ref q_a0_hers, .ref q_a0_his, .ref q_a0_hand, .ref q_a0_bytes, .int a0_bytesLong, .int a0_tokenAt, .int a0_tokenLong, .int a0_token, .int a0_value, .ref q_a0_anew, .ref q_a0_values])), (q_a0_told, .inl (cI, 163, .inl u.1)), (q_a0_refused, .inl (cI, 3, .inl u.2))] t.heap ∧ va_D (va_A [(q_a0, .inr (8, [.ref q_a0_told, .ref q_a0_kept, .ref q_a0_isKept, .ref q_a0_refused, .long a0_above, .long a0_below, .ref q_a0_manyBy, .ref q_a0_hers, .ref q_a0_his, .ref q_a0_hand, .ref q_a0_bytes, .int a0_bytesLong, .int a0_tokenAt, .int a0_tokenLong, .int a0_token, .int a0_value, .ref q_a0_anew, .ref q_a0_values])), (q_a0_told, .inl (cI, 163, .inl a0_told)), (q_a0_refused, .inl (cI, 3, .inl a0_refused))] sz) [(q_a0, .inr (8, [.ref q_a0_told, .ref q_a0_kept, .ref q_a0_isKept, .ref q_a0_refused, .long a0_above, .long a0_below, .ref q_a0_manyBy, .ref q_a0_hers, .ref q_a0_his, .ref q_a0_hand, .ref q_a0_bytes, .int a0_bytesLong, .int a0_tokenAt, .int a0_tokenLong, .int a0_token, .int a0_value, .ref q_a0_anew, .ref q_a0_values])), (q_a0_told, .inl (cI, 163, .inl u.1)), (q_a0_refused, .inl (cI, 3, .inl u.2))]) (va_A [(q_a0, .inr (8, [.ref q_a0_told, .ref q_a0_kept, .ref q_a0_isKept, .ref q_a0_refused, .long a0_above, .long a0_below, .ref q_a0_manyBy, .ref q_a0_hers, .ref q_a0_his, .ref q_a0_hand, .ref q_a0_bytes, .int a0_bytesLong, .int a0_tokenAt, .int a0_tokenLong, .int a0_token, .int a0_value, .ref q_a0_anew, .ref q_a0_values])), (q_a0_told, .inl (cI, 163, .inl a0_told)), (q_a0_refused, .inl (cI, 3, .inl a0_refused))] sz)) 0 0 (va_A [(q_a0, .inr (8, [.ref q_a0_told, .ref q_a0_kept, .ref q_a0_isKept, .ref q_a0_refused, .long a0_above, .long a0_below, .ref q_a0_manyBy, .ref q_a0_hers, .ref q_a0_his, .ref q_a0_hand, .ref q_a0_bytes, .int a0_bytesLong, .int a0_tokenAt, .int a0_tokenLong, .int a0_token, .int a0_value, .ref q_a0_anew, .ref q_a0_values])), (q_a0_told, .inl (cI, 163, .inl a0_told)), (q_a0_refused, .inl (cI, 3, .inl a0_refused))] sz) := by
  refine Met.ofW (cc := cX9_road) (maxL := 4) (ret := (some .int)) (by decide) rfl ?_
  intro p e s m args below meth c s₁ B hml hv
  obtain ⟨rfl, hsz, hP, hX, hD0⟩ := hv
  have hK := hX.1
  have hx := B.exec
  have hb := B.bytes
  have hr := B.returns
  have hts := atoms_spec (ws := wsX9_road) B.pre
  have hown : s.vm.findClass RX9 = some m.cls := findClass_of_methodNamed B.named
  have hlocks := B.notSynchronized
  have in_X9 : ∀ w ∈ wsX90, w ∈ wsX9_road := fun _ h => List.mem_cons_of_mem _ (List.mem_append_right _ h)
  have kf_7 := hts (.fieldLink RX9 7 "LeftCrestModel" "told" "[I") (by decide +kernel)
  subst hsz
  have hD := hD0.self (sz := s.heap.size)
  generalize hAe : va_A [(q_a0, .inr (8, [.ref q_a0_told, .ref q_a0_kept, .ref q_a0_isKept, .ref q_a0_refused, .long a0_above, .long a0_below, .ref q_a0_manyBy, .ref q_a0_hers, .ref q_a0_his, .ref q_a0_hand, .ref q_a0_bytes, .int a0_bytesLong, .int a0_tokenAt, .int a0_tokenLong, .int a0_token, .int a0_value, .ref q_a0_anew, .ref q_a0_values])), (q_a0_told, .inl (cI, 163, .inl a0_told)), (q_a0_refused, .inl (cI, 3, .inl a0_refused))] s.heap.size = A at hD ⊢
  have hA : ∀ q : Nat, s.heap.size ≤ q → A q := fun q h => by rw [← hAe]; exact Or.inr h
  have hS : va_S A s.heap s.heap [] := va_S.rf
  have hP : va_P D vwCl [(q_a0, .inr (8, [.ref q_a0_told, .ref q_a0_kept, .ref q_a0_isKept, .ref q_a0_refused, .long a0_above, .long a0_below, .ref q_a0_manyBy, .ref q_a0_hers, .ref q_a0_his, .ref q_a0_hand, .ref q_a0_bytes, .int a0_bytesLong, .int a0_tokenAt, .int a0_tokenLong, .int a0_token, .int a0_value, .ref q_a0_anew, .ref q_a0_values])), (q_a0_told, .inl (cI, 163, .inl a0_told)), (q_a0_refused, .inl (cI, 3, .inl a0_refused))] s.heap := hP
  generalize hQQ : MQ below _ _ s _ _ _ = QQ
  have hl := lv_entry ([.ref q_a0, .int x1, .int x2]) (n := 4) (Nat.le_of_ble_eq_true rfl)
  rw [lg_entry_eq]
  generalize (lg_sl ([.ref q_a0, .int x1, .int x2]) ++ List.replicate (4 - (lg_sl ([.ref q_a0, .int x1, .int x2])).length) Slot.unset).toArray = ls at hl ⊢
  have hl : lv_has ls 4 [(0, .ref q_a0), (1, .int x1), (2, .int x2)] := hl
  unfold p_X9_road at hf
  refine lv_iload_n hx hb dX9_road_0 rfl (lv_at hl 1 rfl) ?_
  refine ya_csi (va_runS (As := [.int x1]) (rest := []) ⟨hx, hb, hml, hown, hts⟩ (c_X9_isKind l D cI cZ cO  x1 _ hf) (va_cwS 1 hts gX9_road_X9_isKind rfl rfl rfl (by decide +kernel) ⟨Nat.le_of_ble_eq_true rfl, Nat.le_of_ble_eq_true rfl⟩) (ps_ro va_P0 hX) rfl rfl hl.1 rfl (lv_room (Nat.le_of_ble_eq_true rfl)) dX9_road_1 ⟨Nat.zero_le _, Nat.zero_le _⟩) (fun r_1 hf => ?_)
  refine lv_if_eq (tgt := 14) hx hb dX9_road_4 (by decide) (fun c_2 => ?_) (fun c_2 => ?_)
  · have hf := it_t c_2 hf
    refine lv_aload_n hx hb dX9_road_14 rfl (lv_at hl 0 rfl) ?_
    refine lv_bipush (v := (-2)) hx hb dX9_road_15 (by decide) ?_
    have hPc := hP.sub (ws' := [(q_a0, .inr (8, [.ref q_a0_told, .ref q_a0_kept, .ref q_a0_isKept, .ref q_a0_refused, .long a0_above, .long a0_below, .ref q_a0_manyBy, .ref q_a0_hers, .ref q_a0_his, .ref q_a0_hand, .ref q_a0_bytes, .int a0_bytesLong, .int a0_tokenAt, .int a0_tokenLong, .int a0_token, .int a0_value, .ref q_a0_anew, .ref q_a0_values])), (q_a0_refused, .inl (cI, 3, .inl a0_refused))]) [0, 2] rfl
    have hDc := hD.sub (ws' := [(q_a0, .inr (8, [.ref q_a0_told, .ref q_a0_kept, .ref q_a0_isKept, .ref q_a0_refused, .long a0_above, .long a0_below, .ref q_a0_manyBy, .ref q_a0_hers, .ref q_a0_his, .ref q_a0_hand, .ref q_a0_bytes, .int a0_bytesLong, .int a0_tokenAt, .int a0_tokenLong, .int a0_token, .int a0_value, .ref q_a0_anew, .ref q_a0_values])), (q_a0_refused, .inl (cI, 3, .inl a0_refused))]) [0, 2] (by decide) rfl
    have hFc := va_free (wc := [(q_a0, .inr (8, [.ref q_a0_told, .ref q_a0_kept, .ref q_a0_isKept, .ref q_a0_refused, .long a0_above, .long a0_below, .ref q_a0_manyBy, .ref q_a0_hers, .ref q_a0_his, .ref q_a0_hand, .ref q_a0_bytes, .int a0_bytesLong, .int a0_tokenAt, .int a0_tokenLong, .int a0_token, .int a0_value, .ref q_a0_anew, .ref q_a0_values])), (q_a0_refused, .inl (cI, 3, .inl a0_refused))]) hD hS hA [0, 2] rfl
    refine va_calli (va_runV (As := [.int (-2)]) (rest := []) ⟨hx, hb, hml, hown, hts⟩ (c_X9_bad l D cI cZ cO q_a0 q_a0_told q_a0_kept q_a0_isKept q_a0_refused q_a0_manyBy q_a0_hers q_a0_his q_a0_hand q_a0_bytes q_a0_anew q_a0_values a0_above a0_below a0_bytesLong a0_tokenAt a0_tokenLong a0_token a0_value a0_refused s.heap.size (-2) _ hf) (cwV 1 hts gX9_road_X9_bad rfl rfl rfl (by decide +kernel) ⟨Nat.le_of_ble_eq_true rfl, Nat.le_of_ble_eq_true rfl⟩) (pv_rw (ci := 8) (q0 := 0) hPc hDc hX rfl rfl) rfl rfl hl.1 rfl (lv_room (Nat.le_of_ble_eq_true rfl)) dX9_road_17 ⟨Nat.zero_le _, Nat.zero_le _⟩) hS (fun q _ h => hFc q h) hFc (fun r_3 u t H1 locs ht hvm hf hB hz1 hk1 hS => ?_)
    obtain ⟨u_4, rfl⟩ : ∃ z, z = u := ⟨_, rfl⟩
    obtain ⟨hP1, hD1⟩ := hB
    rw [ht] at hP1
    clear hvm
    obtain ⟨hP, hD⟩ := va_join (wr := [(q_a0_told, .inl (cI, 163, .inl a0_told))]) (w1 := [(q_a0, .inr (8, [.ref q_a0_told, .ref q_a0_kept, .ref q_a0_isKept, .ref q_a0_refused, .long a0_above, .long a0_below, .ref q_a0_manyBy, .ref q_a0_hers, .ref q_a0_his, .ref q_a0_hand, .ref q_a0_bytes, .int a0_bytesLong, .int a0_tokenAt, .int a0_tokenLong, .int a0_token, .int a0_value, .ref q_a0_anew, .ref q_a0_values])), (q_a0_refused, .inl (cI, 3, .inl u_4))]) hP hD [0, 2] [1] rfl rfl (by decide) (by decide) hk1 hFc hP1 hD1
    clear hz1 hk1 hPc hDc hFc hP1 hD1
    generalize H1 = H at hP hS ⊢
    have hP : va_P D vwCl [(q_a0_told, .inl (cI, 163, .inl a0_told)), (q_a0, .inr (8, [.ref q_a0_told, .ref q_a0_kept, .ref q_a0_isKept, .ref q_a0_refused, .long a0_above, .long a0_below, .ref q_a0_manyBy, .ref q_a0_hers, .ref q_a0_his, .ref q_a0_hand, .ref q_a0_bytes, .int a0_bytesLong, .int a0_tokenAt, .int a0_tokenLong, .int a0_token, .int a0_value, .ref q_a0_anew, .ref q_a0_values])), (q_a0_refused, .inl (cI, 3, .inl u_4))] H := hP
    have hD : va_D A [(q_a0_told, .inl (cI, 163, .inl a0_told)), (q_a0, .inr (8, [.ref q_a0_told, .ref q_a0_kept, .ref q_a0_isKept, .ref q_a0_refused, .long a0_above, .long a0_below, .ref q_a0_manyBy, .ref q_a0_hers, .ref q_a0_his, .ref q_a0_hand, .ref q_a0_bytes, .int a0_bytesLong, .int a0_tokenAt, .int a0_tokenLong, .int a0_token, .int a0_value, .ref q_a0_anew, .ref q_a0_values])), (q_a0_refused, .inl (cI, 3, .inl u_4))] := hD
    subst hQQ
    have hP9 := hP.sub (ws' := [(q_a0, .inr (8, [.ref q_a0_told, .ref q_a0_kept, .ref q_a0_isKept, .ref q_a0_refused, .long a0_above, .long a0_below, .ref q_a0_manyBy, .ref q_a0_hers, .ref q_a0_his, .ref q_a0_hand, .ref q_a0_bytes, .int a0_bytesLong, .int a0_tokenAt, .int a0_tokenLong, .int a0_token, .int a0_value, .ref q_a0_anew, .ref q_a0_values])), (q_a0_told, .inl (cI, 163, .inl a0_told)), (q_a0_refused, .inl (cI, 3, .inl u_4))]) [1, 0, 2] rfl
    have hD9 := hD.sub (ws' := [(q_a0, .inr (8, [.ref q_a0_told, .ref q_a0_kept, .ref q_a0_isKept, .ref q_a0_refused, .long a0_above, .long a0_below, .ref q_a0_manyBy, .ref q_a0_hers, .ref q_a0_his, .ref q_a0_hand, .ref q_a0_bytes, .int a0_bytesLong, .int a0_tokenAt, .int a0_tokenLong, .int a0_token, .int a0_value, .ref q_a0_anew, .ref q_a0_values])), (q_a0_told, .inl (cI, 163, .inl a0_told)), (q_a0_refused, .inl (cI, 3, .inl u_4))]) [1, 0, 2] (by decide) rfl
    exact W.iret hx hb hr (fun t ht hW => ⟨⟨r_3, (a0_told, u_4), rfl, hf, by rw [ht]; exact hP9, hD9⟩, hS.F ht⟩) hS.2.2 dX9_road_20
  · have hf := it_f c_2 hf
    refine lv_iload_n hx hb dX9_road_7 rfl (lv_at hl 2 rfl) ?_
    refine ya_csi (va_runS (As := [.int x2]) (rest := []) ⟨hx, hb, hml, hown, hts⟩ (c_X9_isFog l D cI cZ cO  x2 _ hf) (va_cwS 1 hts gX9_road_X9_isFog rfl rfl rfl (by decide +kernel) ⟨Nat.le_of_ble_eq_true rfl, Nat.le_of_ble_eq_true rfl⟩) (ps_ro va_P0 hX) rfl rfl hl.1 rfl (lv_room (Nat.le_of_ble_eq_true rfl)) dX9_road_8 ⟨Nat.zero_le _, Nat.zero_le _⟩) (fun r_5 hf => ?_)
    refine lv_if_ne (tgt := 21) hx hb dX9_road_11 (by decide) (fun c_6 => ?_) (fun c_6 => ?_)
    · have hf := it_f c_6 hf
      refine lv_aload_n hx hb dX9_road_21 rfl (lv_at hl 0 rfl) ?_
      refine ya_csi (va_runV (As := []) (rest := []) ⟨hx, hb, hml, hown, hts⟩ (c_X9_many l D cI cZ cO q_a0 q_a0_told q_a0_kept q_a0_isKept q_a0_refused q_a0_manyBy q_a0_hers q_a0_his q_a0_hand q_a0_bytes q_a0_anew q_a0_values a0_above a0_below a0_bytesLong a0_tokenAt a0_tokenLong a0_token a0_value a0_told  _ hf) (cwV 0 hts gX9_road_X9_many rfl rfl rfl (by decide +kernel) ⟨Nat.le_of_ble_eq_true rfl, Nat.le_of_ble_eq_true rfl⟩) (pv_ro (ci := 8) (q0 := 0) (hP.sub [0, 1] rfl) hX rfl rfl) rfl rfl hl.1 rfl (lv_room (Nat.le_of_ble_eq_true rfl)) dX9_road_22 ⟨Nat.zero_le _, Nat.zero_le _⟩) (fun r_7 hf => ?_)
      refine lv_istore_n (lv' := [(3, .int r_7), (0, .ref q_a0), (1, .int x1), (2, .int x2)]) hx hb dX9_road_25 rfl hl (by decide) rfl (fun ls hl => ?_)
      refine lv_aload_n hx hb dX9_road_26 rfl (lv_at hl 1 rfl) ?_
      refine va_get (D := D) (ci := 8) (v := .ref q_a0_told) (C := RX9) (T := TX9) (N := 18) hx hb hts in_X9 hown hK hP 0 rfl rfl 0 (by decide) kf_7 (fun _ h9 => h9) rfl dX9_road_27 ?_
      refine lv_iload_n hx hb dX9_road_30 rfl (lv_at hl 2 rfl) ?_
      refine lv_iload_n hx hb dX9_road_31 rfl (lv_at hl 3 rfl) ?_
      have hPc := hP.sub (ws' := [(q_a0_told, .inl (cI, 163, .inl a0_told))]) [1] rfl
      have hDc := hD.sub (ws' := [(q_a0_told, .inl (cI, 163, .inl a0_told))]) [1] (by decide) rfl
      have hFc := va_free (wc := [(q_a0_told, .inl (cI, 163, .inl a0_told))]) hD hS hA [1] rfl
      refine va_callv (va_runS (As := [.ref q_a0_told, .int x1, .int x2]) (rest := []) ⟨hx, hb, hml, hown, hts⟩ (c_X9_begin l D cI cZ cO q_a0_told 163 a0_told s.heap.size x1 x2 _ hf) (va_cwS 3 hts gX9_road_X9_begin rfl rfl rfl (by decide +kernel) ⟨Nat.le_of_ble_eq_true rfl, Nat.le_of_ble_eq_true rfl⟩) (ps_rw hPc hDc hX) rfl rfl hl.1 rfl (lv_room (Nat.le_of_ble_eq_true rfl)) dX9_road_32 ⟨Nat.zero_le _, Nat.zero_le _⟩) hS (fun q _ h => hFc q h) hFc (fun u t H1 locs ht hvm hf hB hz1 hk1 hS => ?_)
      obtain ⟨u_8, rfl⟩ : ∃ z, z = u := ⟨_, rfl⟩
      obtain ⟨hP1, hD1⟩ := hB
      rw [ht] at hP1
      clear hvm
      obtain ⟨hP, hD⟩ := va_join (wr := [(q_a0, .inr (8, [.ref q_a0_told, .ref q_a0_kept, .ref q_a0_isKept, .ref q_a0_refused, .long a0_above, .long a0_below, .ref q_a0_manyBy, .ref q_a0_hers, .ref q_a0_his, .ref q_a0_hand, .ref q_a0_bytes, .int a0_bytesLong, .int a0_tokenAt, .int a0_tokenLong, .int a0_token, .int a0_value, .ref q_a0_anew, .ref q_a0_values])), (q_a0_refused, .inl (cI, 3, .inl a0_refused))]) (w1 := [(q_a0_told, .inl (cI, 163, .inl u_8))]) hP hD [1] [0, 2] rfl rfl (by decide) (by decide) hk1 hFc hP1 hD1
      clear hz1 hk1 hPc hDc hFc hP1 hD1
      generalize H1 = H at hP hS ⊢
      have hP : va_P D vwCl [(q_a0, .inr (8, [.ref q_a0_told, .ref q_a0_kept, .ref q_a0_isKept, .ref q_a0_refused, .long a0_above, .long a0_below, .ref q_a0_manyBy, .ref q_a0_hers, .ref q_a0_his, .ref q_a0_hand, .ref q_a0_bytes, .int a0_bytesLong, .int a0_tokenAt, .int a0_tokenLong, .int a0_token, .int a0_value, .ref q_a0_anew, .ref q_a0_values])), (q_a0_refused, .inl (cI, 3, .inl a0_refused)), (q_a0_told, .inl (cI, 163, .inl u_8))] H := hP
      have hD : va_D A [(q_a0, .inr (8, [.ref q_a0_told, .ref q_a0_kept, .ref q_a0_isKept, .ref q_a0_refused, .long a0_above, .long a0_below, .ref q_a0_manyBy, .ref q_a0_hers, .ref q_a0_his, .ref q_a0_hand, .ref q_a0_bytes, .int a0_bytesLong, .int a0_tokenAt, .int a0_tokenLong, .int a0_token, .int a0_value, .ref q_a0_anew, .ref q_a0_values])), (q_a0_refused, .inl (cI, 3, .inl a0_refused)), (q_a0_told, .inl (cI, 163, .inl u_8))] := hD
      refine lv_iload_n hx hb dX9_road_35 rfl (lv_at hl 0 rfl) ?_
      subst hQQ
      have hP9 := hP.sub (ws' := [(q_a0, .inr (8, [.ref q_a0_told, .ref q_a0_kept, .ref q_a0_isKept, .ref q_a0_refused, .long a0_above, .long a0_below, .ref q_a0_manyBy, .ref q_a0_hers, .ref q_a0_his, .ref q_a0_hand, .ref q_a0_bytes, .int a0_bytesLong, .int a0_tokenAt, .int a0_tokenLong, .int a0_token, .int a0_value, .ref q_a0_anew, .ref q_a0_values])), (q_a0_told, .inl (cI, 163, .inl u_8)), (q_a0_refused, .inl (cI, 3, .inl a0_refused))]) [0, 2, 1] rfl
      have hD9 := hD.sub (ws' := [(q_a0, .inr (8, [.ref q_a0_told, .ref q_a0_kept, .ref q_a0_isKept, .ref q_a0_refused, .long a0_above, .long a0_below, .ref q_a0_manyBy, .ref q_a0_hers, .ref q_a0_his, .ref q_a0_hand, .ref q_a0_bytes, .int a0_bytesLong, .int a0_tokenAt, .int a0_tokenLong, .int a0_token, .int a0_value, .ref q_a0_anew, .ref q_a0_values])), (q_a0_told, .inl (cI, 163, .inl u_8)), (q_a0_refused, .inl (cI, 3, .inl a0_refused))]) [0, 2, 1] (by decide) rfl
      exact W.iret hx hb hr (fun t ht hW => ⟨⟨r_7, (u_8, a0_refused), rfl, hf, by rw [ht]; exact hP9, hD9⟩, hS.F ht⟩) hS.2.2 dX9_road_36
    · have hf := it_t c_6 hf
      refine lv_aload_n hx hb dX9_road_14 rfl (lv_at hl 0 rfl) ?_
      refine lv_bipush (v := (-2)) hx hb dX9_road_15 (by decide) ?_
      have hPc := hP.sub (ws' := [(q_a0, .inr (8, [.ref q_a0_told, .ref q_a0_kept, .ref q_a0_isKept, .ref q_a0_refused, .long a0_above, .long a0_below, .ref q_a0_manyBy, .ref q_a0_hers, .ref q_a0_his, .ref q_a0_hand, .ref q_a0_bytes, .int a0_bytesLong, .int a0_tokenAt, .int a0_tokenLong, .int a0_token, .int a0_value, .ref q_a0_anew, .ref q_a0_values])), (q_a0_refused, .inl (cI, 3, .inl a0_refused))]) [0, 2] rfl
      have hDc := hD.sub (ws' := [(q_a0, .inr (8, [.ref q_a0_told, .ref q_a0_kept, .ref q_a0_isKept, .ref q_a0_refused, .long a0_above, .long a0_below, .ref q_a0_manyBy, .ref q_a0_hers, .ref q_a0_his, .ref q_a0_hand, .ref q_a0_bytes, .int a0_bytesLong, .int a0_tokenAt, .int a0_tokenLong, .int a0_token, .int a0_value, .ref q_a0_anew, .ref q_a0_values])), (q_a0_refused, .inl (cI, 3, .inl a0_refused))]) [0, 2] (by decide) rfl
      have hFc := va_free (wc := [(q_a0, .inr (8, [.ref q_a0_told, .ref q_a0_kept, .ref q_a0_isKept, .ref q_a0_refused, .long a0_above, .long a0_below, .ref q_a0_manyBy, .ref q_a0_hers, .ref q_a0_his, .ref q_a0_hand, .ref q_a0_bytes, .int a0_bytesLong, .int a0_tokenAt, .int a0_tokenLong, .int a0_token, .int a0_value, .ref q_a0_anew, .ref q_a0_values])), (q_a0_refused, .inl (cI, 3, .inl a0_refused))]) hD hS hA [0, 2] rfl
      refine va_calli (va_runV (As := [.int (-2)]) (rest := []) ⟨hx, hb, hml, hown, hts⟩ (c_X9_bad l D cI cZ cO q_a0 q_a0_told q_a0_kept q_a0_isKept q_a0_refused q_a0_manyBy q_a0_hers q_a0_his q_a0_hand q_a0_bytes q_a0_anew q_a0_values a0_above a0_below a0_bytesLong a0_tokenAt a0_tokenLong a0_token a0_value a0_refused s.heap.size (-2) _ hf) (cwV 1 hts gX9_road_X9_bad rfl rfl rfl (by decide +kernel) ⟨Nat.le_of_ble_eq_true rfl, Nat.le_of_ble_eq_true rfl⟩) (pv_rw (ci := 8) (q0 := 0) hPc hDc hX rfl rfl) rfl rfl hl.1 rfl (lv_room (Nat.le_of_ble_eq_true rfl)) dX9_road_17 ⟨Nat.zero_le _, Nat.zero_le _⟩) hS (fun q _ h => hFc q h) hFc (fun r_9 u t H1 locs ht hvm hf hB hz1 hk1 hS => ?_)
      obtain ⟨u_10, rfl⟩ : ∃ z, z = u := ⟨_, rfl⟩
      obtain ⟨hP1, hD1⟩ := hB
      rw [ht] at hP1
      clear hvm
      obtain ⟨hP, hD⟩ := va_join (wr := [(q_a0_told, .inl (cI, 163, .inl a0_told))]) (w1 := [(q_a0, .inr (8, [.ref q_a0_told, .ref q_a0_kept, .ref q_a0_isKept, .ref q_a0_refused, .long a0_above, .long a0_below, .ref q_a0_manyBy, .ref q_a0_hers, .ref q_a0_his, .ref q_a0_hand, .ref q_a0_bytes, .int a0_bytesLong, .int a0_tokenAt, .int a0_tokenLong, .int a0_token, .int a0_value, .ref q_a0_anew, .ref q_a0_values])), (q_a0_refused, .inl (cI, 3, .inl u_10))]) hP hD [0, 2] [1] rfl rfl (by decide) (by decide) hk1 hFc hP1 hD1
      clear hz1 hk1 hPc hDc hFc hP1 hD1
      generalize H1 = H at hP hS ⊢
      have hP : va_P D vwCl [(q_a0_told, .inl (cI, 163, .inl a0_told)), (q_a0, .inr (8, [.ref q_a0_told, .ref q_a0_kept, .ref q_a0_isKept, .ref q_a0_refused, .long a0_above, .long a0_below, .ref q_a0_manyBy, .ref q_a0_hers, .ref q_a0_his, .ref q_a0_hand, .ref q_a0_bytes, .int a0_bytesLong, .int a0_tokenAt, .int a0_tokenLong, .int a0_token, .int a0_value, .ref q_a0_anew, .ref q_a0_values])), (q_a0_refused, .inl (cI, 3, .inl u_10))] H := hP
      have hD : va_D A [(q_a0_told, .inl (cI, 163, .inl a0_told)), (q_a0, .inr (8, [.ref q_a0_told, .ref q_a0_kept, .ref q_a0_isKept, .ref q_a0_refused, .long a0_above, .long a0_below, .ref q_a0_manyBy, .ref q_a0_hers, .ref q_a0_his, .ref q_a0_hand, .ref q_a0_bytes, .int a0_bytesLong, .int a0_tokenAt, .int a0_tokenLong, .int a0_token, .int a0_value, .ref q_a0_anew, .ref q_a0_values])), (q_a0_refused, .inl (cI, 3, .inl u_10))] := hD
      subst hQQ
      have hP9 := hP.sub (ws' := [(q_a0, .inr (8, [.ref q_a0_told, .ref q_a0_kept, .ref q_a0_isKept, .ref q_a0_refused, .long a0_above, .long a0_below, .ref q_a0_manyBy, .ref q_a0_hers, .ref q_a0_his, .ref q_a0_hand, .ref q_a0_bytes, .int a0_bytesLong, .int a0_tokenAt, .int a0_tokenLong, .int a0_token, .int a0_value, .ref q_a0_anew, .ref q_a0_values])), (q_a0_told, .inl (cI, 163, .inl a0_told)), (q_a0_refused, .inl (cI, 3, .inl u_10))]) [1, 0, 2] rfl
      have hD9 := hD.sub (ws' := [(q_a0, .inr (8, [.ref q_a0_told, .ref q_a0_kept, .ref q_a0_isKept, .ref q_a0_refused, .long a0_above, .long a0_below, .ref q_a0_manyBy, .ref q_a0_hers, .ref q_a0_his, .ref q_a0_hand, .ref q_a0_bytes, .int a0_bytesLong, .int a0_tokenAt, .int a0_tokenLong, .int a0_token, .int a0_value, .ref q_a0_anew, .ref q_a0_values])), (q_a0_told, .inl (cI, 163, .inl a0_told)), (q_a0_refused, .inl (cI, 3, .inl u_10))]) [1, 0, 2] (by decide) rfl
      exact W.iret hx hb hr (fun t ht hW => ⟨⟨r_9, (a0_told, u_10), rfl, hf, by rw [ht]; exact hP9, hD9⟩, hS.F ht⟩) hS.2.2 dX9_road_20
def p_X9_layBend (n_a0 : Nat) (a0 : Nat → Int32) (x1 : Int32) (x2 : Int32) (x3 : Int32) (x4 : Int32) (Q : (Nat → Int32) → Prop) : Prop :=
  vp_in 0 n_a0 ∧ (vp_in (18 + (a0 (0 : Int32).toNatClampNeg)) n_a0 ∧ (vp_in (26 + (a0 (0 : Int32).toNatClampNeg)) n_a0 ∧ (vp_in (7 + (a0 (0 : Int32).toNatClampNeg)) n_a0 ∧ (vp_in (34 + (a0 (0 : Int32).toNatClampNeg)) n_a0 ∧ (vp_in 0 n_a0 ∧ (vp_in 0 n_a0 ∧ (Q (upd (upd (upd (upd (upd a0 ((18 + (a0 (0 : Int32).toNatClampNeg)).toNatClampNeg) x1) ((26 + (a0 (0 : Int32).toNatClampNeg)).toNatClampNeg) x2) ((7 + (a0 (0 : Int32).toNatClampNeg)).toNatClampNeg) x3) ((34 + (a0 (0 : Int32).toNatClampNeg)).toNatClampNeg) x4) ((0 : Int32).toNatClampNeg) (((upd (upd (upd (upd a0 ((18 + (a0 (0 : Int32).toNatClampNeg)).toNatClampNeg) x1) ((26 + (a0 (0 : Int32).toNatClampNeg)).toNatClampNeg) x2) ((7 + (a0 (0 : Int32).toNatClampNeg)).toNatClampNeg) x3) ((34 + (a0 (0 : Int32).toNatClampNeg)).toNatClampNeg) x4) (0 : Int32).toNatClampNeg) + 1)))))))))
def rmX9_layBend : Room := { frames := 0, cells := 0, slots := 0, locals := 0 }
set_option maxHeartbeats 4000000 in
set_option maxRecDepth 100000 in
theorem c_X9_layBend (l : Launch) (D : va_G) (cI cZ cO : ClassId) (q_a0 : Nat) (n_a0 : Nat) (a0 : Nat → Int32) (sz : Nat) (x1 : Int32) (x2 : Int32) (x3 : Int32) (x4 : Int32) (Q : (Nat → Int32) → Prop) (hf : p_X9_layBend n_a0 a0 x1 x2 x3 x4 Q) : Met l yX9_layBend wsX9_layBend rmX9_layBend (va_Pc [.ref q_a0, .int x1, .int x2, .int x3, .int x4] (fun U => U.heap.size = sz ∧ va_P D vwCl [(q_a0, .inl (cI, n_a0, .inl a0))] U.heap ∧ XK D cI cZ cO U ∧ va_D (fun _ => True) [(q_a0, .inl (cI, n_a0, .inl a0))])) (va_Qv (fun (u : (Nat → Int32)) => Q u) (fun (u : (Nat → Int32)) t => va_P D vwCl [(q_a0, .inl (cI, n_a0, .inl u))] t.heap ∧ va_D (va_A [(q_a0, .inl (cI, n_a0, .inl a0))] sz) [(q_a0, .inl (cI, n_a0, .inl u))]) (va_A [(q_a0, .inl (cI, n_a0, .inl a0))] sz)) 0 0 (va_A [(q_a0, .inl (cI, n_a0, .inl a0))] sz) := by
  refine Met.ofW (cc := cX9_layBend) (maxL := 6) (ret := none) (by decide) rfl ?_
  intro p e s m args below meth c s₁ B hml hv
  obtain ⟨rfl, hsz, hP, hX, hD0⟩ := hv
  have hK := hX.1
  have hx := B.exec
  have hb := B.bytes
  have hr := B.returns
  have hts := atoms_spec (ws := wsX9_layBend) B.pre
  have hown : s.vm.findClass RX9 = some m.cls := findClass_of_methodNamed B.named
  have hlocks := B.notSynchronized
  subst hsz
  have hD := hD0.self (sz := s.heap.size)
  generalize hAe : va_A [(q_a0, .inl (cI, n_a0, .inl a0))] s.heap.size = A at hD ⊢
  have hA : ∀ q : Nat, s.heap.size ≤ q → A q := fun q h => by rw [← hAe]; exact Or.inr h
  have hS : va_S A s.heap s.heap [] := va_S.rf
  have hP : va_P D vwCl [(q_a0, .inl (cI, n_a0, .inl a0))] s.heap := hP
  generalize hQQ : MQ below _ _ s _ _ _ = QQ
  have hl := lv_entry ([.ref q_a0, .int x1, .int x2, .int x3, .int x4]) (n := 6) (Nat.le_of_ble_eq_true rfl)
  rw [lg_entry_eq]
  generalize (lg_sl ([.ref q_a0, .int x1, .int x2, .int x3, .int x4]) ++ List.replicate (6 - (lg_sl ([.ref q_a0, .int x1, .int x2, .int x3, .int x4])).length) Slot.unset).toArray = ls at hl ⊢
  have hl : lv_has ls 6 [(0, .ref q_a0), (1, .int x1), (2, .int x2), (3, .int x3), (4, .int x4)] := hl
  unfold p_X9_layBend at hf
  refine lv_aload_n hx hb dX9_layBend_0 rfl (lv_at hl 0 rfl) ?_
  refine lv_iconst (v := 0) hx hb dX9_layBend_1 (by decide) ?_
  refine va_iald hx hb hK hP 0 0 rfl rfl hf.1 dX9_layBend_2 ?_
  have hf := hf.2
  refine lv_istore (lv' := [(5, .int (a0 (0 : Int32).toNatClampNeg)), (0, .ref q_a0), (1, .int x1), (2, .int x2), (3, .int x3), (4, .int x4)]) hx hb dX9_layBend_3 hl (by decide) rfl (fun ls hl => ?_)
  refine lv_aload_n hx hb dX9_layBend_5 rfl (lv_at hl 1 rfl) ?_
  refine lv_bipush (v := 18) hx hb dX9_layBend_6 (by decide) ?_
  refine lv_iload hx hb dX9_layBend_8 (lv_at hl 0 rfl) ?_
  refine lv_iadd hx hb dX9_layBend_10 ?_
  refine lv_iload_n hx hb dX9_layBend_11 rfl (lv_at hl 2 rfl) ?_
  refine va_iast hx hb hK hP hD hS 0 0 rfl rfl hf.1 dX9_layBend_12 (fun H locs hP hD hS => ?_)
  have hP : va_P D vwCl [(q_a0, .inl (cI, n_a0, .inl (upd a0 ((18 + (a0 (0 : Int32).toNatClampNeg)).toNatClampNeg) x1)))] H := hP
  have hD : va_D A [(q_a0, .inl (cI, n_a0, .inl (upd a0 ((18 + (a0 (0 : Int32).toNatClampNeg)).toNatClampNeg) x1)))] := hD
  have hf := hf.2
  refine lv_aload_n hx hb dX9_layBend_13 rfl (lv_at hl 1 rfl) ?_
  refine lv_bipush (v := 26) hx hb dX9_layBend_14 (by decide) ?_
  refine lv_iload hx hb dX9_layBend_16 (lv_at hl 0 rfl) ?_
  refine lv_iadd hx hb dX9_layBend_18 ?_
  refine lv_iload_n hx hb dX9_layBend_19 rfl (lv_at hl 3 rfl) ?_
  refine va_iast hx hb hK hP hD hS 0 0 rfl rfl hf.1 dX9_layBend_20 (fun H locs hP hD hS => ?_)
  have hP : va_P D vwCl [(q_a0, .inl (cI, n_a0, .inl (upd (upd a0 ((18 + (a0 (0 : Int32).toNatClampNeg)).toNatClampNeg) x1) ((26 + (a0 (0 : Int32).toNatClampNeg)).toNatClampNeg) x2)))] H := hP
  have hD : va_D A [(q_a0, .inl (cI, n_a0, .inl (upd (upd a0 ((18 + (a0 (0 : Int32).toNatClampNeg)).toNatClampNeg) x1) ((26 + (a0 (0 : Int32).toNatClampNeg)).toNatClampNeg) x2)))] := hD
  have hf := hf.2
  refine lv_aload_n hx hb dX9_layBend_21 rfl (lv_at hl 1 rfl) ?_
  refine lv_bipush (v := 7) hx hb dX9_layBend_22 (by decide) ?_
  refine lv_iload hx hb dX9_layBend_24 (lv_at hl 0 rfl) ?_
  refine lv_iadd hx hb dX9_layBend_26 ?_
  refine lv_iload_n hx hb dX9_layBend_27 rfl (lv_at hl 4 rfl) ?_
  refine va_iast hx hb hK hP hD hS 0 0 rfl rfl hf.1 dX9_layBend_28 (fun H locs hP hD hS => ?_)
  have hP : va_P D vwCl [(q_a0, .inl (cI, n_a0, .inl (upd (upd (upd a0 ((18 + (a0 (0 : Int32).toNatClampNeg)).toNatClampNeg) x1) ((26 + (a0 (0 : Int32).toNatClampNeg)).toNatClampNeg) x2) ((7 + (a0 (0 : Int32).toNatClampNeg)).toNatClampNeg) x3)))] H := hP
  have hD : va_D A [(q_a0, .inl (cI, n_a0, .inl (upd (upd (upd a0 ((18 + (a0 (0 : Int32).toNatClampNeg)).toNatClampNeg) x1) ((26 + (a0 (0 : Int32).toNatClampNeg)).toNatClampNeg) x2) ((7 + (a0 (0 : Int32).toNatClampNeg)).toNatClampNeg) x3)))] := hD
  have hf := hf.2
  refine lv_aload_n hx hb dX9_layBend_29 rfl (lv_at hl 1 rfl) ?_
  refine lv_bipush (v := 34) hx hb dX9_layBend_30 (by decide) ?_
  refine lv_iload hx hb dX9_layBend_32 (lv_at hl 0 rfl) ?_
  refine lv_iadd hx hb dX9_layBend_34 ?_
  refine lv_iload hx hb dX9_layBend_35 (lv_at hl 5 rfl) ?_
  refine va_iast hx hb hK hP hD hS 0 0 rfl rfl hf.1 dX9_layBend_37 (fun H locs hP hD hS => ?_)
  have hP : va_P D vwCl [(q_a0, .inl (cI, n_a0, .inl (upd (upd (upd (upd a0 ((18 + (a0 (0 : Int32).toNatClampNeg)).toNatClampNeg) x1) ((26 + (a0 (0 : Int32).toNatClampNeg)).toNatClampNeg) x2) ((7 + (a0 (0 : Int32).toNatClampNeg)).toNatClampNeg) x3) ((34 + (a0 (0 : Int32).toNatClampNeg)).toNatClampNeg) x4)))] H := hP
  have hD : va_D A [(q_a0, .inl (cI, n_a0, .inl (upd (upd (upd (upd a0 ((18 + (a0 (0 : Int32).toNatClampNeg)).toNatClampNeg) x1) ((26 + (a0 (0 : Int32).toNatClampNeg)).toNatClampNeg) x2) ((7 + (a0 (0 : Int32).toNatClampNeg)).toNatClampNeg) x3) ((34 + (a0 (0 : Int32).toNatClampNeg)).toNatClampNeg) x4)))] := hD
  have hf := hf.2
  refine lv_aload_n hx hb dX9_layBend_38 rfl (lv_at hl 1 rfl) ?_
  refine lv_iconst (v := 0) hx hb dX9_layBend_39 (by decide) ?_
  refine lv_dup2_11 hx hb dX9_layBend_40 rfl rfl ?_
  refine va_iald hx hb hK hP 0 0 rfl rfl hf.1 dX9_layBend_41 ?_
  have hf := hf.2
  refine lv_iconst (v := 1) hx hb dX9_layBend_42 (by decide) ?_
  refine lv_iadd hx hb dX9_layBend_43 ?_
  refine va_iast hx hb hK hP hD hS 0 0 rfl rfl hf.1 dX9_layBend_44 (fun H locs hP hD hS => ?_)
  have hP : va_P D vwCl [(q_a0, .inl (cI, n_a0, .inl (upd (upd (upd (upd (upd a0 ((18 + (a0 (0 : Int32).toNatClampNeg)).toNatClampNeg) x1) ((26 + (a0 (0 : Int32).toNatClampNeg)).toNatClampNeg) x2) ((7 + (a0 (0 : Int32).toNatClampNeg)).toNatClampNeg) x3) ((34 + (a0 (0 : Int32).toNatClampNeg)).toNatClampNeg) x4) ((0 : Int32).toNatClampNeg) (((upd (upd (upd (upd a0 ((18 + (a0 (0 : Int32).toNatClampNeg)).toNatClampNeg) x1) ((26 + (a0 (0 : Int32).toNatClampNeg)).toNatClampNeg) x2) ((7 + (a0 (0 : Int32).toNatClampNeg)).toNatClampNeg) x3) ((34 + (a0 (0 : Int32).toNatClampNeg)).toNatClampNeg) x4) (0 : Int32).toNatClampNeg) + 1))))] H := hP
  have hD : va_D A [(q_a0, .inl (cI, n_a0, .inl (upd (upd (upd (upd (upd a0 ((18 + (a0 (0 : Int32).toNatClampNeg)).toNatClampNeg) x1) ((26 + (a0 (0 : Int32).toNatClampNeg)).toNatClampNeg) x2) ((7 + (a0 (0 : Int32).toNatClampNeg)).toNatClampNeg) x3) ((34 + (a0 (0 : Int32).toNatClampNeg)).toNatClampNeg) x4) ((0 : Int32).toNatClampNeg) (((upd (upd (upd (upd a0 ((18 + (a0 (0 : Int32).toNatClampNeg)).toNatClampNeg) x1) ((26 + (a0 (0 : Int32).toNatClampNeg)).toNatClampNeg) x2) ((7 + (a0 (0 : Int32).toNatClampNeg)).toNatClampNeg) x3) ((34 + (a0 (0 : Int32).toNatClampNeg)).toNatClampNeg) x4) (0 : Int32).toNatClampNeg) + 1))))] := hD
  have hf := hf.2
  subst hQQ
  have hP9 := hP.sub (ws' := [(q_a0, .inl (cI, n_a0, .inl (upd (upd (upd (upd (upd a0 ((18 + (a0 (0 : Int32).toNatClampNeg)).toNatClampNeg) x1) ((26 + (a0 (0 : Int32).toNatClampNeg)).toNatClampNeg) x2) ((7 + (a0 (0 : Int32).toNatClampNeg)).toNatClampNeg) x3) ((34 + (a0 (0 : Int32).toNatClampNeg)).toNatClampNeg) x4) ((0 : Int32).toNatClampNeg) (((upd (upd (upd (upd a0 ((18 + (a0 (0 : Int32).toNatClampNeg)).toNatClampNeg) x1) ((26 + (a0 (0 : Int32).toNatClampNeg)).toNatClampNeg) x2) ((7 + (a0 (0 : Int32).toNatClampNeg)).toNatClampNeg) x3) ((34 + (a0 (0 : Int32).toNatClampNeg)).toNatClampNeg) x4) (0 : Int32).toNatClampNeg) + 1))))]) [0] rfl
  have hD9 := hD.sub (ws' := [(q_a0, .inl (cI, n_a0, .inl (upd (upd (upd (upd (upd a0 ((18 + (a0 (0 : Int32).toNatClampNeg)).toNatClampNeg) x1) ((26 + (a0 (0 : Int32).toNatClampNeg)).toNatClampNeg) x2) ((7 + (a0 (0 : Int32).toNatClampNeg)).toNatClampNeg) x3) ((34 + (a0 (0 : Int32).toNatClampNeg)).toNatClampNeg) x4) ((0 : Int32).toNatClampNeg) (((upd (upd (upd (upd a0 ((18 + (a0 (0 : Int32).toNatClampNeg)).toNatClampNeg) x1) ((26 + (a0 (0 : Int32).toNatClampNeg)).toNatClampNeg) x2) ((7 + (a0 (0 : Int32).toNatClampNeg)).toNatClampNeg) x3) ((34 + (a0 (0 : Int32).toNatClampNeg)).toNatClampNeg) x4) (0 : Int32).toNatClampNeg) + 1))))]) [0] (by decide) rfl
  exact W.vret hx hb hr (fun t ht hW => ⟨⟨(upd (upd (upd (upd (upd a0 ((18 + (a0 (0 : Int32).toNatClampNeg)).toNatClampNeg) x1) ((26 + (a0 (0 : Int32).toNatClampNeg)).toNatClampNeg) x2) ((7 + (a0 (0 : Int32).toNatClampNeg)).toNatClampNeg) x3) ((34 + (a0 (0 : Int32).toNatClampNeg)).toNatClampNeg) x4) ((0 : Int32).toNatClampNeg) (((upd (upd (upd (upd a0 ((18 + (a0 (0 : Int32).toNatClampNeg)).toNatClampNeg) x1) ((26 + (a0 (0 : Int32).toNatClampNeg)).toNatClampNeg) x2) ((7 + (a0 (0 : Int32).toNatClampNeg)).toNatClampNeg) x3) ((34 + (a0 (0 : Int32).toNatClampNeg)).toNatClampNeg) x4) (0 : Int32).toNatClampNeg) + 1)), rfl, hf, by rw [ht]; exact hP9, hD9⟩, hS.F ht⟩) hS.2.2 dX9_layBend_45
def p_X9_bend (a0_told : Nat → Int32) (a0_refused : Nat → Int32) (x1 : Int32) (x2 : Int32) (x3 : Int32) (x4 : Int32) (Q : Int32 → (Nat → Int32) → (Nat → Int32) → Prop) : Prop :=
  p_X9_in x1.toInt64 1 9 (fun r_1 => if r_1 = 0 then (p_X9_bad a0_refused (-2) (fun r_3 u_4 => Q r_3 a0_told u_4)) else (p_X9_in x2.toInt64 1 6 (fun r_5 => if r_5 = 0 then (p_X9_bad a0_refused (-2) (fun r_7 u_8 => Q r_7 a0_told u_8)) else (p_X9_isNote x3 (fun r_9 => if r_9 = 0 then (p_X9_bad a0_refused (-2) (fun r_11 u_12 => Q r_11 a0_told u_12)) else (p_X9_in x4.toInt64 1 9 (fun r_13 => if r_13 = 0 then (p_X9_bad a0_refused (-2) (fun r_21 u_22 => Q r_21 a0_told u_22)) else (p_X9_many a0_told (fun r_15 => if r_15 = 8 then (p_X9_full a0_refused (fun r_19 u_20 => Q r_19 a0_told u_20)) else (p_X9_layBend 163 a0_told x1 x2 x3 x4 (fun u_17 => p_X9_many (upd u_17 ((3 : Int32).toNatClampNeg) 0) (fun r_18 => Q (r_18 - 1) (upd u_17 ((3 : Int32).toNatClampNeg) 0) a0_refused))))))))))))
def rmX9_bend : Room := { frames := 2, cells := 0, slots := 0, locals := 45 }
set_option maxHeartbeats 4000000 in
set_option maxRecDepth 100000 in
theorem c_X9_bend (l : Launch) (D : va_G) (cI cZ cO : ClassId) (q_a0 q_a0_told q_a0_kept q_a0_isKept q_a0_refused q_a0_manyBy q_a0_hers q_a0_his q_a0_hand q_a0_bytes q_a0_anew q_a0_values : Nat) (a0_above : Int64) (a0_below : Int64) (a0_bytesLong : Int32) (a0_tokenAt : Int32) (a0_tokenLong : Int32) (a0_token : Int32) (a0_value : Int32) (a0_told : Nat → Int32) (a0_refused : Nat → Int32) (sz : Nat) (x1 : Int32) (x2 : Int32) (x3 : Int32) (x4 : Int32) (Q : Int32 → (Nat → Int32) → (Nat → Int32) → Prop) (hf : p_X9_bend a0_told a0_refused x1 x2 x3 x4 Q) : Met l yX9_bend wsX9_bend rmX9_bend (va_Pc [.ref q_a0, .int x1, .int x2, .int x3, .int x4] (fun U => U.heap.size = sz ∧ va_P D vwCl [(q_a0, .inr (8, [.ref q_a0_told, .ref q_a0_kept, .ref q_a0_isKept, .ref q_a0_refused, .long a0_above, .long a0_below, .ref q_a0_manyBy, .ref q_a0_hers, .ref q_a0_his, .ref q_a0_hand, .ref q_a0_bytes, .int a0_bytesLong, .int a0_tokenAt, .int a0_tokenLong, .int a0_token, .int a0_value, .ref q_a0_anew, .ref q_a0_values])), (q_a0_told, .inl (cI, 163, .inl a0_told)), (q_a0_refused, .inl (cI, 3, .inl a0_refused))] U.heap ∧ XK D cI cZ cO U ∧ va_D (fun _ => True) [(q_a0, .inr (8, [.ref q_a0_told, .ref q_a0_kept, .ref q_a0_isKept, .ref q_a0_refused, .long a0_above, .long a0_below, .ref q_a0_manyBy, .ref q_a0_hers, .ref q_a0_his, .ref q_a0_hand, .ref q_a0_bytes, .int a0_bytesLong, .int a0_tokenAt, .int a0_tokenLong, .int a0_token, .int a0_value, .ref q_a0_anew, .ref q_a0_values])), (q_a0_told, .inl (cI, 163, .inl a0_told)), (q_a0_refused, .inl (cI, 3, .inl a0_refused))])) (va_Qi (fun r (u : (Nat → Int32) × (Nat → Int32)) => Q r u.1 u.2) (fun (u : (Nat → Int32) × (Nat → Int32)) t => va_P D vwCl [(q_a0, .inr (8, [.ref q_a0_told, .ref q_a0_kept, .ref q_a0_isKept, .ref q_a0_refused, .long a0_above, .long a0_below, .ref q_a0_manyBy, .ref q_a0_hers, .ref q_a0_his, .ref q_a0_hand, .ref q_a0_bytes, .int a0_bytesLong, .int a0_tokenAt, .int a0_tokenLong, .int a0_token, .int a0_value, .ref q_a0_anew, .ref q_a0_values])), (q_a0_told, .inl (cI, 163, .inl u.1)), (q_a0_refused, .inl (cI, 3, .inl u.2))] t.heap ∧ va_D (va_A [(q_a0, .inr (8, [.ref q_a0_told, .ref q_a0_kept, .ref q_a0_isKept, .ref q_a0_refused, .long a0_above, .long a0_below, .ref q_a0_manyBy, .ref q_a0_hers, .ref q_a0_his, .ref q_a0_hand, .ref q_a0_bytes, .int a0_bytesLong, .int a0_tokenAt, .int a0_tokenLong, .int a0_token, .int a0_value, .ref q_a0_anew, .ref q_a0_values])), (q_a0_told, .inl (cI, 163, .inl a0_told)), (q_a0_refused, .inl (cI, 3, .inl a0_refused))] sz) [(q_a0, .inr (8, [.ref q_a0_told, .ref q_a0_kept, .ref q_a0_isKept, .ref q_a0_refused, .long a0_above, .long a0_below, .ref q_a0_manyBy, .ref q_a0_hers, .ref q_a0_his, .ref q_a0_hand, .ref q_a0_bytes, .int a0_bytesLong, .int a0_tokenAt, .int a0_tokenLong, .int a0_token, .int a0_value, .ref q_a0_anew, .ref q_a0_values])), (q_a0_told, .inl (cI, 163, .inl u.1)), (q_a0_refused, .inl (cI, 3, .inl u.2))]) (va_A [(q_a0, .inr (8, [.ref q_a0_told, .ref q_a0_kept, .ref q_a0_isKept, .ref q_a0_refused, .long a0_above, .long a0_below, .ref q_a0_manyBy, .ref q_a0_hers, .ref q_a0_his, .ref q_a0_hand, .ref q_a0_bytes, .int a0_bytesLong, .int a0_tokenAt, .int a0_tokenLong, .int a0_token, .int a0_value, .ref q_a0_anew, .ref q_a0_values])), (q_a0_told, .inl (cI, 163, .inl a0_told)), (q_a0_refused, .inl (cI, 3, .inl a0_refused))] sz)) 0 0 (va_A [(q_a0, .inr (8, [.ref q_a0_told, .ref q_a0_kept, .ref q_a0_isKept, .ref q_a0_refused, .long a0_above, .long a0_below, .ref q_a0_manyBy, .ref q_a0_hers, .ref q_a0_his, .ref q_a0_hand, .ref q_a0_bytes, .int a0_bytesLong, .int a0_tokenAt, .int a0_tokenLong, .int a0_token, .int a0_value, .ref q_a0_anew, .ref q_a0_values])), (q_a0_told, .inl (cI, 163, .inl a0_told)), (q_a0_refused, .inl (cI, 3, .inl a0_refused))] sz) := by
  refine Met.ofW (cc := cX9_bend) (maxL := 5) (ret := (some .int)) (by decide) rfl ?_
  intro p e s m args below meth c s₁ B hml hv
  obtain ⟨rfl, hsz, hP, hX, hD0⟩ := hv
  have hK := hX.1
  have hx := B.exec
  have hb := B.bytes
  have hr := B.returns
  have hts := atoms_spec (ws := wsX9_bend) B.pre
  have hown : s.vm.findClass RX9 = some m.cls := findClass_of_methodNamed B.named
  have hlocks := B.notSynchronized
  have in_X9 : ∀ w ∈ wsX90, w ∈ wsX9_bend := fun _ h => List.mem_cons_of_mem _ (List.mem_append_right _ h)
  have kc_64 := hts (.constantLong RX9 64 (9)) (by decide +kernel)
  have kc_62 := hts (.constantLong RX9 62 (6)) (by decide +kernel)
  have kf_7 := hts (.fieldLink RX9 7 "LeftCrestModel" "told" "[I") (by decide +kernel)
  subst hsz
  have hD := hD0.self (sz := s.heap.size)
  generalize hAe : va_A [(q_a0, .inr (8, [.ref q_a0_told, .ref q_a0_kept, .ref q_a0_isKept, .ref q_a0_refused, .long a0_above, .long a0_below, .ref q_a0_manyBy, .ref q_a0_hers, .ref q_a0_his, .ref q_a0_hand, .ref q_a0_bytes, .int a0_bytesLong, .int a0_tokenAt, .int a0_tokenLong, .int a0_token, .int a0_value, .ref q_a0_anew, .ref q_a0_values])), (q_a0_told, .inl (cI, 163, .inl a0_told)), (q_a0_refused, .inl (cI, 3, .inl a0_refused))] s.heap.size = A at hD ⊢
  have hA : ∀ q : Nat, s.heap.size ≤ q → A q := fun q h => by rw [← hAe]; exact Or.inr h
  have hS : va_S A s.heap s.heap [] := va_S.rf
  have hP : va_P D vwCl [(q_a0, .inr (8, [.ref q_a0_told, .ref q_a0_kept, .ref q_a0_isKept, .ref q_a0_refused, .long a0_above, .long a0_below, .ref q_a0_manyBy, .ref q_a0_hers, .ref q_a0_his, .ref q_a0_hand, .ref q_a0_bytes, .int a0_bytesLong, .int a0_tokenAt, .int a0_tokenLong, .int a0_token, .int a0_value, .ref q_a0_anew, .ref q_a0_values])), (q_a0_told, .inl (cI, 163, .inl a0_told)), (q_a0_refused, .inl (cI, 3, .inl a0_refused))] s.heap := hP
  generalize hQQ : MQ below _ _ s _ _ _ = QQ
  have hl := lv_entry ([.ref q_a0, .int x1, .int x2, .int x3, .int x4]) (n := 5) (Nat.le_of_ble_eq_true rfl)
  rw [lg_entry_eq]
  generalize (lg_sl ([.ref q_a0, .int x1, .int x2, .int x3, .int x4]) ++ List.replicate (5 - (lg_sl ([.ref q_a0, .int x1, .int x2, .int x3, .int x4])).length) Slot.unset).toArray = ls at hl ⊢
  have hl : lv_has ls 5 [(0, .ref q_a0), (1, .int x1), (2, .int x2), (3, .int x3), (4, .int x4)] := hl
  unfold p_X9_bend at hf
  refine lv_iload_n hx hb dX9_bend_0 rfl (lv_at hl 1 rfl) ?_
  refine lv_i2l hx hb dX9_bend_1 rfl ?_
  refine lv_lconst (v := 1) hx hb dX9_bend_2 (by decide) ?_
  refine lv_ldc2 (v := 9) hx hb hown kc_64 dX9_bend_3 ?_
  refine ya_csi (va_runS (As := [.long x1.toInt64, .long 1, .long 9]) (rest := []) ⟨hx, hb, hml, hown, hts⟩ (c_X9_in l D cI cZ cO  x1.toInt64 1 9 _ hf) (va_cwS 3 hts gX9_bend_X9_in rfl rfl rfl (by decide +kernel) ⟨Nat.le_of_ble_eq_true rfl, Nat.le_of_ble_eq_true rfl⟩) (ps_ro va_P0 hX) rfl rfl hl.1 rfl (lv_room (Nat.le_of_ble_eq_true rfl)) dX9_bend_6 ⟨Nat.zero_le _, Nat.zero_le _⟩) (fun r_1 hf => ?_)
  refine lv_if_eq (tgt := 44) hx hb dX9_bend_9 (by decide) (fun c_2 => ?_) (fun c_2 => ?_)
  · have hf := it_t c_2 hf
    refine lv_aload_n hx hb dX9_bend_44 rfl (lv_at hl 0 rfl) ?_
    refine lv_bipush (v := (-2)) hx hb dX9_bend_45 (by decide) ?_
    have hPc := hP.sub (ws' := [(q_a0, .inr (8, [.ref q_a0_told, .ref q_a0_kept, .ref q_a0_isKept, .ref q_a0_refused, .long a0_above, .long a0_below, .ref q_a0_manyBy, .ref q_a0_hers, .ref q_a0_his, .ref q_a0_hand, .ref q_a0_bytes, .int a0_bytesLong, .int a0_tokenAt, .int a0_tokenLong, .int a0_token, .int a0_value, .ref q_a0_anew, .ref q_a0_values])), (q_a0_refused, .inl (cI, 3, .inl a0_refused))]) [0, 2] rfl
    have hDc := hD.sub (ws' := [(q_a0, .inr (8, [.ref q_a0_told, .ref q_a0_kept, .ref q_a0_isKept, .ref q_a0_refused, .long a0_above, .long a0_below, .ref q_a0_manyBy, .ref q_a0_hers, .ref q_a0_his, .ref q_a0_hand, .ref q_a0_bytes, .int a0_bytesLong, .int a0_tokenAt, .int a0_tokenLong, .int a0_token, .int a0_value, .ref q_a0_anew, .ref q_a0_values])), (q_a0_refused, .inl (cI, 3, .inl a0_refused))]) [0, 2] (by decide) rfl
    have hFc := va_free (wc := [(q_a0, .inr (8, [.ref q_a0_told, .ref q_a0_kept, .ref q_a0_isKept, .ref q_a0_refused, .long a0_above, .long a0_below, .ref q_a0_manyBy, .ref q_a0_hers, .ref q_a0_his, .ref q_a0_hand, .ref q_a0_bytes, .int a0_bytesLong, .int a0_tokenAt, .int a0_tokenLong, .int a0_token, .int a0_value, .ref q_a0_anew, .ref q_a0_values])), (q_a0_refused, .inl (cI, 3, .inl a0_refused))]) hD hS hA [0, 2] rfl
    refine va_calli (va_runV (As := [.int (-2)]) (rest := []) ⟨hx, hb, hml, hown, hts⟩ (c_X9_bad l D cI cZ cO q_a0 q_a0_told q_a0_kept q_a0_isKept q_a0_refused q_a0_manyBy q_a0_hers q_a0_his q_a0_hand q_a0_bytes q_a0_anew q_a0_values a0_above a0_below a0_bytesLong a0_tokenAt a0_tokenLong a0_token a0_value a0_refused s.heap.size (-2) _ hf) (cwV 1 hts gX9_bend_X9_bad rfl rfl rfl (by decide +kernel) ⟨Nat.le_of_ble_eq_true rfl, Nat.le_of_ble_eq_true rfl⟩) (pv_rw (ci := 8) (q0 := 0) hPc hDc hX rfl rfl) rfl rfl hl.1 rfl (lv_room (Nat.le_of_ble_eq_true rfl)) dX9_bend_47 ⟨Nat.zero_le _, Nat.zero_le _⟩) hS (fun q _ h => hFc q h) hFc (fun r_3 u t H1 locs ht hvm hf hB hz1 hk1 hS => ?_)
    obtain ⟨u_4, rfl⟩ : ∃ z, z = u := ⟨_, rfl⟩
    obtain ⟨hP1, hD1⟩ := hB
    rw [ht] at hP1
    clear hvm
    obtain ⟨hP, hD⟩ := va_join (wr := [(q_a0_told, .inl (cI, 163, .inl a0_told))]) (w1 := [(q_a0, .inr (8, [.ref q_a0_told, .ref q_a0_kept, .ref q_a0_isKept, .ref q_a0_refused, .long a0_above, .long a0_below, .ref q_a0_manyBy, .ref q_a0_hers, .ref q_a0_his, .ref q_a0_hand, .ref q_a0_bytes, .int a0_bytesLong, .int a0_tokenAt, .int a0_tokenLong, .int a0_token, .int a0_value, .ref q_a0_anew, .ref q_a0_values])), (q_a0_refused, .inl (cI, 3, .inl u_4))]) hP hD [0, 2] [1] rfl rfl (by decide) (by decide) hk1 hFc hP1 hD1
    clear hz1 hk1 hPc hDc hFc hP1 hD1
    generalize H1 = H at hP hS ⊢
    have hP : va_P D vwCl [(q_a0_told, .inl (cI, 163, .inl a0_told)), (q_a0, .inr (8, [.ref q_a0_told, .ref q_a0_kept, .ref q_a0_isKept, .ref q_a0_refused, .long a0_above, .long a0_below, .ref q_a0_manyBy, .ref q_a0_hers, .ref q_a0_his, .ref q_a0_hand, .ref q_a0_bytes, .int a0_bytesLong, .int a0_tokenAt, .int a0_tokenLong, .int a0_token, .int a0_value, .ref q_a0_anew, .ref q_a0_values])), (q_a0_refused, .inl (cI, 3, .inl u_4))] H := hP
    have hD : va_D A [(q_a0_told, .inl (cI, 163, .inl a0_told)), (q_a0, .inr (8, [.ref q_a0_told, .ref q_a0_kept, .ref q_a0_isKept, .ref q_a0_refused, .long a0_above, .long a0_below, .ref q_a0_manyBy, .ref q_a0_hers, .ref q_a0_his, .ref q_a0_hand, .ref q_a0_bytes, .int a0_bytesLong, .int a0_tokenAt, .int a0_tokenLong, .int a0_token, .int a0_value, .ref q_a0_anew, .ref q_a0_values])), (q_a0_refused, .inl (cI, 3, .inl u_4))] := hD
    subst hQQ
    have hP9 := hP.sub (ws' := [(q_a0, .inr (8, [.ref q_a0_told, .ref q_a0_kept, .ref q_a0_isKept, .ref q_a0_refused, .long a0_above, .long a0_below, .ref q_a0_manyBy, .ref q_a0_hers, .ref q_a0_his, .ref q_a0_hand, .ref q_a0_bytes, .int a0_bytesLong, .int a0_tokenAt, .int a0_tokenLong, .int a0_token, .int a0_value, .ref q_a0_anew, .ref q_a0_values])), (q_a0_told, .inl (cI, 163, .inl a0_told)), (q_a0_refused, .inl (cI, 3, .inl u_4))]) [1, 0, 2] rfl
    have hD9 := hD.sub (ws' := [(q_a0, .inr (8, [.ref q_a0_told, .ref q_a0_kept, .ref q_a0_isKept, .ref q_a0_refused, .long a0_above, .long a0_below, .ref q_a0_manyBy, .ref q_a0_hers, .ref q_a0_his, .ref q_a0_hand, .ref q_a0_bytes, .int a0_bytesLong, .int a0_tokenAt, .int a0_tokenLong, .int a0_token, .int a0_value, .ref q_a0_anew, .ref q_a0_values])), (q_a0_told, .inl (cI, 163, .inl a0_told)), (q_a0_refused, .inl (cI, 3, .inl u_4))]) [1, 0, 2] (by decide) rfl
    exact W.iret hx hb hr (fun t ht hW => ⟨⟨r_3, (a0_told, u_4), rfl, hf, by rw [ht]; exact hP9, hD9⟩, hS.F ht⟩) hS.2.2 dX9_bend_50
  · have hf := it_f c_2 hf
    refine lv_iload_n hx hb dX9_bend_12 rfl (lv_at hl 2 rfl) ?_
    refine lv_i2l hx hb dX9_bend_13 rfl ?_
    refine lv_lconst (v := 1) hx hb dX9_bend_14 (by decide) ?_
    refine lv_ldc2 (v := 6) hx hb hown kc_62 dX9_bend_15 ?_
    refine ya_csi (va_runS (As := [.long x2.toInt64, .long 1, .long 6]) (rest := []) ⟨hx, hb, hml, hown, hts⟩ (c_X9_in l D cI cZ cO  x2.toInt64 1 6 _ hf) (va_cwS 3 hts gX9_bend_X9_in rfl rfl rfl (by decide +kernel) ⟨Nat.le_of_ble_eq_true rfl, Nat.le_of_ble_eq_true rfl⟩) (ps_ro va_P0 hX) rfl rfl hl.1 rfl (lv_room (Nat.le_of_ble_eq_true rfl)) dX9_bend_18 ⟨Nat.zero_le _, Nat.zero_le _⟩) (fun r_5 hf => ?_)
    refine lv_if_eq (tgt := 44) hx hb dX9_bend_21 (by decide) (fun c_6 => ?_) (fun c_6 => ?_)
    · have hf := it_t c_6 hf
      refine lv_aload_n hx hb dX9_bend_44 rfl (lv_at hl 0 rfl) ?_
      refine lv_bipush (v := (-2)) hx hb dX9_bend_45 (by decide) ?_
      have hPc := hP.sub (ws' := [(q_a0, .inr (8, [.ref q_a0_told, .ref q_a0_kept, .ref q_a0_isKept, .ref q_a0_refused, .long a0_above, .long a0_below, .ref q_a0_manyBy, .ref q_a0_hers, .ref q_a0_his, .ref q_a0_hand, .ref q_a0_bytes, .int a0_bytesLong, .int a0_tokenAt, .int a0_tokenLong, .int a0_token, .int a0_value, .ref q_a0_anew, .ref q_a0_values])), (q_a0_refused, .inl (cI, 3, .inl a0_refused))]) [0, 2] rfl
      have hDc := hD.sub (ws' := [(q_a0, .inr (8, [.ref q_a0_told, .ref q_a0_kept, .ref q_a0_isKept, .ref q_a0_refused, .long a0_above, .long a0_below, .ref q_a0_manyBy, .ref q_a0_hers, .ref q_a0_his, .ref q_a0_hand, .ref q_a0_bytes, .int a0_bytesLong, .int a0_tokenAt, .int a0_tokenLong, .int a0_token, .int a0_value, .ref q_a0_anew, .ref q_a0_values])), (q_a0_refused, .inl (cI, 3, .inl a0_refused))]) [0, 2] (by decide) rfl
      have hFc := va_free (wc := [(q_a0, .inr (8, [.ref q_a0_told, .ref q_a0_kept, .ref q_a0_isKept, .ref q_a0_refused, .long a0_above, .long a0_below, .ref q_a0_manyBy, .ref q_a0_hers, .ref q_a0_his, .ref q_a0_hand, .ref q_a0_bytes, .int a0_bytesLong, .int a0_tokenAt, .int a0_tokenLong, .int a0_token, .int a0_value, .ref q_a0_anew, .ref q_a0_values])), (q_a0_refused, .inl (cI, 3, .inl a0_refused))]) hD hS hA [0, 2] rfl
      refine va_calli (va_runV (As := [.int (-2)]) (rest := []) ⟨hx, hb, hml, hown, hts⟩ (c_X9_bad l D cI cZ cO q_a0 q_a0_told q_a0_kept q_a0_isKept q_a0_refused q_a0_manyBy q_a0_hers q_a0_his q_a0_hand q_a0_bytes q_a0_anew q_a0_values a0_above a0_below a0_bytesLong a0_tokenAt a0_tokenLong a0_token a0_value a0_refused s.heap.size (-2) _ hf) (cwV 1 hts gX9_bend_X9_bad rfl rfl rfl (by decide +kernel) ⟨Nat.le_of_ble_eq_true rfl, Nat.le_of_ble_eq_true rfl⟩) (pv_rw (ci := 8) (q0 := 0) hPc hDc hX rfl rfl) rfl rfl hl.1 rfl (lv_room (Nat.le_of_ble_eq_true rfl)) dX9_bend_47 ⟨Nat.zero_le _, Nat.zero_le _⟩) hS (fun q _ h => hFc q h) hFc (fun r_7 u t H1 locs ht hvm hf hB hz1 hk1 hS => ?_)
      obtain ⟨u_8, rfl⟩ : ∃ z, z = u := ⟨_, rfl⟩
      obtain ⟨hP1, hD1⟩ := hB
      rw [ht] at hP1
      clear hvm
      obtain ⟨hP, hD⟩ := va_join (wr := [(q_a0_told, .inl (cI, 163, .inl a0_told))]) (w1 := [(q_a0, .inr (8, [.ref q_a0_told, .ref q_a0_kept, .ref q_a0_isKept, .ref q_a0_refused, .long a0_above, .long a0_below, .ref q_a0_manyBy, .ref q_a0_hers, .ref q_a0_his, .ref q_a0_hand, .ref q_a0_bytes, .int a0_bytesLong, .int a0_tokenAt, .int a0_tokenLong, .int a0_token, .int a0_value, .ref q_a0_anew, .ref q_a0_values])), (q_a0_refused, .inl (cI, 3, .inl u_8))]) hP hD [0, 2] [1] rfl rfl (by decide) (by decide) hk1 hFc hP1 hD1
      clear hz1 hk1 hPc hDc hFc hP1 hD1
      generalize H1 = H at hP hS ⊢
      have hP : va_P D vwCl [(q_a0_told, .inl (cI, 163, .inl a0_told)), (q_a0, .inr (8, [.ref q_a0_told, .ref q_a0_kept, .ref q_a0_isKept, .ref q_a0_refused, .long a0_above, .long a0_below, .ref q_a0_manyBy, .ref q_a0_hers, .ref q_a0_his, .ref q_a0_hand, .ref q_a0_bytes, .int a0_bytesLong, .int a0_tokenAt, .int a0_tokenLong, .int a0_token, .int a0_value, .ref q_a0_anew, .ref q_a0_values])), (q_a0_refused, .inl (cI, 3, .inl u_8))] H := hP
      have hD : va_D A [(q_a0_told, .inl (cI, 163, .inl a0_told)), (q_a0, .inr (8, [.ref q_a0_told, .ref q_a0_kept, .ref q_a0_isKept, .ref q_a0_refused, .long a0_above, .long a0_below, .ref q_a0_manyBy, .ref q_a0_hers, .ref q_a0_his, .ref q_a0_hand, .ref q_a0_bytes, .int a0_bytesLong, .int a0_tokenAt, .int a0_tokenLong, .int a0_token, .int a0_value, .ref q_a0_anew, .ref q_a0_values])), (q_a0_refused, .inl (cI, 3, .inl u_8))] := hD
      subst hQQ
      have hP9 := hP.sub (ws' := [(q_a0, .inr (8, [.ref q_a0_told, .ref q_a0_kept, .ref q_a0_isKept, .ref q_a0_refused, .long a0_above, .long a0_below, .ref q_a0_manyBy, .ref q_a0_hers, .ref q_a0_his, .ref q_a0_hand, .ref q_a0_bytes, .int a0_bytesLong, .int a0_tokenAt, .int a0_tokenLong, .int a0_token, .int a0_value, .ref q_a0_anew, .ref q_a0_values])), (q_a0_told, .inl (cI, 163, .inl a0_told)), (q_a0_refused, .inl (cI, 3, .inl u_8))]) [1, 0, 2] rfl
      have hD9 := hD.sub (ws' := [(q_a0, .inr (8, [.ref q_a0_told, .ref q_a0_kept, .ref q_a0_isKept, .ref q_a0_refused, .long a0_above, .long a0_below, .ref q_a0_manyBy, .ref q_a0_hers, .ref q_a0_his, .ref q_a0_hand, .ref q_a0_bytes, .int a0_bytesLong, .int a0_tokenAt, .int a0_tokenLong, .int a0_token, .int a0_value, .ref q_a0_anew, .ref q_a0_values])), (q_a0_told, .inl (cI, 163, .inl a0_told)), (q_a0_refused, .inl (cI, 3, .inl u_8))]) [1, 0, 2] (by decide) rfl
      exact W.iret hx hb hr (fun t ht hW => ⟨⟨r_7, (a0_told, u_8), rfl, hf, by rw [ht]; exact hP9, hD9⟩, hS.F ht⟩) hS.2.2 dX9_bend_50
    · have hf := it_f c_6 hf
      refine lv_iload_n hx hb dX9_bend_24 rfl (lv_at hl 3 rfl) ?_
      refine ya_csi (va_runS (As := [.int x3]) (rest := []) ⟨hx, hb, hml, hown, hts⟩ (c_X9_isNote l D cI cZ cO  x3 _ hf) (va_cwS 1 hts gX9_bend_X9_isNote rfl rfl rfl (by decide +kernel) ⟨Nat.le_of_ble_eq_true rfl, Nat.le_of_ble_eq_true rfl⟩) (ps_ro va_P0 hX) rfl rfl hl.1 rfl (lv_room (Nat.le_of_ble_eq_true rfl)) dX9_bend_25 ⟨Nat.zero_le _, Nat.zero_le _⟩) (fun r_9 hf => ?_)
      refine lv_if_eq (tgt := 44) hx hb dX9_bend_28 (by decide) (fun c_10 => ?_) (fun c_10 => ?_)
      · have hf := it_t c_10 hf
        refine lv_aload_n hx hb dX9_bend_44 rfl (lv_at hl 0 rfl) ?_
        refine lv_bipush (v := (-2)) hx hb dX9_bend_45 (by decide) ?_
        have hPc := hP.sub (ws' := [(q_a0, .inr (8, [.ref q_a0_told, .ref q_a0_kept, .ref q_a0_isKept, .ref q_a0_refused, .long a0_above, .long a0_below, .ref q_a0_manyBy, .ref q_a0_hers, .ref q_a0_his, .ref q_a0_hand, .ref q_a0_bytes, .int a0_bytesLong, .int a0_tokenAt, .int a0_tokenLong, .int a0_token, .int a0_value, .ref q_a0_anew, .ref q_a0_values])), (q_a0_refused, .inl (cI, 3, .inl a0_refused))]) [0, 2] rfl
        have hDc := hD.sub (ws' := [(q_a0, .inr (8, [.ref q_a0_told, .ref q_a0_kept, .ref q_a0_isKept, .ref q_a0_refused, .long a0_above, .long a0_below, .ref q_a0_manyBy, .ref q_a0_hers, .ref q_a0_his, .ref q_a0_hand, .ref q_a0_bytes, .int a0_bytesLong, .int a0_tokenAt, .int a0_tokenLong, .int a0_token, .int a0_value, .ref q_a0_anew, .ref q_a0_values])), (q_a0_refused, .inl (cI, 3, .inl a0_refused))]) [0, 2] (by decide) rfl
        have hFc := va_free (wc := [(q_a0, .inr (8, [.ref q_a0_told, .ref q_a0_kept, .ref q_a0_isKept, .ref q_a0_refused, .long a0_above, .long a0_below, .ref q_a0_manyBy, .ref q_a0_hers, .ref q_a0_his, .ref q_a0_hand, .ref q_a0_bytes, .int a0_bytesLong, .int a0_tokenAt, .int a0_tokenLong, .int a0_token, .int a0_value, .ref q_a0_anew, .ref q_a0_values])), (q_a0_refused, .inl (cI, 3, .inl a0_refused))]) hD hS hA [0, 2] rfl
        refine va_calli (va_runV (As := [.int (-2)]) (rest := []) ⟨hx, hb, hml, hown, hts⟩ (c_X9_bad l D cI cZ cO q_a0 q_a0_told q_a0_kept q_a0_isKept q_a0_refused q_a0_manyBy q_a0_hers q_a0_his q_a0_hand q_a0_bytes q_a0_anew q_a0_values a0_above a0_below a0_bytesLong a0_tokenAt a0_tokenLong a0_token a0_value a0_refused s.heap.size (-2) _ hf) (cwV 1 hts gX9_bend_X9_bad rfl rfl rfl (by decide +kernel) ⟨Nat.le_of_ble_eq_true rfl, Nat.le_of_ble_eq_true rfl⟩) (pv_rw (ci := 8) (q0 := 0) hPc hDc hX rfl rfl) rfl rfl hl.1 rfl (lv_room (Nat.le_of_ble_eq_true rfl)) dX9_bend_47 ⟨Nat.zero_le _, Nat.zero_le _⟩) hS (fun q _ h => hFc q h) hFc (fun r_11 u t H1 locs ht hvm hf hB hz1 hk1 hS => ?_)
        obtain ⟨u_12, rfl⟩ : ∃ z, z = u := ⟨_, rfl⟩
        obtain ⟨hP1, hD1⟩ := hB
        rw [ht] at hP1
        clear hvm
        obtain ⟨hP, hD⟩ := va_join (wr := [(q_a0_told, .inl (cI, 163, .inl a0_told))]) (w1 := [(q_a0, .inr (8, [.ref q_a0_told, .ref q_a0_kept, .ref q_a0_isKept, .ref q_a0_refused, .long a0_above, .long a0_below, .ref q_a0_manyBy, .ref q_a0_hers, .ref q_a0_his, .ref q_a0_hand, .ref q_a0_bytes, .int a0_bytesLong, .int a0_tokenAt, .int a0_tokenLong, .int a0_token, .int a0_value, .ref q_a0_anew, .ref q_a0_values])), (q_a0_refused, .inl (cI, 3, .inl u_12))]) hP hD [0, 2] [1] rfl rfl (by decide) (by decide) hk1 hFc hP1 hD1
        clear hz1 hk1 hPc hDc hFc hP1 hD1
        generalize H1 = H at hP hS ⊢
        have hP : va_P D vwCl [(q_a0_told, .inl (cI, 163, .inl a0_told)), (q_a0, .inr (8, [.ref q_a0_told, .ref q_a0_kept, .ref q_a0_isKept, .ref q_a0_refused, .long a0_above, .long a0_below, .ref q_a0_manyBy, .ref q_a0_hers, .ref q_a0_his, .ref q_a0_hand, .ref q_a0_bytes, .int a0_bytesLong, .int a0_tokenAt, .int a0_tokenLong, .int a0_token, .int a0_value, .ref q_a0_anew, .ref q_a0_values])), (q_a0_refused, .inl (cI, 3, .inl u_12))] H := hP
        have hD : va_D A [(q_a0_told, .inl (cI, 163, .inl a0_told)), (q_a0, .inr (8, [.ref q_a0_told, .ref q_a0_kept, .ref q_a0_isKept, .ref q_a0_refused, .long a0_above, .long a0_below, .ref q_a0_manyBy, .ref q_a0_hers, .ref q_a0_his, .ref q_a0_hand, .ref q_a0_bytes, .int a0_bytesLong, .int a0_tokenAt, .int a0_tokenLong, .int a0_token, .int a0_value, .ref q_a0_anew, .ref q_a0_values])), (q_a0_refused, .inl (cI, 3, .inl u_12))] := hD
        subst hQQ
        have hP9 := hP.sub (ws' := [(q_a0, .inr (8, [.ref q_a0_told, .ref q_a0_kept, .ref q_a0_isKept, .ref q_a0_refused, .long a0_above, .long a0_below, .ref q_a0_manyBy, .ref q_a0_hers, .ref q_a0_his, .ref q_a0_hand, .ref q_a0_bytes, .int a0_bytesLong, .int a0_tokenAt, .int a0_tokenLong, .int a0_token, .int a0_value, .ref q_a0_anew, .ref q_a0_values])), (q_a0_told, .inl (cI, 163, .inl a0_told)), (q_a0_refused, .inl (cI, 3, .inl u_12))]) [1, 0, 2] rfl
        have hD9 := hD.sub (ws' := [(q_a0, .inr (8, [.ref q_a0_told, .ref q_a0_kept, .ref q_a0_isKept, .ref q_a0_refused, .long a0_above, .long a0_below, .ref q_a0_manyBy, .ref q_a0_hers, .ref q_a0_his, .ref q_a0_hand, .ref q_a0_bytes, .int a0_bytesLong, .int a0_tokenAt, .int a0_tokenLong, .int a0_token, .int a0_value, .ref q_a0_anew, .ref q_a0_values])), (q_a0_told, .inl (cI, 163, .inl a0_told)), (q_a0_refused, .inl (cI, 3, .inl u_12))]) [1, 0, 2] (by decide) rfl
        exact W.iret hx hb hr (fun t ht hW => ⟨⟨r_11, (a0_told, u_12), rfl, hf, by rw [ht]; exact hP9, hD9⟩, hS.F ht⟩) hS.2.2 dX9_bend_50
      · have hf := it_f c_10 hf
        refine lv_iload hx hb dX9_bend_31 (lv_at hl 4 rfl) ?_
        refine lv_i2l hx hb dX9_bend_33 rfl ?_
        refine lv_lconst (v := 1) hx hb dX9_bend_34 (by decide) ?_
        refine lv_ldc2 (v := 9) hx hb hown kc_64 dX9_bend_35 ?_
        refine ya_csi (va_runS (As := [.long x4.toInt64, .long 1, .long 9]) (rest := []) ⟨hx, hb, hml, hown, hts⟩ (c_X9_in l D cI cZ cO  x4.toInt64 1 9 _ hf) (va_cwS 3 hts gX9_bend_X9_in rfl rfl rfl (by decide +kernel) ⟨Nat.le_of_ble_eq_true rfl, Nat.le_of_ble_eq_true rfl⟩) (ps_ro va_P0 hX) rfl rfl hl.1 rfl (lv_room (Nat.le_of_ble_eq_true rfl)) dX9_bend_38 ⟨Nat.zero_le _, Nat.zero_le _⟩) (fun r_13 hf => ?_)
        refine lv_if_ne (tgt := 51) hx hb dX9_bend_41 (by decide) (fun c_14 => ?_) (fun c_14 => ?_)
        · have hf := it_f c_14 hf
          refine lv_aload_n hx hb dX9_bend_51 rfl (lv_at hl 0 rfl) ?_
          refine ya_csi (va_runV (As := []) (rest := []) ⟨hx, hb, hml, hown, hts⟩ (c_X9_many l D cI cZ cO q_a0 q_a0_told q_a0_kept q_a0_isKept q_a0_refused q_a0_manyBy q_a0_hers q_a0_his q_a0_hand q_a0_bytes q_a0_anew q_a0_values a0_above a0_below a0_bytesLong a0_tokenAt a0_tokenLong a0_token a0_value a0_told  _ hf) (cwV 0 hts gX9_bend_X9_many rfl rfl rfl (by decide +kernel) ⟨Nat.le_of_ble_eq_true rfl, Nat.le_of_ble_eq_true rfl⟩) (pv_ro (ci := 8) (q0 := 0) (hP.sub [0, 1] rfl) hX rfl rfl) rfl rfl hl.1 rfl (lv_room (Nat.le_of_ble_eq_true rfl)) dX9_bend_52 ⟨Nat.zero_le _, Nat.zero_le _⟩) (fun r_15 hf => ?_)
          refine lv_bipush (v := 8) hx hb dX9_bend_55 (by decide) ?_
          refine lv_icmp_ne (tgt := 65) hx hb dX9_bend_57 (by decide) (fun c_16 => ?_) (fun c_16 => ?_)
          · have hf := it_f c_16 hf
            refine lv_aload_n hx hb dX9_bend_65 rfl (lv_at hl 0 rfl) ?_
            refine va_get (D := D) (ci := 8) (v := .ref q_a0_told) (C := RX9) (T := TX9) (N := 18) hx hb hts in_X9 hown hK hP 0 rfl rfl 0 (by decide) kf_7 (fun _ h9 => h9) rfl dX9_bend_66 ?_
            refine lv_iload_n hx hb dX9_bend_69 rfl (lv_at hl 1 rfl) ?_
            refine lv_iload_n hx hb dX9_bend_70 rfl (lv_at hl 2 rfl) ?_
            refine lv_iload_n hx hb dX9_bend_71 rfl (lv_at hl 3 rfl) ?_
            refine lv_iload hx hb dX9_bend_72 (lv_at hl 4 rfl) ?_
            have hPc := hP.sub (ws' := [(q_a0_told, .inl (cI, 163, .inl a0_told))]) [1] rfl
            have hDc := hD.sub (ws' := [(q_a0_told, .inl (cI, 163, .inl a0_told))]) [1] (by decide) rfl
            have hFc := va_free (wc := [(q_a0_told, .inl (cI, 163, .inl a0_told))]) hD hS hA [1] rfl
            refine va_callv (va_runS (As := [.ref q_a0_told, .int x1, .int x2, .int x3, .int x4]) (rest := []) ⟨hx, hb, hml, hown, hts⟩ (c_X9_layBend l D cI cZ cO q_a0_told 163 a0_told s.heap.size x1 x2 x3 x4 _ hf) (va_cwS 5 hts gX9_bend_X9_layBend rfl rfl rfl (by decide +kernel) ⟨Nat.le_of_ble_eq_true rfl, Nat.le_of_ble_eq_true rfl⟩) (ps_rw hPc hDc hX) rfl rfl hl.1 rfl (lv_room (Nat.le_of_ble_eq_true rfl)) dX9_bend_74 ⟨Nat.zero_le _, Nat.zero_le _⟩) hS (fun q _ h => hFc q h) hFc (fun u t H1 locs ht hvm hf hB hz1 hk1 hS => ?_)
            obtain ⟨u_17, rfl⟩ : ∃ z, z = u := ⟨_, rfl⟩
            obtain ⟨hP1, hD1⟩ := hB
            rw [ht] at hP1
            clear hvm
            obtain ⟨hP, hD⟩ := va_join (wr := [(q_a0, .inr (8, [.ref q_a0_told, .ref q_a0_kept, .ref q_a0_isKept, .ref q_a0_refused, .long a0_above, .long a0_below, .ref q_a0_manyBy, .ref q_a0_hers, .ref q_a0_his, .ref q_a0_hand, .ref q_a0_bytes, .int a0_bytesLong, .int a0_tokenAt, .int a0_tokenLong, .int a0_token, .int a0_value, .ref q_a0_anew, .ref q_a0_values])), (q_a0_refused, .inl (cI, 3, .inl a0_refused))]) (w1 := [(q_a0_told, .inl (cI, 163, .inl u_17))]) hP hD [1] [0, 2] rfl rfl (by decide) (by decide) hk1 hFc hP1 hD1
            clear hz1 hk1 hPc hDc hFc hP1 hD1
            generalize H1 = H at hP hS ⊢
            have hP : va_P D vwCl [(q_a0, .inr (8, [.ref q_a0_told, .ref q_a0_kept, .ref q_a0_isKept, .ref q_a0_refused, .long a0_above, .long a0_below, .ref q_a0_manyBy, .ref q_a0_hers, .ref q_a0_his, .ref q_a0_hand, .ref q_a0_bytes, .int a0_bytesLong, .int a0_tokenAt, .int a0_tokenLong, .int a0_token, .int a0_value, .ref q_a0_anew, .ref q_a0_values])), (q_a0_refused, .inl (cI, 3, .inl a0_refused)), (q_a0_told, .inl (cI, 163, .inl u_17))] H := hP
            have hD : va_D A [(q_a0, .inr (8, [.ref q_a0_told, .ref q_a0_kept, .ref q_a0_isKept, .ref q_a0_refused, .long a0_above, .long a0_below, .ref q_a0_manyBy, .ref q_a0_hers, .ref q_a0_his, .ref q_a0_hand, .ref q_a0_bytes, .int a0_bytesLong, .int a0_tokenAt, .int a0_tokenLong, .int a0_token, .int a0_value, .ref q_a0_anew, .ref q_a0_values])), (q_a0_refused, .inl (cI, 3, .inl a0_refused)), (q_a0_told, .inl (cI, 163, .inl u_17))] := hD
            refine lv_aload_n hx hb dX9_bend_77 rfl (lv_at hl 0 rfl) ?_
            refine va_get (D := D) (ci := 8) (v := .ref q_a0_told) (C := RX9) (T := TX9) (N := 18) hx hb hts in_X9 hown hK hP 0 rfl rfl 0 (by decide) kf_7 (fun _ h9 => h9) rfl dX9_bend_78 ?_
            refine lv_iconst (v := 3) hx hb dX9_bend_81 (by decide) ?_
            refine lv_iconst (v := 0) hx hb dX9_bend_82 (by decide) ?_
            refine va_iast hx hb hK hP hD hS 2 0 rfl rfl (by unfold vp_in; decide) dX9_bend_83 (fun H locs hP hD hS => ?_)
            have hP : va_P D vwCl [(q_a0, .inr (8, [.ref q_a0_told, .ref q_a0_kept, .ref q_a0_isKept, .ref q_a0_refused, .long a0_above, .long a0_below, .ref q_a0_manyBy, .ref q_a0_hers, .ref q_a0_his, .ref q_a0_hand, .ref q_a0_bytes, .int a0_bytesLong, .int a0_tokenAt, .int a0_tokenLong, .int a0_token, .int a0_value, .ref q_a0_anew, .ref q_a0_values])), (q_a0_refused, .inl (cI, 3, .inl a0_refused)), (q_a0_told, .inl (cI, 163, .inl (upd u_17 ((3 : Int32).toNatClampNeg) 0)))] H := hP
            have hD : va_D A [(q_a0, .inr (8, [.ref q_a0_told, .ref q_a0_kept, .ref q_a0_isKept, .ref q_a0_refused, .long a0_above, .long a0_below, .ref q_a0_manyBy, .ref q_a0_hers, .ref q_a0_his, .ref q_a0_hand, .ref q_a0_bytes, .int a0_bytesLong, .int a0_tokenAt, .int a0_tokenLong, .int a0_token, .int a0_value, .ref q_a0_anew, .ref q_a0_values])), (q_a0_refused, .inl (cI, 3, .inl a0_refused)), (q_a0_told, .inl (cI, 163, .inl (upd u_17 ((3 : Int32).toNatClampNeg) 0)))] := hD
            refine lv_aload_n hx hb dX9_bend_84 rfl (lv_at hl 0 rfl) ?_
            refine ya_csi (va_runV (As := []) (rest := []) ⟨hx, hb, hml, hown, hts⟩ (c_X9_many l D cI cZ cO q_a0 q_a0_told q_a0_kept q_a0_isKept q_a0_refused q_a0_manyBy q_a0_hers q_a0_his q_a0_hand q_a0_bytes q_a0_anew q_a0_values a0_above a0_below a0_bytesLong a0_tokenAt a0_tokenLong a0_token a0_value (upd u_17 ((3 : Int32).toNatClampNeg) 0)  _ hf) (cwV 0 hts gX9_bend_X9_many rfl rfl rfl (by decide +kernel) ⟨Nat.le_of_ble_eq_true rfl, Nat.le_of_ble_eq_true rfl⟩) (pv_ro (ci := 8) (q0 := 0) (hP.sub [0, 2] rfl) hX rfl rfl) rfl rfl hl.1 rfl (lv_room (Nat.le_of_ble_eq_true rfl)) dX9_bend_85 ⟨Nat.zero_le _, Nat.zero_le _⟩) (fun r_18 hf => ?_)
            refine lv_iconst (v := 1) hx hb dX9_bend_88 (by decide) ?_
            refine lv_isub hx hb dX9_bend_89 ?_
            subst hQQ
            have hP9 := hP.sub (ws' := [(q_a0, .inr (8, [.ref q_a0_told, .ref q_a0_kept, .ref q_a0_isKept, .ref q_a0_refused, .long a0_above, .long a0_below, .ref q_a0_manyBy, .ref q_a0_hers, .ref q_a0_his, .ref q_a0_hand, .ref q_a0_bytes, .int a0_bytesLong, .int a0_tokenAt, .int a0_tokenLong, .int a0_token, .int a0_value, .ref q_a0_anew, .ref q_a0_values])), (q_a0_told, .inl (cI, 163, .inl (upd u_17 ((3 : Int32).toNatClampNeg) 0))), (q_a0_refused, .inl (cI, 3, .inl a0_refused))]) [0, 2, 1] rfl
            have hD9 := hD.sub (ws' := [(q_a0, .inr (8, [.ref q_a0_told, .ref q_a0_kept, .ref q_a0_isKept, .ref q_a0_refused, .long a0_above, .long a0_below, .ref q_a0_manyBy, .ref q_a0_hers, .ref q_a0_his, .ref q_a0_hand, .ref q_a0_bytes, .int a0_bytesLong, .int a0_tokenAt, .int a0_tokenLong, .int a0_token, .int a0_value, .ref q_a0_anew, .ref q_a0_values])), (q_a0_told, .inl (cI, 163, .inl (upd u_17 ((3 : Int32).toNatClampNeg) 0))), (q_a0_refused, .inl (cI, 3, .inl a0_refused))]) [0, 2, 1] (by decide) rfl
            exact W.iret hx hb hr (fun t ht hW => ⟨⟨(r_18 - 1), (upd u_17 ((3 : Int32).toNatClampNeg) 0, a0_refused), rfl, hf, by rw [ht]; exact hP9, hD9⟩, hS.F ht⟩) hS.2.2 dX9_bend_90
          · have hf := it_t c_16 hf
            refine lv_aload_n hx hb dX9_bend_60 rfl (lv_at hl 0 rfl) ?_
            have hPc := hP.sub (ws' := [(q_a0, .inr (8, [.ref q_a0_told, .ref q_a0_kept, .ref q_a0_isKept, .ref q_a0_refused, .long a0_above, .long a0_below, .ref q_a0_manyBy, .ref q_a0_hers, .ref q_a0_his, .ref q_a0_hand, .ref q_a0_bytes, .int a0_bytesLong, .int a0_tokenAt, .int a0_tokenLong, .int a0_token, .int a0_value, .ref q_a0_anew, .ref q_a0_values])), (q_a0_refused, .inl (cI, 3, .inl a0_refused))]) [0, 2] rfl
            have hDc := hD.sub (ws' := [(q_a0, .inr (8, [.ref q_a0_told, .ref q_a0_kept, .ref q_a0_isKept, .ref q_a0_refused, .long a0_above, .long a0_below, .ref q_a0_manyBy, .ref q_a0_hers, .ref q_a0_his, .ref q_a0_hand, .ref q_a0_bytes, .int a0_bytesLong, .int a0_tokenAt, .int a0_tokenLong, .int a0_token, .int a0_value, .ref q_a0_anew, .ref q_a0_values])), (q_a0_refused, .inl (cI, 3, .inl a0_refused))]) [0, 2] (by decide) rfl
            have hFc := va_free (wc := [(q_a0, .inr (8, [.ref q_a0_told, .ref q_a0_kept, .ref q_a0_isKept, .ref q_a0_refused, .long a0_above, .long a0_below, .ref q_a0_manyBy, .ref q_a0_hers, .ref q_a0_his, .ref q_a0_hand, .ref q_a0_bytes, .int a0_bytesLong, .int a0_tokenAt, .int a0_tokenLong, .int a0_token, .int a0_value, .ref q_a0_anew, .ref q_a0_values])), (q_a0_refused, .inl (cI, 3, .inl a0_refused))]) hD hS hA [0, 2] rfl
            refine va_calli (va_runV (As := []) (rest := []) ⟨hx, hb, hml, hown, hts⟩ (c_X9_full l D cI cZ cO q_a0 q_a0_told q_a0_kept q_a0_isKept q_a0_refused q_a0_manyBy q_a0_hers q_a0_his q_a0_hand q_a0_bytes q_a0_anew q_a0_values a0_above a0_below a0_bytesLong a0_tokenAt a0_tokenLong a0_token a0_value a0_refused s.heap.size  _ hf) (cwV 0 hts gX9_bend_X9_full rfl rfl rfl (by decide +kernel) ⟨Nat.le_of_ble_eq_true rfl, Nat.le_of_ble_eq_true rfl⟩) (pv_rw (ci := 8) (q0 := 0) hPc hDc hX rfl rfl) rfl rfl hl.1 rfl (lv_room (Nat.le_of_ble_eq_true rfl)) dX9_bend_61 ⟨Nat.zero_le _, Nat.zero_le _⟩) hS (fun q _ h => hFc q h) hFc (fun r_19 u t H1 locs ht hvm hf hB hz1 hk1 hS => ?_)
            obtain ⟨u_20, rfl⟩ : ∃ z, z = u := ⟨_, rfl⟩
            obtain ⟨hP1, hD1⟩ := hB
            rw [ht] at hP1
            clear hvm
            obtain ⟨hP, hD⟩ := va_join (wr := [(q_a0_told, .inl (cI, 163, .inl a0_told))]) (w1 := [(q_a0, .inr (8, [.ref q_a0_told, .ref q_a0_kept, .ref q_a0_isKept, .ref q_a0_refused, .long a0_above, .long a0_below, .ref q_a0_manyBy, .ref q_a0_hers, .ref q_a0_his, .ref q_a0_hand, .ref q_a0_bytes, .int a0_bytesLong, .int a0_tokenAt, .int a0_tokenLong, .int a0_token, .int a0_value, .ref q_a0_anew, .ref q_a0_values])), (q_a0_refused, .inl (cI, 3, .inl u_20))]) hP hD [0, 2] [1] rfl rfl (by decide) (by decide) hk1 hFc hP1 hD1
            clear hz1 hk1 hPc hDc hFc hP1 hD1
            generalize H1 = H at hP hS ⊢
            have hP : va_P D vwCl [(q_a0_told, .inl (cI, 163, .inl a0_told)), (q_a0, .inr (8, [.ref q_a0_told, .ref q_a0_kept, .ref q_a0_isKept, .ref q_a0_refused, .long a0_above, .long a0_below, .ref q_a0_manyBy, .ref q_a0_hers, .ref q_a0_his, .ref q_a0_hand, .ref q_a0_bytes, .int a0_bytesLong, .int a0_tokenAt, .int a0_tokenLong, .int a0_token, .int a0_value, .ref q_a0_anew, .ref q_a0_values])), (q_a0_refused, .inl (cI, 3, .inl u_20))] H := hP
            have hD : va_D A [(q_a0_told, .inl (cI, 163, .inl a0_told)), (q_a0, .inr (8, [.ref q_a0_told, .ref q_a0_kept, .ref q_a0_isKept, .ref q_a0_refused, .long a0_above, .long a0_below, .ref q_a0_manyBy, .ref q_a0_hers, .ref q_a0_his, .ref q_a0_hand, .ref q_a0_bytes, .int a0_bytesLong, .int a0_tokenAt, .int a0_tokenLong, .int a0_token, .int a0_value, .ref q_a0_anew, .ref q_a0_values])), (q_a0_refused, .inl (cI, 3, .inl u_20))] := hD
            subst hQQ
            have hP9 := hP.sub (ws' := [(q_a0, .inr (8, [.ref q_a0_told, .ref q_a0_kept, .ref q_a0_isKept, .ref q_a0_refused, .long a0_above, .long a0_below, .ref q_a0_manyBy, .ref q_a0_hers, .ref q_a0_his, .ref q_a0_hand, .ref q_a0_bytes, .int a0_bytesLong, .int a0_tokenAt, .int a0_tokenLong, .int a0_token, .int a0_value, .ref q_a0_anew, .ref q_a0_values])), (q_a0_told, .inl (cI, 163, .inl a0_told)), (q_a0_refused, .inl (cI, 3, .inl u_20))]) [1, 0, 2] rfl
            have hD9 := hD.sub (ws' := [(q_a0, .inr (8, [.ref q_a0_told, .ref q_a0_kept, .ref q_a0_isKept, .ref q_a0_refused, .long a0_above, .long a0_below, .ref q_a0_manyBy, .ref q_a0_hers, .ref q_a0_his, .ref q_a0_hand, .ref q_a0_bytes, .int a0_bytesLong, .int a0_tokenAt, .int a0_tokenLong, .int a0_token, .int a0_value, .ref q_a0_anew, .ref q_a0_values])), (q_a0_told, .inl (cI, 163, .inl a0_told)), (q_a0_refused, .inl (cI, 3, .inl u_20))]) [1, 0, 2] (by decide) rfl
            exact W.iret hx hb hr (fun t ht hW => ⟨⟨r_19, (a0_told, u_20), rfl, hf, by rw [ht]; exact hP9, hD9⟩, hS.F ht⟩) hS.2.2 dX9_bend_64
        · have hf := it_t c_14 hf
          refine lv_aload_n hx hb dX9_bend_44 rfl (lv_at hl 0 rfl) ?_
          refine lv_bipush (v := (-2)) hx hb dX9_bend_45 (by decide) ?_
          have hPc := hP.sub (ws' := [(q_a0, .inr (8, [.ref q_a0_told, .ref q_a0_kept, .ref q_a0_isKept, .ref q_a0_refused, .long a0_above, .long a0_below, .ref q_a0_manyBy, .ref q_a0_hers, .ref q_a0_his, .ref q_a0_hand, .ref q_a0_bytes, .int a0_bytesLong, .int a0_tokenAt, .int a0_tokenLong, .int a0_token, .int a0_value, .ref q_a0_anew, .ref q_a0_values])), (q_a0_refused, .inl (cI, 3, .inl a0_refused))]) [0, 2] rfl
          have hDc := hD.sub (ws' := [(q_a0, .inr (8, [.ref q_a0_told, .ref q_a0_kept, .ref q_a0_isKept, .ref q_a0_refused, .long a0_above, .long a0_below, .ref q_a0_manyBy, .ref q_a0_hers, .ref q_a0_his, .ref q_a0_hand, .ref q_a0_bytes, .int a0_bytesLong, .int a0_tokenAt, .int a0_tokenLong, .int a0_token, .int a0_value, .ref q_a0_anew, .ref q_a0_values])), (q_a0_refused, .inl (cI, 3, .inl a0_refused))]) [0, 2] (by decide) rfl
          have hFc := va_free (wc := [(q_a0, .inr (8, [.ref q_a0_told, .ref q_a0_kept, .ref q_a0_isKept, .ref q_a0_refused, .long a0_above, .long a0_below, .ref q_a0_manyBy, .ref q_a0_hers, .ref q_a0_his, .ref q_a0_hand, .ref q_a0_bytes, .int a0_bytesLong, .int a0_tokenAt, .int a0_tokenLong, .int a0_token, .int a0_value, .ref q_a0_anew, .ref q_a0_values])), (q_a0_refused, .inl (cI, 3, .inl a0_refused))]) hD hS hA [0, 2] rfl
          refine va_calli (va_runV (As := [.int (-2)]) (rest := []) ⟨hx, hb, hml, hown, hts⟩ (c_X9_bad l D cI cZ cO q_a0 q_a0_told q_a0_kept q_a0_isKept q_a0_refused q_a0_manyBy q_a0_hers q_a0_his q_a0_hand q_a0_bytes q_a0_anew q_a0_values a0_above a0_below a0_bytesLong a0_tokenAt a0_tokenLong a0_token a0_value a0_refused s.heap.size (-2) _ hf) (cwV 1 hts gX9_bend_X9_bad rfl rfl rfl (by decide +kernel) ⟨Nat.le_of_ble_eq_true rfl, Nat.le_of_ble_eq_true rfl⟩) (pv_rw (ci := 8) (q0 := 0) hPc hDc hX rfl rfl) rfl rfl hl.1 rfl (lv_room (Nat.le_of_ble_eq_true rfl)) dX9_bend_47 ⟨Nat.zero_le _, Nat.zero_le _⟩) hS (fun q _ h => hFc q h) hFc (fun r_21 u t H1 locs ht hvm hf hB hz1 hk1 hS => ?_)
          obtain ⟨u_22, rfl⟩ : ∃ z, z = u := ⟨_, rfl⟩
          obtain ⟨hP1, hD1⟩ := hB
          rw [ht] at hP1
          clear hvm
          obtain ⟨hP, hD⟩ := va_join (wr := [(q_a0_told, .inl (cI, 163, .inl a0_told))]) (w1 := [(q_a0, .inr (8, [.ref q_a0_told, .ref q_a0_kept, .ref q_a0_isKept, .ref q_a0_refused, .long a0_above, .long a0_below, .ref q_a0_manyBy, .ref q_a0_hers, .ref q_a0_his, .ref q_a0_hand, .ref q_a0_bytes, .int a0_bytesLong, .int a0_tokenAt, .int a0_tokenLong, .int a0_token, .int a0_value, .ref q_a0_anew, .ref q_a0_values])), (q_a0_refused, .inl (cI, 3, .inl u_22))]) hP hD [0, 2] [1] rfl rfl (by decide) (by decide) hk1 hFc hP1 hD1
          clear hz1 hk1 hPc hDc hFc hP1 hD1
          generalize H1 = H at hP hS ⊢
          have hP : va_P D vwCl [(q_a0_told, .inl (cI, 163, .inl a0_told)), (q_a0, .inr (8, [.ref q_a0_told, .ref q_a0_kept, .ref q_a0_isKept, .ref q_a0_refused, .long a0_above, .long a0_below, .ref q_a0_manyBy, .ref q_a0_hers, .ref q_a0_his, .ref q_a0_hand, .ref q_a0_bytes, .int a0_bytesLong, .int a0_tokenAt, .int a0_tokenLong, .int a0_token, .int a0_value, .ref q_a0_anew, .ref q_a0_values])), (q_a0_refused, .inl (cI, 3, .inl u_22))] H := hP
          have hD : va_D A [(q_a0_told, .inl (cI, 163, .inl a0_told)), (q_a0, .inr (8, [.ref q_a0_told, .ref q_a0_kept, .ref q_a0_isKept, .ref q_a0_refused, .long a0_above, .long a0_below, .ref q_a0_manyBy, .ref q_a0_hers, .ref q_a0_his, .ref q_a0_hand, .ref q_a0_bytes, .int a0_bytesLong, .int a0_tokenAt, .int a0_tokenLong, .int a0_token, .int a0_value, .ref q_a0_anew, .ref q_a0_values])), (q_a0_refused, .inl (cI, 3, .inl u_22))] := hD
          subst hQQ
          have hP9 := hP.sub (ws' := [(q_a0, .inr (8, [.ref q_a0_told, .ref q_a0_kept, .ref q_a0_isKept, .ref q_a0_refused, .long a0_above, .long a0_below, .ref q_a0_manyBy, .ref q_a0_hers, .ref q_a0_his, .ref q_a0_hand, .ref q_a0_bytes, .int a0_bytesLong, .int a0_tokenAt, .int a0_tokenLong, .int a0_token, .int a0_value, .ref q_a0_anew, .ref q_a0_values])), (q_a0_told, .inl (cI, 163, .inl a0_told)), (q_a0_refused, .inl (cI, 3, .inl u_22))]) [1, 0, 2] rfl
          have hD9 := hD.sub (ws' := [(q_a0, .inr (8, [.ref q_a0_told, .ref q_a0_kept, .ref q_a0_isKept, .ref q_a0_refused, .long a0_above, .long a0_below, .ref q_a0_manyBy, .ref q_a0_hers, .ref q_a0_his, .ref q_a0_hand, .ref q_a0_bytes, .int a0_bytesLong, .int a0_tokenAt, .int a0_tokenLong, .int a0_token, .int a0_value, .ref q_a0_anew, .ref q_a0_values])), (q_a0_told, .inl (cI, 163, .inl a0_told)), (q_a0_refused, .inl (cI, 3, .inl u_22))]) [1, 0, 2] (by decide) rfl
          exact W.iret hx hb hr (fun t ht hW => ⟨⟨r_21, (a0_told, u_22), rfl, hf, by rw [ht]; exact hP9, hD9⟩, hS.F ht⟩) hS.2.2 dX9_bend_50
def p_X9_mud (a0_told : Nat → Int32) (a0_refused : Nat → Int32) (x1 : Int32) (x2 : Int32) (Q : Int32 → (Nat → Int32) → (Nat → Int32) → Prop) : Prop :=
  p_X9_isBend a0_told x1 (fun r_1 => if r_1 = 0 then (p_X9_bad a0_refused (-2) (fun r_3 u_4 => Q r_3 a0_told u_4)) else (p_X9_in x2.toInt64 0 1 (fun r_5 => if r_5 = 0 then (p_X9_bad a0_refused (-2) (fun r_8 u_9 => Q r_8 a0_told u_9)) else (if x2 = 1 then (Q (((a0_told (17 : Int32).toNatClampNeg) >>> (x1 &&& 31)) &&& 1) (upd (upd a0_told ((17 : Int32).toNatClampNeg) ((a0_told (17 : Int32).toNatClampNeg) ||| (1 <<< (x1 &&& 31)))) ((3 : Int32).toNatClampNeg) 0) a0_refused) else (Q (((a0_told (17 : Int32).toNatClampNeg) >>> (x1 &&& 31)) &&& 1) (upd (upd a0_told ((17 : Int32).toNatClampNeg) ((a0_told (17 : Int32).toNatClampNeg) &&& ((1 <<< (x1 &&& 31)) ^^^ (-1)))) ((3 : Int32).toNatClampNeg) 0) a0_refused)))))
def rmX9_mud : Room := { frames := 2, cells := 0, slots := 0, locals := 46 }
set_option maxHeartbeats 4000000 in
set_option maxRecDepth 100000 in
theorem c_X9_mud (l : Launch) (D : va_G) (cI cZ cO : ClassId) (q_a0 q_a0_told q_a0_kept q_a0_isKept q_a0_refused q_a0_manyBy q_a0_hers q_a0_his q_a0_hand q_a0_bytes q_a0_anew q_a0_values : Nat) (a0_above : Int64) (a0_below : Int64) (a0_bytesLong : Int32) (a0_tokenAt : Int32) (a0_tokenLong : Int32) (a0_token : Int32) (a0_value : Int32) (a0_told : Nat → Int32) (a0_refused : Nat → Int32) (sz : Nat) (x1 : Int32) (x2 : Int32) (Q : Int32 → (Nat → Int32) → (Nat → Int32) → Prop) (hf : p_X9_mud a0_told a0_refused x1 x2 Q) : Met l yX9_mud wsX9_mud rmX9_mud (va_Pc [.ref q_a0, .int x1, .int x2] (fun U => U.heap.size = sz ∧ va_P D vwCl [(q_a0, .inr (8, [.ref q_a0_told, .ref q_a0_kept, .ref q_a0_isKept, .ref q_a0_refused, .long a0_above, .long a0_below, .ref q_a0_manyBy, .ref q_a0_hers, .ref q_a0_his, .ref q_a0_hand, .ref q_a0_bytes, .int a0_bytesLong, .int a0_tokenAt, .int a0_tokenLong, .int a0_token, .int a0_value, .ref q_a0_anew, .ref q_a0_values])), (q_a0_told, .inl (cI, 163, .inl a0_told)), (q_a0_refused, .inl (cI, 3, .inl a0_refused))] U.heap ∧ XK D cI cZ cO U ∧ va_D (fun _ => True) [(q_a0, .inr (8, [.ref q_a0_told, .ref q_a0_kept, .ref q_a0_isKept, .ref q_a0_refused, .long a0_above, .long a0_below, .ref q_a0_manyBy, .ref q_a0_hers, .ref q_a0_his, .ref q_a0_hand, .ref q_a0_bytes, .int a0_bytesLong, .int a0_tokenAt, .int a0_tokenLong, .int a0_token, .int a0_value, .ref q_a0_anew, .ref q_a0_values])), (q_a0_told, .inl (cI, 163, .inl a0_told)), (q_a0_refused, .inl (cI, 3, .inl a0_refused))])) (va_Qi (fun r (u : (Nat → Int32) × (Nat → Int32)) => Q r u.1 u.2) (fun (u : (Nat → Int32) × (Nat → Int32)) t => va_P D vwCl [(q_a0, .inr (8, [.ref q_a0_told, .ref q_a0_kept, .ref q_a0_isKept, .ref q_a0_refused, .long a0_above, .long a0_below, .ref q_a0_manyBy, .ref q_a0_hers, .ref q_a0_his, .ref q_a0_hand, .ref q_a0_bytes, .int a0_bytesLong, .int a0_tokenAt, .int a0_tokenLong, .int a0_token, .int a0_value, .ref q_a0_anew, .ref q_a0_values])), (q_a0_told, .inl (cI, 163, .inl u.1)), (q_a0_refused, .inl (cI, 3, .inl u.2))] t.heap ∧ va_D (va_A [(q_a0, .inr (8, [.ref q_a0_told, .ref q_a0_kept, .ref q_a0_isKept, .ref q_a0_refused, .long a0_above, .long a0_below, .ref q_a0_manyBy, .ref q_a0_hers, .ref q_a0_his, .ref q_a0_hand, .ref q_a0_bytes, .int a0_bytesLong, .int a0_tokenAt, .int a0_tokenLong, .int a0_token, .int a0_value, .ref q_a0_anew, .ref q_a0_values])), (q_a0_told, .inl (cI, 163, .inl a0_told)), (q_a0_refused, .inl (cI, 3, .inl a0_refused))] sz) [(q_a0, .inr (8, [.ref q_a0_told, .ref q_a0_kept, .ref q_a0_isKept, .ref q_a0_refused, .long a0_above, .long a0_below, .ref q_a0_manyBy, .ref q_a0_hers, .ref q_a0_his, .ref q_a0_hand, .ref q_a0_bytes, .int a0_bytesLong, .int a0_tokenAt, .int a0_tokenLong, .int a0_token, .int a0_value, .ref q_a0_anew, .ref q_a0_values])), (q_a0_told, .inl (cI, 163, .inl u.1)), (q_a0_refused, .inl (cI, 3, .inl u.2))]) (va_A [(q_a0, .inr (8, [.ref q_a0_told, .ref q_a0_kept, .ref q_a0_isKept, .ref q_a0_refused, .long a0_above, .long a0_below, .ref q_a0_manyBy, .ref q_a0_hers, .ref q_a0_his, .ref q_a0_hand, .ref q_a0_bytes, .int a0_bytesLong, .int a0_tokenAt, .int a0_tokenLong, .int a0_token, .int a0_value, .ref q_a0_anew, .ref q_a0_values])), (q_a0_told, .inl (cI, 163, .inl a0_told)), (q_a0_refused, .inl (cI, 3, .inl a0_refused))] sz)) 0 0 (va_A [(q_a0, .inr (8, [.ref q_a0_told, .ref q_a0_kept, .ref q_a0_isKept, .ref q_a0_refused, .long a0_above, .long a0_below, .ref q_a0_manyBy, .ref q_a0_hers, .ref q_a0_his, .ref q_a0_hand, .ref q_a0_bytes, .int a0_bytesLong, .int a0_tokenAt, .int a0_tokenLong, .int a0_token, .int a0_value, .ref q_a0_anew, .ref q_a0_values])), (q_a0_told, .inl (cI, 163, .inl a0_told)), (q_a0_refused, .inl (cI, 3, .inl a0_refused))] sz) := by
  refine Met.ofW (cc := cX9_mud) (maxL := 4) (ret := (some .int)) (by decide) rfl ?_
  intro p e s m args below meth c s₁ B hml hv
  obtain ⟨rfl, hsz, hP, hX, hD0⟩ := hv
  have hK := hX.1
  have hx := B.exec
  have hb := B.bytes
  have hr := B.returns
  have hts := atoms_spec (ws := wsX9_mud) B.pre
  have hown : s.vm.findClass RX9 = some m.cls := findClass_of_methodNamed B.named
  have hlocks := B.notSynchronized
  have in_X9 : ∀ w ∈ wsX90, w ∈ wsX9_mud := fun _ h => List.mem_cons_of_mem _ (List.mem_append_right _ h)
  have kf_7 := hts (.fieldLink RX9 7 "LeftCrestModel" "told" "[I") (by decide +kernel)
  subst hsz
  have hD := hD0.self (sz := s.heap.size)
  generalize hAe : va_A [(q_a0, .inr (8, [.ref q_a0_told, .ref q_a0_kept, .ref q_a0_isKept, .ref q_a0_refused, .long a0_above, .long a0_below, .ref q_a0_manyBy, .ref q_a0_hers, .ref q_a0_his, .ref q_a0_hand, .ref q_a0_bytes, .int a0_bytesLong, .int a0_tokenAt, .int a0_tokenLong, .int a0_token, .int a0_value, .ref q_a0_anew, .ref q_a0_values])), (q_a0_told, .inl (cI, 163, .inl a0_told)), (q_a0_refused, .inl (cI, 3, .inl a0_refused))] s.heap.size = A at hD ⊢
  have hA : ∀ q : Nat, s.heap.size ≤ q → A q := fun q h => by rw [← hAe]; exact Or.inr h
  have hS : va_S A s.heap s.heap [] := va_S.rf
  have hP : va_P D vwCl [(q_a0, .inr (8, [.ref q_a0_told, .ref q_a0_kept, .ref q_a0_isKept, .ref q_a0_refused, .long a0_above, .long a0_below, .ref q_a0_manyBy, .ref q_a0_hers, .ref q_a0_his, .ref q_a0_hand, .ref q_a0_bytes, .int a0_bytesLong, .int a0_tokenAt, .int a0_tokenLong, .int a0_token, .int a0_value, .ref q_a0_anew, .ref q_a0_values])), (q_a0_told, .inl (cI, 163, .inl a0_told)), (q_a0_refused, .inl (cI, 3, .inl a0_refused))] s.heap := hP
  generalize hQQ : MQ below _ _ s _ _ _ = QQ
  have hl := lv_entry ([.ref q_a0, .int x1, .int x2]) (n := 4) (Nat.le_of_ble_eq_true rfl)
  rw [lg_entry_eq]
  generalize (lg_sl ([.ref q_a0, .int x1, .int x2]) ++ List.replicate (4 - (lg_sl ([.ref q_a0, .int x1, .int x2])).length) Slot.unset).toArray = ls at hl ⊢
  have hl : lv_has ls 4 [(0, .ref q_a0), (1, .int x1), (2, .int x2)] := hl
  unfold p_X9_mud at hf
  refine lv_aload_n hx hb dX9_mud_0 rfl (lv_at hl 0 rfl) ?_
  refine lv_iload_n hx hb dX9_mud_1 rfl (lv_at hl 1 rfl) ?_
  refine ya_csi (va_runV (As := [.int x1]) (rest := []) ⟨hx, hb, hml, hown, hts⟩ (c_X9_isBend l D cI cZ cO q_a0 q_a0_told q_a0_kept q_a0_isKept q_a0_refused q_a0_manyBy q_a0_hers q_a0_his q_a0_hand q_a0_bytes q_a0_anew q_a0_values a0_above a0_below a0_bytesLong a0_tokenAt a0_tokenLong a0_token a0_value a0_told x1 _ hf) (cwV 1 hts gX9_mud_X9_isBend rfl rfl rfl (by decide +kernel) ⟨Nat.le_of_ble_eq_true rfl, Nat.le_of_ble_eq_true rfl⟩) (pv_ro (ci := 8) (q0 := 0) (hP.sub [0, 1] rfl) hX rfl rfl) rfl rfl hl.1 rfl (lv_room (Nat.le_of_ble_eq_true rfl)) dX9_mud_2 ⟨Nat.zero_le _, Nat.zero_le _⟩) (fun r_1 hf => ?_)
  refine lv_if_eq (tgt := 18) hx hb dX9_mud_5 (by decide) (fun c_2 => ?_) (fun c_2 => ?_)
  · have hf := it_t c_2 hf
    refine lv_aload_n hx hb dX9_mud_18 rfl (lv_at hl 0 rfl) ?_
    refine lv_bipush (v := (-2)) hx hb dX9_mud_19 (by decide) ?_
    have hPc := hP.sub (ws' := [(q_a0, .inr (8, [.ref q_a0_told, .ref q_a0_kept, .ref q_a0_isKept, .ref q_a0_refused, .long a0_above, .long a0_below, .ref q_a0_manyBy, .ref q_a0_hers, .ref q_a0_his, .ref q_a0_hand, .ref q_a0_bytes, .int a0_bytesLong, .int a0_tokenAt, .int a0_tokenLong, .int a0_token, .int a0_value, .ref q_a0_anew, .ref q_a0_values])), (q_a0_refused, .inl (cI, 3, .inl a0_refused))]) [0, 2] rfl
    have hDc := hD.sub (ws' := [(q_a0, .inr (8, [.ref q_a0_told, .ref q_a0_kept, .ref q_a0_isKept, .ref q_a0_refused, .long a0_above, .long a0_below, .ref q_a0_manyBy, .ref q_a0_hers, .ref q_a0_his, .ref q_a0_hand, .ref q_a0_bytes, .int a0_bytesLong, .int a0_tokenAt, .int a0_tokenLong, .int a0_token, .int a0_value, .ref q_a0_anew, .ref q_a0_values])), (q_a0_refused, .inl (cI, 3, .inl a0_refused))]) [0, 2] (by decide) rfl
    have hFc := va_free (wc := [(q_a0, .inr (8, [.ref q_a0_told, .ref q_a0_kept, .ref q_a0_isKept, .ref q_a0_refused, .long a0_above, .long a0_below, .ref q_a0_manyBy, .ref q_a0_hers, .ref q_a0_his, .ref q_a0_hand, .ref q_a0_bytes, .int a0_bytesLong, .int a0_tokenAt, .int a0_tokenLong, .int a0_token, .int a0_value, .ref q_a0_anew, .ref q_a0_values])), (q_a0_refused, .inl (cI, 3, .inl a0_refused))]) hD hS hA [0, 2] rfl
    refine va_calli (va_runV (As := [.int (-2)]) (rest := []) ⟨hx, hb, hml, hown, hts⟩ (c_X9_bad l D cI cZ cO q_a0 q_a0_told q_a0_kept q_a0_isKept q_a0_refused q_a0_manyBy q_a0_hers q_a0_his q_a0_hand q_a0_bytes q_a0_anew q_a0_values a0_above a0_below a0_bytesLong a0_tokenAt a0_tokenLong a0_token a0_value a0_refused s.heap.size (-2) _ hf) (cwV 1 hts gX9_mud_X9_bad rfl rfl rfl (by decide +kernel) ⟨Nat.le_of_ble_eq_true rfl, Nat.le_of_ble_eq_true rfl⟩) (pv_rw (ci := 8) (q0 := 0) hPc hDc hX rfl rfl) rfl rfl hl.1 rfl (lv_room (Nat.le_of_ble_eq_true rfl)) dX9_mud_21 ⟨Nat.zero_le _, Nat.zero_le _⟩) hS (fun q _ h => hFc q h) hFc (fun r_3 u t H1 locs ht hvm hf hB hz1 hk1 hS => ?_)
    obtain ⟨u_4, rfl⟩ : ∃ z, z = u := ⟨_, rfl⟩
    obtain ⟨hP1, hD1⟩ := hB
    rw [ht] at hP1
    clear hvm
    obtain ⟨hP, hD⟩ := va_join (wr := [(q_a0_told, .inl (cI, 163, .inl a0_told))]) (w1 := [(q_a0, .inr (8, [.ref q_a0_told, .ref q_a0_kept, .ref q_a0_isKept, .ref q_a0_refused, .long a0_above, .long a0_below, .ref q_a0_manyBy, .ref q_a0_hers, .ref q_a0_his, .ref q_a0_hand, .ref q_a0_bytes, .int a0_bytesLong, .int a0_tokenAt, .int a0_tokenLong, .int a0_token, .int a0_value, .ref q_a0_anew, .ref q_a0_values])), (q_a0_refused, .inl (cI, 3, .inl u_4))]) hP hD [0, 2] [1] rfl rfl (by decide) (by decide) hk1 hFc hP1 hD1
    clear hz1 hk1 hPc hDc hFc hP1 hD1
    generalize H1 = H at hP hS ⊢
    have hP : va_P D vwCl [(q_a0_told, .inl (cI, 163, .inl a0_told)), (q_a0, .inr (8, [.ref q_a0_told, .ref q_a0_kept, .ref q_a0_isKept, .ref q_a0_refused, .long a0_above, .long a0_below, .ref q_a0_manyBy, .ref q_a0_hers, .ref q_a0_his, .ref q_a0_hand, .ref q_a0_bytes, .int a0_bytesLong, .int a0_tokenAt, .int a0_tokenLong, .int a0_token, .int a0_value, .ref q_a0_anew, .ref q_a0_values])), (q_a0_refused, .inl (cI, 3, .inl u_4))] H := hP
    have hD : va_D A [(q_a0_told, .inl (cI, 163, .inl a0_told)), (q_a0, .inr (8, [.ref q_a0_told, .ref q_a0_kept, .ref q_a0_isKept, .ref q_a0_refused, .long a0_above, .long a0_below, .ref q_a0_manyBy, .ref q_a0_hers, .ref q_a0_his, .ref q_a0_hand, .ref q_a0_bytes, .int a0_bytesLong, .int a0_tokenAt, .int a0_tokenLong, .int a0_token, .int a0_value, .ref q_a0_anew, .ref q_a0_values])), (q_a0_refused, .inl (cI, 3, .inl u_4))] := hD
    subst hQQ
    have hP9 := hP.sub (ws' := [(q_a0, .inr (8, [.ref q_a0_told, .ref q_a0_kept, .ref q_a0_isKept, .ref q_a0_refused, .long a0_above, .long a0_below, .ref q_a0_manyBy, .ref q_a0_hers, .ref q_a0_his, .ref q_a0_hand, .ref q_a0_bytes, .int a0_bytesLong, .int a0_tokenAt, .int a0_tokenLong, .int a0_token, .int a0_value, .ref q_a0_anew, .ref q_a0_values])), (q_a0_told, .inl (cI, 163, .inl a0_told)), (q_a0_refused, .inl (cI, 3, .inl u_4))]) [1, 0, 2] rfl
    have hD9 := hD.sub (ws' := [(q_a0, .inr (8, [.ref q_a0_told, .ref q_a0_kept, .ref q_a0_isKept, .ref q_a0_refused, .long a0_above, .long a0_below, .ref q_a0_manyBy, .ref q_a0_hers, .ref q_a0_his, .ref q_a0_hand, .ref q_a0_bytes, .int a0_bytesLong, .int a0_tokenAt, .int a0_tokenLong, .int a0_token, .int a0_value, .ref q_a0_anew, .ref q_a0_values])), (q_a0_told, .inl (cI, 163, .inl a0_told)), (q_a0_refused, .inl (cI, 3, .inl u_4))]) [1, 0, 2] (by decide) rfl
    exact W.iret hx hb hr (fun t ht hW => ⟨⟨r_3, (a0_told, u_4), rfl, hf, by rw [ht]; exact hP9, hD9⟩, hS.F ht⟩) hS.2.2 dX9_mud_24
  · have hf := it_f c_2 hf
    refine lv_iload_n hx hb dX9_mud_8 rfl (lv_at hl 2 rfl) ?_
    refine lv_i2l hx hb dX9_mud_9 rfl ?_
    refine lv_lconst (v := 0) hx hb dX9_mud_10 (by decide) ?_
    refine lv_lconst (v := 1) hx hb dX9_mud_11 (by decide) ?_
    refine ya_csi (va_runS (As := [.long x2.toInt64, .long 0, .long 1]) (rest := []) ⟨hx, hb, hml, hown, hts⟩ (c_X9_in l D cI cZ cO  x2.toInt64 0 1 _ hf) (va_cwS 3 hts gX9_mud_X9_in rfl rfl rfl (by decide +kernel) ⟨Nat.le_of_ble_eq_true rfl, Nat.le_of_ble_eq_true rfl⟩) (ps_ro va_P0 hX) rfl rfl hl.1 rfl (lv_room (Nat.le_of_ble_eq_true rfl)) dX9_mud_12 ⟨Nat.zero_le _, Nat.zero_le _⟩) (fun r_5 hf => ?_)
    refine lv_if_ne (tgt := 25) hx hb dX9_mud_15 (by decide) (fun c_6 => ?_) (fun c_6 => ?_)
    · have hf := it_f c_6 hf
      refine lv_aload_n hx hb dX9_mud_25 rfl (lv_at hl 0 rfl) ?_
      refine va_get (D := D) (ci := 8) (v := .ref q_a0_told) (C := RX9) (T := TX9) (N := 18) hx hb hts in_X9 hown hK hP 0 rfl rfl 0 (by decide) kf_7 (fun _ h9 => h9) rfl dX9_mud_26 ?_
      refine lv_bipush (v := 17) hx hb dX9_mud_29 (by decide) ?_
      refine va_iald hx hb hK hP 1 0 rfl rfl (by unfold vp_in; decide) dX9_mud_31 ?_
      refine lv_iload_n hx hb dX9_mud_32 rfl (lv_at hl 1 rfl) ?_
      refine lv_ishr hx hb dX9_mud_33 ?_
      refine lv_iconst (v := 1) hx hb dX9_mud_34 (by decide) ?_
      refine lv_iand hx hb dX9_mud_35 ?_
      refine lv_istore_n (lv' := [(3, .int (((a0_told (17 : Int32).toNatClampNeg) >>> (x1 &&& 31)) &&& 1)), (0, .ref q_a0), (1, .int x1), (2, .int x2)]) hx hb dX9_mud_36 rfl hl (by decide) rfl (fun ls hl => ?_)
      refine lv_aload_n hx hb dX9_mud_37 rfl (lv_at hl 1 rfl) ?_
      refine va_get (D := D) (ci := 8) (v := .ref q_a0_told) (C := RX9) (T := TX9) (N := 18) hx hb hts in_X9 hown hK hP 0 rfl rfl 0 (by decide) kf_7 (fun _ h9 => h9) rfl dX9_mud_38 ?_
      refine lv_bipush (v := 17) hx hb dX9_mud_41 (by decide) ?_
      refine lv_iload_n hx hb dX9_mud_43 rfl (lv_at hl 3 rfl) ?_
      refine lv_iconst (v := 1) hx hb dX9_mud_44 (by decide) ?_
      refine lv_icmp_ne (tgt := 62) hx hb dX9_mud_45 (by decide) (fun c_7 => ?_) (fun c_7 => ?_)
      · have hf := it_f c_7 hf
        refine lv_aload_n hx hb dX9_mud_62 rfl (lv_at hl 1 rfl) ?_
        refine va_get (D := D) (ci := 8) (v := .ref q_a0_told) (C := RX9) (T := TX9) (N := 18) hx hb hts in_X9 hown hK hP 0 rfl rfl 0 (by decide) kf_7 (fun _ h9 => h9) rfl dX9_mud_63 ?_
        refine lv_bipush (v := 17) hx hb dX9_mud_66 (by decide) ?_
        refine va_iald hx hb hK hP 1 0 rfl rfl (by unfold vp_in; decide) dX9_mud_68 ?_
        refine lv_iconst (v := 1) hx hb dX9_mud_69 (by decide) ?_
        refine lv_iload_n hx hb dX9_mud_70 rfl (lv_at hl 2 rfl) ?_
        refine lv_ishl hx hb dX9_mud_71 ?_
        refine lv_iconst (v := (-1)) hx hb dX9_mud_72 (by decide) ?_
        refine lv_ixor hx hb dX9_mud_73 ?_
        refine lv_iand hx hb dX9_mud_74 ?_
        refine va_iast hx hb hK hP hD hS 1 0 rfl rfl (by unfold vp_in; decide) dX9_mud_75 (fun H locs hP hD hS => ?_)
        have hP : va_P D vwCl [(q_a0, .inr (8, [.ref q_a0_told, .ref q_a0_kept, .ref q_a0_isKept, .ref q_a0_refused, .long a0_above, .long a0_below, .ref q_a0_manyBy, .ref q_a0_hers, .ref q_a0_his, .ref q_a0_hand, .ref q_a0_bytes, .int a0_bytesLong, .int a0_tokenAt, .int a0_tokenLong, .int a0_token, .int a0_value, .ref q_a0_anew, .ref q_a0_values])), (q_a0_told, .inl (cI, 163, .inl (upd a0_told ((17 : Int32).toNatClampNeg) ((a0_told (17 : Int32).toNatClampNeg) &&& ((1 <<< (x1 &&& 31)) ^^^ (-1)))))), (q_a0_refused, .inl (cI, 3, .inl a0_refused))] H := hP
        have hD : va_D A [(q_a0, .inr (8, [.ref q_a0_told, .ref q_a0_kept, .ref q_a0_isKept, .ref q_a0_refused, .long a0_above, .long a0_below, .ref q_a0_manyBy, .ref q_a0_hers, .ref q_a0_his, .ref q_a0_hand, .ref q_a0_bytes, .int a0_bytesLong, .int a0_tokenAt, .int a0_tokenLong, .int a0_token, .int a0_value, .ref q_a0_anew, .ref q_a0_values])), (q_a0_told, .inl (cI, 163, .inl (upd a0_told ((17 : Int32).toNatClampNeg) ((a0_told (17 : Int32).toNatClampNeg) &&& ((1 <<< (x1 &&& 31)) ^^^ (-1)))))), (q_a0_refused, .inl (cI, 3, .inl a0_refused))] := hD
        refine lv_aload_n hx hb dX9_mud_76 rfl (lv_at hl 1 rfl) ?_
        refine va_get (D := D) (ci := 8) (v := .ref q_a0_told) (C := RX9) (T := TX9) (N := 18) hx hb hts in_X9 hown hK hP 0 rfl rfl 0 (by decide) kf_7 (fun _ h9 => h9) rfl dX9_mud_77 ?_
        refine lv_iconst (v := 3) hx hb dX9_mud_80 (by decide) ?_
        refine lv_iconst (v := 0) hx hb dX9_mud_81 (by decide) ?_
        refine va_iast hx hb hK hP hD hS 1 0 rfl rfl (by unfold vp_in; decide) dX9_mud_82 (fun H locs hP hD hS => ?_)
        have hP : va_P D vwCl [(q_a0, .inr (8, [.ref q_a0_told, .ref q_a0_kept, .ref q_a0_isKept, .ref q_a0_refused, .long a0_above, .long a0_below, .ref q_a0_manyBy, .ref q_a0_hers, .ref q_a0_his, .ref q_a0_hand, .ref q_a0_bytes, .int a0_bytesLong, .int a0_tokenAt, .int a0_tokenLong, .int a0_token, .int a0_value, .ref q_a0_anew, .ref q_a0_values])), (q_a0_told, .inl (cI, 163, .inl (upd (upd a0_told ((17 : Int32).toNatClampNeg) ((a0_told (17 : Int32).toNatClampNeg) &&& ((1 <<< (x1 &&& 31)) ^^^ (-1)))) ((3 : Int32).toNatClampNeg) 0))), (q_a0_refused, .inl (cI, 3, .inl a0_refused))] H := hP
        have hD : va_D A [(q_a0, .inr (8, [.ref q_a0_told, .ref q_a0_kept, .ref q_a0_isKept, .ref q_a0_refused, .long a0_above, .long a0_below, .ref q_a0_manyBy, .ref q_a0_hers, .ref q_a0_his, .ref q_a0_hand, .ref q_a0_bytes, .int a0_bytesLong, .int a0_tokenAt, .int a0_tokenLong, .int a0_token, .int a0_value, .ref q_a0_anew, .ref q_a0_values])), (q_a0_told, .inl (cI, 163, .inl (upd (upd a0_told ((17 : Int32).toNatClampNeg) ((a0_told (17 : Int32).toNatClampNeg) &&& ((1 <<< (x1 &&& 31)) ^^^ (-1)))) ((3 : Int32).toNatClampNeg) 0))), (q_a0_refused, .inl (cI, 3, .inl a0_refused))] := hD
        refine lv_iload_n hx hb dX9_mud_83 rfl (lv_at hl 0 rfl) ?_
        subst hQQ
        have hP9 := hP.sub (ws' := [(q_a0, .inr (8, [.ref q_a0_told, .ref q_a0_kept, .ref q_a0_isKept, .ref q_a0_refused, .long a0_above, .long a0_below, .ref q_a0_manyBy, .ref q_a0_hers, .ref q_a0_his, .ref q_a0_hand, .ref q_a0_bytes, .int a0_bytesLong, .int a0_tokenAt, .int a0_tokenLong, .int a0_token, .int a0_value, .ref q_a0_anew, .ref q_a0_values])), (q_a0_told, .inl (cI, 163, .inl (upd (upd a0_told ((17 : Int32).toNatClampNeg) ((a0_told (17 : Int32).toNatClampNeg) &&& ((1 <<< (x1 &&& 31)) ^^^ (-1)))) ((3 : Int32).toNatClampNeg) 0))), (q_a0_refused, .inl (cI, 3, .inl a0_refused))]) [0, 1, 2] rfl
        have hD9 := hD.sub (ws' := [(q_a0, .inr (8, [.ref q_a0_told, .ref q_a0_kept, .ref q_a0_isKept, .ref q_a0_refused, .long a0_above, .long a0_below, .ref q_a0_manyBy, .ref q_a0_hers, .ref q_a0_his, .ref q_a0_hand, .ref q_a0_bytes, .int a0_bytesLong, .int a0_tokenAt, .int a0_tokenLong, .int a0_token, .int a0_value, .ref q_a0_anew, .ref q_a0_values])), (q_a0_told, .inl (cI, 163, .inl (upd (upd a0_told ((17 : Int32).toNatClampNeg) ((a0_told (17 : Int32).toNatClampNeg) &&& ((1 <<< (x1 &&& 31)) ^^^ (-1)))) ((3 : Int32).toNatClampNeg) 0))), (q_a0_refused, .inl (cI, 3, .inl a0_refused))]) [0, 1, 2] (by decide) rfl
        exact W.iret hx hb hr (fun t ht hW => ⟨⟨(((a0_told (17 : Int32).toNatClampNeg) >>> (x1 &&& 31)) &&& 1), (upd (upd a0_told ((17 : Int32).toNatClampNeg) ((a0_told (17 : Int32).toNatClampNeg) &&& ((1 <<< (x1 &&& 31)) ^^^ (-1)))) ((3 : Int32).toNatClampNeg) 0, a0_refused), rfl, hf, by rw [ht]; exact hP9, hD9⟩, hS.F ht⟩) hS.2.2 dX9_mud_84
      · have hf := it_t c_7 hf
        refine lv_aload_n hx hb dX9_mud_48 rfl (lv_at hl 1 rfl) ?_
        refine va_get (D := D) (ci := 8) (v := .ref q_a0_told) (C := RX9) (T := TX9) (N := 18) hx hb hts in_X9 hown hK hP 0 rfl rfl 0 (by decide) kf_7 (fun _ h9 => h9) rfl dX9_mud_49 ?_
        refine lv_bipush (v := 17) hx hb dX9_mud_52 (by decide) ?_
        refine va_iald hx hb hK hP 1 0 rfl rfl (by unfold vp_in; decide) dX9_mud_54 ?_
        refine lv_iconst (v := 1) hx hb dX9_mud_55 (by decide) ?_
        refine lv_iload_n hx hb dX9_mud_56 rfl (lv_at hl 2 rfl) ?_
        refine lv_ishl hx hb dX9_mud_57 ?_
        refine lv_ior hx hb dX9_mud_58 ?_
        refine lv_goto (tgt := 75) hx hb dX9_mud_59 (by decide) ?_
        refine va_iast hx hb hK hP hD hS 1 0 rfl rfl (by unfold vp_in; decide) dX9_mud_75 (fun H locs hP hD hS => ?_)
        have hP : va_P D vwCl [(q_a0, .inr (8, [.ref q_a0_told, .ref q_a0_kept, .ref q_a0_isKept, .ref q_a0_refused, .long a0_above, .long a0_below, .ref q_a0_manyBy, .ref q_a0_hers, .ref q_a0_his, .ref q_a0_hand, .ref q_a0_bytes, .int a0_bytesLong, .int a0_tokenAt, .int a0_tokenLong, .int a0_token, .int a0_value, .ref q_a0_anew, .ref q_a0_values])), (q_a0_told, .inl (cI, 163, .inl (upd a0_told ((17 : Int32).toNatClampNeg) ((a0_told (17 : Int32).toNatClampNeg) ||| (1 <<< (x1 &&& 31)))))), (q_a0_refused, .inl (cI, 3, .inl a0_refused))] H := hP
        have hD : va_D A [(q_a0, .inr (8, [.ref q_a0_told, .ref q_a0_kept, .ref q_a0_isKept, .ref q_a0_refused, .long a0_above, .long a0_below, .ref q_a0_manyBy, .ref q_a0_hers, .ref q_a0_his, .ref q_a0_hand, .ref q_a0_bytes, .int a0_bytesLong, .int a0_tokenAt, .int a0_tokenLong, .int a0_token, .int a0_value, .ref q_a0_anew, .ref q_a0_values])), (q_a0_told, .inl (cI, 163, .inl (upd a0_told ((17 : Int32).toNatClampNeg) ((a0_told (17 : Int32).toNatClampNeg) ||| (1 <<< (x1 &&& 31)))))), (q_a0_refused, .inl (cI, 3, .inl a0_refused))] := hD
        refine lv_aload_n hx hb dX9_mud_76 rfl (lv_at hl 1 rfl) ?_
        refine va_get (D := D) (ci := 8) (v := .ref q_a0_told) (C := RX9) (T := TX9) (N := 18) hx hb hts in_X9 hown hK hP 0 rfl rfl 0 (by decide) kf_7 (fun _ h9 => h9) rfl dX9_mud_77 ?_
        refine lv_iconst (v := 3) hx hb dX9_mud_80 (by decide) ?_
        refine lv_iconst (v := 0) hx hb dX9_mud_81 (by decide) ?_
        refine va_iast hx hb hK hP hD hS 1 0 rfl rfl (by unfold vp_in; decide) dX9_mud_82 (fun H locs hP hD hS => ?_)
        have hP : va_P D vwCl [(q_a0, .inr (8, [.ref q_a0_told, .ref q_a0_kept, .ref q_a0_isKept, .ref q_a0_refused, .long a0_above, .long a0_below, .ref q_a0_manyBy, .ref q_a0_hers, .ref q_a0_his, .ref q_a0_hand, .ref q_a0_bytes, .int a0_bytesLong, .int a0_tokenAt, .int a0_tokenLong, .int a0_token, .int a0_value, .ref q_a0_anew, .ref q_a0_values])), (q_a0_told, .inl (cI, 163, .inl (upd (upd a0_told ((17 : Int32).toNatClampNeg) ((a0_told (17 : Int32).toNatClampNeg) ||| (1 <<< (x1 &&& 31)))) ((3 : Int32).toNatClampNeg) 0))), (q_a0_refused, .inl (cI, 3, .inl a0_refused))] H := hP
        have hD : va_D A [(q_a0, .inr (8, [.ref q_a0_told, .ref q_a0_kept, .ref q_a0_isKept, .ref q_a0_refused, .long a0_above, .long a0_below, .ref q_a0_manyBy, .ref q_a0_hers, .ref q_a0_his, .ref q_a0_hand, .ref q_a0_bytes, .int a0_bytesLong, .int a0_tokenAt, .int a0_tokenLong, .int a0_token, .int a0_value, .ref q_a0_anew, .ref q_a0_values])), (q_a0_told, .inl (cI, 163, .inl (upd (upd a0_told ((17 : Int32).toNatClampNeg) ((a0_told (17 : Int32).toNatClampNeg) ||| (1 <<< (x1 &&& 31)))) ((3 : Int32).toNatClampNeg) 0))), (q_a0_refused, .inl (cI, 3, .inl a0_refused))] := hD
        refine lv_iload_n hx hb dX9_mud_83 rfl (lv_at hl 0 rfl) ?_
        subst hQQ
        have hP9 := hP.sub (ws' := [(q_a0, .inr (8, [.ref q_a0_told, .ref q_a0_kept, .ref q_a0_isKept, .ref q_a0_refused, .long a0_above, .long a0_below, .ref q_a0_manyBy, .ref q_a0_hers, .ref q_a0_his, .ref q_a0_hand, .ref q_a0_bytes, .int a0_bytesLong, .int a0_tokenAt, .int a0_tokenLong, .int a0_token, .int a0_value, .ref q_a0_anew, .ref q_a0_values])), (q_a0_told, .inl (cI, 163, .inl (upd (upd a0_told ((17 : Int32).toNatClampNeg) ((a0_told (17 : Int32).toNatClampNeg) ||| (1 <<< (x1 &&& 31)))) ((3 : Int32).toNatClampNeg) 0))), (q_a0_refused, .inl (cI, 3, .inl a0_refused))]) [0, 1, 2] rfl
        have hD9 := hD.sub (ws' := [(q_a0, .inr (8, [.ref q_a0_told, .ref q_a0_kept, .ref q_a0_isKept, .ref q_a0_refused, .long a0_above, .long a0_below, .ref q_a0_manyBy, .ref q_a0_hers, .ref q_a0_his, .ref q_a0_hand, .ref q_a0_bytes, .int a0_bytesLong, .int a0_tokenAt, .int a0_tokenLong, .int a0_token, .int a0_value, .ref q_a0_anew, .ref q_a0_values])), (q_a0_told, .inl (cI, 163, .inl (upd (upd a0_told ((17 : Int32).toNatClampNeg) ((a0_told (17 : Int32).toNatClampNeg) ||| (1 <<< (x1 &&& 31)))) ((3 : Int32).toNatClampNeg) 0))), (q_a0_refused, .inl (cI, 3, .inl a0_refused))]) [0, 1, 2] (by decide) rfl
        exact W.iret hx hb hr (fun t ht hW => ⟨⟨(((a0_told (17 : Int32).toNatClampNeg) >>> (x1 &&& 31)) &&& 1), (upd (upd a0_told ((17 : Int32).toNatClampNeg) ((a0_told (17 : Int32).toNatClampNeg) ||| (1 <<< (x1 &&& 31)))) ((3 : Int32).toNatClampNeg) 0, a0_refused), rfl, hf, by rw [ht]; exact hP9, hD9⟩, hS.F ht⟩) hS.2.2 dX9_mud_84
    · have hf := it_t c_6 hf
      refine lv_aload_n hx hb dX9_mud_18 rfl (lv_at hl 0 rfl) ?_
      refine lv_bipush (v := (-2)) hx hb dX9_mud_19 (by decide) ?_
      have hPc := hP.sub (ws' := [(q_a0, .inr (8, [.ref q_a0_told, .ref q_a0_kept, .ref q_a0_isKept, .ref q_a0_refused, .long a0_above, .long a0_below, .ref q_a0_manyBy, .ref q_a0_hers, .ref q_a0_his, .ref q_a0_hand, .ref q_a0_bytes, .int a0_bytesLong, .int a0_tokenAt, .int a0_tokenLong, .int a0_token, .int a0_value, .ref q_a0_anew, .ref q_a0_values])), (q_a0_refused, .inl (cI, 3, .inl a0_refused))]) [0, 2] rfl
      have hDc := hD.sub (ws' := [(q_a0, .inr (8, [.ref q_a0_told, .ref q_a0_kept, .ref q_a0_isKept, .ref q_a0_refused, .long a0_above, .long a0_below, .ref q_a0_manyBy, .ref q_a0_hers, .ref q_a0_his, .ref q_a0_hand, .ref q_a0_bytes, .int a0_bytesLong, .int a0_tokenAt, .int a0_tokenLong, .int a0_token, .int a0_value, .ref q_a0_anew, .ref q_a0_values])), (q_a0_refused, .inl (cI, 3, .inl a0_refused))]) [0, 2] (by decide) rfl
      have hFc := va_free (wc := [(q_a0, .inr (8, [.ref q_a0_told, .ref q_a0_kept, .ref q_a0_isKept, .ref q_a0_refused, .long a0_above, .long a0_below, .ref q_a0_manyBy, .ref q_a0_hers, .ref q_a0_his, .ref q_a0_hand, .ref q_a0_bytes, .int a0_bytesLong, .int a0_tokenAt, .int a0_tokenLong, .int a0_token, .int a0_value, .ref q_a0_anew, .ref q_a0_values])), (q_a0_refused, .inl (cI, 3, .inl a0_refused))]) hD hS hA [0, 2] rfl
      refine va_calli (va_runV (As := [.int (-2)]) (rest := []) ⟨hx, hb, hml, hown, hts⟩ (c_X9_bad l D cI cZ cO q_a0 q_a0_told q_a0_kept q_a0_isKept q_a0_refused q_a0_manyBy q_a0_hers q_a0_his q_a0_hand q_a0_bytes q_a0_anew q_a0_values a0_above a0_below a0_bytesLong a0_tokenAt a0_tokenLong a0_token a0_value a0_refused s.heap.size (-2) _ hf) (cwV 1 hts gX9_mud_X9_bad rfl rfl rfl (by decide +kernel) ⟨Nat.le_of_ble_eq_true rfl, Nat.le_of_ble_eq_true rfl⟩) (pv_rw (ci := 8) (q0 := 0) hPc hDc hX rfl rfl) rfl rfl hl.1 rfl (lv_room (Nat.le_of_ble_eq_true rfl)) dX9_mud_21 ⟨Nat.zero_le _, Nat.zero_le _⟩) hS (fun q _ h => hFc q h) hFc (fun r_8 u t H1 locs ht hvm hf hB hz1 hk1 hS => ?_)
      obtain ⟨u_9, rfl⟩ : ∃ z, z = u := ⟨_, rfl⟩
      obtain ⟨hP1, hD1⟩ := hB
      rw [ht] at hP1
      clear hvm
      obtain ⟨hP, hD⟩ := va_join (wr := [(q_a0_told, .inl (cI, 163, .inl a0_told))]) (w1 := [(q_a0, .inr (8, [.ref q_a0_told, .ref q_a0_kept, .ref q_a0_isKept, .ref q_a0_refused, .long a0_above, .long a0_below, .ref q_a0_manyBy, .ref q_a0_hers, .ref q_a0_his, .ref q_a0_hand, .ref q_a0_bytes, .int a0_bytesLong, .int a0_tokenAt, .int a0_tokenLong, .int a0_token, .int a0_value, .ref q_a0_anew, .ref q_a0_values])), (q_a0_refused, .inl (cI, 3, .inl u_9))]) hP hD [0, 2] [1] rfl rfl (by decide) (by decide) hk1 hFc hP1 hD1
      clear hz1 hk1 hPc hDc hFc hP1 hD1
      generalize H1 = H at hP hS ⊢
      have hP : va_P D vwCl [(q_a0_told, .inl (cI, 163, .inl a0_told)), (q_a0, .inr (8, [.ref q_a0_told, .ref q_a0_kept, .ref q_a0_isKept, .ref q_a0_refused, .long a0_above, .long a0_below, .ref q_a0_manyBy, .ref q_a0_hers, .ref q_a0_his, .ref q_a0_hand, .ref q_a0_bytes, .int a0_bytesLong, .int a0_tokenAt, .int a0_tokenLong, .int a0_token, .int a0_value, .ref q_a0_anew, .ref q_a0_values])), (q_a0_refused, .inl (cI, 3, .inl u_9))] H := hP
      have hD : va_D A [(q_a0_told, .inl (cI, 163, .inl a0_told)), (q_a0, .inr (8, [.ref q_a0_told, .ref q_a0_kept, .ref q_a0_isKept, .ref q_a0_refused, .long a0_above, .long a0_below, .ref q_a0_manyBy, .ref q_a0_hers, .ref q_a0_his, .ref q_a0_hand, .ref q_a0_bytes, .int a0_bytesLong, .int a0_tokenAt, .int a0_tokenLong, .int a0_token, .int a0_value, .ref q_a0_anew, .ref q_a0_values])), (q_a0_refused, .inl (cI, 3, .inl u_9))] := hD
      subst hQQ
      have hP9 := hP.sub (ws' := [(q_a0, .inr (8, [.ref q_a0_told, .ref q_a0_kept, .ref q_a0_isKept, .ref q_a0_refused, .long a0_above, .long a0_below, .ref q_a0_manyBy, .ref q_a0_hers, .ref q_a0_his, .ref q_a0_hand, .ref q_a0_bytes, .int a0_bytesLong, .int a0_tokenAt, .int a0_tokenLong, .int a0_token, .int a0_value, .ref q_a0_anew, .ref q_a0_values])), (q_a0_told, .inl (cI, 163, .inl a0_told)), (q_a0_refused, .inl (cI, 3, .inl u_9))]) [1, 0, 2] rfl
      have hD9 := hD.sub (ws' := [(q_a0, .inr (8, [.ref q_a0_told, .ref q_a0_kept, .ref q_a0_isKept, .ref q_a0_refused, .long a0_above, .long a0_below, .ref q_a0_manyBy, .ref q_a0_hers, .ref q_a0_his, .ref q_a0_hand, .ref q_a0_bytes, .int a0_bytesLong, .int a0_tokenAt, .int a0_tokenLong, .int a0_token, .int a0_value, .ref q_a0_anew, .ref q_a0_values])), (q_a0_told, .inl (cI, 163, .inl a0_told)), (q_a0_refused, .inl (cI, 3, .inl u_9))]) [1, 0, 2] (by decide) rfl
      exact W.iret hx hb hr (fun t ht hW => ⟨⟨r_8, (a0_told, u_9), rfl, hf, by rw [ht]; exact hP9, hD9⟩, hS.F ht⟩) hS.2.2 dX9_mud_24
def p_X9_driver (a0_told : Nat → Int32) (a0_refused : Nat → Int32) (x1 : Int32) (x2 : Int32) (Q : Int32 → (Nat → Int32) → (Nat → Int32) → Prop) : Prop :=
  p_X9_isKind x1 (fun r_1 => if r_1 = 0 then (p_X9_bad a0_refused (-2) (fun r_3 u_4 => Q r_3 a0_told u_4)) else (p_X9_isFog x2 (fun r_5 => if r_5 = 0 then (p_X9_bad a0_refused (-2) (fun r_7 u_8 => Q r_7 a0_told u_8)) else (Q 1 (upd (upd (upd a0_told ((15 : Int32).toNatClampNeg) x1) ((16 : Int32).toNatClampNeg) x2) ((3 : Int32).toNatClampNeg) 0) a0_refused))))
def rmX9_driver : Room := { frames := 2, cells := 0, slots := 0, locals := 45 }
set_option maxHeartbeats 4000000 in
set_option maxRecDepth 100000 in
theorem c_X9_driver (l : Launch) (D : va_G) (cI cZ cO : ClassId) (q_a0 q_a0_told q_a0_kept q_a0_isKept q_a0_refused q_a0_manyBy q_a0_hers q_a0_his q_a0_hand q_a0_bytes q_a0_anew q_a0_values : Nat) (a0_above : Int64) (a0_below : Int64) (a0_bytesLong : Int32) (a0_tokenAt : Int32) (a0_tokenLong : Int32) (a0_token : Int32) (a0_value : Int32) (a0_told : Nat → Int32) (a0_refused : Nat → Int32) (sz : Nat) (x1 : Int32) (x2 : Int32) (Q : Int32 → (Nat → Int32) → (Nat → Int32) → Prop) (hf : p_X9_driver a0_told a0_refused x1 x2 Q) : Met l yX9_driver wsX9_driver rmX9_driver (va_Pc [.ref q_a0, .int x1, .int x2] (fun U => U.heap.size = sz ∧ va_P D vwCl [(q_a0, .inr (8, [.ref q_a0_told, .ref q_a0_kept, .ref q_a0_isKept, .ref q_a0_refused, .long a0_above, .long a0_below, .ref q_a0_manyBy, .ref q_a0_hers, .ref q_a0_his, .ref q_a0_hand, .ref q_a0_bytes, .int a0_bytesLong, .int a0_tokenAt, .int a0_tokenLong, .int a0_token, .int a0_value, .ref q_a0_anew, .ref q_a0_values])), (q_a0_told, .inl (cI, 163, .inl a0_told)), (q_a0_refused, .inl (cI, 3, .inl a0_refused))] U.heap ∧ XK D cI cZ cO U ∧ va_D (fun _ => True) [(q_a0, .inr (8, [.ref q_a0_told, .ref q_a0_kept, .ref q_a0_isKept, .ref q_a0_refused, .long a0_above, .long a0_below, .ref q_a0_manyBy, .ref q_a0_hers, .ref q_a0_his, .ref q_a0_hand, .ref q_a0_bytes, .int a0_bytesLong, .int a0_tokenAt, .int a0_tokenLong, .int a0_token, .int a0_value, .ref q_a0_anew, .ref q_a0_values])), (q_a0_told, .inl (cI, 163, .inl a0_told)), (q_a0_refused, .inl (cI, 3, .inl a0_refused))])) (va_Qi (fun r (u : (Nat → Int32) × (Nat → Int32)) => Q r u.1 u.2) (fun (u : (Nat → Int32) × (Nat → Int32)) t => va_P D vwCl [(q_a0, .inr (8, [.ref q_a0_told, .ref q_a0_kept, .ref q_a0_isKept, .ref q_a0_refused, .long a0_above, .long a0_below, .ref q_a0_manyBy, .ref q_a0_hers, .ref q_a0_his, .ref q_a0_hand, .ref q_a0_bytes, .int a0_bytesLong, .int a0_tokenAt, .int a0_tokenLong, .int a0_token, .int a0_value, .ref q_a0_anew, .ref q_a0_values])), (q_a0_told, .inl (cI, 163, .inl u.1)), (q_a0_refused, .inl (cI, 3, .inl u.2))] t.heap ∧ va_D (va_A [(q_a0, .inr (8, [.ref q_a0_told, .ref q_a0_kept, .ref q_a0_isKept, .ref q_a0_refused, .long a0_above, .long a0_below, .ref q_a0_manyBy, .ref q_a0_hers, .ref q_a0_his, .ref q_a0_hand, .ref q_a0_bytes, .int a0_bytesLong, .int a0_tokenAt, .int a0_tokenLong, .int a0_token, .int a0_value, .ref q_a0_anew, .ref q_a0_values])), (q_a0_told, .inl (cI, 163, .inl a0_told)), (q_a0_refused, .inl (cI, 3, .inl a0_refused))] sz) [(q_a0, .inr (8, [.ref q_a0_told, .ref q_a0_kept, .ref q_a0_isKept, .ref q_a0_refused, .long a0_above, .long a0_below, .ref q_a0_manyBy, .ref q_a0_hers, .ref q_a0_his, .ref q_a0_hand, .ref q_a0_bytes, .int a0_bytesLong, .int a0_tokenAt, .int a0_tokenLong, .int a0_token, .int a0_value, .ref q_a0_anew, .ref q_a0_values])), (q_a0_told, .inl (cI, 163, .inl u.1)), (q_a0_refused, .inl (cI, 3, .inl u.2))]) (va_A [(q_a0, .inr (8, [.ref q_a0_told, .ref q_a0_kept, .ref q_a0_isKept, .ref q_a0_refused, .long a0_above, .long a0_below, .ref q_a0_manyBy, .ref q_a0_hers, .ref q_a0_his, .ref q_a0_hand, .ref q_a0_bytes, .int a0_bytesLong, .int a0_tokenAt, .int a0_tokenLong, .int a0_token, .int a0_value, .ref q_a0_anew, .ref q_a0_values])), (q_a0_told, .inl (cI, 163, .inl a0_told)), (q_a0_refused, .inl (cI, 3, .inl a0_refused))] sz)) 0 0 (va_A [(q_a0, .inr (8, [.ref q_a0_told, .ref q_a0_kept, .ref q_a0_isKept, .ref q_a0_refused, .long a0_above, .long a0_below, .ref q_a0_manyBy, .ref q_a0_hers, .ref q_a0_his, .ref q_a0_hand, .ref q_a0_bytes, .int a0_bytesLong, .int a0_tokenAt, .int a0_tokenLong, .int a0_token, .int a0_value, .ref q_a0_anew, .ref q_a0_values])), (q_a0_told, .inl (cI, 163, .inl a0_told)), (q_a0_refused, .inl (cI, 3, .inl a0_refused))] sz) := by
  refine Met.ofW (cc := cX9_driver) (maxL := 3) (ret := (some .int)) (by decide) rfl ?_
  intro p e s m args below meth c s₁ B hml hv
  obtain ⟨rfl, hsz, hP, hX, hD0⟩ := hv
  have hK := hX.1
  have hx := B.exec
  have hb := B.bytes
  have hr := B.returns
  have hts := atoms_spec (ws := wsX9_driver) B.pre
  have hown : s.vm.findClass RX9 = some m.cls := findClass_of_methodNamed B.named
  have hlocks := B.notSynchronized
  have in_X9 : ∀ w ∈ wsX90, w ∈ wsX9_driver := fun _ h => List.mem_cons_of_mem _ (List.mem_append_right _ h)
  have kf_7 := hts (.fieldLink RX9 7 "LeftCrestModel" "told" "[I") (by decide +kernel)
  subst hsz
  have hD := hD0.self (sz := s.heap.size)
  generalize hAe : va_A [(q_a0, .inr (8, [.ref q_a0_told, .ref q_a0_kept, .ref q_a0_isKept, .ref q_a0_refused, .long a0_above, .long a0_below, .ref q_a0_manyBy, .ref q_a0_hers, .ref q_a0_his, .ref q_a0_hand, .ref q_a0_bytes, .int a0_bytesLong, .int a0_tokenAt, .int a0_tokenLong, .int a0_token, .int a0_value, .ref q_a0_anew, .ref q_a0_values])), (q_a0_told, .inl (cI, 163, .inl a0_told)), (q_a0_refused, .inl (cI, 3, .inl a0_refused))] s.heap.size = A at hD ⊢
  have hA : ∀ q : Nat, s.heap.size ≤ q → A q := fun q h => by rw [← hAe]; exact Or.inr h
  have hS : va_S A s.heap s.heap [] := va_S.rf
  have hP : va_P D vwCl [(q_a0, .inr (8, [.ref q_a0_told, .ref q_a0_kept, .ref q_a0_isKept, .ref q_a0_refused, .long a0_above, .long a0_below, .ref q_a0_manyBy, .ref q_a0_hers, .ref q_a0_his, .ref q_a0_hand, .ref q_a0_bytes, .int a0_bytesLong, .int a0_tokenAt, .int a0_tokenLong, .int a0_token, .int a0_value, .ref q_a0_anew, .ref q_a0_values])), (q_a0_told, .inl (cI, 163, .inl a0_told)), (q_a0_refused, .inl (cI, 3, .inl a0_refused))] s.heap := hP
  generalize hQQ : MQ below _ _ s _ _ _ = QQ
  have hl := lv_entry ([.ref q_a0, .int x1, .int x2]) (n := 3) (Nat.le_of_ble_eq_true rfl)
  rw [lg_entry_eq]
  generalize (lg_sl ([.ref q_a0, .int x1, .int x2]) ++ List.replicate (3 - (lg_sl ([.ref q_a0, .int x1, .int x2])).length) Slot.unset).toArray = ls at hl ⊢
  have hl : lv_has ls 3 [(0, .ref q_a0), (1, .int x1), (2, .int x2)] := hl
  unfold p_X9_driver at hf
  refine lv_iload_n hx hb dX9_driver_0 rfl (lv_at hl 1 rfl) ?_
  refine ya_csi (va_runS (As := [.int x1]) (rest := []) ⟨hx, hb, hml, hown, hts⟩ (c_X9_isKind l D cI cZ cO  x1 _ hf) (va_cwS 1 hts gX9_driver_X9_isKind rfl rfl rfl (by decide +kernel) ⟨Nat.le_of_ble_eq_true rfl, Nat.le_of_ble_eq_true rfl⟩) (ps_ro va_P0 hX) rfl rfl hl.1 rfl (lv_room (Nat.le_of_ble_eq_true rfl)) dX9_driver_1 ⟨Nat.zero_le _, Nat.zero_le _⟩) (fun r_1 hf => ?_)
  refine lv_if_eq (tgt := 14) hx hb dX9_driver_4 (by decide) (fun c_2 => ?_) (fun c_2 => ?_)
  · have hf := it_t c_2 hf
    refine lv_aload_n hx hb dX9_driver_14 rfl (lv_at hl 0 rfl) ?_
    refine lv_bipush (v := (-2)) hx hb dX9_driver_15 (by decide) ?_
    have hPc := hP.sub (ws' := [(q_a0, .inr (8, [.ref q_a0_told, .ref q_a0_kept, .ref q_a0_isKept, .ref q_a0_refused, .long a0_above, .long a0_below, .ref q_a0_manyBy, .ref q_a0_hers, .ref q_a0_his, .ref q_a0_hand, .ref q_a0_bytes, .int a0_bytesLong, .int a0_tokenAt, .int a0_tokenLong, .int a0_token, .int a0_value, .ref q_a0_anew, .ref q_a0_values])), (q_a0_refused, .inl (cI, 3, .inl a0_refused))]) [0, 2] rfl
    have hDc := hD.sub (ws' := [(q_a0, .inr (8, [.ref q_a0_told, .ref q_a0_kept, .ref q_a0_isKept, .ref q_a0_refused, .long a0_above, .long a0_below, .ref q_a0_manyBy, .ref q_a0_hers, .ref q_a0_his, .ref q_a0_hand, .ref q_a0_bytes, .int a0_bytesLong, .int a0_tokenAt, .int a0_tokenLong, .int a0_token, .int a0_value, .ref q_a0_anew, .ref q_a0_values])), (q_a0_refused, .inl (cI, 3, .inl a0_refused))]) [0, 2] (by decide) rfl
    have hFc := va_free (wc := [(q_a0, .inr (8, [.ref q_a0_told, .ref q_a0_kept, .ref q_a0_isKept, .ref q_a0_refused, .long a0_above, .long a0_below, .ref q_a0_manyBy, .ref q_a0_hers, .ref q_a0_his, .ref q_a0_hand, .ref q_a0_bytes, .int a0_bytesLong, .int a0_tokenAt, .int a0_tokenLong, .int a0_token, .int a0_value, .ref q_a0_anew, .ref q_a0_values])), (q_a0_refused, .inl (cI, 3, .inl a0_refused))]) hD hS hA [0, 2] rfl
    refine va_calli (va_runV (As := [.int (-2)]) (rest := []) ⟨hx, hb, hml, hown, hts⟩ (c_X9_bad l D cI cZ cO q_a0 q_a0_told q_a0_kept q_a0_isKept q_a0_refused q_a0_manyBy q_a0_hers q_a0_his q_a0_hand q_a0_bytes q_a0_anew q_a0_values a0_above a0_below a0_bytesLong a0_tokenAt a0_tokenLong a0_token a0_value a0_refused s.heap.size (-2) _ hf) (cwV 1 hts gX9_driver_X9_bad rfl rfl rfl (by decide +kernel) ⟨Nat.le_of_ble_eq_true rfl, Nat.le_of_ble_eq_true rfl⟩) (pv_rw (ci := 8) (q0 := 0) hPc hDc hX rfl rfl) rfl rfl hl.1 rfl (lv_room (Nat.le_of_ble_eq_true rfl)) dX9_driver_17 ⟨Nat.zero_le _, Nat.zero_le _⟩) hS (fun q _ h => hFc q h) hFc (fun r_3 u t H1 locs ht hvm hf hB hz1 hk1 hS => ?_)
    obtain ⟨u_4, rfl⟩ : ∃ z, z = u := ⟨_, rfl⟩
    obtain ⟨hP1, hD1⟩ := hB
    rw [ht] at hP1
    clear hvm
    obtain ⟨hP, hD⟩ := va_join (wr := [(q_a0_told, .inl (cI, 163, .inl a0_told))]) (w1 := [(q_a0, .inr (8, [.ref q_a0_told, .ref q_a0_kept, .ref q_a0_isKept, .ref q_a0_refused, .long a0_above, .long a0_below, .ref q_a0_manyBy, .ref q_a0_hers, .ref q_a0_his, .ref q_a0_hand, .ref q_a0_bytes, .int a0_bytesLong, .int a0_tokenAt, .int a0_tokenLong, .int a0_token, .int a0_value, .ref q_a0_anew, .ref q_a0_values])), (q_a0_refused, .inl (cI, 3, .inl u_4))]) hP hD [0, 2] [1] rfl rfl (by decide) (by decide) hk1 hFc hP1 hD1
    clear hz1 hk1 hPc hDc hFc hP1 hD1
    generalize H1 = H at hP hS ⊢
    have hP : va_P D vwCl [(q_a0_told, .inl (cI, 163, .inl a0_told)), (q_a0, .inr (8, [.ref q_a0_told, .ref q_a0_kept, .ref q_a0_isKept, .ref q_a0_refused, .long a0_above, .long a0_below, .ref q_a0_manyBy, .ref q_a0_hers, .ref q_a0_his, .ref q_a0_hand, .ref q_a0_bytes, .int a0_bytesLong, .int a0_tokenAt, .int a0_tokenLong, .int a0_token, .int a0_value, .ref q_a0_anew, .ref q_a0_values])), (q_a0_refused, .inl (cI, 3, .inl u_4))] H := hP
    have hD : va_D A [(q_a0_told, .inl (cI, 163, .inl a0_told)), (q_a0, .inr (8, [.ref q_a0_told, .ref q_a0_kept, .ref q_a0_isKept, .ref q_a0_refused, .long a0_above, .long a0_below, .ref q_a0_manyBy, .ref q_a0_hers, .ref q_a0_his, .ref q_a0_hand, .ref q_a0_bytes, .int a0_bytesLong, .int a0_tokenAt, .int a0_tokenLong, .int a0_token, .int a0_value, .ref q_a0_anew, .ref q_a0_values])), (q_a0_refused, .inl (cI, 3, .inl u_4))] := hD
    subst hQQ
    have hP9 := hP.sub (ws' := [(q_a0, .inr (8, [.ref q_a0_told, .ref q_a0_kept, .ref q_a0_isKept, .ref q_a0_refused, .long a0_above, .long a0_below, .ref q_a0_manyBy, .ref q_a0_hers, .ref q_a0_his, .ref q_a0_hand, .ref q_a0_bytes, .int a0_bytesLong, .int a0_tokenAt, .int a0_tokenLong, .int a0_token, .int a0_value, .ref q_a0_anew, .ref q_a0_values])), (q_a0_told, .inl (cI, 163, .inl a0_told)), (q_a0_refused, .inl (cI, 3, .inl u_4))]) [1, 0, 2] rfl
    have hD9 := hD.sub (ws' := [(q_a0, .inr (8, [.ref q_a0_told, .ref q_a0_kept, .ref q_a0_isKept, .ref q_a0_refused, .long a0_above, .long a0_below, .ref q_a0_manyBy, .ref q_a0_hers, .ref q_a0_his, .ref q_a0_hand, .ref q_a0_bytes, .int a0_bytesLong, .int a0_tokenAt, .int a0_tokenLong, .int a0_token, .int a0_value, .ref q_a0_anew, .ref q_a0_values])), (q_a0_told, .inl (cI, 163, .inl a0_told)), (q_a0_refused, .inl (cI, 3, .inl u_4))]) [1, 0, 2] (by decide) rfl
    exact W.iret hx hb hr (fun t ht hW => ⟨⟨r_3, (a0_told, u_4), rfl, hf, by rw [ht]; exact hP9, hD9⟩, hS.F ht⟩) hS.2.2 dX9_driver_20
  · have hf := it_f c_2 hf
    refine lv_iload_n hx hb dX9_driver_7 rfl (lv_at hl 2 rfl) ?_
    refine ya_csi (va_runS (As := [.int x2]) (rest := []) ⟨hx, hb, hml, hown, hts⟩ (c_X9_isFog l D cI cZ cO  x2 _ hf) (va_cwS 1 hts gX9_driver_X9_isFog rfl rfl rfl (by decide +kernel) ⟨Nat.le_of_ble_eq_true rfl, Nat.le_of_ble_eq_true rfl⟩) (ps_ro va_P0 hX) rfl rfl hl.1 rfl (lv_room (Nat.le_of_ble_eq_true rfl)) dX9_driver_8 ⟨Nat.zero_le _, Nat.zero_le _⟩) (fun r_5 hf => ?_)
    refine lv_if_ne (tgt := 21) hx hb dX9_driver_11 (by decide) (fun c_6 => ?_) (fun c_6 => ?_)
    · have hf := it_f c_6 hf
      refine lv_aload_n hx hb dX9_driver_21 rfl (lv_at hl 0 rfl) ?_
      refine va_get (D := D) (ci := 8) (v := .ref q_a0_told) (C := RX9) (T := TX9) (N := 18) hx hb hts in_X9 hown hK hP 0 rfl rfl 0 (by decide) kf_7 (fun _ h9 => h9) rfl dX9_driver_22 ?_
      refine lv_bipush (v := 15) hx hb dX9_driver_25 (by decide) ?_
      refine lv_iload_n hx hb dX9_driver_27 rfl (lv_at hl 1 rfl) ?_
      refine va_iast hx hb hK hP hD hS 1 0 rfl rfl (by unfold vp_in; decide) dX9_driver_28 (fun H locs hP hD hS => ?_)
      have hP : va_P D vwCl [(q_a0, .inr (8, [.ref q_a0_told, .ref q_a0_kept, .ref q_a0_isKept, .ref q_a0_refused, .long a0_above, .long a0_below, .ref q_a0_manyBy, .ref q_a0_hers, .ref q_a0_his, .ref q_a0_hand, .ref q_a0_bytes, .int a0_bytesLong, .int a0_tokenAt, .int a0_tokenLong, .int a0_token, .int a0_value, .ref q_a0_anew, .ref q_a0_values])), (q_a0_told, .inl (cI, 163, .inl (upd a0_told ((15 : Int32).toNatClampNeg) x1))), (q_a0_refused, .inl (cI, 3, .inl a0_refused))] H := hP
      have hD : va_D A [(q_a0, .inr (8, [.ref q_a0_told, .ref q_a0_kept, .ref q_a0_isKept, .ref q_a0_refused, .long a0_above, .long a0_below, .ref q_a0_manyBy, .ref q_a0_hers, .ref q_a0_his, .ref q_a0_hand, .ref q_a0_bytes, .int a0_bytesLong, .int a0_tokenAt, .int a0_tokenLong, .int a0_token, .int a0_value, .ref q_a0_anew, .ref q_a0_values])), (q_a0_told, .inl (cI, 163, .inl (upd a0_told ((15 : Int32).toNatClampNeg) x1))), (q_a0_refused, .inl (cI, 3, .inl a0_refused))] := hD
      refine lv_aload_n hx hb dX9_driver_29 rfl (lv_at hl 0 rfl) ?_
      refine va_get (D := D) (ci := 8) (v := .ref q_a0_told) (C := RX9) (T := TX9) (N := 18) hx hb hts in_X9 hown hK hP 0 rfl rfl 0 (by decide) kf_7 (fun _ h9 => h9) rfl dX9_driver_30 ?_
      refine lv_bipush (v := 16) hx hb dX9_driver_33 (by decide) ?_
      refine lv_iload_n hx hb dX9_driver_35 rfl (lv_at hl 2 rfl) ?_
      refine va_iast hx hb hK hP hD hS 1 0 rfl rfl (by unfold vp_in; decide) dX9_driver_36 (fun H locs hP hD hS => ?_)
      have hP : va_P D vwCl [(q_a0, .inr (8, [.ref q_a0_told, .ref q_a0_kept, .ref q_a0_isKept, .ref q_a0_refused, .long a0_above, .long a0_below, .ref q_a0_manyBy, .ref q_a0_hers, .ref q_a0_his, .ref q_a0_hand, .ref q_a0_bytes, .int a0_bytesLong, .int a0_tokenAt, .int a0_tokenLong, .int a0_token, .int a0_value, .ref q_a0_anew, .ref q_a0_values])), (q_a0_told, .inl (cI, 163, .inl (upd (upd a0_told ((15 : Int32).toNatClampNeg) x1) ((16 : Int32).toNatClampNeg) x2))), (q_a0_refused, .inl (cI, 3, .inl a0_refused))] H := hP
      have hD : va_D A [(q_a0, .inr (8, [.ref q_a0_told, .ref q_a0_kept, .ref q_a0_isKept, .ref q_a0_refused, .long a0_above, .long a0_below, .ref q_a0_manyBy, .ref q_a0_hers, .ref q_a0_his, .ref q_a0_hand, .ref q_a0_bytes, .int a0_bytesLong, .int a0_tokenAt, .int a0_tokenLong, .int a0_token, .int a0_value, .ref q_a0_anew, .ref q_a0_values])), (q_a0_told, .inl (cI, 163, .inl (upd (upd a0_told ((15 : Int32).toNatClampNeg) x1) ((16 : Int32).toNatClampNeg) x2))), (q_a0_refused, .inl (cI, 3, .inl a0_refused))] := hD
      refine lv_aload_n hx hb dX9_driver_37 rfl (lv_at hl 0 rfl) ?_
      refine va_get (D := D) (ci := 8) (v := .ref q_a0_told) (C := RX9) (T := TX9) (N := 18) hx hb hts in_X9 hown hK hP 0 rfl rfl 0 (by decide) kf_7 (fun _ h9 => h9) rfl dX9_driver_38 ?_
      refine lv_iconst (v := 3) hx hb dX9_driver_41 (by decide) ?_
      refine lv_iconst (v := 0) hx hb dX9_driver_42 (by decide) ?_
      refine va_iast hx hb hK hP hD hS 1 0 rfl rfl (by unfold vp_in; decide) dX9_driver_43 (fun H locs hP hD hS => ?_)
      have hP : va_P D vwCl [(q_a0, .inr (8, [.ref q_a0_told, .ref q_a0_kept, .ref q_a0_isKept, .ref q_a0_refused, .long a0_above, .long a0_below, .ref q_a0_manyBy, .ref q_a0_hers, .ref q_a0_his, .ref q_a0_hand, .ref q_a0_bytes, .int a0_bytesLong, .int a0_tokenAt, .int a0_tokenLong, .int a0_token, .int a0_value, .ref q_a0_anew, .ref q_a0_values])), (q_a0_told, .inl (cI, 163, .inl (upd (upd (upd a0_told ((15 : Int32).toNatClampNeg) x1) ((16 : Int32).toNatClampNeg) x2) ((3 : Int32).toNatClampNeg) 0))), (q_a0_refused, .inl (cI, 3, .inl a0_refused))] H := hP
      have hD : va_D A [(q_a0, .inr (8, [.ref q_a0_told, .ref q_a0_kept, .ref q_a0_isKept, .ref q_a0_refused, .long a0_above, .long a0_below, .ref q_a0_manyBy, .ref q_a0_hers, .ref q_a0_his, .ref q_a0_hand, .ref q_a0_bytes, .int a0_bytesLong, .int a0_tokenAt, .int a0_tokenLong, .int a0_token, .int a0_value, .ref q_a0_anew, .ref q_a0_values])), (q_a0_told, .inl (cI, 163, .inl (upd (upd (upd a0_told ((15 : Int32).toNatClampNeg) x1) ((16 : Int32).toNatClampNeg) x2) ((3 : Int32).toNatClampNeg) 0))), (q_a0_refused, .inl (cI, 3, .inl a0_refused))] := hD
      refine lv_iconst (v := 1) hx hb dX9_driver_44 (by decide) ?_
      subst hQQ
      have hP9 := hP.sub (ws' := [(q_a0, .inr (8, [.ref q_a0_told, .ref q_a0_kept, .ref q_a0_isKept, .ref q_a0_refused, .long a0_above, .long a0_below, .ref q_a0_manyBy, .ref q_a0_hers, .ref q_a0_his, .ref q_a0_hand, .ref q_a0_bytes, .int a0_bytesLong, .int a0_tokenAt, .int a0_tokenLong, .int a0_token, .int a0_value, .ref q_a0_anew, .ref q_a0_values])), (q_a0_told, .inl (cI, 163, .inl (upd (upd (upd a0_told ((15 : Int32).toNatClampNeg) x1) ((16 : Int32).toNatClampNeg) x2) ((3 : Int32).toNatClampNeg) 0))), (q_a0_refused, .inl (cI, 3, .inl a0_refused))]) [0, 1, 2] rfl
      have hD9 := hD.sub (ws' := [(q_a0, .inr (8, [.ref q_a0_told, .ref q_a0_kept, .ref q_a0_isKept, .ref q_a0_refused, .long a0_above, .long a0_below, .ref q_a0_manyBy, .ref q_a0_hers, .ref q_a0_his, .ref q_a0_hand, .ref q_a0_bytes, .int a0_bytesLong, .int a0_tokenAt, .int a0_tokenLong, .int a0_token, .int a0_value, .ref q_a0_anew, .ref q_a0_values])), (q_a0_told, .inl (cI, 163, .inl (upd (upd (upd a0_told ((15 : Int32).toNatClampNeg) x1) ((16 : Int32).toNatClampNeg) x2) ((3 : Int32).toNatClampNeg) 0))), (q_a0_refused, .inl (cI, 3, .inl a0_refused))]) [0, 1, 2] (by decide) rfl
      exact W.iret hx hb hr (fun t ht hW => ⟨⟨1, (upd (upd (upd a0_told ((15 : Int32).toNatClampNeg) x1) ((16 : Int32).toNatClampNeg) x2) ((3 : Int32).toNatClampNeg) 0, a0_refused), rfl, hf, by rw [ht]; exact hP9, hD9⟩, hS.F ht⟩) hS.2.2 dX9_driver_45
    · have hf := it_t c_6 hf
      refine lv_aload_n hx hb dX9_driver_14 rfl (lv_at hl 0 rfl) ?_
      refine lv_bipush (v := (-2)) hx hb dX9_driver_15 (by decide) ?_
      have hPc := hP.sub (ws' := [(q_a0, .inr (8, [.ref q_a0_told, .ref q_a0_kept, .ref q_a0_isKept, .ref q_a0_refused, .long a0_above, .long a0_below, .ref q_a0_manyBy, .ref q_a0_hers, .ref q_a0_his, .ref q_a0_hand, .ref q_a0_bytes, .int a0_bytesLong, .int a0_tokenAt, .int a0_tokenLong, .int a0_token, .int a0_value, .ref q_a0_anew, .ref q_a0_values])), (q_a0_refused, .inl (cI, 3, .inl a0_refused))]) [0, 2] rfl
      have hDc := hD.sub (ws' := [(q_a0, .inr (8, [.ref q_a0_told, .ref q_a0_kept, .ref q_a0_isKept, .ref q_a0_refused, .long a0_above, .long a0_below, .ref q_a0_manyBy, .ref q_a0_hers, .ref q_a0_his, .ref q_a0_hand, .ref q_a0_bytes, .int a0_bytesLong, .int a0_tokenAt, .int a0_tokenLong, .int a0_token, .int a0_value, .ref q_a0_anew, .ref q_a0_values])), (q_a0_refused, .inl (cI, 3, .inl a0_refused))]) [0, 2] (by decide) rfl
      have hFc := va_free (wc := [(q_a0, .inr (8, [.ref q_a0_told, .ref q_a0_kept, .ref q_a0_isKept, .ref q_a0_refused, .long a0_above, .long a0_below, .ref q_a0_manyBy, .ref q_a0_hers, .ref q_a0_his, .ref q_a0_hand, .ref q_a0_bytes, .int a0_bytesLong, .int a0_tokenAt, .int a0_tokenLong, .int a0_token, .int a0_value, .ref q_a0_anew, .ref q_a0_values])), (q_a0_refused, .inl (cI, 3, .inl a0_refused))]) hD hS hA [0, 2] rfl
      refine va_calli (va_runV (As := [.int (-2)]) (rest := []) ⟨hx, hb, hml, hown, hts⟩ (c_X9_bad l D cI cZ cO q_a0 q_a0_told q_a0_kept q_a0_isKept q_a0_refused q_a0_manyBy q_a0_hers q_a0_his q_a0_hand q_a0_bytes q_a0_anew q_a0_values a0_above a0_below a0_bytesLong a0_tokenAt a0_tokenLong a0_token a0_value a0_refused s.heap.size (-2) _ hf) (cwV 1 hts gX9_driver_X9_bad rfl rfl rfl (by decide +kernel) ⟨Nat.le_of_ble_eq_true rfl, Nat.le_of_ble_eq_true rfl⟩) (pv_rw (ci := 8) (q0 := 0) hPc hDc hX rfl rfl) rfl rfl hl.1 rfl (lv_room (Nat.le_of_ble_eq_true rfl)) dX9_driver_17 ⟨Nat.zero_le _, Nat.zero_le _⟩) hS (fun q _ h => hFc q h) hFc (fun r_7 u t H1 locs ht hvm hf hB hz1 hk1 hS => ?_)
      obtain ⟨u_8, rfl⟩ : ∃ z, z = u := ⟨_, rfl⟩
      obtain ⟨hP1, hD1⟩ := hB
      rw [ht] at hP1
      clear hvm
      obtain ⟨hP, hD⟩ := va_join (wr := [(q_a0_told, .inl (cI, 163, .inl a0_told))]) (w1 := [(q_a0, .inr (8, [.ref q_a0_told, .ref q_a0_kept, .ref q_a0_isKept, .ref q_a0_refused, .long a0_above, .long a0_below, .ref q_a0_manyBy, .ref q_a0_hers, .ref q_a0_his, .ref q_a0_hand, .ref q_a0_bytes, .int a0_bytesLong, .int a0_tokenAt, .int a0_tokenLong, .int a0_token, .int a0_value, .ref q_a0_anew, .ref q_a0_values])), (q_a0_refused, .inl (cI, 3, .inl u_8))]) hP hD [0, 2] [1] rfl rfl (by decide) (by decide) hk1 hFc hP1 hD1
      clear hz1 hk1 hPc hDc hFc hP1 hD1
      generalize H1 = H at hP hS ⊢
      have hP : va_P D vwCl [(q_a0_told, .inl (cI, 163, .inl a0_told)), (q_a0, .inr (8, [.ref q_a0_told, .ref q_a0_kept, .ref q_a0_isKept, .ref q_a0_refused, .long a0_above, .long a0_below, .ref q_a0_manyBy, .ref q_a0_hers, .ref q_a0_his, .ref q_a0_hand, .ref q_a0_bytes, .int a0_bytesLong, .int a0_tokenAt, .int a0_tokenLong, .int a0_token, .int a0_value, .ref q_a0_anew, .ref q_a0_values])), (q_a0_refused, .inl (cI, 3, .inl u_8))] H := hP
      have hD : va_D A [(q_a0_told, .inl (cI, 163, .inl a0_told)), (q_a0, .inr (8, [.ref q_a0_told, .ref q_a0_kept, .ref q_a0_isKept, .ref q_a0_refused, .long a0_above, .long a0_below, .ref q_a0_manyBy, .ref q_a0_hers, .ref q_a0_his, .ref q_a0_hand, .ref q_a0_bytes, .int a0_bytesLong, .int a0_tokenAt, .int a0_tokenLong, .int a0_token, .int a0_value, .ref q_a0_anew, .ref q_a0_values])), (q_a0_refused, .inl (cI, 3, .inl u_8))] := hD
      subst hQQ
      have hP9 := hP.sub (ws' := [(q_a0, .inr (8, [.ref q_a0_told, .ref q_a0_kept, .ref q_a0_isKept, .ref q_a0_refused, .long a0_above, .long a0_below, .ref q_a0_manyBy, .ref q_a0_hers, .ref q_a0_his, .ref q_a0_hand, .ref q_a0_bytes, .int a0_bytesLong, .int a0_tokenAt, .int a0_tokenLong, .int a0_token, .int a0_value, .ref q_a0_anew, .ref q_a0_values])), (q_a0_told, .inl (cI, 163, .inl a0_told)), (q_a0_refused, .inl (cI, 3, .inl u_8))]) [1, 0, 2] rfl
      have hD9 := hD.sub (ws' := [(q_a0, .inr (8, [.ref q_a0_told, .ref q_a0_kept, .ref q_a0_isKept, .ref q_a0_refused, .long a0_above, .long a0_below, .ref q_a0_manyBy, .ref q_a0_hers, .ref q_a0_his, .ref q_a0_hand, .ref q_a0_bytes, .int a0_bytesLong, .int a0_tokenAt, .int a0_tokenLong, .int a0_token, .int a0_value, .ref q_a0_anew, .ref q_a0_values])), (q_a0_told, .inl (cI, 163, .inl a0_told)), (q_a0_refused, .inl (cI, 3, .inl u_8))]) [1, 0, 2] (by decide) rfl
      exact W.iret hx hb hr (fun t ht hW => ⟨⟨r_7, (a0_told, u_8), rfl, hf, by rw [ht]; exact hP9, hD9⟩, hS.F ht⟩) hS.2.2 dX9_driver_20
def jX9_paceAs_43 (x0 : Int32) (x2 : Int32) (x3 : Int32) (x4 : Int32) (Q : Int32 → Prop) (v_1 : Int32) (v_2 : Int32) (t_3 : Int32) : Prop :=
  if x0 = 1 then (if 3 < x3 then (Q v_1) else (Q x2)) else (if x0 = 2 then (Q v_2) else (if x0 = 3 then (Q t_3) else (if x0 = 4 then (if 7 ≤ x3 then (Q t_3) else (Q (t_3 + 1))) else (if x0 = 5 then (if x4 = 0 then (Q v_2) else (if v_2 ≤ 3 then (Q 1) else (Q (v_2 - 2)))) else (Q v_1)))))
def jX9_paceAs_27 (x0 : Int32) (x2 : Int32) (x3 : Int32) (x4 : Int32) (Q : Int32 → Prop) (v_13 : Int32) (t_14 : Int32) : Prop :=
  if v_13 ≤ 1 then (jX9_paceAs_43 x0 x2 x3 x4 Q v_13 t_14 1) else (jX9_paceAs_43 x0 x2 x3 x4 Q v_13 t_14 (v_13 - 1))
def jX9_paceAs_9 (x0 : Int32) (x2 : Int32) (x3 : Int32) (x4 : Int32) (Q : Int32 → Prop) (t_16 : Int32) : Prop :=
  if 7 ≤ t_16 then (jX9_paceAs_27 x0 x2 x3 x4 Q t_16 7) else (jX9_paceAs_27 x0 x2 x3 x4 Q t_16 (t_16 + 1))
def p_X9_paceAs (x0 : Int32) (x1 : Int32) (x2 : Int32) (x3 : Int32) (x4 : Int32) (Q : Int32 → Prop) : Prop :=
  if x1 = 0 then (jX9_paceAs_9 x0 x2 x3 x4 Q 2) else (jX9_paceAs_9 x0 x2 x3 x4 Q x1)
def rmX9_paceAs : Room := { frames := 0, cells := 0, slots := 0, locals := 0 }
set_option maxHeartbeats 4000000 in
set_option maxRecDepth 100000 in
theorem c_X9_paceAs (l : Launch) (D : va_G) (cI cZ cO : ClassId) (x0 : Int32) (x1 : Int32) (x2 : Int32) (x3 : Int32) (x4 : Int32) (Q : Int32 → Prop) (hf : p_X9_paceAs x0 x1 x2 x3 x4 Q) : Met l yX9_paceAs wsX9_paceAs rmX9_paceAs (va_Pc [.int x0, .int x1, .int x2, .int x3, .int x4] (fun U => va_P D vwCl [] U.heap ∧ XK D cI cZ cO U)) (vp_Si Q) 0 0 (fun _ => False) := by
  refine Met.ofW (cc := cX9_paceAs) (maxL := 8) (ret := (some .int)) (by decide) rfl ?_
  intro p e s m args below meth c s₁ B hml hv
  obtain ⟨rfl, hP, hX⟩ := hv
  have hK := hX.1
  have hx := B.exec
  have hb := B.bytes
  have hr := B.returns
  have hts := atoms_spec (ws := wsX9_paceAs) B.pre
  have hown : s.vm.findClass RX9 = some m.cls := findClass_of_methodNamed B.named
  have hlocks := B.notSynchronized
  generalize hQQ : MQ below _ _ s _ _ _ = QQ
  have hl := lv_entry ([.int x0, .int x1, .int x2, .int x3, .int x4]) (n := 8) (Nat.le_of_ble_eq_true rfl)
  rw [lg_entry_eq]
  generalize (lg_sl ([.int x0, .int x1, .int x2, .int x3, .int x4]) ++ List.replicate (8 - (lg_sl ([.int x0, .int x1, .int x2, .int x3, .int x4])).length) Slot.unset).toArray = ls at hl ⊢
  have hl : lv_has ls 8 [(0, .int x0), (1, .int x1), (2, .int x2), (3, .int x3), (4, .int x4)] := hl
  have hj_43 : ∀ (v_1 : Int32) (v_2 : Int32) (t_3 : Int32), jX9_paceAs_43 x0 x2 x3 x4 Q v_1 v_2 t_3 → ∀ ls : Array Slot, lv_has ls 8 [(0, .int x0), (2, .int x2), (3, .int x3), (4, .int x4), (5, .int v_1), (6, .int v_2)] → W p l e (headSpec wsX9_paceAs rmX9_paceAs).room s m ([.int x0, .int x1, .int x2, .int x3, .int x4] : List Value).toArray below meth c s.heap [] 0 0 QQ (F0 m 43 ls [.int t_3]) := by
    intro v_1 v_2 t_3 hf ls hl
    unfold jX9_paceAs_43 at hf
    refine lv_istore (lv' := [(7, .int t_3), (0, .int x0), (2, .int x2), (3, .int x3), (4, .int x4), (5, .int v_1), (6, .int v_2)]) hx hb dX9_paceAs_43 hl (by decide) rfl (fun ls hl => ?_)
    refine lv_iload_n hx hb dX9_paceAs_45 rfl (lv_at hl 1 rfl) ?_
    by_cases c_4 : x0 = 1
    · have hf := it_t c_4 hf
      refine lv_tableIn (tgt := 80) (off := 34) hx hb dX9_paceAs_46 (by rw [c_4]; decide) (by rw [c_4]; decide) (by rw [c_4]; rfl) (by decide) ?_
      refine lv_iload_n hx hb dX9_paceAs_80 rfl (lv_at hl 3 rfl) ?_
      refine lv_iconst (v := 3) hx hb dX9_paceAs_81 (by decide) ?_
      refine lv_icmp_gt (tgt := 89) hx hb dX9_paceAs_82 (by decide) (fun c_5 => ?_) (fun c_5 => ?_)
      · have hf := it_t c_5 hf
        refine lv_iload hx hb dX9_paceAs_89 (lv_at hl 5 rfl) ?_
        subst hQQ
        exact W.iret hx hb hr (fun t ht hW => ⟨_, rfl, hf, ht⟩) (fun _ h => absurd h List.not_mem_nil) dX9_paceAs_91
      · have hf := it_f c_5 hf
        refine lv_iload_n hx hb dX9_paceAs_85 rfl (lv_at hl 2 rfl) ?_
        refine lv_goto (tgt := 91) hx hb dX9_paceAs_86 (by decide) ?_
        subst hQQ
        exact W.iret hx hb hr (fun t ht hW => ⟨_, rfl, hf, ht⟩) (fun _ h => absurd h List.not_mem_nil) dX9_paceAs_91
    have hf := it_f c_4 hf
    by_cases c_6 : x0 = 2
    · have hf := it_t c_6 hf
      refine lv_tableIn (tgt := 92) (off := 46) hx hb dX9_paceAs_46 (by rw [c_6]; decide) (by rw [c_6]; decide) (by rw [c_6]; rfl) (by decide) ?_
      refine lv_iload hx hb dX9_paceAs_92 (lv_at hl 6 rfl) ?_
      subst hQQ
      exact W.iret hx hb hr (fun t ht hW => ⟨_, rfl, hf, ht⟩) (fun _ h => absurd h List.not_mem_nil) dX9_paceAs_94
    have hf := it_f c_6 hf
    by_cases c_7 : x0 = 3
    · have hf := it_t c_7 hf
      refine lv_tableIn (tgt := 95) (off := 49) hx hb dX9_paceAs_46 (by rw [c_7]; decide) (by rw [c_7]; decide) (by rw [c_7]; rfl) (by decide) ?_
      refine lv_iload hx hb dX9_paceAs_95 (lv_at hl 0 rfl) ?_
      subst hQQ
      exact W.iret hx hb hr (fun t ht hW => ⟨_, rfl, hf, ht⟩) (fun _ h => absurd h List.not_mem_nil) dX9_paceAs_97
    have hf := it_f c_7 hf
    by_cases c_8 : x0 = 4
    · have hf := it_t c_8 hf
      refine lv_tableIn (tgt := 98) (off := 52) hx hb dX9_paceAs_46 (by rw [c_8]; decide) (by rw [c_8]; decide) (by rw [c_8]; rfl) (by decide) ?_
      refine lv_iload_n hx hb dX9_paceAs_98 rfl (lv_at hl 3 rfl) ?_
      refine lv_bipush (v := 7) hx hb dX9_paceAs_99 (by decide) ?_
      refine lv_icmp_ge (tgt := 111) hx hb dX9_paceAs_101 (by decide) (fun c_9 => ?_) (fun c_9 => ?_)
      · have hf := it_t c_9 hf
        refine lv_iload hx hb dX9_paceAs_111 (lv_at hl 0 rfl) ?_
        subst hQQ
        exact W.iret hx hb hr (fun t ht hW => ⟨_, rfl, hf, ht⟩) (fun _ h => absurd h List.not_mem_nil) dX9_paceAs_113
      · have hf := it_f c_9 hf
        refine lv_iload hx hb dX9_paceAs_104 (lv_at hl 0 rfl) ?_
        refine lv_iconst (v := 1) hx hb dX9_paceAs_106 (by decide) ?_
        refine lv_iadd hx hb dX9_paceAs_107 ?_
        refine lv_goto (tgt := 113) hx hb dX9_paceAs_108 (by decide) ?_
        subst hQQ
        exact W.iret hx hb hr (fun t ht hW => ⟨_, rfl, hf, ht⟩) (fun _ h => absurd h List.not_mem_nil) dX9_paceAs_113
    have hf := it_f c_8 hf
    by_cases c_10 : x0 = 5
    · have hf := it_t c_10 hf
      refine lv_tableIn (tgt := 114) (off := 68) hx hb dX9_paceAs_46 (by rw [c_10]; decide) (by rw [c_10]; decide) (by rw [c_10]; rfl) (by decide) ?_
      refine lv_iload hx hb dX9_paceAs_114 (lv_at hl 4 rfl) ?_
      refine lv_if_ne (tgt := 124) hx hb dX9_paceAs_116 (by decide) (fun c_11 => ?_) (fun c_11 => ?_)
      · have hf := it_f c_11 hf
        refine lv_iload hx hb dX9_paceAs_124 (lv_at hl 6 rfl) ?_
        refine lv_iconst (v := 3) hx hb dX9_paceAs_126 (by decide) ?_
        refine lv_icmp_le (tgt := 137) hx hb dX9_paceAs_127 (by decide) (fun c_12 => ?_) (fun c_12 => ?_)
        · have hf := it_t c_12 hf
          refine lv_iconst (v := 1) hx hb dX9_paceAs_137 (by decide) ?_
          subst hQQ
          exact W.iret hx hb hr (fun t ht hW => ⟨_, rfl, hf, ht⟩) (fun _ h => absurd h List.not_mem_nil) dX9_paceAs_138
        · have hf := it_f c_12 hf
          refine lv_iload hx hb dX9_paceAs_130 (lv_at hl 6 rfl) ?_
          refine lv_iconst (v := 2) hx hb dX9_paceAs_132 (by decide) ?_
          refine lv_isub hx hb dX9_paceAs_133 ?_
          refine lv_goto (tgt := 138) hx hb dX9_paceAs_134 (by decide) ?_
          subst hQQ
          exact W.iret hx hb hr (fun t ht hW => ⟨_, rfl, hf, ht⟩) (fun _ h => absurd h List.not_mem_nil) dX9_paceAs_138
      · have hf := it_t c_11 hf
        refine lv_iload hx hb dX9_paceAs_119 (lv_at hl 6 rfl) ?_
        refine lv_goto (tgt := 138) hx hb dX9_paceAs_121 (by decide) ?_
        subst hQQ
        exact W.iret hx hb hr (fun t ht hW => ⟨_, rfl, hf, ht⟩) (fun _ h => absurd h List.not_mem_nil) dX9_paceAs_138
    have hf := it_f c_10 hf
    have gc_4 := lv_neT (k := 1) c_4 (a := 1) (by decide)
    have gc_6 := lv_neT (k := 2) c_6 (a := 2) (by decide)
    have gc_7 := lv_neT (k := 3) c_7 (a := 3) (by decide)
    have gc_8 := lv_neT (k := 4) c_8 (a := 4) (by decide)
    have gc_10 := lv_neT (k := 5) c_10 (a := 5) (by decide)
    refine lv_tableOut (tgt := 139) hx hb dX9_paceAs_46 (by omega) (by decide) ?_
    refine lv_iload hx hb dX9_paceAs_139 (lv_at hl 5 rfl) ?_
    subst hQQ
    exact W.iret hx hb hr (fun t ht hW => ⟨_, rfl, hf, ht⟩) (fun _ h => absurd h List.not_mem_nil) dX9_paceAs_141
  have hj_27 : ∀ (v_13 : Int32) (t_14 : Int32), jX9_paceAs_27 x0 x2 x3 x4 Q v_13 t_14 → ∀ ls : Array Slot, lv_has ls 8 [(0, .int x0), (2, .int x2), (3, .int x3), (4, .int x4), (5, .int v_13)] → W p l e (headSpec wsX9_paceAs rmX9_paceAs).room s m ([.int x0, .int x1, .int x2, .int x3, .int x4] : List Value).toArray below meth c s.heap [] 0 0 QQ (F0 m 27 ls [.int t_14]) := by
    intro v_13 t_14 hf ls hl
    unfold jX9_paceAs_27 at hf
    refine lv_istore (lv' := [(6, .int t_14), (0, .int x0), (2, .int x2), (3, .int x3), (4, .int x4), (5, .int v_13)]) hx hb dX9_paceAs_27 hl (by decide) rfl (fun ls hl => ?_)
    refine lv_iload hx hb dX9_paceAs_29 (lv_at hl 5 rfl) ?_
    refine lv_iconst (v := 1) hx hb dX9_paceAs_31 (by decide) ?_
    refine lv_icmp_le (tgt := 42) hx hb dX9_paceAs_32 (by decide) (fun c_15 => ?_) (fun c_15 => ?_)
    · have hf := it_t c_15 hf
      refine lv_iconst (v := 1) hx hb dX9_paceAs_42 (by decide) ?_
      exact hj_43 v_13 t_14 1 hf ls (lv_sub hl [1, 2, 3, 4, 5, 0] rfl)
    · have hf := it_f c_15 hf
      refine lv_iload hx hb dX9_paceAs_35 (lv_at hl 5 rfl) ?_
      refine lv_iconst (v := 1) hx hb dX9_paceAs_37 (by decide) ?_
      refine lv_isub hx hb dX9_paceAs_38 ?_
      refine lv_goto (tgt := 43) hx hb dX9_paceAs_39 (by decide) ?_
      exact hj_43 v_13 t_14 (v_13 - 1) hf ls (lv_sub hl [1, 2, 3, 4, 5, 0] rfl)
  have hj_9 : ∀ (t_16 : Int32), jX9_paceAs_9 x0 x2 x3 x4 Q t_16 → ∀ ls : Array Slot, lv_has ls 8 [(0, .int x0), (2, .int x2), (3, .int x3), (4, .int x4)] → W p l e (headSpec wsX9_paceAs rmX9_paceAs).room s m ([.int x0, .int x1, .int x2, .int x3, .int x4] : List Value).toArray below meth c s.heap [] 0 0 QQ (F0 m 9 ls [.int t_16]) := by
    intro t_16 hf ls hl
    unfold jX9_paceAs_9 at hf
    refine lv_istore (lv' := [(5, .int t_16), (0, .int x0), (2, .int x2), (3, .int x3), (4, .int x4)]) hx hb dX9_paceAs_9 hl (by decide) rfl (fun ls hl => ?_)
    refine lv_iload hx hb dX9_paceAs_11 (lv_at hl 0 rfl) ?_
    refine lv_bipush (v := 7) hx hb dX9_paceAs_13 (by decide) ?_
    refine lv_icmp_ge (tgt := 25) hx hb dX9_paceAs_15 (by decide) (fun c_17 => ?_) (fun c_17 => ?_)
    · have hf := it_t c_17 hf
      refine lv_bipush (v := 7) hx hb dX9_paceAs_25 (by decide) ?_
      exact hj_27 t_16 7 hf ls (lv_sub hl [1, 2, 3, 4, 0] rfl)
    · have hf := it_f c_17 hf
      refine lv_iload hx hb dX9_paceAs_18 (lv_at hl 0 rfl) ?_
      refine lv_iconst (v := 1) hx hb dX9_paceAs_20 (by decide) ?_
      refine lv_iadd hx hb dX9_paceAs_21 ?_
      refine lv_goto (tgt := 27) hx hb dX9_paceAs_22 (by decide) ?_
      exact hj_27 t_16 (t_16 + 1) hf ls (lv_sub hl [1, 2, 3, 4, 0] rfl)
  unfold p_X9_paceAs at hf
  refine lv_iload_n hx hb dX9_paceAs_0 rfl (lv_at hl 1 rfl) ?_
  refine lv_if_ne (tgt := 8) hx hb dX9_paceAs_1 (by decide) (fun c_18 => ?_) (fun c_18 => ?_)
  · have hf := it_f c_18 hf
    refine lv_iload_n hx hb dX9_paceAs_8 rfl (lv_at hl 1 rfl) ?_
    exact hj_9 x1 hf ls (lv_sub hl [0, 2, 3, 4] rfl)
  · have hf := it_t c_18 hf
    refine lv_iconst (v := 2) hx hb dX9_paceAs_4 (by decide) ?_
    refine lv_goto (tgt := 9) hx hb dX9_paceAs_5 (by decide) ?_
    exact hj_9 2 hf ls (lv_sub hl [0, 2, 3, 4] rfl)
def p_X9_holdsOf (n_a0 : Nat) (a0 : Nat → Int32) (x1 : Int32) (Q : Int32 → Prop) : Prop :=
  vp_in (26 + x1) n_a0 ∧ (vp_in 17 n_a0 ∧ (if 1 ≤ ((a0 (26 + x1).toNatClampNeg) - (((a0 (17 : Int32).toNatClampNeg) >>> (x1 &&& 31)) &&& 1)) then (Q ((a0 (26 + x1).toNatClampNeg) - (((a0 (17 : Int32).toNatClampNeg) >>> (x1 &&& 31)) &&& 1))) else (Q 1)))
def rmX9_holdsOf : Room := { frames := 0, cells := 0, slots := 0, locals := 0 }
set_option maxHeartbeats 4000000 in
set_option maxRecDepth 100000 in
theorem c_X9_holdsOf (l : Launch) (D : va_G) (cI cZ cO : ClassId) (q_a0 : Nat) (n_a0 : Nat) (a0 : Nat → Int32) (x1 : Int32) (Q : Int32 → Prop) (hf : p_X9_holdsOf n_a0 a0 x1 Q) : Met l yX9_holdsOf wsX9_holdsOf rmX9_holdsOf (va_Pc [.ref q_a0, .int x1] (fun U => va_P D vwCl [(q_a0, .inl (cI, n_a0, .inl a0))] U.heap ∧ XK D cI cZ cO U)) (vp_Si Q) 0 0 (fun _ => False) := by
  refine Met.ofW (cc := cX9_holdsOf) (maxL := 3) (ret := (some .int)) (by decide) rfl ?_
  intro p e s m args below meth c s₁ B hml hv
  obtain ⟨rfl, hP, hX⟩ := hv
  have hK := hX.1
  have hx := B.exec
  have hb := B.bytes
  have hr := B.returns
  have hts := atoms_spec (ws := wsX9_holdsOf) B.pre
  have hown : s.vm.findClass RX9 = some m.cls := findClass_of_methodNamed B.named
  have hlocks := B.notSynchronized
  generalize hQQ : MQ below _ _ s _ _ _ = QQ
  have hl := lv_entry ([.ref q_a0, .int x1]) (n := 3) (Nat.le_of_ble_eq_true rfl)
  rw [lg_entry_eq]
  generalize (lg_sl ([.ref q_a0, .int x1]) ++ List.replicate (3 - (lg_sl ([.ref q_a0, .int x1])).length) Slot.unset).toArray = ls at hl ⊢
  have hl : lv_has ls 3 [(0, .ref q_a0), (1, .int x1)] := hl
  unfold p_X9_holdsOf at hf
  refine lv_aload_n hx hb dX9_holdsOf_0 rfl (lv_at hl 0 rfl) ?_
  refine lv_bipush (v := 26) hx hb dX9_holdsOf_1 (by decide) ?_
  refine lv_iload_n hx hb dX9_holdsOf_3 rfl (lv_at hl 1 rfl) ?_
  refine lv_iadd hx hb dX9_holdsOf_4 ?_
  refine va_iald hx hb hK hP 0 0 rfl rfl hf.1 dX9_holdsOf_5 ?_
  have hf := hf.2
  refine lv_aload_n hx hb dX9_holdsOf_6 rfl (lv_at hl 0 rfl) ?_
  refine lv_bipush (v := 17) hx hb dX9_holdsOf_7 (by decide) ?_
  refine va_iald hx hb hK hP 0 0 rfl rfl hf.1 dX9_holdsOf_9 ?_
  have hf := hf.2
  refine lv_iload_n hx hb dX9_holdsOf_10 rfl (lv_at hl 1 rfl) ?_
  refine lv_ishr hx hb dX9_holdsOf_11 ?_
  refine lv_iconst (v := 1) hx hb dX9_holdsOf_12 (by decide) ?_
  refine lv_iand hx hb dX9_holdsOf_13 ?_
  refine lv_isub hx hb dX9_holdsOf_14 ?_
  refine lv_istore_n (lv' := [(2, .int ((a0 (26 + x1).toNatClampNeg) - (((a0 (17 : Int32).toNatClampNeg) >>> (x1 &&& 31)) &&& 1))), (0, .ref q_a0), (1, .int x1)]) hx hb dX9_holdsOf_15 rfl hl (by decide) rfl (fun ls hl => ?_)
  refine lv_iload_n hx hb dX9_holdsOf_16 rfl (lv_at hl 0 rfl) ?_
  refine lv_iconst (v := 1) hx hb dX9_holdsOf_17 (by decide) ?_
  refine lv_icmp_ge (tgt := 25) hx hb dX9_holdsOf_18 (by decide) (fun c_1 => ?_) (fun c_1 => ?_)
  · have hf := it_t c_1 hf
    refine lv_iload_n hx hb dX9_holdsOf_25 rfl (lv_at hl 0 rfl) ?_
    subst hQQ
    exact W.iret hx hb hr (fun t ht hW => ⟨_, rfl, hf, ht⟩) (fun _ h => absurd h List.not_mem_nil) dX9_holdsOf_26
  · have hf := it_f c_1 hf
    refine lv_iconst (v := 1) hx hb dX9_holdsOf_21 (by decide) ?_
    refine lv_goto (tgt := 26) hx hb dX9_holdsOf_22 (by decide) ?_
    subst hQQ
    exact W.iret hx hb hr (fun t ht hW => ⟨_, rfl, hf, ht⟩) (fun _ h => absurd h List.not_mem_nil) dX9_holdsOf_26
def p_X9_costAt (x0 : Int32) (x1 : Int32) (Q : Int32 → Prop) : Prop :=
  if x1 ≤ x0 then (if x0 = x1 then (Q 0) else (if x0 = (x1 + 1) then (Q 7) else (Q 60))) else (Q (3 * (x1 - x0)))
def rmX9_costAt : Room := { frames := 0, cells := 0, slots := 0, locals := 0 }
set_option maxHeartbeats 4000000 in
set_option maxRecDepth 100000 in
theorem c_X9_costAt (l : Launch) (D : va_G) (cI cZ cO : ClassId) (x0 : Int32) (x1 : Int32) (Q : Int32 → Prop) (hf : p_X9_costAt x0 x1 Q) : Met l yX9_costAt wsX9_costAt rmX9_costAt (va_Pc [.int x0, .int x1] (fun U => va_P D vwCl [] U.heap ∧ XK D cI cZ cO U)) (vp_Si Q) 0 0 (fun _ => False) := by
  refine Met.ofW (cc := cX9_costAt) (maxL := 2) (ret := (some .int)) (by decide) rfl ?_
  intro p e s m args below meth c s₁ B hml hv
  obtain ⟨rfl, hP, hX⟩ := hv
  have hK := hX.1
  have hx := B.exec
  have hb := B.bytes
  have hr := B.returns
  have hts := atoms_spec (ws := wsX9_costAt) B.pre
  have hown : s.vm.findClass RX9 = some m.cls := findClass_of_methodNamed B.named
  have hlocks := B.notSynchronized
  generalize hQQ : MQ below _ _ s _ _ _ = QQ
  have hl := lv_entry ([.int x0, .int x1]) (n := 2) (Nat.le_of_ble_eq_true rfl)
  rw [lg_entry_eq]
  generalize (lg_sl ([.int x0, .int x1]) ++ List.replicate (2 - (lg_sl ([.int x0, .int x1])).length) Slot.unset).toArray = ls at hl ⊢
  have hl : lv_has ls 2 [(0, .int x0), (1, .int x1)] := hl
  unfold p_X9_costAt at hf
  refine lv_iload_n hx hb dX9_costAt_0 rfl (lv_at hl 0 rfl) ?_
  refine lv_iload_n hx hb dX9_costAt_1 rfl (lv_at hl 1 rfl) ?_
  refine lv_icmp_ge (tgt := 13) hx hb dX9_costAt_2 (by decide) (fun c_1 => ?_) (fun c_1 => ?_)
  · have hf := it_t c_1 hf
    refine lv_iload_n hx hb dX9_costAt_13 rfl (lv_at hl 0 rfl) ?_
    refine lv_iload_n hx hb dX9_costAt_14 rfl (lv_at hl 1 rfl) ?_
    refine lv_icmp_ne (tgt := 22) hx hb dX9_costAt_15 (by decide) (fun c_2 => ?_) (fun c_2 => ?_)
    · have hf := it_f c_2 hf
      refine lv_iload_n hx hb dX9_costAt_22 rfl (lv_at hl 0 rfl) ?_
      refine lv_iload_n hx hb dX9_costAt_23 rfl (lv_at hl 1 rfl) ?_
      refine lv_iconst (v := 1) hx hb dX9_costAt_24 (by decide) ?_
      refine lv_iadd hx hb dX9_costAt_25 ?_
      refine lv_icmp_ne (tgt := 34) hx hb dX9_costAt_26 (by decide) (fun c_3 => ?_) (fun c_3 => ?_)
      · have hf := it_f c_3 hf
        refine lv_bipush (v := 60) hx hb dX9_costAt_34 (by decide) ?_
        subst hQQ
        exact W.iret hx hb hr (fun t ht hW => ⟨_, rfl, hf, ht⟩) (fun _ h => absurd h List.not_mem_nil) dX9_costAt_36
      · have hf := it_t c_3 hf
        refine lv_bipush (v := 7) hx hb dX9_costAt_29 (by decide) ?_
        refine lv_goto (tgt := 36) hx hb dX9_costAt_31 (by decide) ?_
        subst hQQ
        exact W.iret hx hb hr (fun t ht hW => ⟨_, rfl, hf, ht⟩) (fun _ h => absurd h List.not_mem_nil) dX9_costAt_36
    · have hf := it_t c_2 hf
      refine lv_iconst (v := 0) hx hb dX9_costAt_18 (by decide) ?_
      refine lv_goto (tgt := 36) hx hb dX9_costAt_19 (by decide) ?_
      subst hQQ
      exact W.iret hx hb hr (fun t ht hW => ⟨_, rfl, hf, ht⟩) (fun _ h => absurd h List.not_mem_nil) dX9_costAt_36
  · have hf := it_f c_1 hf
    refine lv_iconst (v := 3) hx hb dX9_costAt_5 (by decide) ?_
    refine lv_iload_n hx hb dX9_costAt_6 rfl (lv_at hl 1 rfl) ?_
    refine lv_iload_n hx hb dX9_costAt_7 rfl (lv_at hl 0 rfl) ?_
    refine lv_isub hx hb dX9_costAt_8 ?_
    refine lv_imul hx hb dX9_costAt_9 ?_
    refine lv_goto (tgt := 36) hx hb dX9_costAt_10 (by decide) ?_
    subst hQQ
    exact W.iret hx hb hr (fun t ht hW => ⟨_, rfl, hf, ht⟩) (fun _ h => absurd h List.not_mem_nil) dX9_costAt_36
def p_X9_paceBy (n_a0 : Nat) (a0 : Nat → Int32) (x1 : Int32) (x2 : Int32) (Q : Int32 → Prop) : Prop :=
  vp_in 15 n_a0 ∧ (p_X9_holdsOf n_a0 a0 x1 (fun r_1 => vp_in 16 n_a0 ∧ (vp_in 17 n_a0 ∧ (p_X9_has (a0 (17 : Int32).toNatClampNeg) x1 (fun r_2 => p_X9_paceAs (a0 (15 : Int32).toNatClampNeg) x2 r_1 (a0 (16 : Int32).toNatClampNeg) r_2 (fun r_3 => Q r_3))))))
def rmX9_paceBy : Room := { frames := 1, cells := 0, slots := 0, locals := 27 }
set_option maxHeartbeats 4000000 in
set_option maxRecDepth 100000 in
theorem c_X9_paceBy (l : Launch) (D : va_G) (cI cZ cO : ClassId) (q_a0 : Nat) (n_a0 : Nat) (a0 : Nat → Int32) (x1 : Int32) (x2 : Int32) (Q : Int32 → Prop) (hf : p_X9_paceBy n_a0 a0 x1 x2 Q) : Met l yX9_paceBy wsX9_paceBy rmX9_paceBy (va_Pc [.ref q_a0, .int x1, .int x2] (fun U => va_P D vwCl [(q_a0, .inl (cI, n_a0, .inl a0))] U.heap ∧ XK D cI cZ cO U)) (vp_Si Q) 0 0 (fun _ => False) := by
  refine Met.ofW (cc := cX9_paceBy) (maxL := 3) (ret := (some .int)) (by decide) rfl ?_
  intro p e s m args below meth c s₁ B hml hv
  obtain ⟨rfl, hP, hX⟩ := hv
  have hK := hX.1
  have hx := B.exec
  have hb := B.bytes
  have hr := B.returns
  have hts := atoms_spec (ws := wsX9_paceBy) B.pre
  have hown : s.vm.findClass RX9 = some m.cls := findClass_of_methodNamed B.named
  have hlocks := B.notSynchronized
  generalize hQQ : MQ below _ _ s _ _ _ = QQ
  have hl := lv_entry ([.ref q_a0, .int x1, .int x2]) (n := 3) (Nat.le_of_ble_eq_true rfl)
  rw [lg_entry_eq]
  generalize (lg_sl ([.ref q_a0, .int x1, .int x2]) ++ List.replicate (3 - (lg_sl ([.ref q_a0, .int x1, .int x2])).length) Slot.unset).toArray = ls at hl ⊢
  have hl : lv_has ls 3 [(0, .ref q_a0), (1, .int x1), (2, .int x2)] := hl
  unfold p_X9_paceBy at hf
  refine lv_aload_n hx hb dX9_paceBy_0 rfl (lv_at hl 0 rfl) ?_
  refine lv_bipush (v := 15) hx hb dX9_paceBy_1 (by decide) ?_
  refine va_iald hx hb hK hP 0 0 rfl rfl hf.1 dX9_paceBy_3 ?_
  have hf := hf.2
  refine lv_iload_n hx hb dX9_paceBy_4 rfl (lv_at hl 2 rfl) ?_
  refine lv_aload_n hx hb dX9_paceBy_5 rfl (lv_at hl 0 rfl) ?_
  refine lv_iload_n hx hb dX9_paceBy_6 rfl (lv_at hl 1 rfl) ?_
  refine ya_csi (va_runS (As := [.ref q_a0, .int x1]) (rest := [.int x2, .int (a0 (15 : Int32).toNatClampNeg)]) ⟨hx, hb, hml, hown, hts⟩ (c_X9_holdsOf l D cI cZ cO q_a0 n_a0 a0 x1 _ hf) (va_cwS 2 hts gX9_paceBy_X9_holdsOf rfl rfl rfl (by decide +kernel) ⟨Nat.le_of_ble_eq_true rfl, Nat.le_of_ble_eq_true rfl⟩) (ps_ro (hP.sub [0] rfl) hX) rfl rfl hl.1 rfl (lv_room (Nat.le_of_ble_eq_true rfl)) dX9_paceBy_7 ⟨Nat.zero_le _, Nat.zero_le _⟩) (fun r_1 hf => ?_)
  refine lv_aload_n hx hb dX9_paceBy_10 rfl (lv_at hl 0 rfl) ?_
  refine lv_bipush (v := 16) hx hb dX9_paceBy_11 (by decide) ?_
  refine va_iald hx hb hK hP 0 0 rfl rfl hf.1 dX9_paceBy_13 ?_
  have hf := hf.2
  refine lv_aload_n hx hb dX9_paceBy_14 rfl (lv_at hl 0 rfl) ?_
  refine lv_bipush (v := 17) hx hb dX9_paceBy_15 (by decide) ?_
  refine va_iald hx hb hK hP 0 0 rfl rfl hf.1 dX9_paceBy_17 ?_
  have hf := hf.2
  refine lv_iload_n hx hb dX9_paceBy_18 rfl (lv_at hl 1 rfl) ?_
  refine ya_csi (va_runS (As := [.int (a0 (17 : Int32).toNatClampNeg), .int x1]) (rest := [.int (a0 (16 : Int32).toNatClampNeg), .int r_1, .int x2, .int (a0 (15 : Int32).toNatClampNeg)]) ⟨hx, hb, hml, hown, hts⟩ (c_X9_has l D cI cZ cO  (a0 (17 : Int32).toNatClampNeg) x1 _ hf) (va_cwS 2 hts gX9_paceBy_X9_has rfl rfl rfl (by decide +kernel) ⟨Nat.le_of_ble_eq_true rfl, Nat.le_of_ble_eq_true rfl⟩) (ps_ro va_P0 hX) rfl rfl hl.1 rfl (lv_room (Nat.le_of_ble_eq_true rfl)) dX9_paceBy_19 ⟨Nat.zero_le _, Nat.zero_le _⟩) (fun r_2 hf => ?_)
  refine ya_csi (va_runS (As := [.int (a0 (15 : Int32).toNatClampNeg), .int x2, .int r_1, .int (a0 (16 : Int32).toNatClampNeg), .int r_2]) (rest := []) ⟨hx, hb, hml, hown, hts⟩ (c_X9_paceAs l D cI cZ cO  (a0 (15 : Int32).toNatClampNeg) x2 r_1 (a0 (16 : Int32).toNatClampNeg) r_2 _ hf) (va_cwS 5 hts gX9_paceBy_X9_paceAs rfl rfl rfl (by decide +kernel) ⟨Nat.le_of_ble_eq_true rfl, Nat.le_of_ble_eq_true rfl⟩) (ps_ro va_P0 hX) rfl rfl hl.1 rfl (lv_room (Nat.le_of_ble_eq_true rfl)) dX9_paceBy_22 ⟨Nat.zero_le _, Nat.zero_le _⟩) (fun r_3 hf => ?_)
  subst hQQ
  exact W.iret hx hb hr (fun t ht hW => ⟨_, rfl, hf, ht⟩) (fun _ h => absurd h List.not_mem_nil) dX9_paceBy_25
def p_X9_costBy (n_a0 : Nat) (a0 : Nat → Int32) (x1 : Int32) (x2 : Int32) (Q : Int32 → Prop) : Prop :=
  p_X9_paceBy n_a0 a0 x1 x2 (fun r_1 => p_X9_holdsOf n_a0 a0 x1 (fun r_2 => p_X9_costAt r_1 r_2 (fun r_3 => Q r_3)))
def rmX9_costBy : Room := { frames := 2, cells := 0, slots := 0, locals := 49 }
set_option maxHeartbeats 4000000 in
set_option maxRecDepth 100000 in
theorem c_X9_costBy (l : Launch) (D : va_G) (cI cZ cO : ClassId) (q_a0 : Nat) (n_a0 : Nat) (a0 : Nat → Int32) (x1 : Int32) (x2 : Int32) (Q : Int32 → Prop) (hf : p_X9_costBy n_a0 a0 x1 x2 Q) : Met l yX9_costBy wsX9_costBy rmX9_costBy (va_Pc [.ref q_a0, .int x1, .int x2] (fun U => va_P D vwCl [(q_a0, .inl (cI, n_a0, .inl a0))] U.heap ∧ XK D cI cZ cO U)) (vp_Si Q) 0 0 (fun _ => False) := by
  refine Met.ofW (cc := cX9_costBy) (maxL := 3) (ret := (some .int)) (by decide) rfl ?_
  intro p e s m args below meth c s₁ B hml hv
  obtain ⟨rfl, hP, hX⟩ := hv
  have hK := hX.1
  have hx := B.exec
  have hb := B.bytes
  have hr := B.returns
  have hts := atoms_spec (ws := wsX9_costBy) B.pre
  have hown : s.vm.findClass RX9 = some m.cls := findClass_of_methodNamed B.named
  have hlocks := B.notSynchronized
  generalize hQQ : MQ below _ _ s _ _ _ = QQ
  have hl := lv_entry ([.ref q_a0, .int x1, .int x2]) (n := 3) (Nat.le_of_ble_eq_true rfl)
  rw [lg_entry_eq]
  generalize (lg_sl ([.ref q_a0, .int x1, .int x2]) ++ List.replicate (3 - (lg_sl ([.ref q_a0, .int x1, .int x2])).length) Slot.unset).toArray = ls at hl ⊢
  have hl : lv_has ls 3 [(0, .ref q_a0), (1, .int x1), (2, .int x2)] := hl
  unfold p_X9_costBy at hf
  refine lv_aload_n hx hb dX9_costBy_0 rfl (lv_at hl 0 rfl) ?_
  refine lv_iload_n hx hb dX9_costBy_1 rfl (lv_at hl 1 rfl) ?_
  refine lv_iload_n hx hb dX9_costBy_2 rfl (lv_at hl 2 rfl) ?_
  refine ya_csi (va_runS (As := [.ref q_a0, .int x1, .int x2]) (rest := []) ⟨hx, hb, hml, hown, hts⟩ (c_X9_paceBy l D cI cZ cO q_a0 n_a0 a0 x1 x2 _ hf) (va_cwS 3 hts gX9_costBy_X9_paceBy rfl rfl rfl (by decide +kernel) ⟨Nat.le_of_ble_eq_true rfl, Nat.le_of_ble_eq_true rfl⟩) (ps_ro (hP.sub [0] rfl) hX) rfl rfl hl.1 rfl (lv_room (Nat.le_of_ble_eq_true rfl)) dX9_costBy_3 ⟨Nat.zero_le _, Nat.zero_le _⟩) (fun r_1 hf => ?_)
  refine lv_aload_n hx hb dX9_costBy_6 rfl (lv_at hl 0 rfl) ?_
  refine lv_iload_n hx hb dX9_costBy_7 rfl (lv_at hl 1 rfl) ?_
  refine ya_csi (va_runS (As := [.ref q_a0, .int x1]) (rest := [.int r_1]) ⟨hx, hb, hml, hown, hts⟩ (c_X9_holdsOf l D cI cZ cO q_a0 n_a0 a0 x1 _ hf) (va_cwS 2 hts gX9_costBy_X9_holdsOf rfl rfl rfl (by decide +kernel) ⟨Nat.le_of_ble_eq_true rfl, Nat.le_of_ble_eq_true rfl⟩) (ps_ro (hP.sub [0] rfl) hX) rfl rfl hl.1 rfl (lv_room (Nat.le_of_ble_eq_true rfl)) dX9_costBy_8 ⟨Nat.zero_le _, Nat.zero_le _⟩) (fun r_2 hf => ?_)
  refine ya_csi (va_runS (As := [.int r_1, .int r_2]) (rest := []) ⟨hx, hb, hml, hown, hts⟩ (c_X9_costAt l D cI cZ cO  r_1 r_2 _ hf) (va_cwS 2 hts gX9_costBy_X9_costAt rfl rfl rfl (by decide +kernel) ⟨Nat.le_of_ble_eq_true rfl, Nat.le_of_ble_eq_true rfl⟩) (ps_ro va_P0 hX) rfl rfl hl.1 rfl (lv_room (Nat.le_of_ble_eq_true rfl)) dX9_costBy_11 ⟨Nat.zero_le _, Nat.zero_le _⟩) (fun r_3 hf => ?_)
  subst hQQ
  exact W.iret hx hb hr (fun t ht hW => ⟨_, rfl, hf, ht⟩) (fun _ h => absurd h List.not_mem_nil) dX9_costBy_14
def p_X9_noteOf (a0_told : Nat → Int32) (x1 : Int32) (Q : Int32 → Prop) : Prop :=
  vp_in (7 + x1) 163 ∧ (Q (a0_told (7 + x1).toNatClampNeg))
def rmX9_noteOf : Room := { frames := 0, cells := 0, slots := 0, locals := 0 }
set_option maxHeartbeats 4000000 in
set_option maxRecDepth 100000 in
theorem c_X9_noteOf (l : Launch) (D : va_G) (cI cZ cO : ClassId) (q_a0 q_a0_told q_a0_kept q_a0_isKept q_a0_refused q_a0_manyBy q_a0_hers q_a0_his q_a0_hand q_a0_bytes q_a0_anew q_a0_values : Nat) (a0_above : Int64) (a0_below : Int64) (a0_bytesLong : Int32) (a0_tokenAt : Int32) (a0_tokenLong : Int32) (a0_token : Int32) (a0_value : Int32) (a0_told : Nat → Int32) (x1 : Int32) (Q : Int32 → Prop) (hf : p_X9_noteOf a0_told x1 Q) : Met l yX9_noteOf wsX9_noteOf rmX9_noteOf (va_Pc [.ref q_a0, .int x1] (fun U => va_P D vwCl [(q_a0, .inr (8, [.ref q_a0_told, .ref q_a0_kept, .ref q_a0_isKept, .ref q_a0_refused, .long a0_above, .long a0_below, .ref q_a0_manyBy, .ref q_a0_hers, .ref q_a0_his, .ref q_a0_hand, .ref q_a0_bytes, .int a0_bytesLong, .int a0_tokenAt, .int a0_tokenLong, .int a0_token, .int a0_value, .ref q_a0_anew, .ref q_a0_values])), (q_a0_told, .inl (cI, 163, .inl a0_told))] U.heap ∧ XK D cI cZ cO U)) (vp_Si Q) 0 0 (fun _ => False) := by
  refine Met.ofW (cc := cX9_noteOf) (maxL := 2) (ret := (some .int)) (by decide) rfl ?_
  intro p e s m args below meth c s₁ B hml hv
  obtain ⟨rfl, hP, hX⟩ := hv
  have hK := hX.1
  have hx := B.exec
  have hb := B.bytes
  have hr := B.returns
  have hts := atoms_spec (ws := wsX9_noteOf) B.pre
  have hown : s.vm.findClass RX9 = some m.cls := findClass_of_methodNamed B.named
  have hlocks := B.notSynchronized
  have in_X9 : ∀ w ∈ wsX90, w ∈ wsX9_noteOf := fun _ h => List.mem_cons_of_mem _ (List.mem_append_right _ h)
  have kf_7 := hts (.fieldLink RX9 7 "LeftCrestModel" "told" "[I") (by decide +kernel)
  generalize hQQ : MQ below _ _ s _ _ _ = QQ
  have hl := lv_entry ([.ref q_a0, .int x1]) (n := 2) (Nat.le_of_ble_eq_true rfl)
  rw [lg_entry_eq]
  generalize (lg_sl ([.ref q_a0, .int x1]) ++ List.replicate (2 - (lg_sl ([.ref q_a0, .int x1])).length) Slot.unset).toArray = ls at hl ⊢
  have hl : lv_has ls 2 [(0, .ref q_a0), (1, .int x1)] := hl
  unfold p_X9_noteOf at hf
  refine lv_aload_n hx hb dX9_noteOf_0 rfl (lv_at hl 0 rfl) ?_
  refine va_get (D := D) (ci := 8) (v := .ref q_a0_told) (C := RX9) (T := TX9) (N := 18) hx hb hts in_X9 hown hK hP 0 rfl rfl 0 (by decide) kf_7 (fun _ h9 => h9) rfl dX9_noteOf_1 ?_
  refine lv_bipush (v := 7) hx hb dX9_noteOf_4 (by decide) ?_
  refine lv_iload_n hx hb dX9_noteOf_6 rfl (lv_at hl 1 rfl) ?_
  refine lv_iadd hx hb dX9_noteOf_7 ?_
  refine va_iald hx hb hK hP 1 0 rfl rfl hf.1 dX9_noteOf_8 ?_
  have hf := hf.2
  subst hQQ
  exact W.iret hx hb hr (fun t ht hW => ⟨_, rfl, hf, ht⟩) (fun _ h => absurd h List.not_mem_nil) dX9_noteOf_9
def p_X9_cost (a0_told : Nat → Int32) (x1 : Int32) (x2 : Int32) (Q : Int32 → Prop) : Prop :=
  p_X9_costBy 163 a0_told x1 x2 (fun r_1 => Q r_1)
def rmX9_cost : Room := { frames := 3, cells := 0, slots := 0, locals := 71 }
set_option maxHeartbeats 4000000 in
set_option maxRecDepth 100000 in
theorem c_X9_cost (l : Launch) (D : va_G) (cI cZ cO : ClassId) (q_a0 q_a0_told q_a0_kept q_a0_isKept q_a0_refused q_a0_manyBy q_a0_hers q_a0_his q_a0_hand q_a0_bytes q_a0_anew q_a0_values : Nat) (a0_above : Int64) (a0_below : Int64) (a0_bytesLong : Int32) (a0_tokenAt : Int32) (a0_tokenLong : Int32) (a0_token : Int32) (a0_value : Int32) (a0_told : Nat → Int32) (x1 : Int32) (x2 : Int32) (Q : Int32 → Prop) (hf : p_X9_cost a0_told x1 x2 Q) : Met l yX9_cost wsX9_cost rmX9_cost (va_Pc [.ref q_a0, .int x1, .int x2] (fun U => va_P D vwCl [(q_a0, .inr (8, [.ref q_a0_told, .ref q_a0_kept, .ref q_a0_isKept, .ref q_a0_refused, .long a0_above, .long a0_below, .ref q_a0_manyBy, .ref q_a0_hers, .ref q_a0_his, .ref q_a0_hand, .ref q_a0_bytes, .int a0_bytesLong, .int a0_tokenAt, .int a0_tokenLong, .int a0_token, .int a0_value, .ref q_a0_anew, .ref q_a0_values])), (q_a0_told, .inl (cI, 163, .inl a0_told))] U.heap ∧ XK D cI cZ cO U)) (vp_Si Q) 0 0 (fun _ => False) := by
  refine Met.ofW (cc := cX9_cost) (maxL := 3) (ret := (some .int)) (by decide) rfl ?_
  intro p e s m args below meth c s₁ B hml hv
  obtain ⟨rfl, hP, hX⟩ := hv
  have hK := hX.1
  have hx := B.exec
  have hb := B.bytes
  have hr := B.returns
  have hts := atoms_spec (ws := wsX9_cost) B.pre
  have hown : s.vm.findClass RX9 = some m.cls := findClass_of_methodNamed B.named
  have hlocks := B.notSynchronized
  have in_X9 : ∀ w ∈ wsX90, w ∈ wsX9_cost := fun _ h => List.mem_cons_of_mem _ (List.mem_append_right _ h)
  have kf_7 := hts (.fieldLink RX9 7 "LeftCrestModel" "told" "[I") (by decide +kernel)
  generalize hQQ : MQ below _ _ s _ _ _ = QQ
  have hl := lv_entry ([.ref q_a0, .int x1, .int x2]) (n := 3) (Nat.le_of_ble_eq_true rfl)
  rw [lg_entry_eq]
  generalize (lg_sl ([.ref q_a0, .int x1, .int x2]) ++ List.replicate (3 - (lg_sl ([.ref q_a0, .int x1, .int x2])).length) Slot.unset).toArray = ls at hl ⊢
  have hl : lv_has ls 3 [(0, .ref q_a0), (1, .int x1), (2, .int x2)] := hl
  unfold p_X9_cost at hf
  refine lv_aload_n hx hb dX9_cost_0 rfl (lv_at hl 0 rfl) ?_
  refine va_get (D := D) (ci := 8) (v := .ref q_a0_told) (C := RX9) (T := TX9) (N := 18) hx hb hts in_X9 hown hK hP 0 rfl rfl 0 (by decide) kf_7 (fun _ h9 => h9) rfl dX9_cost_1 ?_
  refine lv_iload_n hx hb dX9_cost_4 rfl (lv_at hl 1 rfl) ?_
  refine lv_iload_n hx hb dX9_cost_5 rfl (lv_at hl 2 rfl) ?_
  refine ya_csi (va_runS (As := [.ref q_a0_told, .int x1, .int x2]) (rest := []) ⟨hx, hb, hml, hown, hts⟩ (c_X9_costBy l D cI cZ cO q_a0_told 163 a0_told x1 x2 _ hf) (va_cwS 3 hts gX9_cost_X9_costBy rfl rfl rfl (by decide +kernel) ⟨Nat.le_of_ble_eq_true rfl, Nat.le_of_ble_eq_true rfl⟩) (ps_ro (hP.sub [1] rfl) hX) rfl rfl hl.1 rfl (lv_room (Nat.le_of_ble_eq_true rfl)) dX9_cost_6 ⟨Nat.zero_le _, Nat.zero_le _⟩) (fun r_1 hf => ?_)
  subst hQQ
  exact W.iret hx hb hr (fun t ht hW => ⟨_, rfl, hf, ht⟩) (fun _ h => absurd h List.not_mem_nil) dX9_cost_9
def jX9_keep_92 (Q : (Nat → Int32) → Prop) (w_1 : Nat → Int32) : Prop :=
  Q (upd w_1 ((3 : Int32).toNatClampNeg) ((w_1 (3 : Int32).toNatClampNeg) + 1))
def bX9_keep_53 (Q : (Nat → Int32) → Prop) (k_5 : (Nat → Int32) → Int32 → Prop) (w_3 : Nat → Int32) (v_4 : Int32) : Prop :=
  if 11 ≤ v_4 then (jX9_keep_92 Q w_3) else (vp_in (4 + v_4) 163 ∧ (vp_in ((75 + (11 * (w_3 (3 : Int32).toNatClampNeg))) + v_4) 163 ∧ (k_5 (upd w_3 (((75 + (11 * (w_3 (3 : Int32).toNatClampNeg))) + v_4).toNatClampNeg) (w_3 (4 + v_4).toNatClampNeg)) (v_4 + 1))))
def jX9_keep_51 (Q : (Nat → Int32) → Prop) (w_2 : Nat → Int32) : Prop :=
  lq2 (bX9_keep_53 Q) 1000 w_2 0
def jX9_keep_43 (Q : (Nat → Int32) → Prop) (w_7 : Nat → Int32) : Prop :=
  jX9_keep_51 Q (upd w_7 ((3 : Int32).toNatClampNeg) 7)
def bX9_keep_13 (Q : (Nat → Int32) → Prop) (k_11 : (Nat → Int32) → Int32 → Prop) (w_9 : Nat → Int32) (v_10 : Int32) : Prop :=
  if 77 ≤ v_10 then (jX9_keep_43 Q w_9) else (vp_in (86 + v_10) 163 ∧ (vp_in (75 + v_10) 163 ∧ (k_11 (upd w_9 ((75 + v_10).toNatClampNeg) (w_9 (86 + v_10).toNatClampNeg)) (v_10 + 1))))
def p_X9_keep (a0_told : Nat → Int32) (Q : (Nat → Int32) → Prop) : Prop :=
  if (a0_told (3 : Int32).toNatClampNeg) = 8 then (lq2 (bX9_keep_13 Q) 1000 a0_told 0) else (jX9_keep_51 Q a0_told)
def rmX9_keep : Room := { frames := 0, cells := 0, slots := 0, locals := 0 }
set_option maxHeartbeats 4000000 in
set_option maxRecDepth 100000 in
theorem c_X9_keep (l : Launch) (D : va_G) (cI cZ cO : ClassId) (q_a0 q_a0_told q_a0_kept q_a0_isKept q_a0_refused q_a0_manyBy q_a0_hers q_a0_his q_a0_hand q_a0_bytes q_a0_anew q_a0_values : Nat) (a0_above : Int64) (a0_below : Int64) (a0_bytesLong : Int32) (a0_tokenAt : Int32) (a0_tokenLong : Int32) (a0_token : Int32) (a0_value : Int32) (a0_told : Nat → Int32) (sz : Nat) (Q : (Nat → Int32) → Prop) (hf : p_X9_keep a0_told Q) : Met l yX9_keep wsX9_keep rmX9_keep (va_Pc [.ref q_a0] (fun U => U.heap.size = sz ∧ va_P D vwCl [(q_a0, .inr (8, [.ref q_a0_told, .ref q_a0_kept, .ref q_a0_isKept, .ref q_a0_refused, .long a0_above, .long a0_below, .ref q_a0_manyBy, .ref q_a0_hers, .ref q_a0_his, .ref q_a0_hand, .ref q_a0_bytes, .int a0_bytesLong, .int a0_tokenAt, .int a0_tokenLong, .int a0_token, .int a0_value, .ref q_a0_anew, .ref q_a0_values])), (q_a0_told, .inl (cI, 163, .inl a0_told))] U.heap ∧ XK D cI cZ cO U ∧ va_D (fun _ => True) [(q_a0, .inr (8, [.ref q_a0_told, .ref q_a0_kept, .ref q_a0_isKept, .ref q_a0_refused, .long a0_above, .long a0_below, .ref q_a0_manyBy, .ref q_a0_hers, .ref q_a0_his, .ref q_a0_hand, .ref q_a0_bytes, .int a0_bytesLong, .int a0_tokenAt, .int a0_tokenLong, .int a0_token, .int a0_value, .ref q_a0_anew, .ref q_a0_values])), (q_a0_told, .inl (cI, 163, .inl a0_told))])) (va_Qv (fun (u : (Nat → Int32)) => Q u) (fun (u : (Nat → Int32)) t => va_P D vwCl [(q_a0, .inr (8, [.ref q_a0_told, .ref q_a0_kept, .ref q_a0_isKept, .ref q_a0_refused, .long a0_above, .long a0_below, .ref q_a0_manyBy, .ref q_a0_hers, .ref q_a0_his, .ref q_a0_hand, .ref q_a0_bytes, .int a0_bytesLong, .int a0_tokenAt, .int a0_tokenLong, .int a0_token, .int a0_value, .ref q_a0_anew, .ref q_a0_values])), (q_a0_told, .inl (cI, 163, .inl u))] t.heap ∧ va_D (va_A [(q_a0, .inr (8, [.ref q_a0_told, .ref q_a0_kept, .ref q_a0_isKept, .ref q_a0_refused, .long a0_above, .long a0_below, .ref q_a0_manyBy, .ref q_a0_hers, .ref q_a0_his, .ref q_a0_hand, .ref q_a0_bytes, .int a0_bytesLong, .int a0_tokenAt, .int a0_tokenLong, .int a0_token, .int a0_value, .ref q_a0_anew, .ref q_a0_values])), (q_a0_told, .inl (cI, 163, .inl a0_told))] sz) [(q_a0, .inr (8, [.ref q_a0_told, .ref q_a0_kept, .ref q_a0_isKept, .ref q_a0_refused, .long a0_above, .long a0_below, .ref q_a0_manyBy, .ref q_a0_hers, .ref q_a0_his, .ref q_a0_hand, .ref q_a0_bytes, .int a0_bytesLong, .int a0_tokenAt, .int a0_tokenLong, .int a0_token, .int a0_value, .ref q_a0_anew, .ref q_a0_values])), (q_a0_told, .inl (cI, 163, .inl u))]) (va_A [(q_a0, .inr (8, [.ref q_a0_told, .ref q_a0_kept, .ref q_a0_isKept, .ref q_a0_refused, .long a0_above, .long a0_below, .ref q_a0_manyBy, .ref q_a0_hers, .ref q_a0_his, .ref q_a0_hand, .ref q_a0_bytes, .int a0_bytesLong, .int a0_tokenAt, .int a0_tokenLong, .int a0_token, .int a0_value, .ref q_a0_anew, .ref q_a0_values])), (q_a0_told, .inl (cI, 163, .inl a0_told))] sz)) 0 0 (va_A [(q_a0, .inr (8, [.ref q_a0_told, .ref q_a0_kept, .ref q_a0_isKept, .ref q_a0_refused, .long a0_above, .long a0_below, .ref q_a0_manyBy, .ref q_a0_hers, .ref q_a0_his, .ref q_a0_hand, .ref q_a0_bytes, .int a0_bytesLong, .int a0_tokenAt, .int a0_tokenLong, .int a0_token, .int a0_value, .ref q_a0_anew, .ref q_a0_values])), (q_a0_told, .inl (cI, 163, .inl a0_told))] sz) := by
  refine Met.ofW (cc := cX9_keep) (maxL := 2) (ret := none) (by decide) rfl ?_
  intro p e s m args below meth c s₁ B hml hv
  obtain ⟨rfl, hsz, hP, hX, hD0⟩ := hv
  have hK := hX.1
  have hx := B.exec
  have hb := B.bytes
  have hr := B.returns
  have hts := atoms_spec (ws := wsX9_keep) B.pre
  have hown : s.vm.findClass RX9 = some m.cls := findClass_of_methodNamed B.named
  have hlocks := B.notSynchronized
  have in_X9 : ∀ w ∈ wsX90, w ∈ wsX9_keep := fun _ h => List.mem_cons_of_mem _ (List.mem_append_right _ h)
  have kf_7 := hts (.fieldLink RX9 7 "LeftCrestModel" "told" "[I") (by decide +kernel)
  subst hsz
  have hD := hD0.self (sz := s.heap.size)
  generalize hAe : va_A [(q_a0, .inr (8, [.ref q_a0_told, .ref q_a0_kept, .ref q_a0_isKept, .ref q_a0_refused, .long a0_above, .long a0_below, .ref q_a0_manyBy, .ref q_a0_hers, .ref q_a0_his, .ref q_a0_hand, .ref q_a0_bytes, .int a0_bytesLong, .int a0_tokenAt, .int a0_tokenLong, .int a0_token, .int a0_value, .ref q_a0_anew, .ref q_a0_values])), (q_a0_told, .inl (cI, 163, .inl a0_told))] s.heap.size = A at hD ⊢
  have hA : ∀ q : Nat, s.heap.size ≤ q → A q := fun q h => by rw [← hAe]; exact Or.inr h
  have hS : va_S A s.heap s.heap [] := va_S.rf
  have hP : va_P D vwCl [(q_a0, .inr (8, [.ref q_a0_told, .ref q_a0_kept, .ref q_a0_isKept, .ref q_a0_refused, .long a0_above, .long a0_below, .ref q_a0_manyBy, .ref q_a0_hers, .ref q_a0_his, .ref q_a0_hand, .ref q_a0_bytes, .int a0_bytesLong, .int a0_tokenAt, .int a0_tokenLong, .int a0_token, .int a0_value, .ref q_a0_anew, .ref q_a0_values])), (q_a0_told, .inl (cI, 163, .inl a0_told))] s.heap := hP
  generalize hQQ : MQ below _ _ s _ _ _ = QQ
  have hl := lv_entry ([.ref q_a0]) (n := 2) (Nat.le_of_ble_eq_true rfl)
  rw [lg_entry_eq]
  generalize (lg_sl ([.ref q_a0]) ++ List.replicate (2 - (lg_sl ([.ref q_a0])).length) Slot.unset).toArray = ls at hl ⊢
  have hl : lv_has ls 2 [(0, .ref q_a0)] := hl
  have hj_92 : ∀ (w_1 : Nat → Int32) (H : Heap) (locs : List Loc), jX9_keep_92 Q w_1 → va_P D vwCl [(q_a0, .inr (8, [.ref q_a0_told, .ref q_a0_kept, .ref q_a0_isKept, .ref q_a0_refused, .long a0_above, .long a0_below, .ref q_a0_manyBy, .ref q_a0_hers, .ref q_a0_his, .ref q_a0_hand, .ref q_a0_bytes, .int a0_bytesLong, .int a0_tokenAt, .int a0_tokenLong, .int a0_token, .int a0_value, .ref q_a0_anew, .ref q_a0_values])), (q_a0_told, .inl (cI, 163, .inl w_1))] H → va_D A [(q_a0, .inr (8, [.ref q_a0_told, .ref q_a0_kept, .ref q_a0_isKept, .ref q_a0_refused, .long a0_above, .long a0_below, .ref q_a0_manyBy, .ref q_a0_hers, .ref q_a0_his, .ref q_a0_hand, .ref q_a0_bytes, .int a0_bytesLong, .int a0_tokenAt, .int a0_tokenLong, .int a0_token, .int a0_value, .ref q_a0_anew, .ref q_a0_values])), (q_a0_told, .inl (cI, 163, .inl w_1))] → va_S A s.heap H locs → ∀ ls : Array Slot, lv_has ls 2 [(0, .ref q_a0)] → W p l e (headSpec wsX9_keep rmX9_keep).room s m ([.ref q_a0] : List Value).toArray below meth c H locs 0 0 QQ (F0 m 92 ls []) := by
    intro w_1 H locs hf hP hD hS ls hl
    unfold jX9_keep_92 at hf
    refine lv_aload_n hx hb dX9_keep_92 rfl (lv_at hl 0 rfl) ?_
    refine va_get (D := D) (ci := 8) (v := .ref q_a0_told) (C := RX9) (T := TX9) (N := 18) hx hb hts in_X9 hown hK hP 0 rfl rfl 0 (by decide) kf_7 (fun _ h9 => h9) rfl dX9_keep_93 ?_
    refine lv_iconst (v := 3) hx hb dX9_keep_96 (by decide) ?_
    refine lv_dup2_11 hx hb dX9_keep_97 rfl rfl ?_
    refine va_iald hx hb hK hP 1 0 rfl rfl (by unfold vp_in; decide) dX9_keep_98 ?_
    refine lv_iconst (v := 1) hx hb dX9_keep_99 (by decide) ?_
    refine lv_iadd hx hb dX9_keep_100 ?_
    refine va_iast hx hb hK hP hD hS 1 0 rfl rfl (by unfold vp_in; decide) dX9_keep_101 (fun H locs hP hD hS => ?_)
    have hP : va_P D vwCl [(q_a0, .inr (8, [.ref q_a0_told, .ref q_a0_kept, .ref q_a0_isKept, .ref q_a0_refused, .long a0_above, .long a0_below, .ref q_a0_manyBy, .ref q_a0_hers, .ref q_a0_his, .ref q_a0_hand, .ref q_a0_bytes, .int a0_bytesLong, .int a0_tokenAt, .int a0_tokenLong, .int a0_token, .int a0_value, .ref q_a0_anew, .ref q_a0_values])), (q_a0_told, .inl (cI, 163, .inl (upd w_1 ((3 : Int32).toNatClampNeg) ((w_1 (3 : Int32).toNatClampNeg) + 1))))] H := hP
    have hD : va_D A [(q_a0, .inr (8, [.ref q_a0_told, .ref q_a0_kept, .ref q_a0_isKept, .ref q_a0_refused, .long a0_above, .long a0_below, .ref q_a0_manyBy, .ref q_a0_hers, .ref q_a0_his, .ref q_a0_hand, .ref q_a0_bytes, .int a0_bytesLong, .int a0_tokenAt, .int a0_tokenLong, .int a0_token, .int a0_value, .ref q_a0_anew, .ref q_a0_values])), (q_a0_told, .inl (cI, 163, .inl (upd w_1 ((3 : Int32).toNatClampNeg) ((w_1 (3 : Int32).toNatClampNeg) + 1))))] := hD
    subst hQQ
    have hP9 := hP.sub (ws' := [(q_a0, .inr (8, [.ref q_a0_told, .ref q_a0_kept, .ref q_a0_isKept, .ref q_a0_refused, .long a0_above, .long a0_below, .ref q_a0_manyBy, .ref q_a0_hers, .ref q_a0_his, .ref q_a0_hand, .ref q_a0_bytes, .int a0_bytesLong, .int a0_tokenAt, .int a0_tokenLong, .int a0_token, .int a0_value, .ref q_a0_anew, .ref q_a0_values])), (q_a0_told, .inl (cI, 163, .inl (upd w_1 ((3 : Int32).toNatClampNeg) ((w_1 (3 : Int32).toNatClampNeg) + 1))))]) [0, 1] rfl
    have hD9 := hD.sub (ws' := [(q_a0, .inr (8, [.ref q_a0_told, .ref q_a0_kept, .ref q_a0_isKept, .ref q_a0_refused, .long a0_above, .long a0_below, .ref q_a0_manyBy, .ref q_a0_hers, .ref q_a0_his, .ref q_a0_hand, .ref q_a0_bytes, .int a0_bytesLong, .int a0_tokenAt, .int a0_tokenLong, .int a0_token, .int a0_value, .ref q_a0_anew, .ref q_a0_values])), (q_a0_told, .inl (cI, 163, .inl (upd w_1 ((3 : Int32).toNatClampNeg) ((w_1 (3 : Int32).toNatClampNeg) + 1))))]) [0, 1] (by decide) rfl
    exact W.vret hx hb hr (fun t ht hW => ⟨⟨(upd w_1 ((3 : Int32).toNatClampNeg) ((w_1 (3 : Int32).toNatClampNeg) + 1)), rfl, hf, by rw [ht]; exact hP9, hD9⟩, hS.F ht⟩) hS.2.2 dX9_keep_102
  have hj_51 : ∀ (w_2 : Nat → Int32) (H : Heap) (locs : List Loc), jX9_keep_51 Q w_2 → va_P D vwCl [(q_a0, .inr (8, [.ref q_a0_told, .ref q_a0_kept, .ref q_a0_isKept, .ref q_a0_refused, .long a0_above, .long a0_below, .ref q_a0_manyBy, .ref q_a0_hers, .ref q_a0_his, .ref q_a0_hand, .ref q_a0_bytes, .int a0_bytesLong, .int a0_tokenAt, .int a0_tokenLong, .int a0_token, .int a0_value, .ref q_a0_anew, .ref q_a0_values])), (q_a0_told, .inl (cI, 163, .inl w_2))] H → va_D A [(q_a0, .inr (8, [.ref q_a0_told, .ref q_a0_kept, .ref q_a0_isKept, .ref q_a0_refused, .long a0_above, .long a0_below, .ref q_a0_manyBy, .ref q_a0_hers, .ref q_a0_his, .ref q_a0_hand, .ref q_a0_bytes, .int a0_bytesLong, .int a0_tokenAt, .int a0_tokenLong, .int a0_token, .int a0_value, .ref q_a0_anew, .ref q_a0_values])), (q_a0_told, .inl (cI, 163, .inl w_2))] → va_S A s.heap H locs → ∀ ls : Array Slot, lv_has ls 2 [(0, .ref q_a0)] → W p l e (headSpec wsX9_keep rmX9_keep).room s m ([.ref q_a0] : List Value).toArray below meth c H locs 0 0 QQ (F0 m 51 ls []) := by
    intro w_2 H locs hf hP hD hS ls hl
    unfold jX9_keep_51 at hf
    refine lv_iconst (v := 0) hx hb dX9_keep_51 (by decide) ?_
    refine lv_istore_n (lv' := [(1, .int 0), (0, .ref q_a0)]) hx hb dX9_keep_52 rfl hl (by decide) rfl (fun ls hl => ?_)
    have hlp_53 : ∀ (n_53 : Nat) (w_3 : Nat → Int32) (v_4 : Int32) (H : Heap) (locs : List Loc) (ls : Array Slot), lq2 (bX9_keep_53 Q) n_53 w_3 v_4 → va_P D vwCl [(q_a0, .inr (8, [.ref q_a0_told, .ref q_a0_kept, .ref q_a0_isKept, .ref q_a0_refused, .long a0_above, .long a0_below, .ref q_a0_manyBy, .ref q_a0_hers, .ref q_a0_his, .ref q_a0_hand, .ref q_a0_bytes, .int a0_bytesLong, .int a0_tokenAt, .int a0_tokenLong, .int a0_token, .int a0_value, .ref q_a0_anew, .ref q_a0_values])), (q_a0_told, .inl (cI, 163, .inl w_3))] H → va_D A [(q_a0, .inr (8, [.ref q_a0_told, .ref q_a0_kept, .ref q_a0_isKept, .ref q_a0_refused, .long a0_above, .long a0_below, .ref q_a0_manyBy, .ref q_a0_hers, .ref q_a0_his, .ref q_a0_hand, .ref q_a0_bytes, .int a0_bytesLong, .int a0_tokenAt, .int a0_tokenLong, .int a0_token, .int a0_value, .ref q_a0_anew, .ref q_a0_values])), (q_a0_told, .inl (cI, 163, .inl w_3))] → va_S A s.heap H locs → lv_has ls 2 [(0, .ref q_a0), (1, .int v_4)] → W p l e (headSpec wsX9_keep rmX9_keep).room s m ([.ref q_a0] : List Value).toArray below meth c H locs 0 0 QQ (F0 m 53 ls []) := by
      intro n_53
      induction n_53 with
      | zero => intro w_3 v_4 H locs ls hf; exact (lq2_0 hf).elim
      | succ n_53 ih =>
        have ih_53 := ih
        intro w_3 v_4 H locs ls hf hP hD hS hl
        have hf := lq2_s hf
        unfold bX9_keep_53 at hf
        refine lv_iload_n hx hb dX9_keep_53 rfl (lv_at hl 1 rfl) ?_
        refine lv_bipush (v := 11) hx hb dX9_keep_54 (by decide) ?_
        refine lv_icmp_ge (tgt := 92) hx hb dX9_keep_56 (by decide) (fun c_6 => ?_) (fun c_6 => ?_)
        · have hf := it_t c_6 hf
          exact hj_92 w_3 _ _ hf (hP.sub [0, 1] rfl) (hD.sub [0, 1] (by decide) rfl) hS ls (lv_sub hl [0] rfl)
        · have hf := it_f c_6 hf
          refine lv_aload_n hx hb dX9_keep_59 rfl (lv_at hl 0 rfl) ?_
          refine va_get (D := D) (ci := 8) (v := .ref q_a0_told) (C := RX9) (T := TX9) (N := 18) hx hb hts in_X9 hown hK hP 0 rfl rfl 0 (by decide) kf_7 (fun _ h9 => h9) rfl dX9_keep_60 ?_
          refine lv_bipush (v := 75) hx hb dX9_keep_63 (by decide) ?_
          refine lv_bipush (v := 11) hx hb dX9_keep_65 (by decide) ?_
          refine lv_aload_n hx hb dX9_keep_67 rfl (lv_at hl 0 rfl) ?_
          refine va_get (D := D) (ci := 8) (v := .ref q_a0_told) (C := RX9) (T := TX9) (N := 18) hx hb hts in_X9 hown hK hP 0 rfl rfl 0 (by decide) kf_7 (fun _ h9 => h9) rfl dX9_keep_68 ?_
          refine lv_iconst (v := 3) hx hb dX9_keep_71 (by decide) ?_
          refine va_iald hx hb hK hP 1 0 rfl rfl (by unfold vp_in; decide) dX9_keep_72 ?_
          refine lv_imul hx hb dX9_keep_73 ?_
          refine lv_iadd hx hb dX9_keep_74 ?_
          refine lv_iload_n hx hb dX9_keep_75 rfl (lv_at hl 1 rfl) ?_
          refine lv_iadd hx hb dX9_keep_76 ?_
          refine lv_aload_n hx hb dX9_keep_77 rfl (lv_at hl 0 rfl) ?_
          refine va_get (D := D) (ci := 8) (v := .ref q_a0_told) (C := RX9) (T := TX9) (N := 18) hx hb hts in_X9 hown hK hP 0 rfl rfl 0 (by decide) kf_7 (fun _ h9 => h9) rfl dX9_keep_78 ?_
          refine lv_iconst (v := 4) hx hb dX9_keep_81 (by decide) ?_
          refine lv_iload_n hx hb dX9_keep_82 rfl (lv_at hl 1 rfl) ?_
          refine lv_iadd hx hb dX9_keep_83 ?_
          refine va_iald hx hb hK hP 1 0 rfl rfl hf.1 dX9_keep_84 ?_
          have hf := hf.2
          refine va_iast hx hb hK hP hD hS 1 0 rfl rfl hf.1 dX9_keep_85 (fun H locs hP hD hS => ?_)
          have hP : va_P D vwCl [(q_a0, .inr (8, [.ref q_a0_told, .ref q_a0_kept, .ref q_a0_isKept, .ref q_a0_refused, .long a0_above, .long a0_below, .ref q_a0_manyBy, .ref q_a0_hers, .ref q_a0_his, .ref q_a0_hand, .ref q_a0_bytes, .int a0_bytesLong, .int a0_tokenAt, .int a0_tokenLong, .int a0_token, .int a0_value, .ref q_a0_anew, .ref q_a0_values])), (q_a0_told, .inl (cI, 163, .inl (upd w_3 (((75 + (11 * (w_3 (3 : Int32).toNatClampNeg))) + v_4).toNatClampNeg) (w_3 (4 + v_4).toNatClampNeg))))] H := hP
          have hD : va_D A [(q_a0, .inr (8, [.ref q_a0_told, .ref q_a0_kept, .ref q_a0_isKept, .ref q_a0_refused, .long a0_above, .long a0_below, .ref q_a0_manyBy, .ref q_a0_hers, .ref q_a0_his, .ref q_a0_hand, .ref q_a0_bytes, .int a0_bytesLong, .int a0_tokenAt, .int a0_tokenLong, .int a0_token, .int a0_value, .ref q_a0_anew, .ref q_a0_values])), (q_a0_told, .inl (cI, 163, .inl (upd w_3 (((75 + (11 * (w_3 (3 : Int32).toNatClampNeg))) + v_4).toNatClampNeg) (w_3 (4 + v_4).toNatClampNeg))))] := hD
          have hf := hf.2
          refine lv_iinc (v := v_4 + 1) (lv' := [(1, .int (v_4 + 1)), (0, .ref q_a0)]) hx hb dX9_keep_86 hl (k := 1) rfl rfl (by decide) rfl (fun ls hl => ?_)
          refine lv_goto (tgt := 53) hx hb dX9_keep_89 (by decide) ?_
          exact ih (upd w_3 (((75 + (11 * (w_3 (3 : Int32).toNatClampNeg))) + v_4).toNatClampNeg) (w_3 (4 + v_4).toNatClampNeg)) (v_4 + 1) _ _ ls hf (hP.sub [0, 1] rfl) (hD.sub [0, 1] (by decide) rfl) hS (lv_sub hl [1, 0] rfl)
    exact hlp_53 1000 w_2 0 _ _ ls hf (hP.sub [0, 1] rfl) (hD.sub [0, 1] (by decide) rfl) hS (lv_sub hl [1, 0] rfl)
  have hj_43 : ∀ (w_7 : Nat → Int32) (H : Heap) (locs : List Loc), jX9_keep_43 Q w_7 → va_P D vwCl [(q_a0, .inr (8, [.ref q_a0_told, .ref q_a0_kept, .ref q_a0_isKept, .ref q_a0_refused, .long a0_above, .long a0_below, .ref q_a0_manyBy, .ref q_a0_hers, .ref q_a0_his, .ref q_a0_hand, .ref q_a0_bytes, .int a0_bytesLong, .int a0_tokenAt, .int a0_tokenLong, .int a0_token, .int a0_value, .ref q_a0_anew, .ref q_a0_values])), (q_a0_told, .inl (cI, 163, .inl w_7))] H → va_D A [(q_a0, .inr (8, [.ref q_a0_told, .ref q_a0_kept, .ref q_a0_isKept, .ref q_a0_refused, .long a0_above, .long a0_below, .ref q_a0_manyBy, .ref q_a0_hers, .ref q_a0_his, .ref q_a0_hand, .ref q_a0_bytes, .int a0_bytesLong, .int a0_tokenAt, .int a0_tokenLong, .int a0_token, .int a0_value, .ref q_a0_anew, .ref q_a0_values])), (q_a0_told, .inl (cI, 163, .inl w_7))] → va_S A s.heap H locs → ∀ ls : Array Slot, lv_has ls 2 [(0, .ref q_a0)] → W p l e (headSpec wsX9_keep rmX9_keep).room s m ([.ref q_a0] : List Value).toArray below meth c H locs 0 0 QQ (F0 m 43 ls []) := by
    intro w_7 H locs hf hP hD hS ls hl
    unfold jX9_keep_43 at hf
    refine lv_aload_n hx hb dX9_keep_43 rfl (lv_at hl 0 rfl) ?_
    refine va_get (D := D) (ci := 8) (v := .ref q_a0_told) (C := RX9) (T := TX9) (N := 18) hx hb hts in_X9 hown hK hP 0 rfl rfl 0 (by decide) kf_7 (fun _ h9 => h9) rfl dX9_keep_44 ?_
    refine lv_iconst (v := 3) hx hb dX9_keep_47 (by decide) ?_
    refine lv_bipush (v := 7) hx hb dX9_keep_48 (by decide) ?_
    refine va_iast hx hb hK hP hD hS 1 0 rfl rfl (by unfold vp_in; decide) dX9_keep_50 (fun H locs hP hD hS => ?_)
    have hP : va_P D vwCl [(q_a0, .inr (8, [.ref q_a0_told, .ref q_a0_kept, .ref q_a0_isKept, .ref q_a0_refused, .long a0_above, .long a0_below, .ref q_a0_manyBy, .ref q_a0_hers, .ref q_a0_his, .ref q_a0_hand, .ref q_a0_bytes, .int a0_bytesLong, .int a0_tokenAt, .int a0_tokenLong, .int a0_token, .int a0_value, .ref q_a0_anew, .ref q_a0_values])), (q_a0_told, .inl (cI, 163, .inl (upd w_7 ((3 : Int32).toNatClampNeg) 7)))] H := hP
    have hD : va_D A [(q_a0, .inr (8, [.ref q_a0_told, .ref q_a0_kept, .ref q_a0_isKept, .ref q_a0_refused, .long a0_above, .long a0_below, .ref q_a0_manyBy, .ref q_a0_hers, .ref q_a0_his, .ref q_a0_hand, .ref q_a0_bytes, .int a0_bytesLong, .int a0_tokenAt, .int a0_tokenLong, .int a0_token, .int a0_value, .ref q_a0_anew, .ref q_a0_values])), (q_a0_told, .inl (cI, 163, .inl (upd w_7 ((3 : Int32).toNatClampNeg) 7)))] := hD
    exact hj_51 (upd w_7 ((3 : Int32).toNatClampNeg) 7) _ _ hf (hP.sub [0, 1] rfl) (hD.sub [0, 1] (by decide) rfl) hS ls (lv_sub hl [0] rfl)
  unfold p_X9_keep at hf
  refine lv_aload_n hx hb dX9_keep_0 rfl (lv_at hl 0 rfl) ?_
  refine va_get (D := D) (ci := 8) (v := .ref q_a0_told) (C := RX9) (T := TX9) (N := 18) hx hb hts in_X9 hown hK hP 0 rfl rfl 0 (by decide) kf_7 (fun _ h9 => h9) rfl dX9_keep_1 ?_
  refine lv_iconst (v := 3) hx hb dX9_keep_4 (by decide) ?_
  refine va_iald hx hb hK hP 1 0 rfl rfl (by unfold vp_in; decide) dX9_keep_5 ?_
  refine lv_bipush (v := 8) hx hb dX9_keep_6 (by decide) ?_
  refine lv_icmp_ne (tgt := 51) hx hb dX9_keep_8 (by decide) (fun c_8 => ?_) (fun c_8 => ?_)
  · have hf := it_f c_8 hf
    exact hj_51 a0_told _ _ hf (hP.sub [0, 1] rfl) (hD.sub [0, 1] (by decide) rfl) hS ls (lv_sub hl [0] rfl)
  · have hf := it_t c_8 hf
    refine lv_iconst (v := 0) hx hb dX9_keep_11 (by decide) ?_
    refine lv_istore_n (lv' := [(1, .int 0), (0, .ref q_a0)]) hx hb dX9_keep_12 rfl hl (by decide) rfl (fun ls hl => ?_)
    have hlp_13 : ∀ (n_13 : Nat) (w_9 : Nat → Int32) (v_10 : Int32) (H : Heap) (locs : List Loc) (ls : Array Slot), lq2 (bX9_keep_13 Q) n_13 w_9 v_10 → va_P D vwCl [(q_a0, .inr (8, [.ref q_a0_told, .ref q_a0_kept, .ref q_a0_isKept, .ref q_a0_refused, .long a0_above, .long a0_below, .ref q_a0_manyBy, .ref q_a0_hers, .ref q_a0_his, .ref q_a0_hand, .ref q_a0_bytes, .int a0_bytesLong, .int a0_tokenAt, .int a0_tokenLong, .int a0_token, .int a0_value, .ref q_a0_anew, .ref q_a0_values])), (q_a0_told, .inl (cI, 163, .inl w_9))] H → va_D A [(q_a0, .inr (8, [.ref q_a0_told, .ref q_a0_kept, .ref q_a0_isKept, .ref q_a0_refused, .long a0_above, .long a0_below, .ref q_a0_manyBy, .ref q_a0_hers, .ref q_a0_his, .ref q_a0_hand, .ref q_a0_bytes, .int a0_bytesLong, .int a0_tokenAt, .int a0_tokenLong, .int a0_token, .int a0_value, .ref q_a0_anew, .ref q_a0_values])), (q_a0_told, .inl (cI, 163, .inl w_9))] → va_S A s.heap H locs → lv_has ls 2 [(0, .ref q_a0), (1, .int v_10)] → W p l e (headSpec wsX9_keep rmX9_keep).room s m ([.ref q_a0] : List Value).toArray below meth c H locs 0 0 QQ (F0 m 13 ls []) := by
      intro n_13
      induction n_13 with
      | zero => intro w_9 v_10 H locs ls hf; exact (lq2_0 hf).elim
      | succ n_13 ih =>
        have ih_13 := ih
        intro w_9 v_10 H locs ls hf hP hD hS hl
        have hf := lq2_s hf
        unfold bX9_keep_13 at hf
        refine lv_iload_n hx hb dX9_keep_13 rfl (lv_at hl 1 rfl) ?_
        refine lv_bipush (v := 77) hx hb dX9_keep_14 (by decide) ?_
        refine lv_icmp_ge (tgt := 43) hx hb dX9_keep_16 (by decide) (fun c_12 => ?_) (fun c_12 => ?_)
        · have hf := it_t c_12 hf
          exact hj_43 w_9 _ _ hf (hP.sub [0, 1] rfl) (hD.sub [0, 1] (by decide) rfl) hS ls (lv_sub hl [0] rfl)
        · have hf := it_f c_12 hf
          refine lv_aload_n hx hb dX9_keep_19 rfl (lv_at hl 0 rfl) ?_
          refine va_get (D := D) (ci := 8) (v := .ref q_a0_told) (C := RX9) (T := TX9) (N := 18) hx hb hts in_X9 hown hK hP 0 rfl rfl 0 (by decide) kf_7 (fun _ h9 => h9) rfl dX9_keep_20 ?_
          refine lv_bipush (v := 75) hx hb dX9_keep_23 (by decide) ?_
          refine lv_iload_n hx hb dX9_keep_25 rfl (lv_at hl 1 rfl) ?_
          refine lv_iadd hx hb dX9_keep_26 ?_
          refine lv_aload_n hx hb dX9_keep_27 rfl (lv_at hl 0 rfl) ?_
          refine va_get (D := D) (ci := 8) (v := .ref q_a0_told) (C := RX9) (T := TX9) (N := 18) hx hb hts in_X9 hown hK hP 0 rfl rfl 0 (by decide) kf_7 (fun _ h9 => h9) rfl dX9_keep_28 ?_
          refine lv_bipush (v := 86) hx hb dX9_keep_31 (by decide) ?_
          refine lv_iload_n hx hb dX9_keep_33 rfl (lv_at hl 1 rfl) ?_
          refine lv_iadd hx hb dX9_keep_34 ?_
          refine va_iald hx hb hK hP 1 0 rfl rfl hf.1 dX9_keep_35 ?_
          have hf := hf.2
          refine va_iast hx hb hK hP hD hS 1 0 rfl rfl hf.1 dX9_keep_36 (fun H locs hP hD hS => ?_)
          have hP : va_P D vwCl [(q_a0, .inr (8, [.ref q_a0_told, .ref q_a0_kept, .ref q_a0_isKept, .ref q_a0_refused, .long a0_above, .long a0_below, .ref q_a0_manyBy, .ref q_a0_hers, .ref q_a0_his, .ref q_a0_hand, .ref q_a0_bytes, .int a0_bytesLong, .int a0_tokenAt, .int a0_tokenLong, .int a0_token, .int a0_value, .ref q_a0_anew, .ref q_a0_values])), (q_a0_told, .inl (cI, 163, .inl (upd w_9 ((75 + v_10).toNatClampNeg) (w_9 (86 + v_10).toNatClampNeg))))] H := hP
          have hD : va_D A [(q_a0, .inr (8, [.ref q_a0_told, .ref q_a0_kept, .ref q_a0_isKept, .ref q_a0_refused, .long a0_above, .long a0_below, .ref q_a0_manyBy, .ref q_a0_hers, .ref q_a0_his, .ref q_a0_hand, .ref q_a0_bytes, .int a0_bytesLong, .int a0_tokenAt, .int a0_tokenLong, .int a0_token, .int a0_value, .ref q_a0_anew, .ref q_a0_values])), (q_a0_told, .inl (cI, 163, .inl (upd w_9 ((75 + v_10).toNatClampNeg) (w_9 (86 + v_10).toNatClampNeg))))] := hD
          have hf := hf.2
          refine lv_iinc (v := v_10 + 1) (lv' := [(1, .int (v_10 + 1)), (0, .ref q_a0)]) hx hb dX9_keep_37 hl (k := 1) rfl rfl (by decide) rfl (fun ls hl => ?_)
          refine lv_goto (tgt := 13) hx hb dX9_keep_40 (by decide) ?_
          exact ih (upd w_9 ((75 + v_10).toNatClampNeg) (w_9 (86 + v_10).toNatClampNeg)) (v_10 + 1) _ _ ls hf (hP.sub [0, 1] rfl) (hD.sub [0, 1] (by decide) rfl) hS (lv_sub hl [1, 0] rfl)
    exact hlp_13 1000 a0_told 0 _ _ ls hf (hP.sub [0, 1] rfl) (hD.sub [0, 1] (by decide) rfl) hS (lv_sub hl [1, 0] rfl)
def jX9_goDrive_74 (n_a0 : Nat) (Q : Int32 → (Nat → Int32) → Prop) (w_1 : Nat → Int32) (v_2 : Int32) : Prop :=
  vp_in 5 n_a0 ∧ (vp_in 5 n_a0 ∧ (Q v_2 (upd w_1 ((5 : Int32).toNatClampNeg) ((w_1 (5 : Int32).toNatClampNeg) + v_2))))
def jX9_goDrive_59 (n_a0 : Nat) (k_6 : (Nat → Int32) → Int32 → Int32 → Prop) (w_3 : Nat → Int32) (v_5 : Int32) (v_7 : Int32) (t_8 : Int32) (t_9 : Int32) (t_10 : Int32) : Prop :=
  vp_in t_8 n_a0 ∧ (vp_in 4 n_a0 ∧ (vp_in 4 n_a0 ∧ (k_6 (upd (upd w_3 (t_8.toNatClampNeg) (t_9 + t_10)) ((4 : Int32).toNatClampNeg) (((upd w_3 (t_8.toNatClampNeg) (t_9 + t_10)) (4 : Int32).toNatClampNeg) + 1)) v_7 (v_5 + 1))))
def bX9_goDrive_4 (n_a0 : Nat) (x1 : Int32) (Q : Int32 → (Nat → Int32) → Prop) (k_6 : (Nat → Int32) → Int32 → Int32 → Prop) (w_3 : Nat → Int32) (v_4 : Int32) (v_5 : Int32) : Prop :=
  if x1 ≤ v_5 then (jX9_goDrive_74 n_a0 Q w_3 v_4) else (vp_in 4 n_a0 ∧ (vp_in (7 + (w_3 (4 : Int32).toNatClampNeg)) n_a0 ∧ (p_X9_costBy n_a0 w_3 (w_3 (4 : Int32).toNatClampNeg) (w_3 (7 + (w_3 (4 : Int32).toNatClampNeg)).toNatClampNeg) (fun r_12 => vp_in (18 + (w_3 (4 : Int32).toNatClampNeg)) n_a0 ∧ (vp_in 6 n_a0 ∧ (if r_12 = 60 then (jX9_goDrive_59 n_a0 k_6 w_3 v_5 (v_4 + ((w_3 (18 + (w_3 (4 : Int32).toNatClampNeg)).toNatClampNeg) + r_12)) 6 (w_3 (6 : Int32).toNatClampNeg) 1) else (jX9_goDrive_59 n_a0 k_6 w_3 v_5 (v_4 + ((w_3 (18 + (w_3 (4 : Int32).toNatClampNeg)).toNatClampNeg) + r_12)) 6 (w_3 (6 : Int32).toNatClampNeg) 0)))))))
def p_X9_goDrive (n_a0 : Nat) (a0 : Nat → Int32) (x1 : Int32) (Q : Int32 → (Nat → Int32) → Prop) : Prop :=
  lq3 (bX9_goDrive_4 n_a0 x1 Q) 1000 a0 0 0
def rmX9_goDrive : Room := { frames := 3, cells := 0, slots := 0, locals := 71 }
set_option maxHeartbeats 4000000 in
set_option maxRecDepth 100000 in
theorem c_X9_goDrive (l : Launch) (D : va_G) (cI cZ cO : ClassId) (q_a0 : Nat) (n_a0 : Nat) (a0 : Nat → Int32) (sz : Nat) (x1 : Int32) (Q : Int32 → (Nat → Int32) → Prop) (hf : p_X9_goDrive n_a0 a0 x1 Q) : Met l yX9_goDrive wsX9_goDrive rmX9_goDrive (va_Pc [.ref q_a0, .int x1] (fun U => U.heap.size = sz ∧ va_P D vwCl [(q_a0, .inl (cI, n_a0, .inl a0))] U.heap ∧ XK D cI cZ cO U ∧ va_D (fun _ => True) [(q_a0, .inl (cI, n_a0, .inl a0))])) (va_Qi (fun r (u : (Nat → Int32)) => Q r u) (fun (u : (Nat → Int32)) t => va_P D vwCl [(q_a0, .inl (cI, n_a0, .inl u))] t.heap ∧ va_D (va_A [(q_a0, .inl (cI, n_a0, .inl a0))] sz) [(q_a0, .inl (cI, n_a0, .inl u))]) (va_A [(q_a0, .inl (cI, n_a0, .inl a0))] sz)) 0 0 (va_A [(q_a0, .inl (cI, n_a0, .inl a0))] sz) := by
  refine Met.ofW (cc := cX9_goDrive) (maxL := 6) (ret := (some .int)) (by decide) rfl ?_
  intro p e s m args below meth c s₁ B hml hv
  obtain ⟨rfl, hsz, hP, hX, hD0⟩ := hv
  have hK := hX.1
  have hx := B.exec
  have hb := B.bytes
  have hr := B.returns
  have hts := atoms_spec (ws := wsX9_goDrive) B.pre
  have hown : s.vm.findClass RX9 = some m.cls := findClass_of_methodNamed B.named
  have hlocks := B.notSynchronized
  subst hsz
  have hD := hD0.self (sz := s.heap.size)
  generalize hAe : va_A [(q_a0, .inl (cI, n_a0, .inl a0))] s.heap.size = A at hD ⊢
  have hA : ∀ q : Nat, s.heap.size ≤ q → A q := fun q h => by rw [← hAe]; exact Or.inr h
  have hS : va_S A s.heap s.heap [] := va_S.rf
  have hP : va_P D vwCl [(q_a0, .inl (cI, n_a0, .inl a0))] s.heap := hP
  generalize hQQ : MQ below _ _ s _ _ _ = QQ
  have hl := lv_entry ([.ref q_a0, .int x1]) (n := 6) (Nat.le_of_ble_eq_true rfl)
  rw [lg_entry_eq]
  generalize (lg_sl ([.ref q_a0, .int x1]) ++ List.replicate (6 - (lg_sl ([.ref q_a0, .int x1])).length) Slot.unset).toArray = ls at hl ⊢
  have hl : lv_has ls 6 [(0, .ref q_a0), (1, .int x1)] := hl
  have hj_74 : ∀ (w_1 : Nat → Int32) (v_2 : Int32) (H : Heap) (locs : List Loc), jX9_goDrive_74 n_a0 Q w_1 v_2 → va_P D vwCl [(q_a0, .inl (cI, n_a0, .inl w_1))] H → va_D A [(q_a0, .inl (cI, n_a0, .inl w_1))] → va_S A s.heap H locs → ∀ ls : Array Slot, lv_has ls 6 [(0, .ref q_a0), (2, .int v_2)] → W p l e (headSpec wsX9_goDrive rmX9_goDrive).room s m ([.ref q_a0, .int x1] : List Value).toArray below meth c H locs 0 0 QQ (F0 m 74 ls []) := by
    intro w_1 v_2 H locs hf hP hD hS ls hl
    unfold jX9_goDrive_74 at hf
    refine lv_aload_n hx hb dX9_goDrive_74 rfl (lv_at hl 0 rfl) ?_
    refine lv_iconst (v := 5) hx hb dX9_goDrive_75 (by decide) ?_
    refine lv_dup2_11 hx hb dX9_goDrive_76 rfl rfl ?_
    refine va_iald hx hb hK hP 0 0 rfl rfl hf.1 dX9_goDrive_77 ?_
    have hf := hf.2
    refine lv_iload_n hx hb dX9_goDrive_78 rfl (lv_at hl 1 rfl) ?_
    refine lv_iadd hx hb dX9_goDrive_79 ?_
    refine va_iast hx hb hK hP hD hS 0 0 rfl rfl hf.1 dX9_goDrive_80 (fun H locs hP hD hS => ?_)
    have hP : va_P D vwCl [(q_a0, .inl (cI, n_a0, .inl (upd w_1 ((5 : Int32).toNatClampNeg) ((w_1 (5 : Int32).toNatClampNeg) + v_2))))] H := hP
    have hD : va_D A [(q_a0, .inl (cI, n_a0, .inl (upd w_1 ((5 : Int32).toNatClampNeg) ((w_1 (5 : Int32).toNatClampNeg) + v_2))))] := hD
    have hf := hf.2
    refine lv_iload_n hx hb dX9_goDrive_81 rfl (lv_at hl 1 rfl) ?_
    subst hQQ
    have hP9 := hP.sub (ws' := [(q_a0, .inl (cI, n_a0, .inl (upd w_1 ((5 : Int32).toNatClampNeg) ((w_1 (5 : Int32).toNatClampNeg) + v_2))))]) [0] rfl
    have hD9 := hD.sub (ws' := [(q_a0, .inl (cI, n_a0, .inl (upd w_1 ((5 : Int32).toNatClampNeg) ((w_1 (5 : Int32).toNatClampNeg) + v_2))))]) [0] (by decide) rfl
    exact W.iret hx hb hr (fun t ht hW => ⟨⟨v_2, (upd w_1 ((5 : Int32).toNatClampNeg) ((w_1 (5 : Int32).toNatClampNeg) + v_2)), rfl, hf, by rw [ht]; exact hP9, hD9⟩, hS.F ht⟩) hS.2.2 dX9_goDrive_82
  unfold p_X9_goDrive at hf
  refine lv_iconst (v := 0) hx hb dX9_goDrive_0 (by decide) ?_
  refine lv_istore_n (lv' := [(2, .int 0), (0, .ref q_a0), (1, .int x1)]) hx hb dX9_goDrive_1 rfl hl (by decide) rfl (fun ls hl => ?_)
  refine lv_iconst (v := 0) hx hb dX9_goDrive_2 (by decide) ?_
  refine lv_istore_n (lv' := [(3, .int 0), (2, .int 0), (0, .ref q_a0), (1, .int x1)]) hx hb dX9_goDrive_3 rfl hl (by decide) rfl (fun ls hl => ?_)
  have hlp_4 : ∀ (n_4 : Nat) (w_3 : Nat → Int32) (v_4 : Int32) (v_5 : Int32) (H : Heap) (locs : List Loc) (ls : Array Slot), lq3 (bX9_goDrive_4 n_a0 x1 Q) n_4 w_3 v_4 v_5 → va_P D vwCl [(q_a0, .inl (cI, n_a0, .inl w_3))] H → va_D A [(q_a0, .inl (cI, n_a0, .inl w_3))] → va_S A s.heap H locs → lv_has ls 6 [(0, .ref q_a0), (1, .int x1), (2, .int v_4), (3, .int v_5)] → W p l e (headSpec wsX9_goDrive rmX9_goDrive).room s m ([.ref q_a0, .int x1] : List Value).toArray below meth c H locs 0 0 QQ (F0 m 4 ls []) := by
    intro n_4
    induction n_4 with
    | zero => intro w_3 v_4 v_5 H locs ls hf; exact (lq3_0 hf).elim
    | succ n_4 ih =>
      have ih_4 := ih
      intro w_3 v_4 v_5 H locs ls hf hP hD hS hl
      have hj_59 : ∀ (v_7 : Int32) (t_8 : Int32) (t_9 : Int32) (t_10 : Int32) (H : Heap) (locs : List Loc), jX9_goDrive_59 n_a0 (lq3 (bX9_goDrive_4 n_a0 x1 Q) n_4) w_3 v_5 v_7 t_8 t_9 t_10 → va_P D vwCl [(q_a0, .inl (cI, n_a0, .inl w_3))] H → va_D A [(q_a0, .inl (cI, n_a0, .inl w_3))] → va_S A s.heap H locs → ∀ ls : Array Slot, lv_has ls 6 [(0, .ref q_a0), (1, .int x1), (2, .int v_7), (3, .int v_5)] → W p l e (headSpec wsX9_goDrive rmX9_goDrive).room s m ([.ref q_a0, .int x1] : List Value).toArray below meth c H locs 0 0 QQ (F0 m 59 ls [.int t_10, .int t_9, .int t_8, .ref q_a0]) := by
        intro v_7 t_8 t_9 t_10 H locs hf hP hD hS ls hl
        unfold jX9_goDrive_59 at hf
        refine lv_iadd hx hb dX9_goDrive_59 ?_
        refine va_iast hx hb hK hP hD hS 0 0 rfl rfl hf.1 dX9_goDrive_60 (fun H locs hP hD hS => ?_)
        have hP : va_P D vwCl [(q_a0, .inl (cI, n_a0, .inl (upd w_3 (t_8.toNatClampNeg) (t_9 + t_10))))] H := hP
        have hD : va_D A [(q_a0, .inl (cI, n_a0, .inl (upd w_3 (t_8.toNatClampNeg) (t_9 + t_10))))] := hD
        have hf := hf.2
        refine lv_aload_n hx hb dX9_goDrive_61 rfl (lv_at hl 0 rfl) ?_
        refine lv_iconst (v := 4) hx hb dX9_goDrive_62 (by decide) ?_
        refine lv_dup2_11 hx hb dX9_goDrive_63 rfl rfl ?_
        refine va_iald hx hb hK hP 0 0 rfl rfl hf.1 dX9_goDrive_64 ?_
        have hf := hf.2
        refine lv_iconst (v := 1) hx hb dX9_goDrive_65 (by decide) ?_
        refine lv_iadd hx hb dX9_goDrive_66 ?_
        refine va_iast hx hb hK hP hD hS 0 0 rfl rfl hf.1 dX9_goDrive_67 (fun H locs hP hD hS => ?_)
        have hP : va_P D vwCl [(q_a0, .inl (cI, n_a0, .inl (upd (upd w_3 (t_8.toNatClampNeg) (t_9 + t_10)) ((4 : Int32).toNatClampNeg) (((upd w_3 (t_8.toNatClampNeg) (t_9 + t_10)) (4 : Int32).toNatClampNeg) + 1))))] H := hP
        have hD : va_D A [(q_a0, .inl (cI, n_a0, .inl (upd (upd w_3 (t_8.toNatClampNeg) (t_9 + t_10)) ((4 : Int32).toNatClampNeg) (((upd w_3 (t_8.toNatClampNeg) (t_9 + t_10)) (4 : Int32).toNatClampNeg) + 1))))] := hD
        have hf := hf.2
        refine lv_iinc (v := v_5 + 1) (lv' := [(3, .int (v_5 + 1)), (0, .ref q_a0), (1, .int x1), (2, .int v_7)]) hx hb dX9_goDrive_68 hl (k := 3) rfl rfl (by decide) rfl (fun ls hl => ?_)
        refine lv_goto (tgt := 4) hx hb dX9_goDrive_71 (by decide) ?_
        exact ih (upd (upd w_3 (t_8.toNatClampNeg) (t_9 + t_10)) ((4 : Int32).toNatClampNeg) (((upd w_3 (t_8.toNatClampNeg) (t_9 + t_10)) (4 : Int32).toNatClampNeg) + 1)) v_7 (v_5 + 1) _ _ ls hf (hP.sub [0] rfl) (hD.sub [0] (by decide) rfl) hS (lv_sub hl [1, 2, 3, 0] rfl)
      have hf := lq3_s hf
      unfold bX9_goDrive_4 at hf
      refine lv_iload_n hx hb dX9_goDrive_4 rfl (lv_at hl 3 rfl) ?_
      refine lv_iload_n hx hb dX9_goDrive_5 rfl (lv_at hl 1 rfl) ?_
      refine lv_icmp_ge (tgt := 74) hx hb dX9_goDrive_6 (by decide) (fun c_11 => ?_) (fun c_11 => ?_)
      · have hf := it_t c_11 hf
        exact hj_74 w_3 v_4 _ _ hf (hP.sub [0] rfl) (hD.sub [0] (by decide) rfl) hS ls (lv_sub hl [0, 2] rfl)
      · have hf := it_f c_11 hf
        refine lv_aload_n hx hb dX9_goDrive_9 rfl (lv_at hl 0 rfl) ?_
        refine lv_iconst (v := 4) hx hb dX9_goDrive_10 (by decide) ?_
        refine va_iald hx hb hK hP 0 0 rfl rfl hf.1 dX9_goDrive_11 ?_
        have hf := hf.2
        refine lv_istore (lv' := [(4, .int (w_3 (4 : Int32).toNatClampNeg)), (0, .ref q_a0), (1, .int x1), (2, .int v_4), (3, .int v_5)]) hx hb dX9_goDrive_12 hl (by decide) rfl (fun ls hl => ?_)
        refine lv_aload_n hx hb dX9_goDrive_14 rfl (lv_at hl 1 rfl) ?_
        refine lv_iload hx hb dX9_goDrive_15 (lv_at hl 0 rfl) ?_
        refine lv_aload_n hx hb dX9_goDrive_17 rfl (lv_at hl 1 rfl) ?_
        refine lv_bipush (v := 7) hx hb dX9_goDrive_18 (by decide) ?_
        refine lv_iload hx hb dX9_goDrive_20 (lv_at hl 0 rfl) ?_
        refine lv_iadd hx hb dX9_goDrive_22 ?_
        refine va_iald hx hb hK hP 0 0 rfl rfl hf.1 dX9_goDrive_23 ?_
        have hf := hf.2
        refine ya_csi (va_runS (As := [.ref q_a0, .int (w_3 (4 : Int32).toNatClampNeg), .int (w_3 (7 + (w_3 (4 : Int32).toNatClampNeg)).toNatClampNeg)]) (rest := []) ⟨hx, hb, hml, hown, hts⟩ (c_X9_costBy l D cI cZ cO q_a0 n_a0 w_3 (w_3 (4 : Int32).toNatClampNeg) (w_3 (7 + (w_3 (4 : Int32).toNatClampNeg)).toNatClampNeg) _ hf) (va_cwS 3 hts gX9_goDrive_X9_costBy rfl rfl rfl (by decide +kernel) ⟨Nat.le_of_ble_eq_true rfl, Nat.le_of_ble_eq_true rfl⟩) (ps_ro (hP.sub [0] rfl) hX) rfl rfl hl.1 rfl (lv_room (Nat.le_of_ble_eq_true rfl)) dX9_goDrive_24 ⟨Nat.zero_le _, Nat.zero_le _⟩) (fun r_12 hf => ?_)
        refine lv_istore (lv' := [(5, .int r_12), (4, .int (w_3 (4 : Int32).toNatClampNeg)), (0, .ref q_a0), (1, .int x1), (2, .int v_4), (3, .int v_5)]) hx hb dX9_goDrive_27 hl (by decide) rfl (fun ls hl => ?_)
        refine lv_iload_n hx hb dX9_goDrive_29 rfl (lv_at hl 4 rfl) ?_
        refine lv_aload_n hx hb dX9_goDrive_30 rfl (lv_at hl 2 rfl) ?_
        refine lv_bipush (v := 18) hx hb dX9_goDrive_31 (by decide) ?_
        refine lv_iload hx hb dX9_goDrive_33 (lv_at hl 1 rfl) ?_
        refine lv_iadd hx hb dX9_goDrive_35 ?_
        refine va_iald hx hb hK hP 0 0 rfl rfl hf.1 dX9_goDrive_36 ?_
        have hf := hf.2
        refine lv_iload hx hb dX9_goDrive_37 (lv_at hl 0 rfl) ?_
        refine lv_iadd hx hb dX9_goDrive_39 ?_
        refine lv_iadd hx hb dX9_goDrive_40 ?_
        refine lv_istore_n (lv' := [(2, .int (v_4 + ((w_3 (18 + (w_3 (4 : Int32).toNatClampNeg)).toNatClampNeg) + r_12))), (5, .int r_12), (4, .int (w_3 (4 : Int32).toNatClampNeg)), (0, .ref q_a0), (1, .int x1), (3, .int v_5)]) hx hb dX9_goDrive_41 rfl hl (by decide) rfl (fun ls hl => ?_)
        refine lv_aload_n hx hb dX9_goDrive_42 rfl (lv_at hl 3 rfl) ?_
        refine lv_bipush (v := 6) hx hb dX9_goDrive_43 (by decide) ?_
        refine lv_dup2_11 hx hb dX9_goDrive_45 rfl rfl ?_
        refine va_iald hx hb hK hP 0 0 rfl rfl hf.1 dX9_goDrive_46 ?_
        have hf := hf.2
        refine lv_iload hx hb dX9_goDrive_47 (lv_at hl 1 rfl) ?_
        refine lv_bipush (v := 60) hx hb dX9_goDrive_49 (by decide) ?_
        refine lv_icmp_ne (tgt := 58) hx hb dX9_goDrive_51 (by decide) (fun c_13 => ?_) (fun c_13 => ?_)
        · have hf := it_f c_13 hf
          refine lv_iconst (v := 0) hx hb dX9_goDrive_58 (by decide) ?_
          exact hj_59 (v_4 + ((w_3 (18 + (w_3 (4 : Int32).toNatClampNeg)).toNatClampNeg) + r_12)) 6 (w_3 (6 : Int32).toNatClampNeg) 0 _ _ hf (hP.sub [0] rfl) (hD.sub [0] (by decide) rfl) hS ls (lv_sub hl [3, 4, 0, 5] rfl)
        · have hf := it_t c_13 hf
          refine lv_iconst (v := 1) hx hb dX9_goDrive_54 (by decide) ?_
          refine lv_goto (tgt := 59) hx hb dX9_goDrive_55 (by decide) ?_
          exact hj_59 (v_4 + ((w_3 (18 + (w_3 (4 : Int32).toNatClampNeg)).toNatClampNeg) + r_12)) 6 (w_3 (6 : Int32).toNatClampNeg) 1 _ _ hf (hP.sub [0] rfl) (hD.sub [0] (by decide) rfl) hS ls (lv_sub hl [3, 4, 0, 5] rfl)
  exact hlp_4 1000 a0 0 0 _ _ ls hf (hP.sub [0] rfl) (hD.sub [0] (by decide) rfl) hS (lv_sub hl [2, 3, 1, 0] rfl)
