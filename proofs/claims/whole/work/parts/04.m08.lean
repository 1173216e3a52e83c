def p_X8_status (a0_refused : Nat → Int32) (x1 : Int32) (Q : Int32 → (Nat → Int32) → Prop) : Prop :=
  p_X8_within x1 0 2 (fun r_1 => if r_1 = 0 then (p_X8_refuse a0_refused (-2) (fun r_3 u_4 => Q (-1) u_4)) else (vp_in x1 3 ∧ (Q (a0_refused x1.toNatClampNeg) a0_refused)))
def rmX8_status : Room := { frames := 1, cells := 0, slots := 0, locals := 22 }
set_option maxHeartbeats 4000000 in
set_option maxRecDepth 100000 in
theorem c_X8_status (l : Launch) (D : va_G) (cI cZ cO : ClassId) (q_a0 q_a0_stage q_a0_draft q_a0_images q_a0_kept q_a0_plans q_a0_text q_a0_refused : Nat) (a0_above : Int64) (a0_below : Int64) (a0_refused : Nat → Int32) (sz : Nat) (x1 : Int32) (Q : Int32 → (Nat → Int32) → Prop) (hf : p_X8_status a0_refused x1 Q) : Met l yX8_status wsX8_status rmX8_status (va_Pc [.ref q_a0, .int x1] (fun U => U.heap.size = sz ∧ va_P D vwCl [(q_a0, .inr (7, [.ref q_a0_stage, .ref q_a0_draft, .ref q_a0_images, .ref q_a0_kept, .ref q_a0_plans, .ref q_a0_text, .ref q_a0_refused, .long a0_above, .long a0_below])), (q_a0_refused, .inl (cI, 3, .inl a0_refused))] U.heap ∧ XK D cI cZ cO U ∧ va_D (fun _ => True) [(q_a0, .inr (7, [.ref q_a0_stage, .ref q_a0_draft, .ref q_a0_images, .ref q_a0_kept, .ref q_a0_plans, .ref q_a0_text, .ref q_a0_refused, .long a0_above, .long a0_below])), (q_a0_refused, .inl (cI, 3, .inl a0_refused))])) (va_Qi (fun r (u : (Nat → Int32)) => Q r u) (fun (u : (Nat → Int32)) t => va_P D vwCl [(q_a0, .inr (7, [.ref q_a0_stage, .ref q_a0_draft, .ref q_a0_images, .ref q_a0_kept, .ref q_a0_plans, .ref q_a0_text, .ref q_a0_refused, .long a0_above, .long a0_below])), (q_a0_refused, .inl (cI, 3, .inl u))] t.heap ∧ va_D (va_A [(q_a0, .inr (7, [.ref q_a0_stage, .ref q_a0_draft, .ref q_a0_images, .ref q_a0_kept, .ref q_a0_plans, .ref q_a0_text, .ref q_a0_refused, .long a0_above, .long a0_below])), (q_a0_refused, .inl (cI, 3, .inl a0_refused))] sz) [(q_a0, .inr (7, [.ref q_a0_stage, .ref q_a0_draft, .ref q_a0_images, .ref q_a0_kept, .ref q_a0_plans, .ref q_a0_text, .ref q_a0_refused, .long a0_above, .long a0_below])), (q_a0_refused, .inl (cI, 3, .inl u))]) (va_A [(q_a0, .inr (7, [.ref q_a0_stage, .ref q_a0_draft, .ref q_a0_images, .ref q_a0_kept, .ref q_a0_plans, .ref q_a0_text, .ref q_a0_refused, .long a0_above, .long a0_below])), (q_a0_refused, .inl (cI, 3, .inl a0_refused))] sz)) 0 0 (va_A [(q_a0, .inr (7, [.ref q_a0_stage, .ref q_a0_draft, .ref q_a0_images, .ref q_a0_kept, .ref q_a0_plans, .ref q_a0_text, .ref q_a0_refused, .long a0_above, .long a0_below])), (q_a0_refused, .inl (cI, 3, .inl a0_refused))] sz) := by
  refine Met.ofW (cc := cX8_status) (maxL := 2) (ret := (some .int)) (by decide) rfl ?_
  intro p e s m args below meth c s₁ B hml hv
  obtain ⟨rfl, hsz, hP, hX, hD0⟩ := hv
  have hK := hX.1
  have hx := B.exec
  have hb := B.bytes
  have hr := B.returns
  have hts := atoms_spec (ws := wsX8_status) B.pre
  have hown : s.vm.findClass RX8 = some m.cls := findClass_of_methodNamed B.named
  have hlocks := B.notSynchronized
  have in_X8 : ∀ w ∈ wsX80, w ∈ wsX8_status := fun _ h => List.mem_cons_of_mem _ (List.mem_append_right _ h)
  have kf_41 := hts (.fieldLink RX8 41 "LeftCrest" "refused" "[I") (by decide +kernel)
  subst hsz
  have hD := hD0.self (sz := s.heap.size)
  generalize hAe : va_A [(q_a0, .inr (7, [.ref q_a0_stage, .ref q_a0_draft, .ref q_a0_images, .ref q_a0_kept, .ref q_a0_plans, .ref q_a0_text, .ref q_a0_refused, .long a0_above, .long a0_below])), (q_a0_refused, .inl (cI, 3, .inl a0_refused))] s.heap.size = A at hD ⊢
  have hA : ∀ q : Nat, s.heap.size ≤ q → A q := fun q h => by rw [← hAe]; exact Or.inr h
  have hS : va_S A s.heap s.heap [] := va_S.rf
  have hP : va_P D vwCl [(q_a0, .inr (7, [.ref q_a0_stage, .ref q_a0_draft, .ref q_a0_images, .ref q_a0_kept, .ref q_a0_plans, .ref q_a0_text, .ref q_a0_refused, .long a0_above, .long a0_below])), (q_a0_refused, .inl (cI, 3, .inl a0_refused))] s.heap := hP
  generalize hQQ : MQ below _ _ s _ _ _ = QQ
  have hl := lv_entry ([.ref q_a0, .int x1]) (n := 2) (Nat.le_of_ble_eq_true rfl)
  rw [lg_entry_eq]
  generalize (lg_sl ([.ref q_a0, .int x1]) ++ List.replicate (2 - (lg_sl ([.ref q_a0, .int x1])).length) Slot.unset).toArray = ls at hl ⊢
  have hl : lv_has ls 2 [(0, .ref q_a0), (1, .int x1)] := hl
  unfold p_X8_status at hf
  refine lv_iload_n hx hb dX8_status_0 rfl (lv_at hl 1 rfl) ?_
  refine lv_iconst (v := 0) hx hb dX8_status_1 (by decide) ?_
  refine lv_iconst (v := 2) hx hb dX8_status_2 (by decide) ?_
  refine ya_csi (va_runS (As := [.int x1, .int 0, .int 2]) (rest := []) ⟨hx, hb, hml, hown, hts⟩ (c_X8_within l D cI cZ cO  x1 0 2 _ hf) (va_cwS 3 hts gX8_status_X8_within rfl rfl rfl (by decide +kernel) ⟨Nat.le_of_ble_eq_true rfl, Nat.le_of_ble_eq_true rfl⟩) (ps_ro va_P0 hX) rfl rfl hl.1 rfl (lv_room (Nat.le_of_ble_eq_true rfl)) dX8_status_3 ⟨Nat.zero_le _, Nat.zero_le _⟩) (fun r_1 hf => ?_)
  refine lv_if_ne (tgt := 18) hx hb dX8_status_6 (by decide) (fun c_2 => ?_) (fun c_2 => ?_)
  · have hf := it_f c_2 hf
    refine lv_aload_n hx hb dX8_status_18 rfl (lv_at hl 0 rfl) ?_
    refine va_get (D := D) (ci := 7) (v := .ref q_a0_refused) (C := RX8) (T := TX8) (N := 9) hx hb hts in_X8 hown hK hP 0 rfl rfl 6 (by decide) kf_41 (fun _ h9 => h9) rfl dX8_status_19 ?_
    refine lv_iload_n hx hb dX8_status_22 rfl (lv_at hl 1 rfl) ?_
    refine va_iald hx hb hK hP 1 0 rfl rfl hf.1 dX8_status_23 ?_
    have hf := hf.2
    subst hQQ
    have hP9 := hP.sub (ws' := [(q_a0, .inr (7, [.ref q_a0_stage, .ref q_a0_draft, .ref q_a0_images, .ref q_a0_kept, .ref q_a0_plans, .ref q_a0_text, .ref q_a0_refused, .long a0_above, .long a0_below])), (q_a0_refused, .inl (cI, 3, .inl a0_refused))]) [0, 1] rfl
    have hD9 := hD.sub (ws' := [(q_a0, .inr (7, [.ref q_a0_stage, .ref q_a0_draft, .ref q_a0_images, .ref q_a0_kept, .ref q_a0_plans, .ref q_a0_text, .ref q_a0_refused, .long a0_above, .long a0_below])), (q_a0_refused, .inl (cI, 3, .inl a0_refused))]) [0, 1] (by decide) rfl
    exact W.iret hx hb hr (fun t ht hW => ⟨⟨(a0_refused x1.toNatClampNeg), a0_refused, rfl, hf, by rw [ht]; exact hP9, hD9⟩, hS.F ht⟩) hS.2.2 dX8_status_24
  · have hf := it_t c_2 hf
    refine lv_aload_n hx hb dX8_status_9 rfl (lv_at hl 0 rfl) ?_
    refine lv_bipush (v := (-2)) hx hb dX8_status_10 (by decide) ?_
    have hPc := hP.sub (ws' := [(q_a0, .inr (7, [.ref q_a0_stage, .ref q_a0_draft, .ref q_a0_images, .ref q_a0_kept, .ref q_a0_plans, .ref q_a0_text, .ref q_a0_refused, .long a0_above, .long a0_below])), (q_a0_refused, .inl (cI, 3, .inl a0_refused))]) [0, 1] rfl
    have hDc := hD.sub (ws' := [(q_a0, .inr (7, [.ref q_a0_stage, .ref q_a0_draft, .ref q_a0_images, .ref q_a0_kept, .ref q_a0_plans, .ref q_a0_text, .ref q_a0_refused, .long a0_above, .long a0_below])), (q_a0_refused, .inl (cI, 3, .inl a0_refused))]) [0, 1] (by decide) rfl
    have hFc := va_free (wc := [(q_a0, .inr (7, [.ref q_a0_stage, .ref q_a0_draft, .ref q_a0_images, .ref q_a0_kept, .ref q_a0_plans, .ref q_a0_text, .ref q_a0_refused, .long a0_above, .long a0_below])), (q_a0_refused, .inl (cI, 3, .inl a0_refused))]) hD hS hA [0, 1] rfl
    refine va_calli (va_runV (As := [.int (-2)]) (rest := []) ⟨hx, hb, hml, hown, hts⟩ (c_X8_refuse l D cI cZ cO q_a0 q_a0_stage q_a0_draft q_a0_images q_a0_kept q_a0_plans q_a0_text q_a0_refused a0_above a0_below a0_refused s.heap.size (-2) _ hf) (cwV 1 hts gX8_status_X8_refuse rfl rfl rfl (by decide +kernel) ⟨Nat.le_of_ble_eq_true rfl, Nat.le_of_ble_eq_true rfl⟩) (pv_rw (ci := 7) (q0 := 0) hPc hDc hX rfl rfl) rfl rfl hl.1 rfl (lv_room (Nat.le_of_ble_eq_true rfl)) dX8_status_12 ⟨Nat.zero_le _, Nat.zero_le _⟩) hS (fun q _ h => hFc q h) hFc (fun r_3 u t H1 locs ht hvm hf hB hz1 hk1 hS => ?_)
    obtain ⟨u_4, rfl⟩ : ∃ z, z = u := ⟨_, rfl⟩
    obtain ⟨hP1, hD1⟩ := hB
    rw [ht] at hP1
    clear hvm
    obtain ⟨hP, hD⟩ := va_join (wr := []) (w1 := [(q_a0, .inr (7, [.ref q_a0_stage, .ref q_a0_draft, .ref q_a0_images, .ref q_a0_kept, .ref q_a0_plans, .ref q_a0_text, .ref q_a0_refused, .long a0_above, .long a0_below])), (q_a0_refused, .inl (cI, 3, .inl u_4))]) hP hD [0, 1] [] rfl rfl (by decide) (by decide) hk1 hFc hP1 hD1
    clear hz1 hk1 hPc hDc hFc hP1 hD1
    generalize H1 = H at hP hS ⊢
    have hP : va_P D vwCl [(q_a0, .inr (7, [.ref q_a0_stage, .ref q_a0_draft, .ref q_a0_images, .ref q_a0_kept, .ref q_a0_plans, .ref q_a0_text, .ref q_a0_refused, .long a0_above, .long a0_below])), (q_a0_refused, .inl (cI, 3, .inl u_4))] H := hP
    have hD : va_D A [(q_a0, .inr (7, [.ref q_a0_stage, .ref q_a0_draft, .ref q_a0_images, .ref q_a0_kept, .ref q_a0_plans, .ref q_a0_text, .ref q_a0_refused, .long a0_above, .long a0_below])), (q_a0_refused, .inl (cI, 3, .inl u_4))] := hD
    refine lv_pop hx hb dX8_status_15 rfl ?_
    refine lv_iconst (v := (-1)) hx hb dX8_status_16 (by decide) ?_
    subst hQQ
    have hP9 := hP.sub (ws' := [(q_a0, .inr (7, [.ref q_a0_stage, .ref q_a0_draft, .ref q_a0_images, .ref q_a0_kept, .ref q_a0_plans, .ref q_a0_text, .ref q_a0_refused, .long a0_above, .long a0_below])), (q_a0_refused, .inl (cI, 3, .inl u_4))]) [0, 1] rfl
    have hD9 := hD.sub (ws' := [(q_a0, .inr (7, [.ref q_a0_stage, .ref q_a0_draft, .ref q_a0_images, .ref q_a0_kept, .ref q_a0_plans, .ref q_a0_text, .ref q_a0_refused, .long a0_above, .long a0_below])), (q_a0_refused, .inl (cI, 3, .inl u_4))]) [0, 1] (by decide) rfl
    exact W.iret hx hb hr (fun t ht hW => ⟨⟨(-1), u_4, rfl, hf, by rw [ht]; exact hP9, hD9⟩, hS.F ht⟩) hS.2.2 dX8_status_17
def p_X8_howMany (a0_stage_bends_notes : Nat → Int32) (a0_stage_bends_mud : Nat → Int32) (a0_stage_bends_size : Int32) (a0_stage_felt_size : Int32) (a0_stage_paces_size : Int32) (a0_stage_past_size : Int32) (a0_text_size : Int32) (x1 : Int32) (Q : Int32 → Prop) : Prop :=
  if x1 = 0 then (Q a0_stage_bends_size) else (if x1 = 1 then (p_X0_noted a0_stage_bends_notes a0_stage_bends_size (fun r_3 => Q r_3)) else (if x1 = 2 then (p_X0_withMud a0_stage_bends_mud a0_stage_bends_size (fun r_5 => Q r_5)) else (if x1 = 3 then (Q a0_stage_felt_size) else (if x1 = 4 then (Q a0_stage_paces_size) else (if x1 = 5 then (Q a0_stage_past_size) else (Q a0_text_size))))))
def rmX8_howMany : Room := { frames := 1, cells := 0, slots := 0, locals := 22 }
set_option maxHeartbeats 4000000 in
set_option maxRecDepth 100000 in
theorem c_X8_howMany (l : Launch) (D : va_G) (cI cZ cO : ClassId) (q_a0 q_a0_stage q_a0_draft q_a0_images q_a0_kept q_a0_plans q_a0_text q_a0_refused q_a0_stage_bends q_a0_stage_felt q_a0_stage_paces q_a0_stage_past q_a0_stage_bends_yards q_a0_stage_bends_truth q_a0_stage_bends_notes q_a0_stage_bends_words q_a0_stage_bends_mud q_a0_stage_felt_holds q_a0_stage_paces_rows q_a0_stage_past_rows q_a0_text_bytes : Nat) (a0_above : Int64) (a0_below : Int64) (a0_stage_kind : Int32) (a0_stage_fog : Int32) (a0_stage_here : Int32) (a0_stage_seconds : Int32) (a0_stage_crashes : Int32) (a0_stage_bends_size : Int32) (a0_stage_bends_notes : Nat → Int32) (a0_stage_bends_mud : Nat → Int32) (a0_stage_felt_size : Int32) (a0_stage_paces_size : Int32) (a0_stage_past_size : Int32) (a0_text_size : Int32) (a0_text_sort : Int32) (a0_text_start : Int32) (a0_text_behind : Int32) (x1 : Int32) (Q : Int32 → Prop) (hf : p_X8_howMany a0_stage_bends_notes a0_stage_bends_mud a0_stage_bends_size a0_stage_felt_size a0_stage_paces_size a0_stage_past_size a0_text_size x1 Q) : Met l yX8_howMany wsX8_howMany rmX8_howMany (va_Pc [.ref q_a0, .int x1] (fun U => va_P D vwCl [(q_a0, .inr (7, [.ref q_a0_stage, .ref q_a0_draft, .ref q_a0_images, .ref q_a0_kept, .ref q_a0_plans, .ref q_a0_text, .ref q_a0_refused, .long a0_above, .long a0_below])), (q_a0_stage, .inr (5, [.ref q_a0_stage_bends, .ref q_a0_stage_felt, .ref q_a0_stage_paces, .ref q_a0_stage_past, .int a0_stage_kind, .int a0_stage_fog, .int a0_stage_here, .int a0_stage_seconds, .int a0_stage_crashes])), (q_a0_stage_bends, .inr (0, [.ref q_a0_stage_bends_yards, .ref q_a0_stage_bends_truth, .ref q_a0_stage_bends_notes, .ref q_a0_stage_bends_words, .ref q_a0_stage_bends_mud, .int a0_stage_bends_size])), (q_a0_stage_bends_notes, .inl (cI, 8, .inl a0_stage_bends_notes)), (q_a0_stage_bends_mud, .inl (cI, 8, .inl a0_stage_bends_mud)), (q_a0_stage_felt, .inr (1, [.ref q_a0_stage_felt_holds, .int a0_stage_felt_size])), (q_a0_stage_paces, .inr (2, [.ref q_a0_stage_paces_rows, .int a0_stage_paces_size])), (q_a0_stage_past, .inr (3, [.ref q_a0_stage_past_rows, .int a0_stage_past_size])), (q_a0_text, .inr (6, [.ref q_a0_text_bytes, .int a0_text_size, .int a0_text_sort, .int a0_text_start, .int a0_text_behind]))] U.heap ∧ XK D cI cZ cO U)) (vp_Si Q) 0 0 (fun _ => False) := by
  refine Met.ofW (cc := cX8_howMany) (maxL := 2) (ret := (some .int)) (by decide) rfl ?_
  intro p e s m args below meth c s₁ B hml hv
  obtain ⟨rfl, hP, hX⟩ := hv
  have hK := hX.1
  have hx := B.exec
  have hb := B.bytes
  have hr := B.returns
  have hts := atoms_spec (ws := wsX8_howMany) B.pre
  have hown : s.vm.findClass RX8 = some m.cls := findClass_of_methodNamed B.named
  have hlocks := B.notSynchronized
  have in_X8 : ∀ w ∈ wsX80, w ∈ wsX8_howMany := fun _ h => List.mem_cons_of_mem _ (List.mem_append_left _ (List.mem_append_left _ (List.mem_append_left _ (List.mem_append_left _ (List.mem_append_left _ (List.mem_append_left _ (List.mem_append_right _ h)))))))
  have in_X6 : ∀ w ∈ wsX60, w ∈ wsX8_howMany := fun _ h => List.mem_cons_of_mem _ (List.mem_append_left _ (List.mem_append_left _ (List.mem_append_left _ (List.mem_append_left _ (List.mem_append_left _ (List.mem_append_right _ h))))))
  have in_X0 : ∀ w ∈ wsX00, w ∈ wsX8_howMany := fun _ h => List.mem_cons_of_mem _ (List.mem_append_left _ (List.mem_append_left _ (List.mem_append_left _ (List.mem_append_left _ (List.mem_append_right _ h)))))
  have in_X1 : ∀ w ∈ wsX10, w ∈ wsX8_howMany := fun _ h => List.mem_cons_of_mem _ (List.mem_append_left _ (List.mem_append_left _ (List.mem_append_left _ (List.mem_append_right _ h))))
  have in_X3 : ∀ w ∈ wsX30, w ∈ wsX8_howMany := fun _ h => List.mem_cons_of_mem _ (List.mem_append_left _ (List.mem_append_left _ (List.mem_append_right _ h)))
  have in_X4 : ∀ w ∈ wsX40, w ∈ wsX8_howMany := fun _ h => List.mem_cons_of_mem _ (List.mem_append_left _ (List.mem_append_right _ h))
  have in_X7 : ∀ w ∈ wsX70, w ∈ wsX8_howMany := fun _ h => List.mem_cons_of_mem _ (List.mem_append_right _ h)
  have kf_10 := hts (.fieldLink RX8 10 "LeftCrest" "stage" "LLeftCrest$Stage;") (by decide +kernel)
  have kf_60 := hts (.fieldLink RX8 60 "LeftCrest$Stage" "bends" "LLeftCrest$Bends;") (by decide +kernel)
  have kf_64 := hts (.fieldLink RX8 64 "LeftCrest$Bends" "size" "I") (by decide +kernel)
  have kf_170 := hts (.fieldLink RX8 170 "LeftCrest$Stage" "felt" "LLeftCrest$Felt;") (by decide +kernel)
  have kf_195 := hts (.fieldLink RX8 195 "LeftCrest$Felt" "size" "I") (by decide +kernel)
  have kf_185 := hts (.fieldLink RX8 185 "LeftCrest$Stage" "paces" "LLeftCrest$Paces;") (by decide +kernel)
  have kf_196 := hts (.fieldLink RX8 196 "LeftCrest$Paces" "size" "I") (by decide +kernel)
  have kf_82 := hts (.fieldLink RX8 82 "LeftCrest$Stage" "past" "LLeftCrest$Past;") (by decide +kernel)
  have kf_86 := hts (.fieldLink RX8 86 "LeftCrest$Past" "size" "I") (by decide +kernel)
  have kf_37 := hts (.fieldLink RX8 37 "LeftCrest" "text" "LLeftCrest$Text;") (by decide +kernel)
  have kf_109 := hts (.fieldLink RX8 109 "LeftCrest$Text" "size" "I") (by decide +kernel)
  generalize hQQ : MQ below _ _ s _ _ _ = QQ
  have hl := lv_entry ([.ref q_a0, .int x1]) (n := 2) (Nat.le_of_ble_eq_true rfl)
  rw [lg_entry_eq]
  generalize (lg_sl ([.ref q_a0, .int x1]) ++ List.replicate (2 - (lg_sl ([.ref q_a0, .int x1])).length) Slot.unset).toArray = ls at hl ⊢
  have hl : lv_has ls 2 [(0, .ref q_a0), (1, .int x1)] := hl
  unfold p_X8_howMany at hf
  refine lv_iload_n hx hb dX8_howMany_0 rfl (lv_at hl 1 rfl) ?_
  by_cases c_1 : x1 = 0
  · have hf := it_t c_1 hf
    refine lv_tableIn (tgt := 40) (off := 39) hx hb dX8_howMany_1 (by rw [c_1]; decide) (by rw [c_1]; decide) (by rw [c_1]; rfl) (by decide) ?_
    refine lv_aload_n hx hb dX8_howMany_40 rfl (lv_at hl 0 rfl) ?_
    refine va_get (D := D) (ci := 7) (v := .ref q_a0_stage) (C := RX8) (T := TX8) (N := 9) hx hb hts in_X8 hown hK hP 0 rfl rfl 0 (by decide) kf_10 (fun _ h9 => h9) rfl dX8_howMany_41 ?_
    refine va_get (D := D) (ci := 5) (v := .ref q_a0_stage_bends) (C := RX6) (T := TX6) (N := 9) hx hb hts in_X6 hown hK hP 1 rfl rfl 0 (by decide) kf_60 (fun _ h9 => h9) rfl dX8_howMany_44 ?_
    refine va_get (D := D) (ci := 0) (v := .int a0_stage_bends_size) (C := RX0) (T := TX0) (N := 6) hx hb hts in_X0 hown hK hP 2 rfl rfl 5 (by decide) kf_64 (fun _ h9 => h9) rfl dX8_howMany_47 ?_
    subst hQQ
    exact W.iret hx hb hr (fun t ht hW => ⟨_, rfl, hf, ht⟩) (fun _ h => absurd h List.not_mem_nil) dX8_howMany_50
  have hf := it_f c_1 hf
  by_cases c_2 : x1 = 1
  · have hf := it_t c_2 hf
    refine lv_tableIn (tgt := 51) (off := 50) hx hb dX8_howMany_1 (by rw [c_2]; decide) (by rw [c_2]; decide) (by rw [c_2]; rfl) (by decide) ?_
    refine lv_aload_n hx hb dX8_howMany_51 rfl (lv_at hl 0 rfl) ?_
    refine va_get (D := D) (ci := 7) (v := .ref q_a0_stage) (C := RX8) (T := TX8) (N := 9) hx hb hts in_X8 hown hK hP 0 rfl rfl 0 (by decide) kf_10 (fun _ h9 => h9) rfl dX8_howMany_52 ?_
    refine va_get (D := D) (ci := 5) (v := .ref q_a0_stage_bends) (C := RX6) (T := TX6) (N := 9) hx hb hts in_X6 hown hK hP 1 rfl rfl 0 (by decide) kf_60 (fun _ h9 => h9) rfl dX8_howMany_55 ?_
    refine ya_csi (va_runV (As := []) (rest := []) ⟨hx, hb, hml, hown, hts⟩ (c_X0_noted l D cI cZ cO q_a0_stage_bends q_a0_stage_bends_yards q_a0_stage_bends_truth q_a0_stage_bends_notes q_a0_stage_bends_words q_a0_stage_bends_mud a0_stage_bends_size a0_stage_bends_notes  _ hf) (cwV 0 hts gX8_howMany_X0_noted rfl rfl rfl (by decide +kernel) ⟨Nat.le_of_ble_eq_true rfl, Nat.le_of_ble_eq_true rfl⟩) (pv_ro (ci := 0) (q0 := 0) (hP.sub [2, 3] rfl) hX rfl rfl) rfl rfl hl.1 rfl (lv_room (Nat.le_of_ble_eq_true rfl)) dX8_howMany_58 ⟨Nat.zero_le _, Nat.zero_le _⟩) (fun r_3 hf => ?_)
    subst hQQ
    exact W.iret hx hb hr (fun t ht hW => ⟨_, rfl, hf, ht⟩) (fun _ h => absurd h List.not_mem_nil) dX8_howMany_61
  have hf := it_f c_2 hf
  by_cases c_4 : x1 = 2
  · have hf := it_t c_4 hf
    refine lv_tableIn (tgt := 62) (off := 61) hx hb dX8_howMany_1 (by rw [c_4]; decide) (by rw [c_4]; decide) (by rw [c_4]; rfl) (by decide) ?_
    refine lv_aload_n hx hb dX8_howMany_62 rfl (lv_at hl 0 rfl) ?_
    refine va_get (D := D) (ci := 7) (v := .ref q_a0_stage) (C := RX8) (T := TX8) (N := 9) hx hb hts in_X8 hown hK hP 0 rfl rfl 0 (by decide) kf_10 (fun _ h9 => h9) rfl dX8_howMany_63 ?_
    refine va_get (D := D) (ci := 5) (v := .ref q_a0_stage_bends) (C := RX6) (T := TX6) (N := 9) hx hb hts in_X6 hown hK hP 1 rfl rfl 0 (by decide) kf_60 (fun _ h9 => h9) rfl dX8_howMany_66 ?_
    refine ya_csi (va_runV (As := []) (rest := []) ⟨hx, hb, hml, hown, hts⟩ (c_X0_withMud l D cI cZ cO q_a0_stage_bends q_a0_stage_bends_yards q_a0_stage_bends_truth q_a0_stage_bends_notes q_a0_stage_bends_words q_a0_stage_bends_mud a0_stage_bends_size a0_stage_bends_mud  _ hf) (cwV 0 hts gX8_howMany_X0_withMud rfl rfl rfl (by decide +kernel) ⟨Nat.le_of_ble_eq_true rfl, Nat.le_of_ble_eq_true rfl⟩) (pv_ro (ci := 0) (q0 := 0) (hP.sub [2, 4] rfl) hX rfl rfl) rfl rfl hl.1 rfl (lv_room (Nat.le_of_ble_eq_true rfl)) dX8_howMany_69 ⟨Nat.zero_le _, Nat.zero_le _⟩) (fun r_5 hf => ?_)
    subst hQQ
    exact W.iret hx hb hr (fun t ht hW => ⟨_, rfl, hf, ht⟩) (fun _ h => absurd h List.not_mem_nil) dX8_howMany_72
  have hf := it_f c_4 hf
  by_cases c_6 : x1 = 3
  · have hf := it_t c_6 hf
    refine lv_tableIn (tgt := 73) (off := 72) hx hb dX8_howMany_1 (by rw [c_6]; decide) (by rw [c_6]; decide) (by rw [c_6]; rfl) (by decide) ?_
    refine lv_aload_n hx hb dX8_howMany_73 rfl (lv_at hl 0 rfl) ?_
    refine va_get (D := D) (ci := 7) (v := .ref q_a0_stage) (C := RX8) (T := TX8) (N := 9) hx hb hts in_X8 hown hK hP 0 rfl rfl 0 (by decide) kf_10 (fun _ h9 => h9) rfl dX8_howMany_74 ?_
    refine va_get (D := D) (ci := 5) (v := .ref q_a0_stage_felt) (C := RX6) (T := TX6) (N := 9) hx hb hts in_X6 hown hK hP 1 rfl rfl 1 (by decide) kf_170 (fun _ h9 => h9) rfl dX8_howMany_77 ?_
    refine va_get (D := D) (ci := 1) (v := .int a0_stage_felt_size) (C := RX1) (T := TX1) (N := 2) hx hb hts in_X1 hown hK hP 5 rfl rfl 1 (by decide) kf_195 (fun _ h9 => h9) rfl dX8_howMany_80 ?_
    subst hQQ
    exact W.iret hx hb hr (fun t ht hW => ⟨_, rfl, hf, ht⟩) (fun _ h => absurd h List.not_mem_nil) dX8_howMany_83
  have hf := it_f c_6 hf
  by_cases c_7 : x1 = 4
  · have hf := it_t c_7 hf
    refine lv_tableIn (tgt := 84) (off := 83) hx hb dX8_howMany_1 (by rw [c_7]; decide) (by rw [c_7]; decide) (by rw [c_7]; rfl) (by decide) ?_
    refine lv_aload_n hx hb dX8_howMany_84 rfl (lv_at hl 0 rfl) ?_
    refine va_get (D := D) (ci := 7) (v := .ref q_a0_stage) (C := RX8) (T := TX8) (N := 9) hx hb hts in_X8 hown hK hP 0 rfl rfl 0 (by decide) kf_10 (fun _ h9 => h9) rfl dX8_howMany_85 ?_
    refine va_get (D := D) (ci := 5) (v := .ref q_a0_stage_paces) (C := RX6) (T := TX6) (N := 9) hx hb hts in_X6 hown hK hP 1 rfl rfl 2 (by decide) kf_185 (fun _ h9 => h9) rfl dX8_howMany_88 ?_
    refine va_get (D := D) (ci := 2) (v := .int a0_stage_paces_size) (C := RX3) (T := TX3) (N := 2) hx hb hts in_X3 hown hK hP 6 rfl rfl 1 (by decide) kf_196 (fun _ h9 => h9) rfl dX8_howMany_91 ?_
    subst hQQ
    exact W.iret hx hb hr (fun t ht hW => ⟨_, rfl, hf, ht⟩) (fun _ h => absurd h List.not_mem_nil) dX8_howMany_94
  have hf := it_f c_7 hf
  by_cases c_8 : x1 = 5
  · have hf := it_t c_8 hf
    refine lv_tableIn (tgt := 95) (off := 94) hx hb dX8_howMany_1 (by rw [c_8]; decide) (by rw [c_8]; decide) (by rw [c_8]; rfl) (by decide) ?_
    refine lv_aload_n hx hb dX8_howMany_95 rfl (lv_at hl 0 rfl) ?_
    refine va_get (D := D) (ci := 7) (v := .ref q_a0_stage) (C := RX8) (T := TX8) (N := 9) hx hb hts in_X8 hown hK hP 0 rfl rfl 0 (by decide) kf_10 (fun _ h9 => h9) rfl dX8_howMany_96 ?_
    refine va_get (D := D) (ci := 5) (v := .ref q_a0_stage_past) (C := RX6) (T := TX6) (N := 9) hx hb hts in_X6 hown hK hP 1 rfl rfl 3 (by decide) kf_82 (fun _ h9 => h9) rfl dX8_howMany_99 ?_
    refine va_get (D := D) (ci := 3) (v := .int a0_stage_past_size) (C := RX4) (T := TX4) (N := 2) hx hb hts in_X4 hown hK hP 7 rfl rfl 1 (by decide) kf_86 (fun _ h9 => h9) rfl dX8_howMany_102 ?_
    subst hQQ
    exact W.iret hx hb hr (fun t ht hW => ⟨_, rfl, hf, ht⟩) (fun _ h => absurd h List.not_mem_nil) dX8_howMany_105
  have hf := it_f c_8 hf
  have gc_1 := lv_neT (k := 0) c_1 (a := 0) (by decide)
  have gc_2 := lv_neT (k := 1) c_2 (a := 1) (by decide)
  have gc_4 := lv_neT (k := 2) c_4 (a := 2) (by decide)
  have gc_6 := lv_neT (k := 3) c_6 (a := 3) (by decide)
  have gc_7 := lv_neT (k := 4) c_7 (a := 4) (by decide)
  have gc_8 := lv_neT (k := 5) c_8 (a := 5) (by decide)
  refine lv_tableOut (tgt := 106) hx hb dX8_howMany_1 (by omega) (by decide) ?_
  refine lv_aload_n hx hb dX8_howMany_106 rfl (lv_at hl 0 rfl) ?_
  refine va_get (D := D) (ci := 7) (v := .ref q_a0_text) (C := RX8) (T := TX8) (N := 9) hx hb hts in_X8 hown hK hP 0 rfl rfl 5 (by decide) kf_37 (fun _ h9 => h9) rfl dX8_howMany_107 ?_
  refine va_get (D := D) (ci := 6) (v := .int a0_text_size) (C := RX7) (T := TX7) (N := 5) hx hb hts in_X7 hown hK hP 8 rfl rfl 1 (by decide) kf_109 (fun _ h9 => h9) rfl dX8_howMany_110 ?_
  subst hQQ
  exact W.iret hx hb hr (fun t ht hW => ⟨_, rfl, hf, ht⟩) (fun _ h => absurd h List.not_mem_nil) dX8_howMany_113
def p_X8_count (a0_stage_bends_notes : Nat → Int32) (a0_stage_bends_mud : Nat → Int32) (a0_stage_bends_size : Int32) (a0_stage_felt_size : Int32) (a0_stage_paces_size : Int32) (a0_stage_past_size : Int32) (a0_text_size : Int32) (a0_refused : Nat → Int32) (x1 : Int32) (Q : Int32 → (Nat → Int32) → Prop) : Prop :=
  p_X8_within x1 0 6 (fun r_1 => if r_1 = 0 then (p_X8_refuse a0_refused (-2) (fun r_4 u_5 => Q r_4 u_5)) else (p_X8_howMany a0_stage_bends_notes a0_stage_bends_mud a0_stage_bends_size a0_stage_felt_size a0_stage_paces_size a0_stage_past_size a0_text_size x1 (fun r_3 => Q r_3 a0_refused)))
def rmX8_count : Room := { frames := 2, cells := 0, slots := 0, locals := 43 }
set_option maxHeartbeats 4000000 in
set_option maxRecDepth 100000 in
theorem c_X8_count (l : Launch) (D : va_G) (cI cZ cO : ClassId) (q_a0 q_a0_stage q_a0_draft q_a0_images q_a0_kept q_a0_plans q_a0_text q_a0_refused q_a0_stage_bends q_a0_stage_felt q_a0_stage_paces q_a0_stage_past q_a0_stage_bends_yards q_a0_stage_bends_truth q_a0_stage_bends_notes q_a0_stage_bends_words q_a0_stage_bends_mud q_a0_stage_felt_holds q_a0_stage_paces_rows q_a0_stage_past_rows q_a0_text_bytes : Nat) (a0_above : Int64) (a0_below : Int64) (a0_stage_kind : Int32) (a0_stage_fog : Int32) (a0_stage_here : Int32) (a0_stage_seconds : Int32) (a0_stage_crashes : Int32) (a0_stage_bends_size : Int32) (a0_stage_bends_notes : Nat → Int32) (a0_stage_bends_mud : Nat → Int32) (a0_stage_felt_size : Int32) (a0_stage_paces_size : Int32) (a0_stage_past_size : Int32) (a0_text_size : Int32) (a0_text_sort : Int32) (a0_text_start : Int32) (a0_text_behind : Int32) (a0_refused : Nat → Int32) (sz : Nat) (x1 : Int32) (Q : Int32 → (Nat → Int32) → Prop) (hf : p_X8_count a0_stage_bends_notes a0_stage_bends_mud a0_stage_bends_size a0_stage_felt_size a0_stage_paces_size a0_stage_past_size a0_text_size a0_refused x1 Q) : Met l yX8_count wsX8_count rmX8_count (va_Pc [.ref q_a0, .int x1] (fun U => U.heap.size = sz ∧ va_P D vwCl [(q_a0, .inr (7, [.ref q_a0_stage, .ref q_a0_draft, .ref q_a0_images, .ref q_a0_kept, .ref q_a0_plans, .ref q_a0_text, .ref q_a0_refused, .long a0_above, .long a0_below])), (q_a0_stage, .inr (5, [.ref q_a0_stage_bends, .ref q_a0_stage_felt, .ref q_a0_stage_paces, .ref q_a0_stage_past, .int a0_stage_kind, .int a0_stage_fog, .int a0_stage_here, .int a0_stage_seconds, .int a0_stage_crashes])), (q_a0_stage_bends, .inr (0, [.ref q_a0_stage_bends_yards, .ref q_a0_stage_bends_truth, .ref q_a0_stage_bends_notes, .ref q_a0_stage_bends_words, .ref q_a0_stage_bends_mud, .int a0_stage_bends_size])), (q_a0_stage_bends_notes, .inl (cI, 8, .inl a0_stage_bends_notes)), (q_a0_stage_bends_mud, .inl (cI, 8, .inl a0_stage_bends_mud)), (q_a0_stage_felt, .inr (1, [.ref q_a0_stage_felt_holds, .int a0_stage_felt_size])), (q_a0_stage_paces, .inr (2, [.ref q_a0_stage_paces_rows, .int a0_stage_paces_size])), (q_a0_stage_past, .inr (3, [.ref q_a0_stage_past_rows, .int a0_stage_past_size])), (q_a0_text, .inr (6, [.ref q_a0_text_bytes, .int a0_text_size, .int a0_text_sort, .int a0_text_start, .int a0_text_behind])), (q_a0_refused, .inl (cI, 3, .inl a0_refused))] U.heap ∧ XK D cI cZ cO U ∧ va_D (fun _ => True) [(q_a0, .inr (7, [.ref q_a0_stage, .ref q_a0_draft, .ref q_a0_images, .ref q_a0_kept, .ref q_a0_plans, .ref q_a0_text, .ref q_a0_refused, .long a0_above, .long a0_below])), (q_a0_stage, .inr (5, [.ref q_a0_stage_bends, .ref q_a0_stage_felt, .ref q_a0_stage_paces, .ref q_a0_stage_past, .int a0_stage_kind, .int a0_stage_fog, .int a0_stage_here, .int a0_stage_seconds, .int a0_stage_crashes])), (q_a0_stage_bends, .inr (0, [.ref q_a0_stage_bends_yards, .ref q_a0_stage_bends_truth, .ref q_a0_stage_bends_notes, .ref q_a0_stage_bends_words, .ref q_a0_stage_bends_mud, .int a0_stage_bends_size])), (q_a0_stage_bends_notes, .inl (cI, 8, .inl a0_stage_bends_notes)), (q_a0_stage_bends_mud, .inl (cI, 8, .inl a0_stage_bends_mud)), (q_a0_stage_felt, .inr (1, [.ref q_a0_stage_felt_holds, .int a0_stage_felt_size])), (q_a0_stage_paces, .inr (2, [.ref q_a0_stage_paces_rows, .int a0_stage_paces_size])), (q_a0_stage_past, .inr (3, [.ref q_a0_stage_past_rows, .int a0_stage_past_size])), (q_a0_text, .inr (6, [.ref q_a0_text_bytes, .int a0_text_size, .int a0_text_sort, .int a0_text_start, .int a0_text_behind])), (q_a0_refused, .inl (cI, 3, .inl a0_refused))])) (va_Qi (fun r (u : (Nat → Int32)) => Q r u) (fun (u : (Nat → Int32)) t => va_P D vwCl [(q_a0, .inr (7, [.ref q_a0_stage, .ref q_a0_draft, .ref q_a0_images, .ref q_a0_kept, .ref q_a0_plans, .ref q_a0_text, .ref q_a0_refused, .long a0_above, .long a0_below])), (q_a0_stage, .inr (5, [.ref q_a0_stage_bends, .ref q_a0_stage_felt, .ref q_a0_stage_paces, .ref q_a0_stage_past, .int a0_stage_kind, .int a0_stage_fog, .int a0_stage_here, .int a0_stage_seconds, .int a0_stage_crashes])), (q_a0_stage_bends, .inr (0, [.ref q_a0_stage_bends_yards, .ref q_a0_stage_bends_truth, .ref q_a0_stage_bends_notes, .ref q_a0_stage_bends_words, .ref q_a0_stage_bends_mud, .int a0_stage_bends_size])), (q_a0_stage_bends_notes, .inl (cI, 8, .inl a0_stage_bends_notes)), (q_a0_stage_bends_mud, .inl (cI, 8, .inl a0_stage_bends_mud)), (q_a0_stage_felt, .inr (1, [.ref q_a0_stage_felt_holds, .int a0_stage_felt_size])), (q_a0_stage_paces, .inr (2, [.ref q_a0_stage_paces_rows, .int a0_stage_paces_size])), (q_a0_stage_past, .inr (3, [.ref q_a0_stage_past_rows, .int a0_stage_past_size])), (q_a0_text, .inr (6, [.ref q_a0_text_bytes, .int a0_text_size, .int a0_text_sort, .int a0_text_start, .int a0_text_behind])), (q_a0_refused, .inl (cI, 3, .inl u))] t.heap ∧ va_D (va_A [(q_a0, .inr (7, [.ref q_a0_stage, .ref q_a0_draft, .ref q_a0_images, .ref q_a0_kept, .ref q_a0_plans, .ref q_a0_text, .ref q_a0_refused, .long a0_above, .long a0_below])), (q_a0_stage, .inr (5, [.ref q_a0_stage_bends, .ref q_a0_stage_felt, .ref q_a0_stage_paces, .ref q_a0_stage_past, .int a0_stage_kind, .int a0_stage_fog, .int a0_stage_here, .int a0_stage_seconds, .int a0_stage_crashes])), (q_a0_stage_bends, .inr (0, [.ref q_a0_stage_bends_yards, .ref q_a0_stage_bends_truth, .ref q_a0_stage_bends_notes, .ref q_a0_stage_bends_words, .ref q_a0_stage_bends_mud, .int a0_stage_bends_size])), (q_a0_stage_bends_notes, .inl (cI, 8, .inl a0_stage_bends_notes)), (q_a0_stage_bends_mud, .inl (cI, 8, .inl a0_stage_bends_mud)), (q_a0_stage_felt, .inr (1, [.ref q_a0_stage_felt_holds, .int a0_stage_felt_size])), (q_a0_stage_paces, .inr (2, [.ref q_a0_stage_paces_rows, .int a0_stage_paces_size])), (q_a0_stage_past, .inr (3, [.ref q_a0_stage_past_rows, .int a0_stage_past_size])), (q_a0_text, .inr (6, [.ref q_a0_text_bytes, .int a0_text_size, .int a0_text_sort, .int a0_text_start, .int a0_text_behind])), (q_a0_refused, .inl (cI, 3, .inl a0_refused))] sz) [(q_a0, .inr (7, [.ref q_a0_stage, .ref q_a0_draft, .ref q_a0_images, .ref q_a0_kept, .ref q_a0_plans, .ref q_a0_text, .ref q_a0_refused, .long a0_above, .long a0_below])), (q_a0_stage, .inr (5, [.ref q_a0_stage_bends, .ref q_a0_stage_felt, .ref q_a0_stage_paces, .ref q_a0_stage_past, .int a0_stage_kind, .int a0_stage_fog, .int a0_stage_here, .int a0_stage_seconds, .int a0_stage_crashes])), (q_a0_stage_bends, .inr (0, [.ref q_a0_stage_bends_yards, .ref q_a0_stage_bends_truth, .ref q_a0_stage_bends_notes, .ref q_a0_stage_bends_words, .ref q_a0_stage_bends_mud, .int a0_stage_bends_size])), (q_a0_stage_bends_notes, .inl (cI, 8, .inl a0_stage_bends_notes)), (q_a0_stage_bends_mud, .inl (cI, 8, .inl a0_stage_bends_mud)), (q_a0_stage_felt, .inr (1, [.ref q_a0_stage_felt_holds, .int a0_stage_felt_size])), (q_a0_stage_paces, .inr (2, [.ref q_a0_stage_paces_rows, .int a0_stage_paces_size])), (q_a0_stage_past, .inr (3, [.ref q_a0_stage_past_rows, .int a0_stage_past_size])), (q_a0_text, .inr (6, [.ref q_a0_text_bytes, .int a0_text_size, .int a0_text_sort, .int a0_text_start, .int a0_text_behind])), (q_a0_refused, .inl (cI, 3, .inl u))]) (va_A [(q_a0, .inr (7, [.ref q_a0_stage, .ref q_a0_draft, .ref q_a0_images, .ref q_a0_kept, .ref q_a0_plans, .ref q_a0_text, .ref q_a0_refused, .long a0_above, .long a0_below])), (q_a0_stage, .inr (5, [.ref q_a0_stage_bends, .ref q_a0_stage_felt, .ref q_a0_stage_paces, .ref q_a0_stage_past, .int a0_stage_kind, .int a0_stage_fog, .int a0_stage_here, .int a0_stage_seconds, .int a0_stage_crashes])), (q_a0_stage_bends, .inr (0, [.ref q_a0_stage_bends_yards, .ref q_a0_stage_bends_truth, .ref q_a0_stage_bends_notes, .ref q_a0_stage_bends_words, .ref q_a0_stage_bends_mud, .int a0_stage_bends_size])), (q_a0_stage_bends_notes, .inl (cI, 8, .inl a0_stage_bends_notes)), (q_a0_stage_bends_mud, .inl (cI, 8, .inl a0_stage_bends_mud)), (q_a0_stage_felt, .inr (1, [.ref q_a0_stage_felt_holds, .int a0_stage_felt_size])), (q_a0_stage_paces, .inr (2, [.ref q_a0_stage_paces_rows, .int a0_stage_paces_size])), (q_a0_stage_past, .inr (3, [.ref q_a0_stage_past_rows, .int a0_stage_past_size])), (q_a0_text, .inr (6, [.ref q_a0_text_bytes, .int a0_text_size, .int a0_text_sort, .int a0_text_start, .int a0_text_behind])), (q_a0_refused, .inl (cI, 3, .inl a0_refused))] sz)) 0 0 (va_A [(q_a0, .inr (7, [.ref q_a0_stage, .ref q_a0_draft, .ref q_a0_images, .ref q_a0_kept, .ref q_a0_plans, .ref q_a0_text, .ref q_a0_refused, .long a0_above, .long a0_below])), (q_a0_stage, .inr (5, [.ref q_a0_stage_bends, .ref q_a0_stage_felt, .ref q_a0_stage_paces, .ref q_a0_stage_past, .int a0_stage_kind, .int a0_stage_fog, .int a0_stage_here, .int a0_stage_seconds, .int a0_stage_crashes])), (q_a0_stage_bends, .inr (0, [.ref q_a0_stage_bends_yards, .ref q_a0_stage_bends_truth, .ref q_a0_stage_bends_notes, .ref q_a0_stage_bends_words, .ref q_a0_stage_bends_mud, .int a0_stage_bends_size])), (q_a0_stage_bends_notes, .inl (cI, 8, .inl a0_stage_bends_notes)), (q_a0_stage_bends_mud, .inl (cI, 8, .inl a0_stage_bends_mud)), (q_a0_stage_felt, .inr (1, [.ref q_a0_stage_felt_holds, .int a0_stage_felt_size])), (q_a0_stage_paces, .inr (2, [.ref q_a0_stage_paces_rows, .int a0_stage_paces_size])), (q_a0_stage_past, .inr (3, [.ref q_a0_stage_past_rows, .int a0_stage_past_size])), (q_a0_text, .inr (6, [.ref q_a0_text_bytes, .int a0_text_size, .int a0_text_sort, .int a0_text_start, .int a0_text_behind])), (q_a0_refused, .inl (cI, 3, .inl a0_refused))] sz) := by
  refine Met.ofW (cc := cX8_count) (maxL := 2) (ret := (some .int)) (by decide) rfl ?_
  intro p e s m args below meth c s₁ B hml hv
  obtain ⟨rfl, hsz, hP, hX, hD0⟩ := hv
  have hK := hX.1
  have hx := B.exec
  have hb := B.bytes
  have hr := B.returns
  have hts := atoms_spec (ws := wsX8_count) B.pre
  have hown : s.vm.findClass RX8 = some m.cls := findClass_of_methodNamed B.named
  have hlocks := B.notSynchronized
  subst hsz
  have hD := hD0.self (sz := s.heap.size)
  generalize hAe : va_A [(q_a0, .inr (7, [.ref q_a0_stage, .ref q_a0_draft, .ref q_a0_images, .ref q_a0_kept, .ref q_a0_plans, .ref q_a0_text, .ref q_a0_refused, .long a0_above, .long a0_below])), (q_a0_stage, .inr (5, [.ref q_a0_stage_bends, .ref q_a0_stage_felt, .ref q_a0_stage_paces, .ref q_a0_stage_past, .int a0_stage_kind, .int a0_stage_fog, .int a0_stage_here, .int a0_stage_seconds, .int a0_stage_crashes])), (q_a0_stage_bends, .inr (0, [.ref q_a0_stage_bends_yards, .ref q_a0_stage_bends_truth, .ref q_a0_stage_bends_notes, .ref q_a0_stage_bends_words, .ref q_a0_stage_bends_mud, .int a0_stage_bends_size])), (q_a0_stage_bends_notes, .inl (cI, 8, .inl a0_stage_bends_notes)), (q_a0_stage_bends_mud, .inl (cI, 8, .inl a0_stage_bends_mud)), (q_a0_stage_felt, .inr (1, [.ref q_a0_stage_felt_holds, .int a0_stage_felt_size])), (q_a0_stage_paces, .inr (2, [.ref q_a0_stage_paces_rows, .int a0_stage_paces_size])), (q_a0_stage_past, .inr (3, [.ref q_a0_stage_past_rows, .int a0_stage_past_size])), (q_a0_text, .inr (6, [.ref q_a0_text_bytes, .int a0_text_size, .int a0_text_sort, .int a0_text_start, .int a0_text_behind])), (q_a0_refused, .inl (cI, 3, .inl a0_refused))] s.heap.size = A at hD ⊢
  have hA : ∀ q : Nat, s.heap.size ≤ q → A q := fun q h => by rw [← hAe]; exact Or.inr h
  have hS : va_S A s.heap s.heap [] := va_S.rf
  have hP : va_P D vwCl [(q_a0, .inr (7, [.ref q_a0_stage, .ref q_a0_draft, .ref q_a0_images, .ref q_a0_kept, .ref q_a0_plans, .ref q_a0_text, .ref q_a0_refused, .long a0_above, .long a0_below])), (q_a0_stage, .inr (5, [.ref q_a0_stage_bends, .ref q_a0_stage_felt, .ref q_a0_stage_paces, .ref q_a0_stage_past, .int a0_stage_kind, .int a0_stage_fog, .int a0_stage_here, .int a0_stage_seconds, .int a0_stage_crashes])), (q_a0_stage_bends, .inr (0, [.ref q_a0_stage_bends_yards, .ref q_a0_stage_bends_truth, .ref q_a0_stage_bends_notes, .ref q_a0_stage_bends_words, .ref q_a0_stage_bends_mud, .int a0_stage_bends_size])), (q_a0_stage_bends_notes, .inl (cI, 8, .inl a0_stage_bends_notes)), (q_a0_stage_bends_mud, .inl (cI, 8, .inl a0_stage_bends_mud)), (q_a0_stage_felt, .inr (1, [.ref q_a0_stage_felt_holds, .int a0_stage_felt_size])), (q_a0_stage_paces, .inr (2, [.ref q_a0_stage_paces_rows, .int a0_stage_paces_size])), (q_a0_stage_past, .inr (3, [.ref q_a0_stage_past_rows, .int a0_stage_past_size])), (q_a0_text, .inr (6, [.ref q_a0_text_bytes, .int a0_text_size, .int a0_text_sort, .int a0_text_start, .int a0_text_behind])), (q_a0_refused, .inl (cI, 3, .inl a0_refused))] s.heap := hP
  generalize hQQ : MQ below _ _ s _ _ _ = QQ
  have hl := lv_entry ([.ref q_a0, .int x1]) (n := 2) (Nat.le_of_ble_eq_true rfl)
  rw [lg_entry_eq]
  generalize (lg_sl ([.ref q_a0, .int x1]) ++ List.replicate (2 - (lg_sl ([.ref q_a0, .int x1])).length) Slot.unset).toArray = ls at hl ⊢
  have hl : lv_has ls 2 [(0, .ref q_a0), (1, .int x1)] := hl
  unfold p_X8_count at hf
  refine lv_iload_n hx hb dX8_count_0 rfl (lv_at hl 1 rfl) ?_
  refine lv_iconst (v := 0) hx hb dX8_count_1 (by decide) ?_
  refine lv_bipush (v := 6) hx hb dX8_count_2 (by decide) ?_
  refine ya_csi (va_runS (As := [.int x1, .int 0, .int 6]) (rest := []) ⟨hx, hb, hml, hown, hts⟩ (c_X8_within l D cI cZ cO  x1 0 6 _ hf) (va_cwS 3 hts gX8_count_X8_within rfl rfl rfl (by decide +kernel) ⟨Nat.le_of_ble_eq_true rfl, Nat.le_of_ble_eq_true rfl⟩) (ps_ro va_P0 hX) rfl rfl hl.1 rfl (lv_room (Nat.le_of_ble_eq_true rfl)) dX8_count_4 ⟨Nat.zero_le _, Nat.zero_le _⟩) (fun r_1 hf => ?_)
  refine lv_if_ne (tgt := 17) hx hb dX8_count_7 (by decide) (fun c_2 => ?_) (fun c_2 => ?_)
  · have hf := it_f c_2 hf
    refine lv_aload_n hx hb dX8_count_17 rfl (lv_at hl 0 rfl) ?_
    refine lv_iload_n hx hb dX8_count_18 rfl (lv_at hl 1 rfl) ?_
    refine ya_csi (va_runV (As := [.int x1]) (rest := []) ⟨hx, hb, hml, hown, hts⟩ (c_X8_howMany l D cI cZ cO q_a0 q_a0_stage q_a0_draft q_a0_images q_a0_kept q_a0_plans q_a0_text q_a0_refused q_a0_stage_bends q_a0_stage_felt q_a0_stage_paces q_a0_stage_past q_a0_stage_bends_yards q_a0_stage_bends_truth q_a0_stage_bends_notes q_a0_stage_bends_words q_a0_stage_bends_mud q_a0_stage_felt_holds q_a0_stage_paces_rows q_a0_stage_past_rows q_a0_text_bytes a0_above a0_below a0_stage_kind a0_stage_fog a0_stage_here a0_stage_seconds a0_stage_crashes a0_stage_bends_size a0_stage_bends_notes a0_stage_bends_mud a0_stage_felt_size a0_stage_paces_size a0_stage_past_size a0_text_size a0_text_sort a0_text_start a0_text_behind x1 _ hf) (cwV 1 hts gX8_count_X8_howMany rfl rfl rfl (by decide +kernel) ⟨Nat.le_of_ble_eq_true rfl, Nat.le_of_ble_eq_true rfl⟩) (pv_ro (ci := 7) (q0 := 0) (hP.sub [0, 1, 2, 3, 4, 5, 6, 7, 8] rfl) hX rfl rfl) rfl rfl hl.1 rfl (lv_room (Nat.le_of_ble_eq_true rfl)) dX8_count_19 ⟨Nat.zero_le _, Nat.zero_le _⟩) (fun r_3 hf => ?_)
    subst hQQ
    have hP9 := hP.sub (ws' := [(q_a0, .inr (7, [.ref q_a0_stage, .ref q_a0_draft, .ref q_a0_images, .ref q_a0_kept, .ref q_a0_plans, .ref q_a0_text, .ref q_a0_refused, .long a0_above, .long a0_below])), (q_a0_stage, .inr (5, [.ref q_a0_stage_bends, .ref q_a0_stage_felt, .ref q_a0_stage_paces, .ref q_a0_stage_past, .int a0_stage_kind, .int a0_stage_fog, .int a0_stage_here, .int a0_stage_seconds, .int a0_stage_crashes])), (q_a0_stage_bends, .inr (0, [.ref q_a0_stage_bends_yards, .ref q_a0_stage_bends_truth, .ref q_a0_stage_bends_notes, .ref q_a0_stage_bends_words, .ref q_a0_stage_bends_mud, .int a0_stage_bends_size])), (q_a0_stage_bends_notes, .inl (cI, 8, .inl a0_stage_bends_notes)), (q_a0_stage_bends_mud, .inl (cI, 8, .inl a0_stage_bends_mud)), (q_a0_stage_felt, .inr (1, [.ref q_a0_stage_felt_holds, .int a0_stage_felt_size])), (q_a0_stage_paces, .inr (2, [.ref q_a0_stage_paces_rows, .int a0_stage_paces_size])), (q_a0_stage_past, .inr (3, [.ref q_a0_stage_past_rows, .int a0_stage_past_size])), (q_a0_text, .inr (6, [.ref q_a0_text_bytes, .int a0_text_size, .int a0_text_sort, .int a0_text_start, .int a0_text_behind])), (q_a0_refused, .inl (cI, 3, .inl a0_refused))]) [0, 1, 2, 3, 4, 5, 6, 7, 8, 9] rfl
    have hD9 := hD.sub (ws' := [(q_a0, .inr (7, [.ref q_a0_stage, .ref q_a0_draft, .ref q_a0_images, .ref q_a0_kept, .ref q_a0_plans, .ref q_a0_text, .ref q_a0_refused, .long a0_above, .long a0_below])), (q_a0_stage, .inr (5, [.ref q_a0_stage_bends, .ref q_a0_stage_felt, .ref q_a0_stage_paces, .ref q_a0_stage_past, .int a0_stage_kind, .int a0_stage_fog, .int a0_stage_here, .int a0_stage_seconds, .int a0_stage_crashes])), (q_a0_stage_bends, .inr (0, [.ref q_a0_stage_bends_yards, .ref q_a0_stage_bends_truth, .ref q_a0_stage_bends_notes, .ref q_a0_stage_bends_words, .ref q_a0_stage_bends_mud, .int a0_stage_bends_size])), (q_a0_stage_bends_notes, .inl (cI, 8, .inl a0_stage_bends_notes)), (q_a0_stage_bends_mud, .inl (cI, 8, .inl a0_stage_bends_mud)), (q_a0_stage_felt, .inr (1, [.ref q_a0_stage_felt_holds, .int a0_stage_felt_size])), (q_a0_stage_paces, .inr (2, [.ref q_a0_stage_paces_rows, .int a0_stage_paces_size])), (q_a0_stage_past, .inr (3, [.ref q_a0_stage_past_rows, .int a0_stage_past_size])), (q_a0_text, .inr (6, [.ref q_a0_text_bytes, .int a0_text_size, .int a0_text_sort, .int a0_text_start, .int a0_text_behind])), (q_a0_refused, .inl (cI, 3, .inl a0_refused))]) [0, 1, 2, 3, 4, 5, 6, 7, 8, 9] (by decide) rfl
    exact W.iret hx hb hr (fun t ht hW => ⟨⟨r_3, a0_refused, rfl, hf, by rw [ht]; exact hP9, hD9⟩, hS.F ht⟩) hS.2.2 dX8_count_22
  · have hf := it_t c_2 hf
    refine lv_aload_n hx hb dX8_count_10 rfl (lv_at hl 0 rfl) ?_
    refine lv_bipush (v := (-2)) hx hb dX8_count_11 (by decide) ?_
    have hPc := hP.sub (ws' := [(q_a0, .inr (7, [.ref q_a0_stage, .ref q_a0_draft, .ref q_a0_images, .ref q_a0_kept, .ref q_a0_plans, .ref q_a0_text, .ref q_a0_refused, .long a0_above, .long a0_below])), (q_a0_refused, .inl (cI, 3, .inl a0_refused))]) [0, 9] rfl
    have hDc := hD.sub (ws' := [(q_a0, .inr (7, [.ref q_a0_stage, .ref q_a0_draft, .ref q_a0_images, .ref q_a0_kept, .ref q_a0_plans, .ref q_a0_text, .ref q_a0_refused, .long a0_above, .long a0_below])), (q_a0_refused, .inl (cI, 3, .inl a0_refused))]) [0, 9] (by decide) rfl
    have hFc := va_free (wc := [(q_a0, .inr (7, [.ref q_a0_stage, .ref q_a0_draft, .ref q_a0_images, .ref q_a0_kept, .ref q_a0_plans, .ref q_a0_text, .ref q_a0_refused, .long a0_above, .long a0_below])), (q_a0_refused, .inl (cI, 3, .inl a0_refused))]) hD hS hA [0, 9] rfl
    refine va_calli (va_runV (As := [.int (-2)]) (rest := []) ⟨hx, hb, hml, hown, hts⟩ (c_X8_refuse l D cI cZ cO q_a0 q_a0_stage q_a0_draft q_a0_images q_a0_kept q_a0_plans q_a0_text q_a0_refused a0_above a0_below a0_refused s.heap.size (-2) _ hf) (cwV 1 hts gX8_count_X8_refuse rfl rfl rfl (by decide +kernel) ⟨Nat.le_of_ble_eq_true rfl, Nat.le_of_ble_eq_true rfl⟩) (pv_rw (ci := 7) (q0 := 0) hPc hDc hX rfl rfl) rfl rfl hl.1 rfl (lv_room (Nat.le_of_ble_eq_true rfl)) dX8_count_13 ⟨Nat.zero_le _, Nat.zero_le _⟩) hS (fun q _ h => hFc q h) hFc (fun r_4 u t H1 locs ht hvm hf hB hz1 hk1 hS => ?_)
    obtain ⟨u_5, rfl⟩ : ∃ z, z = u := ⟨_, rfl⟩
    obtain ⟨hP1, hD1⟩ := hB
    rw [ht] at hP1
    clear hvm
    obtain ⟨hP, hD⟩ := va_join (wr := [(q_a0_stage, .inr (5, [.ref q_a0_stage_bends, .ref q_a0_stage_felt, .ref q_a0_stage_paces, .ref q_a0_stage_past, .int a0_stage_kind, .int a0_stage_fog, .int a0_stage_here, .int a0_stage_seconds, .int a0_stage_crashes])), (q_a0_stage_bends, .inr (0, [.ref q_a0_stage_bends_yards, .ref q_a0_stage_bends_truth, .ref q_a0_stage_bends_notes, .ref q_a0_stage_bends_words, .ref q_a0_stage_bends_mud, .int a0_stage_bends_size])), (q_a0_stage_bends_notes, .inl (cI, 8, .inl a0_stage_bends_notes)), (q_a0_stage_bends_mud, .inl (cI, 8, .inl a0_stage_bends_mud)), (q_a0_stage_felt, .inr (1, [.ref q_a0_stage_felt_holds, .int a0_stage_felt_size])), (q_a0_stage_paces, .inr (2, [.ref q_a0_stage_paces_rows, .int a0_stage_paces_size])), (q_a0_stage_past, .inr (3, [.ref q_a0_stage_past_rows, .int a0_stage_past_size])), (q_a0_text, .inr (6, [.ref q_a0_text_bytes, .int a0_text_size, .int a0_text_sort, .int a0_text_start, .int a0_text_behind]))]) (w1 := [(q_a0, .inr (7, [.ref q_a0_stage, .ref q_a0_draft, .ref q_a0_images, .ref q_a0_kept, .ref q_a0_plans, .ref q_a0_text, .ref q_a0_refused, .long a0_above, .long a0_below])), (q_a0_refused, .inl (cI, 3, .inl u_5))]) hP hD [0, 9] [1, 2, 3, 4, 5, 6, 7, 8] rfl rfl (by decide) (by decide) hk1 hFc hP1 hD1
    clear hz1 hk1 hPc hDc hFc hP1 hD1
    generalize H1 = H at hP hS ⊢
    have hP : va_P D vwCl [(q_a0_stage, .inr (5, [.ref q_a0_stage_bends, .ref q_a0_stage_felt, .ref q_a0_stage_paces, .ref q_a0_stage_past, .int a0_stage_kind, .int a0_stage_fog, .int a0_stage_here, .int a0_stage_seconds, .int a0_stage_crashes])), (q_a0_stage_bends, .inr (0, [.ref q_a0_stage_bends_yards, .ref q_a0_stage_bends_truth, .ref q_a0_stage_bends_notes, .ref q_a0_stage_bends_words, .ref q_a0_stage_bends_mud, .int a0_stage_bends_size])), (q_a0_stage_bends_notes, .inl (cI, 8, .inl a0_stage_bends_notes)), (q_a0_stage_bends_mud, .inl (cI, 8, .inl a0_stage_bends_mud)), (q_a0_stage_felt, .inr (1, [.ref q_a0_stage_felt_holds, .int a0_stage_felt_size])), (q_a0_stage_paces, .inr (2, [.ref q_a0_stage_paces_rows, .int a0_stage_paces_size])), (q_a0_stage_past, .inr (3, [.ref q_a0_stage_past_rows, .int a0_stage_past_size])), (q_a0_text, .inr (6, [.ref q_a0_text_bytes, .int a0_text_size, .int a0_text_sort, .int a0_text_start, .int a0_text_behind])), (q_a0, .inr (7, [.ref q_a0_stage, .ref q_a0_draft, .ref q_a0_images, .ref q_a0_kept, .ref q_a0_plans, .ref q_a0_text, .ref q_a0_refused, .long a0_above, .long a0_below])), (q_a0_refused, .inl (cI, 3, .inl u_5))] H := hP
    have hD : va_D A [(q_a0_stage, .inr (5, [.ref q_a0_stage_bends, .ref q_a0_stage_felt, .ref q_a0_stage_paces, .ref q_a0_stage_past, .int a0_stage_kind, .int a0_stage_fog, .int a0_stage_here, .int a0_stage_seconds, .int a0_stage_crashes])), (q_a0_stage_bends, .inr (0, [.ref q_a0_stage_bends_yards, .ref q_a0_stage_bends_truth, .ref q_a0_stage_bends_notes, .ref q_a0_stage_bends_words, .ref q_a0_stage_bends_mud, .int a0_stage_bends_size])), (q_a0_stage_bends_notes, .inl (cI, 8, .inl a0_stage_bends_notes)), (q_a0_stage_bends_mud, .inl (cI, 8, .inl a0_stage_bends_mud)), (q_a0_stage_felt, .inr (1, [.ref q_a0_stage_felt_holds, .int a0_stage_felt_size])), (q_a0_stage_paces, .inr (2, [.ref q_a0_stage_paces_rows, .int a0_stage_paces_size])), (q_a0_stage_past, .inr (3, [.ref q_a0_stage_past_rows, .int a0_stage_past_size])), (q_a0_text, .inr (6, [.ref q_a0_text_bytes, .int a0_text_size, .int a0_text_sort, .int a0_text_start, .int a0_text_behind])), (q_a0, .inr (7, [.ref q_a0_stage, .ref q_a0_draft, .ref q_a0_images, .ref q_a0_kept, .ref q_a0_plans, .ref q_a0_text, .ref q_a0_refused, .long a0_above, .long a0_below])), (q_a0_refused, .inl (cI, 3, .inl u_5))] := hD
    subst hQQ
    have hP9 := hP.sub (ws' := [(q_a0, .inr (7, [.ref q_a0_stage, .ref q_a0_draft, .ref q_a0_images, .ref q_a0_kept, .ref q_a0_plans, .ref q_a0_text, .ref q_a0_refused, .long a0_above, .long a0_below])), (q_a0_stage, .inr (5, [.ref q_a0_stage_bends, .ref q_a0_stage_felt, .ref q_a0_stage_paces, .ref q_a0_stage_past, .int a0_stage_kind, .int a0_stage_fog, .int a0_stage_here, .int a0_stage_seconds, .int a0_stage_crashes])), (q_a0_stage_bends, .inr (0, [.ref q_a0_stage_bends_yards, .ref q_a0_stage_bends_truth, .ref q_a0_stage_bends_notes, .ref q_a0_stage_bends_words, .ref q_a0_stage_bends_mud, .int a0_stage_bends_size])), (q_a0_stage_bends_notes, .inl (cI, 8, .inl a0_stage_bends_notes)), (q_a0_stage_bends_mud, .inl (cI, 8, .inl a0_stage_bends_mud)), (q_a0_stage_felt, .inr (1, [.ref q_a0_stage_felt_holds, .int a0_stage_felt_size])), (q_a0_stage_paces, .inr (2, [.ref q_a0_stage_paces_rows, .int a0_stage_paces_size])), (q_a0_stage_past, .inr (3, [.ref q_a0_stage_past_rows, .int a0_stage_past_size])), (q_a0_text, .inr (6, [.ref q_a0_text_bytes, .int a0_text_size, .int a0_text_sort, .int a0_text_start, .int a0_text_behind])), (q_a0_refused, .inl (cI, 3, .inl u_5))]) [8, 0, 1, 2, 3, 4, 5, 6, 7, 9] rfl
    have hD9 := hD.sub (ws' := [(q_a0, .inr (7, [.ref q_a0_stage, .ref q_a0_draft, .ref q_a0_images, .ref q_a0_kept, .ref q_a0_plans, .ref q_a0_text, .ref q_a0_refused, .long a0_above, .long a0_below])), (q_a0_stage, .inr (5, [.ref q_a0_stage_bends, .ref q_a0_stage_felt, .ref q_a0_stage_paces, .ref q_a0_stage_past, .int a0_stage_kind, .int a0_stage_fog, .int a0_stage_here, .int a0_stage_seconds, .int a0_stage_crashes])), (q_a0_stage_bends, .inr (0, [.ref q_a0_stage_bends_yards, .ref q_a0_stage_bends_truth, .ref q_a0_stage_bends_notes, .ref q_a0_stage_bends_words, .ref q_a0_stage_bends_mud, .int a0_stage_bends_size])), (q_a0_stage_bends_notes, .inl (cI, 8, .inl a0_stage_bends_notes)), (q_a0_stage_bends_mud, .inl (cI, 8, .inl a0_stage_bends_mud)), (q_a0_stage_felt, .inr (1, [.ref q_a0_stage_felt_holds, .int a0_stage_felt_size])), (q_a0_stage_paces, .inr (2, [.ref q_a0_stage_paces_rows, .int a0_stage_paces_size])), (q_a0_stage_past, .inr (3, [.ref q_a0_stage_past_rows, .int a0_stage_past_size])), (q_a0_text, .inr (6, [.ref q_a0_text_bytes, .int a0_text_size, .int a0_text_sort, .int a0_text_start, .int a0_text_behind])), (q_a0_refused, .inl (cI, 3, .inl u_5))]) [8, 0, 1, 2, 3, 4, 5, 6, 7, 9] (by decide) rfl
    exact W.iret hx hb hr (fun t ht hW => ⟨⟨r_4, u_5, rfl, hf, by rw [ht]; exact hP9, hD9⟩, hS.F ht⟩) hS.2.2 dX8_count_16
def jX8_digest_60 (a0_stage_bends_yards : Nat → Int32) (a0_stage_bends_truth : Nat → Int32) (a0_stage_bends_notes : Nat → Int32) (a0_stage_bends_words : Nat → Int32) (a0_stage_bends_mud : Nat → Int32) (a0_stage_bends_size : Int32) (a0_stage_felt_holds : Nat → Int32) (a0_stage_felt_size : Int32) (a0_stage_paces_rows : Nat → Int32) (a0_stage_paces_size : Int32) (a0_above : Int64) (a0_below : Int64) (Q : Int64 → Prop) (v_1 : Int64) : Prop :=
  p_X0_digestOn a0_stage_bends_yards a0_stage_bends_truth a0_stage_bends_notes a0_stage_bends_words a0_stage_bends_mud a0_stage_bends_size v_1 (fun r_2 => p_X1_digestOn a0_stage_felt_holds a0_stage_felt_size r_2 (fun r_3 => p_X3_digestOn a0_stage_paces_rows a0_stage_paces_size r_3 (fun r_4 => Q ((31 * ((31 * r_4) + a0_above)) + a0_below))))
def bX8_digest_33 (a0_stage_bends_yards : Nat → Int32) (a0_stage_bends_truth : Nat → Int32) (a0_stage_bends_notes : Nat → Int32) (a0_stage_bends_words : Nat → Int32) (a0_stage_bends_mud : Nat → Int32) (a0_stage_bends_size : Int32) (a0_stage_felt_holds : Nat → Int32) (a0_stage_felt_size : Int32) (a0_stage_paces_rows : Nat → Int32) (a0_stage_paces_size : Int32) (a0_stage_kind : Int32) (a0_stage_fog : Int32) (a0_stage_here : Int32) (a0_stage_seconds : Int32) (a0_stage_crashes : Int32) (a0_above : Int64) (a0_below : Int64) (Q : Int64 → Prop) (k_8 : Int64 → Int32 → Prop) (v_6 : Int64) (v_7 : Int32) : Prop :=
  if 4 < v_7 then (jX8_digest_60 a0_stage_bends_yards a0_stage_bends_truth a0_stage_bends_notes a0_stage_bends_words a0_stage_bends_mud a0_stage_bends_size a0_stage_felt_holds a0_stage_felt_size a0_stage_paces_rows a0_stage_paces_size a0_above a0_below Q v_6) else (p_X6_tell a0_stage_kind a0_stage_fog a0_stage_here a0_stage_seconds a0_stage_crashes v_7 (fun r_10 => k_8 ((31 * v_6) + r_10.toInt64) (v_7 + 1)))
def jX8_digest_31 (a0_stage_bends_yards : Nat → Int32) (a0_stage_bends_truth : Nat → Int32) (a0_stage_bends_notes : Nat → Int32) (a0_stage_bends_words : Nat → Int32) (a0_stage_bends_mud : Nat → Int32) (a0_stage_bends_size : Int32) (a0_stage_felt_holds : Nat → Int32) (a0_stage_felt_size : Int32) (a0_stage_paces_rows : Nat → Int32) (a0_stage_paces_size : Int32) (a0_stage_kind : Int32) (a0_stage_fog : Int32) (a0_stage_here : Int32) (a0_stage_seconds : Int32) (a0_stage_crashes : Int32) (a0_above : Int64) (a0_below : Int64) (Q : Int64 → Prop) (v_5 : Int64) : Prop :=
  lq2 (bX8_digest_33 a0_stage_bends_yards a0_stage_bends_truth a0_stage_bends_notes a0_stage_bends_words a0_stage_bends_mud a0_stage_bends_size a0_stage_felt_holds a0_stage_felt_size a0_stage_paces_rows a0_stage_paces_size a0_stage_kind a0_stage_fog a0_stage_here a0_stage_seconds a0_stage_crashes a0_above a0_below Q) 1000 v_5 0
def bX8_digest_6 (a0_stage_bends_yards : Nat → Int32) (a0_stage_bends_truth : Nat → Int32) (a0_stage_bends_notes : Nat → Int32) (a0_stage_bends_words : Nat → Int32) (a0_stage_bends_mud : Nat → Int32) (a0_stage_bends_size : Int32) (a0_stage_felt_holds : Nat → Int32) (a0_stage_felt_size : Int32) (a0_stage_paces_rows : Nat → Int32) (a0_stage_paces_size : Int32) (a0_stage_past_size : Int32) (a0_stage_kind : Int32) (a0_stage_fog : Int32) (a0_stage_here : Int32) (a0_stage_seconds : Int32) (a0_stage_crashes : Int32) (a0_text_size : Int32) (a0_above : Int64) (a0_below : Int64) (Q : Int64 → Prop) (k_13 : Int64 → Int32 → Prop) (v_11 : Int64) (v_12 : Int32) : Prop :=
  if 6 < v_12 then (jX8_digest_31 a0_stage_bends_yards a0_stage_bends_truth a0_stage_bends_notes a0_stage_bends_words a0_stage_bends_mud a0_stage_bends_size a0_stage_felt_holds a0_stage_felt_size a0_stage_paces_rows a0_stage_paces_size a0_stage_kind a0_stage_fog a0_stage_here a0_stage_seconds a0_stage_crashes a0_above a0_below Q v_11) else (p_X8_howMany a0_stage_bends_notes a0_stage_bends_mud a0_stage_bends_size a0_stage_felt_size a0_stage_paces_size a0_stage_past_size a0_text_size v_12 (fun r_15 => k_13 ((31 * v_11) + r_15.toInt64) (v_12 + 1)))
def p_X8_digest (a0_stage_bends_yards : Nat → Int32) (a0_stage_bends_truth : Nat → Int32) (a0_stage_bends_notes : Nat → Int32) (a0_stage_bends_words : Nat → Int32) (a0_stage_bends_mud : Nat → Int32) (a0_stage_bends_size : Int32) (a0_stage_felt_holds : Nat → Int32) (a0_stage_felt_size : Int32) (a0_stage_paces_rows : Nat → Int32) (a0_stage_paces_size : Int32) (a0_stage_past_size : Int32) (a0_stage_kind : Int32) (a0_stage_fog : Int32) (a0_stage_here : Int32) (a0_stage_seconds : Int32) (a0_stage_crashes : Int32) (a0_text_size : Int32) (a0_above : Int64) (a0_below : Int64) (Q : Int64 → Prop) : Prop :=
  lq2 (bX8_digest_6 a0_stage_bends_yards a0_stage_bends_truth a0_stage_bends_notes a0_stage_bends_words a0_stage_bends_mud a0_stage_bends_size a0_stage_felt_holds a0_stage_felt_size a0_stage_paces_rows a0_stage_paces_size a0_stage_past_size a0_stage_kind a0_stage_fog a0_stage_here a0_stage_seconds a0_stage_crashes a0_text_size a0_above a0_below Q) 1000 1361 0
def rmX8_digest : Room := { frames := 3, cells := 0, slots := 0, locals := 69 }
set_option maxHeartbeats 4000000 in
set_option maxRecDepth 100000 in
theorem c_X8_digest (l : Launch) (D : va_G) (cI cZ cO : ClassId) (q_a0 q_a0_stage q_a0_draft q_a0_images q_a0_kept q_a0_plans q_a0_text q_a0_refused q_a0_stage_bends q_a0_stage_felt q_a0_stage_paces q_a0_stage_past q_a0_stage_bends_yards q_a0_stage_bends_truth q_a0_stage_bends_notes q_a0_stage_bends_words q_a0_stage_bends_mud q_a0_stage_felt_holds q_a0_stage_paces_rows q_a0_stage_past_rows q_a0_text_bytes : Nat) (a0_above : Int64) (a0_below : Int64) (a0_stage_kind : Int32) (a0_stage_fog : Int32) (a0_stage_here : Int32) (a0_stage_seconds : Int32) (a0_stage_crashes : Int32) (a0_stage_bends_size : Int32) (a0_stage_bends_yards : Nat → Int32) (a0_stage_bends_truth : Nat → Int32) (a0_stage_bends_notes : Nat → Int32) (a0_stage_bends_words : Nat → Int32) (a0_stage_bends_mud : Nat → Int32) (a0_stage_felt_size : Int32) (a0_stage_felt_holds : Nat → Int32) (a0_stage_paces_size : Int32) (a0_stage_paces_rows : Nat → Int32) (a0_stage_past_size : Int32) (a0_text_size : Int32) (a0_text_sort : Int32) (a0_text_start : Int32) (a0_text_behind : Int32) (Q : Int64 → Prop) (hf : p_X8_digest a0_stage_bends_yards a0_stage_bends_truth a0_stage_bends_notes a0_stage_bends_words a0_stage_bends_mud a0_stage_bends_size a0_stage_felt_holds a0_stage_felt_size a0_stage_paces_rows a0_stage_paces_size a0_stage_past_size a0_stage_kind a0_stage_fog a0_stage_here a0_stage_seconds a0_stage_crashes a0_text_size a0_above a0_below Q) : Met l yX8_digest wsX8_digest rmX8_digest (va_Pc [.ref q_a0] (fun U => va_P D vwCl [(q_a0, .inr (7, [.ref q_a0_stage, .ref q_a0_draft, .ref q_a0_images, .ref q_a0_kept, .ref q_a0_plans, .ref q_a0_text, .ref q_a0_refused, .long a0_above, .long a0_below])), (q_a0_stage, .inr (5, [.ref q_a0_stage_bends, .ref q_a0_stage_felt, .ref q_a0_stage_paces, .ref q_a0_stage_past, .int a0_stage_kind, .int a0_stage_fog, .int a0_stage_here, .int a0_stage_seconds, .int a0_stage_crashes])), (q_a0_stage_bends, .inr (0, [.ref q_a0_stage_bends_yards, .ref q_a0_stage_bends_truth, .ref q_a0_stage_bends_notes, .ref q_a0_stage_bends_words, .ref q_a0_stage_bends_mud, .int a0_stage_bends_size])), (q_a0_stage_bends_yards, .inl (cI, 8, .inl a0_stage_bends_yards)), (q_a0_stage_bends_truth, .inl (cI, 8, .inl a0_stage_bends_truth)), (q_a0_stage_bends_notes, .inl (cI, 8, .inl a0_stage_bends_notes)), (q_a0_stage_bends_words, .inl (cI, 8, .inl a0_stage_bends_words)), (q_a0_stage_bends_mud, .inl (cI, 8, .inl a0_stage_bends_mud)), (q_a0_stage_felt, .inr (1, [.ref q_a0_stage_felt_holds, .int a0_stage_felt_size])), (q_a0_stage_felt_holds, .inl (cI, 3, .inl a0_stage_felt_holds)), (q_a0_stage_paces, .inr (2, [.ref q_a0_stage_paces_rows, .int a0_stage_paces_size])), (q_a0_stage_paces_rows, .inl (cI, 30, .inl a0_stage_paces_rows)), (q_a0_stage_past, .inr (3, [.ref q_a0_stage_past_rows, .int a0_stage_past_size])), (q_a0_text, .inr (6, [.ref q_a0_text_bytes, .int a0_text_size, .int a0_text_sort, .int a0_text_start, .int a0_text_behind]))] U.heap ∧ XK D cI cZ cO U)) (vp_Sl Q) 0 0 (fun _ => False) := by
  refine Met.ofW (cc := cX8_digest) (maxL := 4) (ret := (some .long)) (by decide) rfl ?_
  intro p e s m args below meth c s₁ B hml hv
  obtain ⟨rfl, hP, hX⟩ := hv
  have hK := hX.1
  have hx := B.exec
  have hb := B.bytes
  have hr := B.returns
  have hts := atoms_spec (ws := wsX8_digest) B.pre
  have hown : s.vm.findClass RX8 = some m.cls := findClass_of_methodNamed B.named
  have hlocks := B.notSynchronized
  have in_X8 : ∀ w ∈ wsX80, w ∈ wsX8_digest := fun _ h => List.mem_cons_of_mem _ (List.mem_append_left _ (List.mem_append_left _ (List.mem_append_left _ (List.mem_append_left _ (List.mem_append_left _ (List.mem_append_left _ (List.mem_append_right _ h)))))))
  have in_X6 : ∀ w ∈ wsX60, w ∈ wsX8_digest := fun _ h => List.mem_cons_of_mem _ (List.mem_append_left _ (List.mem_append_left _ (List.mem_append_left _ (List.mem_append_left _ (List.mem_append_left _ (List.mem_append_right _ h))))))
  have kf_10 := hts (.fieldLink RX8 10 "LeftCrest" "stage" "LLeftCrest$Stage;") (by decide +kernel)
  have kf_60 := hts (.fieldLink RX8 60 "LeftCrest$Stage" "bends" "LLeftCrest$Bends;") (by decide +kernel)
  have kf_170 := hts (.fieldLink RX8 170 "LeftCrest$Stage" "felt" "LLeftCrest$Felt;") (by decide +kernel)
  have kf_185 := hts (.fieldLink RX8 185 "LeftCrest$Stage" "paces" "LLeftCrest$Paces;") (by decide +kernel)
  have kc_223 := hts (.constantLong RX8 223 (31)) (by decide +kernel)
  have kf_45 := hts (.fieldLink RX8 45 "LeftCrest" "above" "J") (by decide +kernel)
  have kf_49 := hts (.fieldLink RX8 49 "LeftCrest" "below" "J") (by decide +kernel)
  have kc_221 := hts (.constantLong RX8 221 (1361)) (by decide +kernel)
  generalize hQQ : MQ below _ _ s _ _ _ = QQ
  have hl := lv_entry ([.ref q_a0]) (n := 4) (Nat.le_of_ble_eq_true rfl)
  rw [lg_entry_eq]
  generalize (lg_sl ([.ref q_a0]) ++ List.replicate (4 - (lg_sl ([.ref q_a0])).length) Slot.unset).toArray = ls at hl ⊢
  have hl : lv_has ls 4 [(0, .ref q_a0)] := hl
  have hj_60 : ∀ (v_1 : Int64), jX8_digest_60 a0_stage_bends_yards a0_stage_bends_truth a0_stage_bends_notes a0_stage_bends_words a0_stage_bends_mud a0_stage_bends_size a0_stage_felt_holds a0_stage_felt_size a0_stage_paces_rows a0_stage_paces_size a0_above a0_below Q v_1 → ∀ ls : Array Slot, lv_has ls 4 [(0, .ref q_a0), (1, .long v_1)] → W p l e (headSpec wsX8_digest rmX8_digest).room s m ([.ref q_a0] : List Value).toArray below meth c s.heap [] 0 0 QQ (F0 m 60 ls []) := by
    intro v_1 hf ls hl
    unfold jX8_digest_60 at hf
    refine lv_aload_n hx hb dX8_digest_60 rfl (lv_at hl 0 rfl) ?_
    refine va_get (D := D) (ci := 7) (v := .ref q_a0_stage) (C := RX8) (T := TX8) (N := 9) hx hb hts in_X8 hown hK hP 0 rfl rfl 0 (by decide) kf_10 (fun _ h9 => h9) rfl dX8_digest_61 ?_
    refine va_get (D := D) (ci := 5) (v := .ref q_a0_stage_bends) (C := RX6) (T := TX6) (N := 9) hx hb hts in_X6 hown hK hP 1 rfl rfl 0 (by decide) kf_60 (fun _ h9 => h9) rfl dX8_digest_64 ?_
    refine lv_lload_n hx hb dX8_digest_67 rfl (lv_at hl 1 rfl) ?_
    refine ya_csl (va_runV (As := [.long v_1]) (rest := []) ⟨hx, hb, hml, hown, hts⟩ (c_X0_digestOn l D cI cZ cO q_a0_stage_bends q_a0_stage_bends_yards q_a0_stage_bends_truth q_a0_stage_bends_notes q_a0_stage_bends_words q_a0_stage_bends_mud a0_stage_bends_size a0_stage_bends_yards a0_stage_bends_truth a0_stage_bends_notes a0_stage_bends_words a0_stage_bends_mud v_1 _ hf) (cwV 1 hts gX8_digest_X0_digestOn rfl rfl rfl (by decide +kernel) ⟨Nat.le_of_ble_eq_true rfl, Nat.le_of_ble_eq_true rfl⟩) (pv_ro (ci := 0) (q0 := 0) (hP.sub [2, 3, 4, 5, 6, 7] rfl) hX rfl rfl) rfl rfl hl.1 rfl (lv_room (Nat.le_of_ble_eq_true rfl)) dX8_digest_68 ⟨Nat.zero_le _, Nat.zero_le _⟩) (fun r_2 hf => ?_)
    refine lv_lstore_n (lv' := [(1, .long r_2), (0, .ref q_a0)]) hx hb dX8_digest_71 rfl hl (by decide) rfl (fun ls hl => ?_)
    refine lv_aload_n hx hb dX8_digest_72 rfl (lv_at hl 1 rfl) ?_
    refine va_get (D := D) (ci := 7) (v := .ref q_a0_stage) (C := RX8) (T := TX8) (N := 9) hx hb hts in_X8 hown hK hP 0 rfl rfl 0 (by decide) kf_10 (fun _ h9 => h9) rfl dX8_digest_73 ?_
    refine va_get (D := D) (ci := 5) (v := .ref q_a0_stage_felt) (C := RX6) (T := TX6) (N := 9) hx hb hts in_X6 hown hK hP 1 rfl rfl 1 (by decide) kf_170 (fun _ h9 => h9) rfl dX8_digest_76 ?_
    refine lv_lload_n hx hb dX8_digest_79 rfl (lv_at hl 0 rfl) ?_
    refine ya_csl (va_runV (As := [.long r_2]) (rest := []) ⟨hx, hb, hml, hown, hts⟩ (c_X1_digestOn l D cI cZ cO q_a0_stage_felt q_a0_stage_felt_holds a0_stage_felt_size a0_stage_felt_holds r_2 _ hf) (cwV 1 hts gX8_digest_X1_digestOn rfl rfl rfl (by decide +kernel) ⟨Nat.le_of_ble_eq_true rfl, Nat.le_of_ble_eq_true rfl⟩) (pv_ro (ci := 1) (q0 := 0) (hP.sub [8, 9] rfl) hX rfl rfl) rfl rfl hl.1 rfl (lv_room (Nat.le_of_ble_eq_true rfl)) dX8_digest_80 ⟨Nat.zero_le _, Nat.zero_le _⟩) (fun r_3 hf => ?_)
    refine lv_lstore_n (lv' := [(1, .long r_3), (0, .ref q_a0)]) hx hb dX8_digest_83 rfl hl (by decide) rfl (fun ls hl => ?_)
    refine lv_aload_n hx hb dX8_digest_84 rfl (lv_at hl 1 rfl) ?_
    refine va_get (D := D) (ci := 7) (v := .ref q_a0_stage) (C := RX8) (T := TX8) (N := 9) hx hb hts in_X8 hown hK hP 0 rfl rfl 0 (by decide) kf_10 (fun _ h9 => h9) rfl dX8_digest_85 ?_
    refine va_get (D := D) (ci := 5) (v := .ref q_a0_stage_paces) (C := RX6) (T := TX6) (N := 9) hx hb hts in_X6 hown hK hP 1 rfl rfl 2 (by decide) kf_185 (fun _ h9 => h9) rfl dX8_digest_88 ?_
    refine lv_lload_n hx hb dX8_digest_91 rfl (lv_at hl 0 rfl) ?_
    refine ya_csl (va_runV (As := [.long r_3]) (rest := []) ⟨hx, hb, hml, hown, hts⟩ (c_X3_digestOn l D cI cZ cO q_a0_stage_paces q_a0_stage_paces_rows a0_stage_paces_size a0_stage_paces_rows r_3 _ hf) (cwV 1 hts gX8_digest_X3_digestOn rfl rfl rfl (by decide +kernel) ⟨Nat.le_of_ble_eq_true rfl, Nat.le_of_ble_eq_true rfl⟩) (pv_ro (ci := 2) (q0 := 0) (hP.sub [10, 11] rfl) hX rfl rfl) rfl rfl hl.1 rfl (lv_room (Nat.le_of_ble_eq_true rfl)) dX8_digest_92 ⟨Nat.zero_le _, Nat.zero_le _⟩) (fun r_4 hf => ?_)
    refine lv_lstore_n (lv' := [(1, .long r_4), (0, .ref q_a0)]) hx hb dX8_digest_95 rfl hl (by decide) rfl (fun ls hl => ?_)
    refine lv_ldc2 (v := 31) hx hb hown kc_223 dX8_digest_96 ?_
    refine lv_lload_n hx hb dX8_digest_99 rfl (lv_at hl 0 rfl) ?_
    refine lv_lmul hx hb dX8_digest_100 ?_
    refine lv_aload_n hx hb dX8_digest_101 rfl (lv_at hl 1 rfl) ?_
    refine va_get (D := D) (ci := 7) (v := .long a0_above) (C := RX8) (T := TX8) (N := 9) hx hb hts in_X8 hown hK hP 0 rfl rfl 7 (by decide) kf_45 (fun _ h9 => h9) rfl dX8_digest_102 ?_
    refine lv_ladd hx hb dX8_digest_105 ?_
    refine lv_lstore_n (lv' := [(1, .long ((31 * r_4) + a0_above)), (0, .ref q_a0)]) hx hb dX8_digest_106 rfl hl (by decide) rfl (fun ls hl => ?_)
    refine lv_ldc2 (v := 31) hx hb hown kc_223 dX8_digest_107 ?_
    refine lv_lload_n hx hb dX8_digest_110 rfl (lv_at hl 0 rfl) ?_
    refine lv_lmul hx hb dX8_digest_111 ?_
    refine lv_aload_n hx hb dX8_digest_112 rfl (lv_at hl 1 rfl) ?_
    refine va_get (D := D) (ci := 7) (v := .long a0_below) (C := RX8) (T := TX8) (N := 9) hx hb hts in_X8 hown hK hP 0 rfl rfl 8 (by decide) kf_49 (fun _ h9 => h9) rfl dX8_digest_113 ?_
    refine lv_ladd hx hb dX8_digest_116 ?_
    subst hQQ
    exact W.lret hx hb hr (fun t ht hW => ⟨_, rfl, hf, ht⟩) (fun _ h => absurd h List.not_mem_nil) dX8_digest_117
  have hj_31 : ∀ (v_5 : Int64), jX8_digest_31 a0_stage_bends_yards a0_stage_bends_truth a0_stage_bends_notes a0_stage_bends_words a0_stage_bends_mud a0_stage_bends_size a0_stage_felt_holds a0_stage_felt_size a0_stage_paces_rows a0_stage_paces_size a0_stage_kind a0_stage_fog a0_stage_here a0_stage_seconds a0_stage_crashes a0_above a0_below Q v_5 → ∀ ls : Array Slot, lv_has ls 4 [(0, .ref q_a0), (1, .long v_5)] → W p l e (headSpec wsX8_digest rmX8_digest).room s m ([.ref q_a0] : List Value).toArray below meth c s.heap [] 0 0 QQ (F0 m 31 ls []) := by
    intro v_5 hf ls hl
    unfold jX8_digest_31 at hf
    refine lv_iconst (v := 0) hx hb dX8_digest_31 (by decide) ?_
    refine lv_istore_n (lv' := [(3, .int 0), (0, .ref q_a0), (1, .long v_5)]) hx hb dX8_digest_32 rfl hl (by decide) rfl (fun ls hl => ?_)
    have hlp_33 : ∀ (n_33 : Nat) (v_6 : Int64) (v_7 : Int32) (ls : Array Slot), lq2 (bX8_digest_33 a0_stage_bends_yards a0_stage_bends_truth a0_stage_bends_notes a0_stage_bends_words a0_stage_bends_mud a0_stage_bends_size a0_stage_felt_holds a0_stage_felt_size a0_stage_paces_rows a0_stage_paces_size a0_stage_kind a0_stage_fog a0_stage_here a0_stage_seconds a0_stage_crashes a0_above a0_below Q) n_33 v_6 v_7 → lv_has ls 4 [(0, .ref q_a0), (1, .long v_6), (3, .int v_7)] → W p l e (headSpec wsX8_digest rmX8_digest).room s m ([.ref q_a0] : List Value).toArray below meth c s.heap [] 0 0 QQ (F0 m 33 ls []) := by
      intro n_33
      induction n_33 with
      | zero => intro v_6 v_7 ls hf; exact (lq2_0 hf).elim
      | succ n_33 ih =>
        have ih_33 := ih
        intro v_6 v_7 ls hf hl
        have hf := lq2_s hf
        unfold bX8_digest_33 at hf
        refine lv_iload_n hx hb dX8_digest_33 rfl (lv_at hl 2 rfl) ?_
        refine lv_iconst (v := 4) hx hb dX8_digest_34 (by decide) ?_
        refine lv_icmp_gt (tgt := 60) hx hb dX8_digest_35 (by decide) (fun c_9 => ?_) (fun c_9 => ?_)
        · have hf := it_t c_9 hf
          exact hj_60 v_6 hf ls (lv_sub hl [0, 1] rfl)
        · have hf := it_f c_9 hf
          refine lv_ldc2 (v := 31) hx hb hown kc_223 dX8_digest_38 ?_
          refine lv_lload_n hx hb dX8_digest_41 rfl (lv_at hl 1 rfl) ?_
          refine lv_lmul hx hb dX8_digest_42 ?_
          refine lv_aload_n hx hb dX8_digest_43 rfl (lv_at hl 0 rfl) ?_
          refine va_get (D := D) (ci := 7) (v := .ref q_a0_stage) (C := RX8) (T := TX8) (N := 9) hx hb hts in_X8 hown hK hP 0 rfl rfl 0 (by decide) kf_10 (fun _ h9 => h9) rfl dX8_digest_44 ?_
          refine lv_iload_n hx hb dX8_digest_47 rfl (lv_at hl 2 rfl) ?_
          refine ya_csi (va_runV (As := [.int v_7]) (rest := [.long (31 * v_6)]) ⟨hx, hb, hml, hown, hts⟩ (c_X6_tell l D cI cZ cO q_a0_stage q_a0_stage_bends q_a0_stage_felt q_a0_stage_paces q_a0_stage_past a0_stage_kind a0_stage_fog a0_stage_here a0_stage_seconds a0_stage_crashes v_7 _ hf) (cwV 1 hts gX8_digest_X6_tell rfl rfl rfl (by decide +kernel) ⟨Nat.le_of_ble_eq_true rfl, Nat.le_of_ble_eq_true rfl⟩) (pv_ro (ci := 5) (q0 := 0) (hP.sub [1] rfl) hX rfl rfl) rfl rfl hl.1 rfl (lv_room (Nat.le_of_ble_eq_true rfl)) dX8_digest_48 ⟨Nat.zero_le _, Nat.zero_le _⟩) (fun r_10 hf => ?_)
          refine lv_i2l hx hb dX8_digest_51 rfl ?_
          refine lv_ladd hx hb dX8_digest_52 ?_
          refine lv_lstore_n (lv' := [(1, .long ((31 * v_6) + r_10.toInt64)), (0, .ref q_a0), (3, .int v_7)]) hx hb dX8_digest_53 rfl hl (by decide) rfl (fun ls hl => ?_)
          refine lv_iinc (v := v_7 + 1) (lv' := [(3, .int (v_7 + 1)), (1, .long ((31 * v_6) + r_10.toInt64)), (0, .ref q_a0)]) hx hb dX8_digest_54 hl (k := 2) rfl rfl (by decide) rfl (fun ls hl => ?_)
          refine lv_goto (tgt := 33) hx hb dX8_digest_57 (by decide) ?_
          exact ih ((31 * v_6) + r_10.toInt64) (v_7 + 1) ls hf (lv_sub hl [2, 1, 0] rfl)
    exact hlp_33 1000 v_5 0 ls hf (lv_sub hl [1, 2, 0] rfl)
  unfold p_X8_digest at hf
  refine lv_ldc2 (v := 1361) hx hb hown kc_221 dX8_digest_0 ?_
  refine lv_lstore_n (lv' := [(1, .long 1361), (0, .ref q_a0)]) hx hb dX8_digest_3 rfl hl (by decide) rfl (fun ls hl => ?_)
  refine lv_iconst (v := 0) hx hb dX8_digest_4 (by decide) ?_
  refine lv_istore_n (lv' := [(3, .int 0), (1, .long 1361), (0, .ref q_a0)]) hx hb dX8_digest_5 rfl hl (by decide) rfl (fun ls hl => ?_)
  have hlp_6 : ∀ (n_6 : Nat) (v_11 : Int64) (v_12 : Int32) (ls : Array Slot), lq2 (bX8_digest_6 a0_stage_bends_yards a0_stage_bends_truth a0_stage_bends_notes a0_stage_bends_words a0_stage_bends_mud a0_stage_bends_size a0_stage_felt_holds a0_stage_felt_size a0_stage_paces_rows a0_stage_paces_size a0_stage_past_size a0_stage_kind a0_stage_fog a0_stage_here a0_stage_seconds a0_stage_crashes a0_text_size a0_above a0_below Q) n_6 v_11 v_12 → lv_has ls 4 [(0, .ref q_a0), (1, .long v_11), (3, .int v_12)] → W p l e (headSpec wsX8_digest rmX8_digest).room s m ([.ref q_a0] : List Value).toArray below meth c s.heap [] 0 0 QQ (F0 m 6 ls []) := by
    intro n_6
    induction n_6 with
    | zero => intro v_11 v_12 ls hf; exact (lq2_0 hf).elim
    | succ n_6 ih =>
      have ih_6 := ih
      intro v_11 v_12 ls hf hl
      have hf := lq2_s hf
      unfold bX8_digest_6 at hf
      refine lv_iload_n hx hb dX8_digest_6 rfl (lv_at hl 2 rfl) ?_
      refine lv_bipush (v := 6) hx hb dX8_digest_7 (by decide) ?_
      refine lv_icmp_gt (tgt := 31) hx hb dX8_digest_9 (by decide) (fun c_14 => ?_) (fun c_14 => ?_)
      · have hf := it_t c_14 hf
        exact hj_31 v_11 hf ls (lv_sub hl [0, 1] rfl)
      · have hf := it_f c_14 hf
        refine lv_ldc2 (v := 31) hx hb hown kc_223 dX8_digest_12 ?_
        refine lv_lload_n hx hb dX8_digest_15 rfl (lv_at hl 1 rfl) ?_
        refine lv_lmul hx hb dX8_digest_16 ?_
        refine lv_aload_n hx hb dX8_digest_17 rfl (lv_at hl 0 rfl) ?_
        refine lv_iload_n hx hb dX8_digest_18 rfl (lv_at hl 2 rfl) ?_
        refine ya_csi (va_runV (As := [.int v_12]) (rest := [.long (31 * v_11)]) ⟨hx, hb, hml, hown, hts⟩ (c_X8_howMany l D cI cZ cO q_a0 q_a0_stage q_a0_draft q_a0_images q_a0_kept q_a0_plans q_a0_text q_a0_refused q_a0_stage_bends q_a0_stage_felt q_a0_stage_paces q_a0_stage_past q_a0_stage_bends_yards q_a0_stage_bends_truth q_a0_stage_bends_notes q_a0_stage_bends_words q_a0_stage_bends_mud q_a0_stage_felt_holds q_a0_stage_paces_rows q_a0_stage_past_rows q_a0_text_bytes a0_above a0_below a0_stage_kind a0_stage_fog a0_stage_here a0_stage_seconds a0_stage_crashes a0_stage_bends_size a0_stage_bends_notes a0_stage_bends_mud a0_stage_felt_size a0_stage_paces_size a0_stage_past_size a0_text_size a0_text_sort a0_text_start a0_text_behind v_12 _ hf) (cwV 1 hts gX8_digest_X8_howMany rfl rfl rfl (by decide +kernel) ⟨Nat.le_of_ble_eq_true rfl, Nat.le_of_ble_eq_true rfl⟩) (pv_ro (ci := 7) (q0 := 0) (hP.sub [0, 1, 2, 5, 7, 8, 10, 12, 13] rfl) hX rfl rfl) rfl rfl hl.1 rfl (lv_room (Nat.le_of_ble_eq_true rfl)) dX8_digest_19 ⟨Nat.zero_le _, Nat.zero_le _⟩) (fun r_15 hf => ?_)
        refine lv_i2l hx hb dX8_digest_22 rfl ?_
        refine lv_ladd hx hb dX8_digest_23 ?_
        refine lv_lstore_n (lv' := [(1, .long ((31 * v_11) + r_15.toInt64)), (0, .ref q_a0), (3, .int v_12)]) hx hb dX8_digest_24 rfl hl (by decide) rfl (fun ls hl => ?_)
        refine lv_iinc (v := v_12 + 1) (lv' := [(3, .int (v_12 + 1)), (1, .long ((31 * v_11) + r_15.toInt64)), (0, .ref q_a0)]) hx hb dX8_digest_25 hl (k := 2) rfl rfl (by decide) rfl (fun ls hl => ?_)
        refine lv_goto (tgt := 6) hx hb dX8_digest_28 (by decide) ?_
        exact ih ((31 * v_11) + r_15.toInt64) (v_12 + 1) ls hf (lv_sub hl [2, 1, 0] rfl)
  exact hlp_6 1000 1361 0 ls hf (lv_sub hl [2, 1, 0] rfl)
def p_X9_in (x0 : Int64) (x2 : Int64) (x4 : Int64) (Q : Int32 → Prop) : Prop :=
  if (lg_cmp x0 x2) < 0 then (Q 0) else (if 0 < (lg_cmp x0 x4) then (Q 0) else (Q 1))
def rmX9_in : Room := { frames := 0, cells := 0, slots := 0, locals := 0 }
set_option maxHeartbeats 4000000 in
set_option maxRecDepth 100000 in
theorem c_X9_in (l : Launch) (D : va_G) (cI cZ cO : ClassId) (x0 : Int64) (x2 : Int64) (x4 : Int64) (Q : Int32 → Prop) (hf : p_X9_in x0 x2 x4 Q) : Met l yX9_in wsX9_in rmX9_in (va_Pc [.long x0, .long x2, .long x4] (fun U => va_P D vwCl [] U.heap ∧ XK D cI cZ cO U)) (vp_Si Q) 0 0 (fun _ => False) := by
  refine Met.ofW (cc := cX9_in) (maxL := 6) (ret := (some .boolean)) (by decide) rfl ?_
  intro p e s m args below meth c s₁ B hml hv
  obtain ⟨rfl, hP, hX⟩ := hv
  have hK := hX.1
  have hx := B.exec
  have hb := B.bytes
  have hr := B.returns
  have hts := atoms_spec (ws := wsX9_in) B.pre
  have hown : s.vm.findClass RX9 = some m.cls := findClass_of_methodNamed B.named
  have hlocks := B.notSynchronized
  generalize hQQ : MQ below _ _ s _ _ _ = QQ
  have hl := lv_entry ([.long x0, .long x2, .long x4]) (n := 6) (Nat.le_of_ble_eq_true rfl)
  rw [lg_entry_eq]
  generalize (lg_sl ([.long x0, .long x2, .long x4]) ++ List.replicate (6 - (lg_sl ([.long x0, .long x2, .long x4])).length) Slot.unset).toArray = ls at hl ⊢
  have hl : lv_has ls 6 [(0, .long x0), (2, .long x2), (4, .long x4)] := hl
  unfold p_X9_in at hf
  refine lv_lload_n hx hb dX9_in_0 rfl (lv_at hl 0 rfl) ?_
  refine lv_lload_n hx hb dX9_in_1 rfl (lv_at hl 1 rfl) ?_
  refine W.lcmp hx hb dX9_in_2 ?_
  refine lv_if_lt (tgt := 17) hx hb dX9_in_3 (by decide) (fun c_1 => ?_) (fun c_1 => ?_)
  · have hf := it_t c_1 hf
    refine lv_iconst (v := 0) hx hb dX9_in_17 (by decide) ?_
    subst hQQ
    exact W.zret hx hb hr rfl (fun t ht hW => ⟨_, rfl, hf, ht⟩) (fun _ h => absurd h List.not_mem_nil) dX9_in_18
  · have hf := it_f c_1 hf
    refine lv_lload_n hx hb dX9_in_6 rfl (lv_at hl 0 rfl) ?_
    refine lv_lload hx hb dX9_in_7 (lv_at hl 2 rfl) ?_
    refine W.lcmp hx hb dX9_in_9 ?_
    refine lv_if_gt (tgt := 17) hx hb dX9_in_10 (by decide) (fun c_2 => ?_) (fun c_2 => ?_)
    · have hf := it_t c_2 hf
      refine lv_iconst (v := 0) hx hb dX9_in_17 (by decide) ?_
      subst hQQ
      exact W.zret hx hb hr rfl (fun t ht hW => ⟨_, rfl, hf, ht⟩) (fun _ h => absurd h List.not_mem_nil) dX9_in_18
    · have hf := it_f c_2 hf
      refine lv_iconst (v := 1) hx hb dX9_in_13 (by decide) ?_
      refine lv_goto (tgt := 18) hx hb dX9_in_14 (by decide) ?_
      subst hQQ
      exact W.zret hx hb hr rfl (fun t ht hW => ⟨_, rfl, hf, ht⟩) (fun _ h => absurd h List.not_mem_nil) dX9_in_18
def p_X9_bad (a0_refused : Nat → Int32) (x1 : Int32) (Q : Int32 → (Nat → Int32) → Prop) : Prop :=
  Q x1 (upd a0_refused ((0 : Int32).toNatClampNeg) ((a0_refused (0 : Int32).toNatClampNeg) + 1))
def rmX9_bad : Room := { frames := 0, cells := 0, slots := 0, locals := 0 }
set_option maxHeartbeats 4000000 in
set_option maxRecDepth 100000 in
theorem c_X9_bad (l : Launch) (D : va_G) (cI cZ cO : ClassId) (q_a0 q_a0_told q_a0_kept q_a0_isKept q_a0_refused q_a0_manyBy q_a0_hers q_a0_his q_a0_hand q_a0_bytes q_a0_anew q_a0_values : Nat) (a0_above : Int64) (a0_below : Int64) (a0_bytesLong : Int32) (a0_tokenAt : Int32) (a0_tokenLong : Int32) (a0_token : Int32) (a0_value : Int32) (a0_refused : Nat → Int32) (sz : Nat) (x1 : Int32) (Q : Int32 → (Nat → Int32) → Prop) (hf : p_X9_bad a0_refused x1 Q) : Met l yX9_bad wsX9_bad rmX9_bad (va_Pc [.ref q_a0, .int x1] (fun U => U.heap.size = sz ∧ va_P D vwCl [(q_a0, .inr (8, [.ref q_a0_told, .ref q_a0_kept, .ref q_a0_isKept, .ref q_a0_refused, .long a0_above, .long a0_below, .ref q_a0_manyBy, .ref q_a0_hers, .ref q_a0_his, .ref q_a0_hand, .ref q_a0_bytes, .int a0_bytesLong, .int a0_tokenAt, .int a0_tokenLong, .int a0_token, .int a0_value, .ref q_a0_anew, .ref q_a0_values])), (q_a0_refused, .inl (cI, 3, .inl a0_refused))] U.heap ∧ XK D cI cZ cO U ∧ va_D (fun _ => True) [(q_a0, .inr (8, [.ref q_a0_told, .ref q_a0_kept, .ref q_a0_isKept, .ref q_a0_refused, .long a0_above, .long a0_below, .ref q_a0_manyBy, .ref q_a0_hers, .ref q_a0_his, .ref q_a0_hand, .ref q_a0_bytes, .int a0_bytesLong, .int a0_tokenAt, .int a0_tokenLong, .int a0_token, .int a0_value, .ref q_a0_anew, .ref q_a0_values])), (q_a0_refused, .inl (cI, 3, .inl a0_refused))])) (va_Qi (fun r (u : (Nat → Int32)) => Q r u) (fun (u : (Nat → Int32)) t => va_P D vwCl [(q_a0, .inr (8, [.ref q_a0_told, .ref q_a0_kept, .ref q_a0_isKept, .ref q_a0_refused, .long a0_above, .long a0_below, .ref q_a0_manyBy, .ref q_a0_hers, .ref q_a0_his, .ref q_a0_hand, .ref q_a0_bytes, .int a0_bytesLong, .int a0_tokenAt, .int a0_tokenLong, .int a0_token, .int a0_value, .ref q_a0_anew, .ref q_a0_values])), (q_a0_refused, .inl (cI, 3, .inl u))] t.heap ∧ va_D (va_A [(q_a0, .inr (8, [.ref q_a0_told, .ref q_a0_kept, .ref q_a0_isKept, .ref q_a0_refused, .long a0_above, .long a0_below, .ref q_a0_manyBy, .ref q_a0_hers, .ref q_a0_his, .ref q_a0_hand, .ref q_a0_bytes, .int a0_bytesLong, .int a0_tokenAt, .int a0_tokenLong, .int a0_token, .int a0_value, .ref q_a0_anew, .ref q_a0_values])), (q_a0_refused, .inl (cI, 3, .inl a0_refused))] sz) [(q_a0, .inr (8, [.ref q_a0_told, .ref q_a0_kept, .ref q_a0_isKept, .ref q_a0_refused, .long a0_above, .long a0_below, .ref q_a0_manyBy, .ref q_a0_hers, .ref q_a0_his, .ref q_a0_hand, .ref q_a0_bytes, .int a0_bytesLong, .int a0_tokenAt, .int a0_tokenLong, .int a0_token, .int a0_value, .ref q_a0_anew, .ref q_a0_values])), (q_a0_refused, .inl (cI, 3, .inl u))]) (va_A [(q_a0, .inr (8, [.ref q_a0_told, .ref q_a0_kept, .ref q_a0_isKept, .ref q_a0_refused, .long a0_above, .long a0_below, .ref q_a0_manyBy, .ref q_a0_hers, .ref q_a0_his, .ref q_a0_hand, .ref q_a0_bytes, .int a0_bytesLong, .int a0_tokenAt, .int a0_tokenLong, .int a0_token, .int a0_value, .ref q_a0_anew, .ref q_a0_values])), (q_a0_refused, .inl (cI, 3, .inl a0_refused))] sz)) 0 0 (va_A [(q_a0, .inr (8, [.ref q_a0_told, .ref q_a0_kept, .ref q_a0_isKept, .ref q_a0_refused, .long a0_above, .long a0_below, .ref q_a0_manyBy, .ref q_a0_hers, .ref q_a0_his, .ref q_a0_hand, .ref q_a0_bytes, .int a0_bytesLong, .int a0_tokenAt, .int a0_tokenLong, .int a0_token, .int a0_value, .ref q_a0_anew, .ref q_a0_values])), (q_a0_refused, .inl (cI, 3, .inl a0_refused))] sz) := by
  refine Met.ofW (cc := cX9_bad) (maxL := 2) (ret := (some .int)) (by decide) rfl ?_
  intro p e s m args below meth c s₁ B hml hv
  obtain ⟨rfl, hsz, hP, hX, hD0⟩ := hv
  have hK := hX.1
  have hx := B.exec
  have hb := B.bytes
  have hr := B.returns
  have hts := atoms_spec (ws := wsX9_bad) B.pre
  have hown : s.vm.findClass RX9 = some m.cls := findClass_of_methodNamed B.named
  have hlocks := B.notSynchronized
  have in_X9 : ∀ w ∈ wsX90, w ∈ wsX9_bad := fun _ h => List.mem_cons_of_mem _ (List.mem_append_right _ h)
  have kf_20 := hts (.fieldLink RX9 20 "LeftCrestModel" "refused" "[I") (by decide +kernel)
  subst hsz
  have hD := hD0.self (sz := s.heap.size)
  generalize hAe : va_A [(q_a0, .inr (8, [.ref q_a0_told, .ref q_a0_kept, .ref q_a0_isKept, .ref q_a0_refused, .long a0_above, .long a0_below, .ref q_a0_manyBy, .ref q_a0_hers, .ref q_a0_his, .ref q_a0_hand, .ref q_a0_bytes, .int a0_bytesLong, .int a0_tokenAt, .int a0_tokenLong, .int a0_token, .int a0_value, .ref q_a0_anew, .ref q_a0_values])), (q_a0_refused, .inl (cI, 3, .inl a0_refused))] s.heap.size = A at hD ⊢
  have hA : ∀ q : Nat, s.heap.size ≤ q → A q := fun q h => by rw [← hAe]; exact Or.inr h
  have hS : va_S A s.heap s.heap [] := va_S.rf
  have hP : va_P D vwCl [(q_a0, .inr (8, [.ref q_a0_told, .ref q_a0_kept, .ref q_a0_isKept, .ref q_a0_refused, .long a0_above, .long a0_below, .ref q_a0_manyBy, .ref q_a0_hers, .ref q_a0_his, .ref q_a0_hand, .ref q_a0_bytes, .int a0_bytesLong, .int a0_tokenAt, .int a0_tokenLong, .int a0_token, .int a0_value, .ref q_a0_anew, .ref q_a0_values])), (q_a0_refused, .inl (cI, 3, .inl a0_refused))] s.heap := hP
  generalize hQQ : MQ below _ _ s _ _ _ = QQ
  have hl := lv_entry ([.ref q_a0, .int x1]) (n := 2) (Nat.le_of_ble_eq_true rfl)
  rw [lg_entry_eq]
  generalize (lg_sl ([.ref q_a0, .int x1]) ++ List.replicate (2 - (lg_sl ([.ref q_a0, .int x1])).length) Slot.unset).toArray = ls at hl ⊢
  have hl : lv_has ls 2 [(0, .ref q_a0), (1, .int x1)] := hl
  unfold p_X9_bad at hf
  refine lv_aload_n hx hb dX9_bad_0 rfl (lv_at hl 0 rfl) ?_
  refine va_get (D := D) (ci := 8) (v := .ref q_a0_refused) (C := RX9) (T := TX9) (N := 18) hx hb hts in_X9 hown hK hP 0 rfl rfl 3 (by decide) kf_20 (fun _ h9 => h9) rfl dX9_bad_1 ?_
  refine lv_iconst (v := 0) hx hb dX9_bad_4 (by decide) ?_
  refine lv_dup2_11 hx hb dX9_bad_5 rfl rfl ?_
  refine va_iald hx hb hK hP 1 0 rfl rfl (by unfold vp_in; decide) dX9_bad_6 ?_
  refine lv_iconst (v := 1) hx hb dX9_bad_7 (by decide) ?_
  refine lv_iadd hx hb dX9_bad_8 ?_
  refine va_iast hx hb hK hP hD hS 1 0 rfl rfl (by unfold vp_in; decide) dX9_bad_9 (fun H locs hP hD hS => ?_)
  have hP : va_P D vwCl [(q_a0, .inr (8, [.ref q_a0_told, .ref q_a0_kept, .ref q_a0_isKept, .ref q_a0_refused, .long a0_above, .long a0_below, .ref q_a0_manyBy, .ref q_a0_hers, .ref q_a0_his, .ref q_a0_hand, .ref q_a0_bytes, .int a0_bytesLong, .int a0_tokenAt, .int a0_tokenLong, .int a0_token, .int a0_value, .ref q_a0_anew, .ref q_a0_values])), (q_a0_refused, .inl (cI, 3, .inl (upd a0_refused ((0 : Int32).toNatClampNeg) ((a0_refused (0 : Int32).toNatClampNeg) + 1))))] H := hP
  have hD : va_D A [(q_a0, .inr (8, [.ref q_a0_told, .ref q_a0_kept, .ref q_a0_isKept, .ref q_a0_refused, .long a0_above, .long a0_below, .ref q_a0_manyBy, .ref q_a0_hers, .ref q_a0_his, .ref q_a0_hand, .ref q_a0_bytes, .int a0_bytesLong, .int a0_tokenAt, .int a0_tokenLong, .int a0_token, .int a0_value, .ref q_a0_anew, .ref q_a0_values])), (q_a0_refused, .inl (cI, 3, .inl (upd a0_refused ((0 : Int32).toNatClampNeg) ((a0_refused (0 : Int32).toNatClampNeg) + 1))))] := hD
  refine lv_iload_n hx hb dX9_bad_10 rfl (lv_at hl 1 rfl) ?_
  subst hQQ
  have hP9 := hP.sub (ws' := [(q_a0, .inr (8, [.ref q_a0_told, .ref q_a0_kept, .ref q_a0_isKept, .ref q_a0_refused, .long a0_above, .long a0_below, .ref q_a0_manyBy, .ref q_a0_hers, .ref q_a0_his, .ref q_a0_hand, .ref q_a0_bytes, .int a0_bytesLong, .int a0_tokenAt, .int a0_tokenLong, .int a0_token, .int a0_value, .ref q_a0_anew, .ref q_a0_values])), (q_a0_refused, .inl (cI, 3, .inl (upd a0_refused ((0 : Int32).toNatClampNeg) ((a0_refused (0 : Int32).toNatClampNeg) + 1))))]) [0, 1] rfl
  have hD9 := hD.sub (ws' := [(q_a0, .inr (8, [.ref q_a0_told, .ref q_a0_kept, .ref q_a0_isKept, .ref q_a0_refused, .long a0_above, .long a0_below, .ref q_a0_manyBy, .ref q_a0_hers, .ref q_a0_his, .ref q_a0_hand, .ref q_a0_bytes, .int a0_bytesLong, .int a0_tokenAt, .int a0_tokenLong, .int a0_token, .int a0_value, .ref q_a0_anew, .ref q_a0_values])), (q_a0_refused, .inl (cI, 3, .inl (upd a0_refused ((0 : Int32).toNatClampNeg) ((a0_refused (0 : Int32).toNatClampNeg) + 1))))]) [0, 1] (by decide) rfl
  exact W.iret hx hb hr (fun t ht hW => ⟨⟨x1, (upd a0_refused ((0 : Int32).toNatClampNeg) ((a0_refused (0 : Int32).toNatClampNeg) + 1)), rfl, hf, by rw [ht]; exact hP9, hD9⟩, hS.F ht⟩) hS.2.2 dX9_bad_11
def p_X9_no (a0_refused : Nat → Int32) (Q : Int32 → (Nat → Int32) → Prop) : Prop :=
  Q (-3) (upd a0_refused ((1 : Int32).toNatClampNeg) ((a0_refused (1 : Int32).toNatClampNeg) + 1))
def rmX9_no : Room := { frames := 0, cells := 0, slots := 0, locals := 0 }
set_option maxHeartbeats 4000000 in
set_option maxRecDepth 100000 in
theorem c_X9_no (l : Launch) (D : va_G) (cI cZ cO : ClassId) (q_a0 q_a0_told q_a0_kept q_a0_isKept q_a0_refused q_a0_manyBy q_a0_hers q_a0_his q_a0_hand q_a0_bytes q_a0_anew q_a0_values : Nat) (a0_above : Int64) (a0_below : Int64) (a0_bytesLong : Int32) (a0_tokenAt : Int32) (a0_tokenLong : Int32) (a0_token : Int32) (a0_value : Int32) (a0_refused : Nat → Int32) (sz : Nat) (Q : Int32 → (Nat → Int32) → Prop) (hf : p_X9_no a0_refused Q) : Met l yX9_no wsX9_no rmX9_no (va_Pc [.ref q_a0] (fun U => U.heap.size = sz ∧ va_P D vwCl [(q_a0, .inr (8, [.ref q_a0_told, .ref q_a0_kept, .ref q_a0_isKept, .ref q_a0_refused, .long a0_above, .long a0_below, .ref q_a0_manyBy, .ref q_a0_hers, .ref q_a0_his, .ref q_a0_hand, .ref q_a0_bytes, .int a0_bytesLong, .int a0_tokenAt, .int a0_tokenLong, .int a0_token, .int a0_value, .ref q_a0_anew, .ref q_a0_values])), (q_a0_refused, .inl (cI, 3, .inl a0_refused))] U.heap ∧ XK D cI cZ cO U ∧ va_D (fun _ => True) [(q_a0, .inr (8, [.ref q_a0_told, .ref q_a0_kept, .ref q_a0_isKept, .ref q_a0_refused, .long a0_above, .long a0_below, .ref q_a0_manyBy, .ref q_a0_hers, .ref q_a0_his, .ref q_a0_hand, .ref q_a0_bytes, .int a0_bytesLong, .int a0_tokenAt, .int a0_tokenLong, .int a0_token, .int a0_value, .ref q_a0_anew, .ref q_a0_values])), (q_a0_refused, .inl (cI, 3, .inl a0_refused))])) (va_Qi (fun r (u : (Nat → Int32)) => Q r u) (fun (u : (Nat → Int32)) t => va_P D vwCl [(q_a0, .inr (8, [.ref q_a0_told, .ref q_a0_kept, .ref q_a0_isKept, .ref q_a0_refused, .long a0_above, .long a0_below, .ref q_a0_manyBy, .ref q_a0_hers, .ref q_a0_his, .ref q_a0_hand, .ref q_a0_bytes, .int a0_bytesLong, .int a0_tokenAt, .int a0_tokenLong, .int a0_token, .int a0_value, .ref q_a0_anew, .ref q_a0_values])), (q_a0_refused, .inl (cI, 3, .inl u))] t.heap ∧ va_D (va_A [(q_a0, .inr (8, [.ref q_a0_told, .ref q_a0_kept, .ref q_a0_isKept, .ref q_a0_refused, .long a0_above, .long a0_below, .ref q_a0_manyBy, .ref q_a0_hers, .ref q_a0_his, .ref q_a0_hand, .ref q_a0_bytes, .int a0_bytesLong, .int a0_tokenAt, .int a0_tokenLong, .int a0_token, .int a0_value, .ref q_a0_anew, .ref q_a0_values])), (q_a0_refused, .inl (cI, 3, .inl a0_refused))] sz) [(q_a0, .inr (8, [.ref q_a0_told, .ref q_a0_kept, .ref q_a0_isKept, .ref q_a0_refused, .long a0_above, .long a0_below, .ref q_a0_manyBy, .ref q_a0_hers, .ref q_a0_his, .ref q_a0_hand, .ref q_a0_bytes, .int a0_bytesLong, .int a0_tokenAt, .int a0_tokenLong, .int a0_token, .int a0_value, .ref q_a0_anew, .ref q_a0_values])), (q_a0_refused, .inl (cI, 3, .inl u))]) (va_A [(q_a0, .inr (8, [.ref q_a0_told, .ref q_a0_kept, .ref q_a0_isKept, .ref q_a0_refused, .long a0_above, .long a0_below, .ref q_a0_manyBy, .ref q_a0_hers, .ref q_a0_his, .ref q_a0_hand, .ref q_a0_bytes, .int a0_bytesLong, .int a0_tokenAt, .int a0_tokenLong, .int a0_token, .int a0_value, .ref q_a0_anew, .ref q_a0_values])), (q_a0_refused, .inl (cI, 3, .inl a0_refused))] sz)) 0 0 (va_A [(q_a0, .inr (8, [.ref q_a0_told, .ref q_a0_kept, .ref q_a0_isKept, .ref q_a0_refused, .long a0_above, .long a0_below, .ref q_a0_manyBy, .ref q_a0_hers, .ref q_a0_his, .ref q_a0_hand, .ref q_a0_bytes, .int a0_bytesLong, .int a0_tokenAt, .int a0_tokenLong, .int a0_token, .int a0_value, .ref q_a0_anew, .ref q_a0_values])), (q_a0_refused, .inl (cI, 3, .inl a0_refused))] sz) := by
  refine Met.ofW (cc := cX9_no) (maxL := 1) (ret := (some .int)) (by decide) rfl ?_
  intro p e s m args below meth c s₁ B hml hv
  obtain ⟨rfl, hsz, hP, hX, hD0⟩ := hv
  have hK := hX.1
  have hx := B.exec
  have hb := B.bytes
  have hr := B.returns
  have hts := atoms_spec (ws := wsX9_no) B.pre
  have hown : s.vm.findClass RX9 = some m.cls := findClass_of_methodNamed B.named
  have hlocks := B.notSynchronized
  have in_X9 : ∀ w ∈ wsX90, w ∈ wsX9_no := fun _ h => List.mem_cons_of_mem _ (List.mem_append_right _ h)
  have kf_20 := hts (.fieldLink RX9 20 "LeftCrestModel" "refused" "[I") (by decide +kernel)
  subst hsz
  have hD := hD0.self (sz := s.heap.size)
  generalize hAe : va_A [(q_a0, .inr (8, [.ref q_a0_told, .ref q_a0_kept, .ref q_a0_isKept, .ref q_a0_refused, .long a0_above, .long a0_below, .ref q_a0_manyBy, .ref q_a0_hers, .ref q_a0_his, .ref q_a0_hand, .ref q_a0_bytes, .int a0_bytesLong, .int a0_tokenAt, .int a0_tokenLong, .int a0_token, .int a0_value, .ref q_a0_anew, .ref q_a0_values])), (q_a0_refused, .inl (cI, 3, .inl a0_refused))] s.heap.size = A at hD ⊢
  have hA : ∀ q : Nat, s.heap.size ≤ q → A q := fun q h => by rw [← hAe]; exact Or.inr h
  have hS : va_S A s.heap s.heap [] := va_S.rf
  have hP : va_P D vwCl [(q_a0, .inr (8, [.ref q_a0_told, .ref q_a0_kept, .ref q_a0_isKept, .ref q_a0_refused, .long a0_above, .long a0_below, .ref q_a0_manyBy, .ref q_a0_hers, .ref q_a0_his, .ref q_a0_hand, .ref q_a0_bytes, .int a0_bytesLong, .int a0_tokenAt, .int a0_tokenLong, .int a0_token, .int a0_value, .ref q_a0_anew, .ref q_a0_values])), (q_a0_refused, .inl (cI, 3, .inl a0_refused))] s.heap := hP
  generalize hQQ : MQ below _ _ s _ _ _ = QQ
  have hl := lv_entry ([.ref q_a0]) (n := 1) (Nat.le_of_ble_eq_true rfl)
  rw [lg_entry_eq]
  generalize (lg_sl ([.ref q_a0]) ++ List.replicate (1 - (lg_sl ([.ref q_a0])).length) Slot.unset).toArray = ls at hl ⊢
  have hl : lv_has ls 1 [(0, .ref q_a0)] := hl
  unfold p_X9_no at hf
  refine lv_aload_n hx hb dX9_no_0 rfl (lv_at hl 0 rfl) ?_
  refine va_get (D := D) (ci := 8) (v := .ref q_a0_refused) (C := RX9) (T := TX9) (N := 18) hx hb hts in_X9 hown hK hP 0 rfl rfl 3 (by decide) kf_20 (fun _ h9 => h9) rfl dX9_no_1 ?_
  refine lv_iconst (v := 1) hx hb dX9_no_4 (by decide) ?_
  refine lv_dup2_11 hx hb dX9_no_5 rfl rfl ?_
  refine va_iald hx hb hK hP 1 0 rfl rfl (by unfold vp_in; decide) dX9_no_6 ?_
  refine lv_iconst (v := 1) hx hb dX9_no_7 (by decide) ?_
  refine lv_iadd hx hb dX9_no_8 ?_
  refine va_iast hx hb hK hP hD hS 1 0 rfl rfl (by unfold vp_in; decide) dX9_no_9 (fun H locs hP hD hS => ?_)
  have hP : va_P D vwCl [(q_a0, .inr (8, [.ref q_a0_told, .ref q_a0_kept, .ref q_a0_isKept, .ref q_a0_refused, .long a0_above, .long a0_below, .ref q_a0_manyBy, .ref q_a0_hers, .ref q_a0_his, .ref q_a0_hand, .ref q_a0_bytes, .int a0_bytesLong, .int a0_tokenAt, .int a0_tokenLong, .int a0_token, .int a0_value, .ref q_a0_anew, .ref q_a0_values])), (q_a0_refused, .inl (cI, 3, .inl (upd a0_refused ((1 : Int32).toNatClampNeg) ((a0_refused (1 : Int32).toNatClampNeg) + 1))))] H := hP
  have hD : va_D A [(q_a0, .inr (8, [.ref q_a0_told, .ref q_a0_kept, .ref q_a0_isKept, .ref q_a0_refused, .long a0_above, .long a0_below, .ref q_a0_manyBy, .ref q_a0_hers, .ref q_a0_his, .ref q_a0_hand, .ref q_a0_bytes, .int a0_bytesLong, .int a0_tokenAt, .int a0_tokenLong, .int a0_token, .int a0_value, .ref q_a0_anew, .ref q_a0_values])), (q_a0_refused, .inl (cI, 3, .inl (upd a0_refused ((1 : Int32).toNatClampNeg) ((a0_refused (1 : Int32).toNatClampNeg) + 1))))] := hD
  refine lv_bipush (v := (-3)) hx hb dX9_no_10 (by decide) ?_
  subst hQQ
  have hP9 := hP.sub (ws' := [(q_a0, .inr (8, [.ref q_a0_told, .ref q_a0_kept, .ref q_a0_isKept, .ref q_a0_refused, .long a0_above, .long a0_below, .ref q_a0_manyBy, .ref q_a0_hers, .ref q_a0_his, .ref q_a0_hand, .ref q_a0_bytes, .int a0_bytesLong, .int a0_tokenAt, .int a0_tokenLong, .int a0_token, .int a0_value, .ref q_a0_anew, .ref q_a0_values])), (q_a0_refused, .inl (cI, 3, .inl (upd a0_refused ((1 : Int32).toNatClampNeg) ((a0_refused (1 : Int32).toNatClampNeg) + 1))))]) [0, 1] rfl
  have hD9 := hD.sub (ws' := [(q_a0, .inr (8, [.ref q_a0_told, .ref q_a0_kept, .ref q_a0_isKept, .ref q_a0_refused, .long a0_above, .long a0_below, .ref q_a0_manyBy, .ref q_a0_hers, .ref q_a0_his, .ref q_a0_hand, .ref q_a0_bytes, .int a0_bytesLong, .int a0_tokenAt, .int a0_tokenLong, .int a0_token, .int a0_value, .ref q_a0_anew, .ref q_a0_values])), (q_a0_refused, .inl (cI, 3, .inl (upd a0_refused ((1 : Int32).toNatClampNeg) ((a0_refused (1 : Int32).toNatClampNeg) + 1))))]) [0, 1] (by decide) rfl
  exact W.iret hx hb hr (fun t ht hW => ⟨⟨(-3), (upd a0_refused ((1 : Int32).toNatClampNeg) ((a0_refused (1 : Int32).toNatClampNeg) + 1)), rfl, hf, by rw [ht]; exact hP9, hD9⟩, hS.F ht⟩) hS.2.2 dX9_no_12
def p_X9_full (a0_refused : Nat → Int32) (Q : Int32 → (Nat → Int32) → Prop) : Prop :=
  Q (-4) (upd a0_refused ((2 : Int32).toNatClampNeg) ((a0_refused (2 : Int32).toNatClampNeg) + 1))
def rmX9_full : Room := { frames := 0, cells := 0, slots := 0, locals := 0 }
set_option maxHeartbeats 4000000 in
set_option maxRecDepth 100000 in
theorem c_X9_full (l : Launch) (D : va_G) (cI cZ cO : ClassId) (q_a0 q_a0_told q_a0_kept q_a0_isKept q_a0_refused q_a0_manyBy q_a0_hers q_a0_his q_a0_hand q_a0_bytes q_a0_anew q_a0_values : Nat) (a0_above : Int64) (a0_below : Int64) (a0_bytesLong : Int32) (a0_tokenAt : Int32) (a0_tokenLong : Int32) (a0_token : Int32) (a0_value : Int32) (a0_refused : Nat → Int32) (sz : Nat) (Q : Int32 → (Nat → Int32) → Prop) (hf : p_X9_full a0_refused Q) : Met l yX9_full wsX9_full rmX9_full (va_Pc [.ref q_a0] (fun U => U.heap.size = sz ∧ va_P D vwCl [(q_a0, .inr (8, [.ref q_a0_told, .ref q_a0_kept, .ref q_a0_isKept, .ref q_a0_refused, .long a0_above, .long a0_below, .ref q_a0_manyBy, .ref q_a0_hers, .ref q_a0_his, .ref q_a0_hand, .ref q_a0_bytes, .int a0_bytesLong, .int a0_tokenAt, .int a0_tokenLong, .int a0_token, .int a0_value, .ref q_a0_anew, .ref q_a0_values])), (q_a0_refused, .inl (cI, 3, .inl a0_refused))] U.heap ∧ XK D cI cZ cO U ∧ va_D (fun _ => True) [(q_a0, .inr (8, [.ref q_a0_told, .ref q_a0_kept, .ref q_a0_isKept, .ref q_a0_refused, .long a0_above, .long a0_below, .ref q_a0_manyBy, .ref q_a0_hers, .ref q_a0_his, .ref q_a0_hand, .ref q_a0_bytes, .int a0_bytesLong, .int a0_tokenAt, .int a0_tokenLong, .int a0_token, .int a0_value, .ref q_a0_anew, .ref q_a0_values])), (q_a0_refused, .inl (cI, 3, .inl a0_refused))])) (va_Qi (fun r (u : (Nat → Int32)) => Q r u) (fun (u : (Nat → Int32)) t => va_P D vwCl [(q_a0, .inr (8, [.ref q_a0_told, .ref q_a0_kept, .ref q_a0_isKept, .ref q_a0_refused, .long a0_above, .long a0_below, .ref q_a0_manyBy, .ref q_a0_hers, .ref q_a0_his, .ref q_a0_hand, .ref q_a0_bytes, .int a0_bytesLong, .int a0_tokenAt, .int a0_tokenLong, .int a0_token, .int a0_value, .ref q_a0_anew, .ref q_a0_values])), (q_a0_refused, .inl (cI, 3, .inl u))] t.heap ∧ va_D (va_A [(q_a0, .inr (8, [.ref q_a0_told, .ref q_a0_kept, .ref q_a0_isKept, .ref q_a0_refused, .long a0_above, .long a0_below, .ref q_a0_manyBy, .ref q_a0_hers, .ref q_a0_his, .ref q_a0_hand, .ref q_a0_bytes, .int a0_bytesLong, .int a0_tokenAt, .int a0_tokenLong, .int a0_token, .int a0_value, .ref q_a0_anew, .ref q_a0_values])), (q_a0_refused, .inl (cI, 3, .inl a0_refused))] sz) [(q_a0, .inr (8, [.ref q_a0_told, .ref q_a0_kept, .ref q_a0_isKept, .ref q_a0_refused, .long a0_above, .long a0_below, .ref q_a0_manyBy, .ref q_a0_hers, .ref q_a0_his, .ref q_a0_hand, .ref q_a0_bytes, .int a0_bytesLong, .int a0_tokenAt, .int a0_tokenLong, .int a0_token, .int a0_value, .ref q_a0_anew, .ref q_a0_values])), (q_a0_refused, .inl (cI, 3, .inl u))]) (va_A [(q_a0, .inr (8, [.ref q_a0_told, .ref q_a0_kept, .ref q_a0_isKept, .ref q_a0_refused, .long a0_above, .long a0_below, .ref q_a0_manyBy, .ref q_a0_hers, .ref q_a0_his, .ref q_a0_hand, .ref q_a0_bytes, .int a0_bytesLong, .int a0_tokenAt, .int a0_tokenLong, .int a0_token, .int a0_value, .ref q_a0_anew, .ref q_a0_values])), (q_a0_refused, .inl (cI, 3, .inl a0_refused))] sz)) 0 0 (va_A [(q_a0, .inr (8, [.ref q_a0_told, .ref q_a0_kept, .ref q_a0_isKept, .ref q_a0_refused, .long a0_above, .long a0_below, .ref q_a0_manyBy, .ref q_a0_hers, .ref q_a0_his, .ref q_a0_hand, .ref q_a0_bytes, .int a0_bytesLong, .int a0_tokenAt, .int a0_tokenLong, .int a0_token, .int a0_value, .ref q_a0_anew, .ref q_a0_values])), (q_a0_refused, .inl (cI, 3, .inl a0_refused))] sz) := by
  refine Met.ofW (cc := cX9_full) (maxL := 1) (ret := (some .int)) (by decide) rfl ?_
  intro p e s m args below meth c s₁ B hml hv
  obtain ⟨rfl, hsz, hP, hX, hD0⟩ := hv
  have hK := hX.1
  have hx := B.exec
  have hb := B.bytes
  have hr := B.returns
  have hts := atoms_spec (ws := wsX9_full) B.pre
  have hown : s.vm.findClass RX9 = some m.cls := findClass_of_methodNamed B.named
  have hlocks := B.notSynchronized
  have in_X9 : ∀ w ∈ wsX90, w ∈ wsX9_full := fun _ h => List.mem_cons_of_mem _ (List.mem_append_right _ h)
  have kf_20 := hts (.fieldLink RX9 20 "LeftCrestModel" "refused" "[I") (by decide +kernel)
  subst hsz
  have hD := hD0.self (sz := s.heap.size)
  generalize hAe : va_A [(q_a0, .inr (8, [.ref q_a0_told, .ref q_a0_kept, .ref q_a0_isKept, .ref q_a0_refused, .long a0_above, .long a0_below, .ref q_a0_manyBy, .ref q_a0_hers, .ref q_a0_his, .ref q_a0_hand, .ref q_a0_bytes, .int a0_bytesLong, .int a0_tokenAt, .int a0_tokenLong, .int a0_token, .int a0_value, .ref q_a0_anew, .ref q_a0_values])), (q_a0_refused, .inl (cI, 3, .inl a0_refused))] s.heap.size = A at hD ⊢
  have hA : ∀ q : Nat, s.heap.size ≤ q → A q := fun q h => by rw [← hAe]; exact Or.inr h
  have hS : va_S A s.heap s.heap [] := va_S.rf
  have hP : va_P D vwCl [(q_a0, .inr (8, [.ref q_a0_told, .ref q_a0_kept, .ref q_a0_isKept, .ref q_a0_refused, .long a0_above, .long a0_below, .ref q_a0_manyBy, .ref q_a0_hers, .ref q_a0_his, .ref q_a0_hand, .ref q_a0_bytes, .int a0_bytesLong, .int a0_tokenAt, .int a0_tokenLong, .int a0_token, .int a0_value, .ref q_a0_anew, .ref q_a0_values])), (q_a0_refused, .inl (cI, 3, .inl a0_refused))] s.heap := hP
  generalize hQQ : MQ below _ _ s _ _ _ = QQ
  have hl := lv_entry ([.ref q_a0]) (n := 1) (Nat.le_of_ble_eq_true rfl)
  rw [lg_entry_eq]
  generalize (lg_sl ([.ref q_a0]) ++ List.replicate (1 - (lg_sl ([.ref q_a0])).length) Slot.unset).toArray = ls at hl ⊢
  have hl : lv_has ls 1 [(0, .ref q_a0)] := hl
  unfold p_X9_full at hf
  refine lv_aload_n hx hb dX9_full_0 rfl (lv_at hl 0 rfl) ?_
  refine va_get (D := D) (ci := 8) (v := .ref q_a0_refused) (C := RX9) (T := TX9) (N := 18) hx hb hts in_X9 hown hK hP 0 rfl rfl 3 (by decide) kf_20 (fun _ h9 => h9) rfl dX9_full_1 ?_
  refine lv_iconst (v := 2) hx hb dX9_full_4 (by decide) ?_
  refine lv_dup2_11 hx hb dX9_full_5 rfl rfl ?_
  refine va_iald hx hb hK hP 1 0 rfl rfl (by unfold vp_in; decide) dX9_full_6 ?_
  refine lv_iconst (v := 1) hx hb dX9_full_7 (by decide) ?_
  refine lv_iadd hx hb dX9_full_8 ?_
  refine va_iast hx hb hK hP hD hS 1 0 rfl rfl (by unfold vp_in; decide) dX9_full_9 (fun H locs hP hD hS => ?_)
  have hP : va_P D vwCl [(q_a0, .inr (8, [.ref q_a0_told, .ref q_a0_kept, .ref q_a0_isKept, .ref q_a0_refused, .long a0_above, .long a0_below, .ref q_a0_manyBy, .ref q_a0_hers, .ref q_a0_his, .ref q_a0_hand, .ref q_a0_bytes, .int a0_bytesLong, .int a0_tokenAt, .int a0_tokenLong, .int a0_token, .int a0_value, .ref q_a0_anew, .ref q_a0_values])), (q_a0_refused, .inl (cI, 3, .inl (upd a0_refused ((2 : Int32).toNatClampNeg) ((a0_refused (2 : Int32).toNatClampNeg) + 1))))] H := hP
  have hD : va_D A [(q_a0, .inr (8, [.ref q_a0_told, .ref q_a0_kept, .ref q_a0_isKept, .ref q_a0_refused, .long a0_above, .long a0_below, .ref q_a0_manyBy, .ref q_a0_hers, .ref q_a0_his, .ref q_a0_hand, .ref q_a0_bytes, .int a0_bytesLong, .int a0_tokenAt, .int a0_tokenLong, .int a0_token, .int a0_value, .ref q_a0_anew, .ref q_a0_values])), (q_a0_refused, .inl (cI, 3, .inl (upd a0_refused ((2 : Int32).toNatClampNeg) ((a0_refused (2 : Int32).toNatClampNeg) + 1))))] := hD
  refine lv_bipush (v := (-4)) hx hb dX9_full_10 (by decide) ?_
  subst hQQ
  have hP9 := hP.sub (ws' := [(q_a0, .inr (8, [.ref q_a0_told, .ref q_a0_kept, .ref q_a0_isKept, .ref q_a0_refused, .long a0_above, .long a0_below, .ref q_a0_manyBy, .ref q_a0_hers, .ref q_a0_his, .ref q_a0_hand, .ref q_a0_bytes, .int a0_bytesLong, .int a0_tokenAt, .int a0_tokenLong, .int a0_token, .int a0_value, .ref q_a0_anew, .ref q_a0_values])), (q_a0_refused, .inl (cI, 3, .inl (upd a0_refused ((2 : Int32).toNatClampNeg) ((a0_refused (2 : Int32).toNatClampNeg) + 1))))]) [0, 1] rfl
  have hD9 := hD.sub (ws' := [(q_a0, .inr (8, [.ref q_a0_told, .ref q_a0_kept, .ref q_a0_isKept, .ref q_a0_refused, .long a0_above, .long a0_below, .ref q_a0_manyBy, .ref q_a0_hers, .ref q_a0_his, .ref q_a0_hand, .ref q_a0_bytes, .int a0_bytesLong, .int a0_tokenAt, .int a0_tokenLong, .int a0_token, .int a0_value, .ref q_a0_anew, .ref q_a0_values])), (q_a0_refused, .inl (cI, 3, .inl (upd a0_refused ((2 : Int32).toNatClampNeg) ((a0_refused (2 : Int32).toNatClampNeg) + 1))))]) [0, 1] (by decide) rfl
  exact W.iret hx hb hr (fun t ht hW => ⟨⟨(-4), (upd a0_refused ((2 : Int32).toNatClampNeg) ((a0_refused (2 : Int32).toNatClampNeg) + 1)), rfl, hf, by rw [ht]; exact hP9, hD9⟩, hS.F ht⟩) hS.2.2 dX9_full_12
