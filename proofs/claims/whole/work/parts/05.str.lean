/-! the four words of the text: what the Statement says of them -/
def strL : List Nat := [4, 4, 3, 5]
def strB : List (List Int32) := [[114, 111, 97, 100], [98, 101, 110, 100], [109, 117, 100], [100, 114, 105, 118, 101]]
def strC (i : Nat) : Nat → Int32 := fun j => (strB.getD i []).getD j 0
theorem strH : ∀ i, i < 4 → ∀ j, j < strL.getD i 0 → ((strC i j &&& 255).toUInt32 % 65536).toInt32 = strC i j := by decide
theorem strN : ∀ i, i < 4 → strL.getD i 0 < 2 ^ 31 := by decide
/-- one word, and the statics that its methods ask -/
def SGA (A : Nat → Prop) (ak av L : Nat) (ch : Nat → Int32) (U : State) (H : Heap) : Prop := va_O "java/lang/String" ak A U H ∧ va_OF "java/lang/String" "coder" "B" (.int 0) ak A U H ∧ va_OF "java/lang/String" "value" "[B" (.ref av) ak A U H ∧ va_T .byte av L (fun j => .int (ch j)) A U H ∧ va_Z "java/lang/String" "COMPACT_STRINGS" "Z" (.int 1) A U H ∧ va_Zq "jdk/internal/util/Preconditions" "SIOOBE_FORMATTER" "Ljava/util/function/BiFunction;" A U H
def SG (ak av L : Nat) (ch : Nat → Int32) (U : State) : Prop := SGA (fun _ => False) ak av L ch U U.heap
theorem SGA.moved {A : Nat → Prop} {ak av L : Nat} {ch : Nat → Int32} {u U : State} {H : Heap} (hvm : u.vm.Alike U.vm) (h : SGA A ak av L ch u H) : SGA A ak av L ch U H := ⟨h.1.moved hvm, h.2.1.moved hvm, h.2.2.1.moved hvm, h.2.2.2.1.moved hvm, h.2.2.2.2.1.moved hvm, h.2.2.2.2.2.moved hvm⟩
theorem SGA.kept {A : Nat → Prop} {ak av L : Nat} {ch : Nat → Int32} {U : State} {H H1 : Heap} (h : SGA A ak av L ch U H) (hq : ∀ a : Nat, a < H.size → ¬ A a → H1[a]? = H[a]?) : SGA A ak av L ch U H1 := ⟨h.1.kept hq, h.2.1.kept hq, h.2.2.1.kept hq, h.2.2.2.1.kept hq, h.2.2.2.2.1.kept hq, h.2.2.2.2.2.kept hq⟩
theorem SGA.narrow {A B : Nat → Prop} {ak av L : Nat} {ch : Nat → Int32} {U : State} {H : Heap} (h : SGA A ak av L ch U H) (hAB : ∀ q, B q → A q) : SGA B ak av L ch U H := ⟨h.1.narrow hAB, h.2.1.narrow hAB, h.2.2.1.narrow hAB, h.2.2.2.1.narrow hAB, h.2.2.2.2.1.narrow hAB, h.2.2.2.2.2.narrow hAB⟩
theorem SG.to {ak av L : Nat} {ch : Nat → Int32} {u U : State} (hvm : u.vm.Alike U.vm) (hh : U.heap = u.heap) (h : SG ak av L ch u) : SG ak av L ch U := by
  show SGA _ _ _ _ _ U U.heap
  rw [hh]
  exact SGA.moved hvm h
def SW (ad av : Nat → Nat) (A : Nat → Prop) (U : State) : Prop := (∀ i, i < 4 → SGA A (ad i) (av i) (strL.getD i 0) (strC i) U U.heap) ∧ vk_R RX7 42 "road" (ad 0) U ∧ vk_R RX7 63 "bend" (ad 1) U ∧ vk_R RX7 68 "mud" (ad 2) U ∧ vk_R RX7 73 "drive" (ad 3) U
theorem SW.r0 {ad av : Nat → Nat} {A : Nat → Prop} {U : State} (h : SW ad av A U) : vk_R RX7 42 "road" (ad 0) U := h.2.1
theorem SW.r1 {ad av : Nat → Nat} {A : Nat → Prop} {U : State} (h : SW ad av A U) : vk_R RX7 63 "bend" (ad 1) U := h.2.2.1
theorem SW.r2 {ad av : Nat → Nat} {A : Nat → Prop} {U : State} (h : SW ad av A U) : vk_R RX7 68 "mud" (ad 2) U := h.2.2.2.1
theorem SW.r3 {ad av : Nat → Nat} {A : Nat → Prop} {U : State} (h : SW ad av A U) : vk_R RX7 73 "drive" (ad 3) U := h.2.2.2.2
theorem SW.sg {ad av : Nat → Nat} {A : Nat → Prop} {s U : State} {H : Heap} {locs : List Loc} {i : Nat} (hi : i < 4) (h : SW ad av A s) (hS : va_S A s.heap H locs) (hU : U.heap = H) (hW : s.WarmedH U.vm) : SG (ad i) (av i) (strL.getD i 0) (strC i) U := by
  show SGA _ _ _ _ _ U U.heap
  rw [hU]
  exact (((h.1 i hi).kept hS.2.1).narrow (fun _ z => z.elim)).moved hW.alike
theorem SW.pass {ad av : Nat → Nat} {A B : Nat → Prop} {s U : State} {H : Heap} {locs : List Loc} (h : SW ad av A s) (hS : va_S A s.heap H locs) (hB : ∀ q, B q → A q) (hU : U.heap = H) (hW : s.WarmedH U.vm) : SW ad av B U := by
  refine ⟨fun i hi => ?_, h.r0.warm hW, h.r1.warm hW, h.r2.warm hW, h.r3.warm hW⟩
  rw [hU]
  exact (((h.1 i hi).kept hS.2.1).narrow hB).moved hW.alike
theorem SW.call {ad av : Nat → Nat} {A : Nat → Prop} {U : State} {g : JFrame} {mk : MethodId} {a : Array Value} (h : SW ad av A U) : SW ad av A (U.calling g mk a) := ⟨fun i hi => SGA.moved (u := U) (U := U.calling g mk a) (Vm.Alike.refl U.vm) (h.1 i hi), h.r0.same rfl, h.r1.same rfl, h.r2.same rfl, h.r3.same rfl⟩
theorem SG.call {ak av L : Nat} {ch : Nat → Int32} {U : State} {g : JFrame} {mk : MethodId} {a : Array Value} (h : SG ak av L ch U) : SG ak av L ch (U.calling g mk a) := SG.to (u := U) (U := U.calling g mk a) (Vm.Alike.refl U.vm) rfl h
theorem SG.warm {ak av L : Nat} {ch : Nat → Int32} {s U : State} (hW : s.WarmedH U.vm) (hU : U.heap = s.heap) (h : SG ak av L ch s) : SG ak av L ch U := SG.to hW.alike hU h
section YS
variable {D : va_G} {cI cZ cO : ClassId} {s : State} {H : Heap} {As : List Value} {wc : va_W} {ak av L : Nat} {ch : Nat → Int32}
theorem ps_sg (h : SG ak av L ch s) : PreS s s.heap (va_Pc As (SG ak av L ch)) As := ⟨fun a U g mk q => ⟨q.1, q.2.call⟩, fun U hU hW => ⟨rfl, h.warm hW hU⟩⟩
theorem pv_sg (h : SG ak av L ch s) : PreV s s.heap RJ0 ak (va_Pc (.ref ak :: As) (SG ak av L ch)) As :=
  ⟨(ps_sg h).1, by obtain ⟨cell, h1, h2, h3, -⟩ := h.1; exact ⟨cell, h1, h2, h3⟩, (ps_sg h).2⟩
theorem pv_rg {ci q0 b : Nat} {q : vw_C} {fs : List Value} (hP : va_P D vwCl wc H) (hX : XK D cI cZ cO s) (hg : ∀ U : State, U.heap = H → s.WarmedH U.vm → SG ak av L ch U) (hc : vwCl[ci]? = some q) (he : wc[q0]? = some (b, .inr (ci, fs))) : PreV s H q.1 b (va_Pc (.ref b :: As) (fun U => va_P D vwCl wc U.heap ∧ XK D cI cZ cO U ∧ SG ak av L ch U)) As :=
  ⟨fun a U g mk q => ⟨q.1, q.2.1, q.2.2.1.same rfl, q.2.2.2.call⟩, va_recv hX.1 hP hc he, fun U hU hW => ⟨rfl, by rw [hU]; exact hP, hX.warm hW, hg U hU hW⟩⟩
theorem pv_rs {ci q0 b : Nat} {q : vw_C} {fs : List Value} {ad av : Nat → Nat} (hP : va_P D vwCl wc H) {A : Nat → Prop} (hD : va_D A wc) (hX : XK D cI cZ cO s) (hg : ∀ U : State, U.heap = H → s.WarmedH U.vm → SW ad av (va_A wc H.size) U) (hc : vwCl[ci]? = some q) (he : wc[q0]? = some (b, .inr (ci, fs))) : PreV s H q.1 b (va_Pc (.ref b :: As) (fun U => U.heap.size = H.size ∧ va_P D vwCl wc U.heap ∧ XK D cI cZ cO U ∧ va_D (fun _ => True) wc ∧ SW ad av (va_A wc H.size) U)) As :=
  ⟨fun a U g mk q => ⟨q.1, q.2.1, q.2.2.1, q.2.2.2.1.same rfl, q.2.2.2.2.1, q.2.2.2.2.2.call⟩, va_recv hX.1 hP hc he, fun U hU hW => ⟨rfl, by rw [hU], by rw [hU]; exact hP, hX.warm hW, hD.weaken (fun _ _ _ _ => trivial), hg U hU hW⟩⟩
end YS
def rmJ0_coder_7d493 : Room := { frames := 0, cells := 0, slots := 0, locals := 0 }
set_option maxHeartbeats 4000000 in
set_option maxRecDepth 100000 in
theorem c_J0_coder_7d493 (l : Launch) (ak av L : Nat) (ch : Nat → Int32) : Met l yJ0_coder_7d493 wsJ0_coder_7d493 rmJ0_coder_7d493 (va_Pc [.ref ak] (SG ak av L ch)) (vp_Si (fun r => r = 0)) 0 0 (fun _ => False) := by
  refine Met.ofW (cc := cJ0_coder_7d493) (maxL := 1) (ret := (some .byte)) (by decide) rfl ?_
  intro p e s m args below meth c s₁ B hml hv
  obtain ⟨rfl, hG⟩ := hv
  obtain ⟨hO, hCo, hVa, hTa, hZ, hZq⟩ := id hG
  have hx := B.exec
  have hb := B.bytes
  have hr := B.returns
  have hts := atoms_spec (ws := wsJ0_coder_7d493) B.pre
  have hown : s.vm.findClass RJ0 = some m.cls := findClass_of_methodNamed B.named
  have hlocks := B.notSynchronized
  have hS : va_S (fun _ => False) s.heap s.heap [] := va_S.rf
  generalize hQQ : MQ below _ _ s _ _ _ = QQ
  have hl := lv_entry ([.ref ak]) (n := 1) (Nat.le_of_ble_eq_true rfl)
  rw [lg_entry_eq]
  generalize (lg_sl ([.ref ak]) ++ List.replicate (1 - (lg_sl ([.ref ak])).length) Slot.unset).toArray = ls at hl ⊢
  have hl : lv_has ls 1 [(0, .ref ak)] := hl
  refine va_gets hx hb hZ hS hown (hts (.fieldLink RJ0 38 "java/lang/String" "COMPACT_STRINGS" "Z") (by decide +kernel)) (fun _ h => h) dJ0_coder_7d493_0 ?_
  refine lv_if_eq (tgt := 13) hx hb dJ0_coder_7d493_3 (by decide) (fun c_1 => absurd c_1 (by decide)) (fun c_1 => ?_)
  refine lv_aload_n hx hb dJ0_coder_7d493_6 rfl (lv_at hl 0 rfl) ?_
  refine vk_getf hx hb hCo hS hown (hts (.fieldLink RJ0 15 "java/lang/String" "coder" "B") (by decide +kernel)) (fun _ h => h) dJ0_coder_7d493_7 ?_
  refine lv_goto (tgt := 14) hx hb dJ0_coder_7d493_10 (by decide) ?_
  subst hQQ
  exact W.zret hx hb hr rfl (fun t ht hW => ⟨_, rfl, rfl, ht⟩) (fun _ h => absurd h List.not_mem_nil) dJ0_coder_7d493_14

def rmJ0_isLatin1_aae02 : Room := { frames := 0, cells := 0, slots := 0, locals := 0 }
set_option maxHeartbeats 4000000 in
set_option maxRecDepth 100000 in
theorem c_J0_isLatin1_aae02 (l : Launch) (ak av L : Nat) (ch : Nat → Int32) : Met l yJ0_isLatin1_aae02 wsJ0_isLatin1_aae02 rmJ0_isLatin1_aae02 (va_Pc [.ref ak] (SG ak av L ch)) (vp_Si (fun r => r = 1)) 0 0 (fun _ => False) := by
  refine Met.ofW (cc := cJ0_isLatin1_aae02) (maxL := 1) (ret := (some .boolean)) (by decide) rfl ?_
  intro p e s m args below meth c s₁ B hml hv
  obtain ⟨rfl, hG⟩ := hv
  obtain ⟨hO, hCo, hVa, hTa, hZ, hZq⟩ := id hG
  have hx := B.exec
  have hb := B.bytes
  have hr := B.returns
  have hts := atoms_spec (ws := wsJ0_isLatin1_aae02) B.pre
  have hown : s.vm.findClass RJ0 = some m.cls := findClass_of_methodNamed B.named
  have hlocks := B.notSynchronized
  have hS : va_S (fun _ => False) s.heap s.heap [] := va_S.rf
  generalize hQQ : MQ below _ _ s _ _ _ = QQ
  have hl := lv_entry ([.ref ak]) (n := 1) (Nat.le_of_ble_eq_true rfl)
  rw [lg_entry_eq]
  generalize (lg_sl ([.ref ak]) ++ List.replicate (1 - (lg_sl ([.ref ak])).length) Slot.unset).toArray = ls at hl ⊢
  have hl : lv_has ls 1 [(0, .ref ak)] := hl
  refine va_gets hx hb hZ hS hown (hts (.fieldLink RJ0 38 "java/lang/String" "COMPACT_STRINGS" "Z") (by decide +kernel)) (fun _ h => h) dJ0_isLatin1_aae02_0 ?_
  refine lv_if_eq (tgt := 17) hx hb dJ0_isLatin1_aae02_3 (by decide) (fun c_1 => absurd c_1 (by decide)) (fun c_1 => ?_)
  refine lv_aload_n hx hb dJ0_isLatin1_aae02_6 rfl (lv_at hl 0 rfl) ?_
  refine vk_getf hx hb hCo hS hown (hts (.fieldLink RJ0 15 "java/lang/String" "coder" "B") (by decide +kernel)) (fun _ h => h) dJ0_isLatin1_aae02_7 ?_
  refine lv_if_ne (tgt := 17) hx hb dJ0_isLatin1_aae02_10 (by decide) (fun c_2 => absurd rfl c_2) (fun c_2 => ?_)
  refine lv_iconst (v := 1) hx hb dJ0_isLatin1_aae02_13 (by decide) ?_
  refine lv_goto (tgt := 18) hx hb dJ0_isLatin1_aae02_14 (by decide) ?_
  subst hQQ
  exact W.zret hx hb hr rfl (fun t ht hW => ⟨_, rfl, rfl, ht⟩) (fun _ h => absurd h List.not_mem_nil) dJ0_isLatin1_aae02_18

theorem shr0 (x : Int32) : x >>> ((0 : Int32) &&& 31) = x := by
  apply Int32.toInt_inj.mp
  rw [pk_shr x (0 &&& 31) 0 (by decide)]
  simp

def rmJ0_length_8abf5 : Room := { frames := 1, cells := 0, slots := 0, locals := 20 }
set_option maxHeartbeats 4000000 in
set_option maxRecDepth 100000 in
theorem c_J0_length_8abf5 (l : Launch) (ak av L : Nat) (ch : Nat → Int32) : Met l yJ0_length_8abf5 wsJ0_length_8abf5 rmJ0_length_8abf5 (va_Pc [.ref ak] (SG ak av L ch)) (vp_Si (fun r => r = nI L)) 0 0 (fun _ => False) := by
  refine Met.ofW (cc := cJ0_length_8abf5) (maxL := 1) (ret := (some .int)) (by decide) rfl ?_
  intro p e s m args below meth c s₁ B hml hv
  obtain ⟨rfl, hG⟩ := hv
  obtain ⟨hO, hCo, hVa, hTa, hZ, hZq⟩ := id hG
  have hx := B.exec
  have hb := B.bytes
  have hr := B.returns
  have hts := atoms_spec (ws := wsJ0_length_8abf5) B.pre
  have hown : s.vm.findClass RJ0 = some m.cls := findClass_of_methodNamed B.named
  have hlocks := B.notSynchronized
  have hS : va_S (fun _ => False) s.heap s.heap [] := va_S.rf
  generalize hQQ : MQ below _ _ s _ _ _ = QQ
  have hl := lv_entry ([.ref ak]) (n := 1) (Nat.le_of_ble_eq_true rfl)
  rw [lg_entry_eq]
  generalize (lg_sl ([.ref ak]) ++ List.replicate (1 - (lg_sl ([.ref ak])).length) Slot.unset).toArray = ls at hl ⊢
  have hl : lv_has ls 1 [(0, .ref ak)] := hl
  refine lv_aload_n hx hb dJ0_length_8abf5_0 rfl (lv_at hl 0 rfl) ?_
  refine vk_getf hx hb hVa hS hown (hts (.fieldLink RJ0 9 "java/lang/String" "value" "[B") (by decide +kernel)) (fun _ h => h) dJ0_length_8abf5_1 ?_
  refine va_tlen hx hb hTa hS rfl dJ0_length_8abf5_4 ?_
  refine lv_aload_n hx hb dJ0_length_8abf5_5 rfl (lv_at hl 0 rfl) ?_
  refine ya_csi (va_runV (As := []) (rest := [.int (Int32.ofNat L)]) ⟨hx, hb, hml, hown, hts⟩ (c_J0_coder_7d493 l ak av L ch) (cwV 0 hts gJ0_length_8abf5_J0_coder_7d493 rfl rfl rfl (by decide +kernel) ⟨Nat.le_of_ble_eq_true rfl, Nat.le_of_ble_eq_true rfl⟩) (pv_sg hG) rfl rfl hl.1 rfl (lv_room (Nat.le_of_ble_eq_true rfl)) dJ0_length_8abf5_6 ⟨Nat.zero_le _, Nat.zero_le _⟩) (fun r hr9 => ?_)
  subst hr9
  refine lv_ishr hx hb dJ0_length_8abf5_9 ?_
  subst hQQ
  exact W.iret hx hb hr (fun t ht hW => ⟨_, rfl, shr0 _, ht⟩) (fun _ h => absurd h List.not_mem_nil) dJ0_length_8abf5_10

def rmJ3_checkIndex_8e157 : Room := { frames := 0, cells := 0, slots := 0, locals := 0 }
set_option maxHeartbeats 4000000 in
set_option maxRecDepth 100000 in
theorem c_J3_checkIndex_8e157 (l : Launch) (i : Int32) (n : Nat) (v : Value) (hv0 : v.category = 1) (hi : vp_in i n) (hn : n < 2 ^ 31) : Met l yJ3_checkIndex_8e157 wsJ3_checkIndex_8e157 rmJ3_checkIndex_8e157 (va_Pc [.int i, .int (nI n), v] (fun _ => True)) (vp_Si (fun _ => True)) 0 0 (fun _ => False) := by
  refine Met.ofW (cc := cJ3_checkIndex_8e157) (maxL := 3) (ret := (some .int)) (by decide) rfl ?_
  intro p e s m args below meth c s₁ B hml hv
  obtain ⟨rfl, -⟩ := hv
  have hx := B.exec
  have hb := B.bytes
  have hr := B.returns
  have hlocks := B.notSynchronized
  obtain ⟨j, hj, rfl⟩ := vp_in_of hi hn
  generalize hQQ : MQ below _ _ s _ _ _ = QQ
  have hsl : (lg_sl [.int (nI j), .int (nI n), v]).length = 3 := by
    cases v <;> first | rfl | (simp [Value.category] at hv0)
  have hl := lv_entry ([.int (nI j), .int (nI n), v]) (n := 3) (by rw [hsl]; exact Nat.le_refl 3)
  rw [lg_entry_eq]
  generalize (lg_sl ([.int (nI j), .int (nI n), v]) ++ List.replicate (3 - (lg_sl ([.int (nI j), .int (nI n), v])).length) Slot.unset).toArray = ls at hl ⊢
  have h0 : ls[0]? = some (.val (.int (nI j))) := hl.2.2 (0, .int (nI j)) (by cases v <;> simp [lv_args])
  have h1 : ls[1]? = some (.val (.int (nI n))) := hl.2.2 (1, .int (nI n)) (by cases v <;> simp [lv_args, Value.category])
  refine lv_iload_n hx hb dJ3_checkIndex_8e157_0 rfl h0 ?_
  refine lv_if_lt (tgt := 9) hx hb dJ3_checkIndex_8e157_1 (by decide) (fun c_1 => absurd c_1 (nI_pos (by omega))) (fun c_1 => ?_)
  refine lv_iload_n hx hb dJ3_checkIndex_8e157_4 rfl h0 ?_
  refine lv_iload_n hx hb dJ3_checkIndex_8e157_5 rfl h1 ?_
  refine lv_icmp_lt (tgt := 16) hx hb dJ3_checkIndex_8e157_6 (by decide) (fun c_2 => ?_) (fun c_2 => absurd (nI_lt hj hn) c_2)
  refine lv_iload_n hx hb dJ3_checkIndex_8e157_16 rfl h0 ?_
  subst hQQ
  exact W.iret hx hb hr (fun t ht hW => ⟨_, rfl, trivial, ht⟩) (fun _ h => absurd h List.not_mem_nil) dJ3_checkIndex_8e157_17

def rmJ0_checkIndex_df160 : Room := { frames := 1, cells := 0, slots := 0, locals := 22 }
set_option maxHeartbeats 4000000 in
set_option maxRecDepth 100000 in
theorem c_J0_checkIndex_df160 (l : Launch) (ak av L : Nat) (ch : Nat → Int32) (i : Int32) (hi : vp_in i L) (hn : L < 2 ^ 31) : Met l yJ0_checkIndex_df160 wsJ0_checkIndex_df160 rmJ0_checkIndex_df160 (va_Pc [.int i, .int (nI L)] (SG ak av L ch)) (va_Sv (fun _ => True)) 0 0 (fun _ => False) := by
  refine Met.ofW (cc := cJ0_checkIndex_df160) (maxL := 2) (ret := none) (by decide) rfl ?_
  intro p e s m args below meth c s₁ B hml hv
  obtain ⟨rfl, hG⟩ := hv
  obtain ⟨hO, hCo, hVa, hTa, hZ, hZq⟩ := id hG
  have hx := B.exec
  have hb := B.bytes
  have hr := B.returns
  have hts := atoms_spec (ws := wsJ0_checkIndex_df160) B.pre
  have hown : s.vm.findClass RJ0 = some m.cls := findClass_of_methodNamed B.named
  have hlocks := B.notSynchronized
  have hS : va_S (fun _ => False) s.heap s.heap [] := va_S.rf
  generalize hQQ : MQ below _ _ s _ _ _ = QQ
  have hl := lv_entry ([.int i, .int (nI L)]) (n := 2) (Nat.le_of_ble_eq_true rfl)
  rw [lg_entry_eq]
  generalize (lg_sl ([.int i, .int (nI L)]) ++ List.replicate (2 - (lg_sl ([.int i, .int (nI L)])).length) Slot.unset).toArray = ls at hl ⊢
  have hl : lv_has ls 2 [(0, .int i), (1, .int (nI L))] := hl
  refine lv_iload_n hx hb dJ0_checkIndex_df160_0 rfl (lv_at hl 0 rfl) ?_
  refine lv_iload_n hx hb dJ0_checkIndex_df160_1 rfl (lv_at hl 1 rfl) ?_
  rcases hZq with hZn | ⟨t, hZn⟩
  · refine va_gets hx hb hZn hS hown (hts (.fieldLink RJ0 1053 "jdk/internal/util/Preconditions" "SIOOBE_FORMATTER" "Ljava/util/function/BiFunction;") (by decide +kernel)) (fun _ h => h) dJ0_checkIndex_df160_2 ?_
    refine ya_csi (va_runS (As := [.int i, .int (nI L), .null]) (rest := []) ⟨hx, hb, hml, hown, hts⟩ (c_J3_checkIndex_8e157 l i L (.null) rfl hi hn) (va_cwS 3 hts gJ0_checkIndex_df160_J3_checkIndex_8e157 rfl rfl rfl (by decide +kernel) ⟨Nat.le_of_ble_eq_true rfl, Nat.le_of_ble_eq_true rfl⟩) ⟨fun a U g mk q => q, fun U hU hW => ⟨rfl, trivial⟩⟩ rfl rfl hl.1 rfl (lv_room (Nat.le_of_ble_eq_true rfl)) dJ0_checkIndex_df160_5 ⟨Nat.zero_le _, Nat.zero_le _⟩) (fun r hr9 => ?_)
    refine lv_pop hx hb dJ0_checkIndex_df160_8 rfl ?_
    subst hQQ
    exact W.vret hx hb hr (fun t ht hW => ⟨rfl, trivial, ht⟩) (fun _ h => absurd h List.not_mem_nil) dJ0_checkIndex_df160_9
  · refine va_gets hx hb hZn hS hown (hts (.fieldLink RJ0 1053 "jdk/internal/util/Preconditions" "SIOOBE_FORMATTER" "Ljava/util/function/BiFunction;") (by decide +kernel)) (fun _ h => h) dJ0_checkIndex_df160_2 ?_
    refine ya_csi (va_runS (As := [.int i, .int (nI L), .ref t]) (rest := []) ⟨hx, hb, hml, hown, hts⟩ (c_J3_checkIndex_8e157 l i L (.ref t) rfl hi hn) (va_cwS 3 hts gJ0_checkIndex_df160_J3_checkIndex_8e157 rfl rfl rfl (by decide +kernel) ⟨Nat.le_of_ble_eq_true rfl, Nat.le_of_ble_eq_true rfl⟩) ⟨fun a U g mk q => q, fun U hU hW => ⟨rfl, trivial⟩⟩ rfl rfl hl.1 rfl (lv_room (Nat.le_of_ble_eq_true rfl)) dJ0_checkIndex_df160_5 ⟨Nat.zero_le _, Nat.zero_le _⟩) (fun r hr9 => ?_)
    refine lv_pop hx hb dJ0_checkIndex_df160_8 rfl ?_
    subst hQQ
    exact W.vret hx hb hr (fun t ht hW => ⟨rfl, trivial, ht⟩) (fun _ h => absurd h List.not_mem_nil) dJ0_checkIndex_df160_9

theorem ya_csv {p : Program} {l : Launch} {e : Env} {R : Room} {s : State} {m : MethodId} {args : Array Value} {below : List Frame} {meth : Method} {c : Code} {H : Heap} {locs : List Loc} {cells slots : Nat} {Q : State → Prop} {pc : Nat} {ls : Array Slot} {rest st0 : List Value} {a : Array Value} {post : Unit → Prop} (hr : va_Run p l e R s m args below meth c H locs cells slots 0 0 (F0 m pc ls st0) rest (va_Sv post a) (fun _ => False))
    (kk : W p l e R s m args below meth c H locs cells slots Q (F0 m (pc + 3) ls rest)) : W p l e R s m args below meth c H locs cells slots Q (F0 m pc ls st0) := by
  intro T hT X
  obtain ⟨v, st₀, t, T', L, h0, X', hL, e1, e2, ⟨hv, hp, hh⟩, st⟩ := hr T hT X
  cases hv
  obtain ⟨t2, a1, b1⟩ := kk T' (by rw [e1, hh, h0]) (Stand.forget X' (fun q h => (hL q h).elim))
  exact ⟨t2, st t2 a1, b1⟩

def rmJ1_charAt_3b067 : Room := { frames := 2, cells := 0, slots := 0, locals := 50 }
set_option maxHeartbeats 4000000 in
set_option maxRecDepth 100000 in
theorem c_J1_charAt_3b067 (l : Launch) (ak av L : Nat) (ch : Nat → Int32) (hch : ∀ j, j < L → ((ch j &&& 255).toUInt32 % 65536).toInt32 = ch j) (i : Int32) (hi : vp_in i L) (hn : L < 2 ^ 31) : Met l yJ1_charAt_3b067 wsJ1_charAt_3b067 rmJ1_charAt_3b067 (va_Pc [.ref av, .int i] (SG ak av L ch)) (vp_Si (fun r => r = ch i.toNatClampNeg)) 0 0 (fun _ => False) := by
  refine Met.ofW (cc := cJ1_charAt_3b067) (maxL := 2) (ret := (some .char)) (by decide) rfl ?_
  intro p e s m args below meth c s₁ B hml hv
  obtain ⟨rfl, hG⟩ := hv
  obtain ⟨hO, hCo, hVa, hTa, hZ, hZq⟩ := id hG
  have hx := B.exec
  have hb := B.bytes
  have hr := B.returns
  have hts := atoms_spec (ws := wsJ1_charAt_3b067) B.pre
  have hown : s.vm.findClass RJ1 = some m.cls := findClass_of_methodNamed B.named
  have hlocks := B.notSynchronized
  have hS : va_S (fun _ => False) s.heap s.heap [] := va_S.rf
  generalize hQQ : MQ below _ _ s _ _ _ = QQ
  have hl := lv_entry ([.ref av, .int i]) (n := 2) (Nat.le_of_ble_eq_true rfl)
  rw [lg_entry_eq]
  generalize (lg_sl ([.ref av, .int i]) ++ List.replicate (2 - (lg_sl ([.ref av, .int i])).length) Slot.unset).toArray = ls at hl ⊢
  have hl : lv_has ls 2 [(0, .ref av), (1, .int i)] := hl
  refine lv_iload_n hx hb dJ1_charAt_3b067_0 rfl (lv_at hl 1 rfl) ?_
  refine lv_aload_n hx hb dJ1_charAt_3b067_1 rfl (lv_at hl 0 rfl) ?_
  refine va_tlen hx hb hTa hS rfl dJ1_charAt_3b067_2 ?_
  refine ya_csv (va_runS (As := [.int i, .int (nI L)]) (rest := []) ⟨hx, hb, hml, hown, hts⟩ (c_J0_checkIndex_df160 l ak av L ch i hi hn) (va_cwS 2 hts gJ1_charAt_3b067_J0_checkIndex_df160 rfl rfl rfl (by decide +kernel) ⟨Nat.le_of_ble_eq_true rfl, Nat.le_of_ble_eq_true rfl⟩) (ps_sg hG) rfl rfl hl.1 rfl (lv_room (Nat.le_of_ble_eq_true rfl)) dJ1_charAt_3b067_3 ⟨Nat.zero_le _, Nat.zero_le _⟩) ?_
  refine lv_aload_n hx hb dJ1_charAt_3b067_6 rfl (lv_at hl 0 rfl) ?_
  refine lv_iload_n hx hb dJ1_charAt_3b067_7 rfl (lv_at hl 1 rfl) ?_
  refine va_tb hx hb hTa hS hi rfl dJ1_charAt_3b067_8 ?_
  refine lv_sipush (v := 255) hx hb dJ1_charAt_3b067_9 (by decide) ?_
  refine lv_iand hx hb dJ1_charAt_3b067_12 ?_
  obtain ⟨j, hj, rfl⟩ := vp_in_of hi hn
  have ej : (nI j).toNatClampNeg = j := nI_clamp (by omega)
  refine lv_i2c (v := ch j) hx hb dJ1_charAt_3b067_13 (by rw [ej]; exact hch j hj) ?_
  subst hQQ
  exact W.zret hx hb hr (by rw [← hch j hj]; exact pk_nc _) (fun t ht hW => ⟨_, rfl, by rw [ej], ht⟩) (fun _ h => absurd h List.not_mem_nil) dJ1_charAt_3b067_14

def rmJ0_charAt_5068e : Room := { frames := 3, cells := 0, slots := 0, locals := 80 }
set_option maxHeartbeats 4000000 in
set_option maxRecDepth 100000 in
theorem c_J0_charAt_5068e (l : Launch) (ak av L : Nat) (ch : Nat → Int32) (hch : ∀ j, j < L → ((ch j &&& 255).toUInt32 % 65536).toInt32 = ch j) (hn : L < 2 ^ 31) (i : Int32) (hi : vp_in i L) : Met l yJ0_charAt_5068e wsJ0_charAt_5068e rmJ0_charAt_5068e (va_Pc [.ref ak, .int i] (SG ak av L ch)) (vp_Si (fun r => r = ch i.toNatClampNeg)) 0 0 (fun _ => False) := by
  refine Met.ofW (cc := cJ0_charAt_5068e) (maxL := 2) (ret := (some .char)) (by decide) rfl ?_
  intro p e s m args below meth c s₁ B hml hv
  obtain ⟨rfl, hG⟩ := hv
  obtain ⟨hO, hCo, hVa, hTa, hZ, hZq⟩ := id hG
  have hx := B.exec
  have hb := B.bytes
  have hr := B.returns
  have hts := atoms_spec (ws := wsJ0_charAt_5068e) B.pre
  have hown : s.vm.findClass RJ0 = some m.cls := findClass_of_methodNamed B.named
  have hlocks := B.notSynchronized
  have hS : va_S (fun _ => False) s.heap s.heap [] := va_S.rf
  generalize hQQ : MQ below _ _ s _ _ _ = QQ
  have hl := lv_entry ([.ref ak, .int i]) (n := 2) (Nat.le_of_ble_eq_true rfl)
  rw [lg_entry_eq]
  generalize (lg_sl ([.ref ak, .int i]) ++ List.replicate (2 - (lg_sl ([.ref ak, .int i])).length) Slot.unset).toArray = ls at hl ⊢
  have hl : lv_has ls 2 [(0, .ref ak), (1, .int i)] := hl
  refine lv_aload_n hx hb dJ0_charAt_5068e_0 rfl (lv_at hl 0 rfl) ?_
  refine ya_csi (va_runV (As := []) (rest := []) ⟨hx, hb, hml, hown, hts⟩ (c_J0_isLatin1_aae02 l ak av L ch) (cwV 0 hts gJ0_charAt_5068e_J0_isLatin1_aae02 rfl rfl rfl (by decide +kernel) ⟨Nat.le_of_ble_eq_true rfl, Nat.le_of_ble_eq_true rfl⟩) (pv_sg hG) rfl rfl hl.1 rfl (lv_room (Nat.le_of_ble_eq_true rfl)) dJ0_charAt_5068e_1 ⟨Nat.zero_le _, Nat.zero_le _⟩) (fun r hr9 => ?_)
  subst hr9
  refine lv_if_eq (tgt := 16) hx hb dJ0_charAt_5068e_4 (by decide) (fun c_1 => absurd c_1 (by decide)) (fun c_1 => ?_)
  refine lv_aload_n hx hb dJ0_charAt_5068e_7 rfl (lv_at hl 0 rfl) ?_
  refine vk_getf hx hb hVa hS hown (hts (.fieldLink RJ0 9 "java/lang/String" "value" "[B") (by decide +kernel)) (fun _ h => h) dJ0_charAt_5068e_8 ?_
  refine lv_iload_n hx hb dJ0_charAt_5068e_11 rfl (lv_at hl 1 rfl) ?_
  refine ya_csi (va_runS (As := [.ref av, .int i]) (rest := []) ⟨hx, hb, hml, hown, hts⟩ (c_J1_charAt_3b067 l ak av L ch hch i hi hn) (va_cwS 2 hts gJ0_charAt_5068e_J1_charAt_3b067 rfl rfl rfl (by decide +kernel) ⟨Nat.le_of_ble_eq_true rfl, Nat.le_of_ble_eq_true rfl⟩) (ps_sg hG) rfl rfl hl.1 rfl (lv_room (Nat.le_of_ble_eq_true rfl)) dJ0_charAt_5068e_12 ⟨Nat.zero_le _, Nat.zero_le _⟩) (fun r hr9 => ?_)
  subst hr9
  subst hQQ
  obtain ⟨j, hj, rfl⟩ := vp_in_of hi hn
  have ej : (nI j).toNatClampNeg = j := nI_clamp (by omega)
  exact W.zret hx hb hr (by rw [ej, ← hch j hj]; exact pk_nc _) (fun t ht hW => ⟨_, rfl, rfl, ht⟩) (fun _ h => absurd h List.not_mem_nil) dJ0_charAt_5068e_15
