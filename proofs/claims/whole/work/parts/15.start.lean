theorem lw_at {A : Array Value} {s : State} (ht : ∀ w ∈ lw_tbl, w.before A s = true) (i : Nat) {w : Cond} (h : tables_1[i]? = some w) : w.before A s = true :=
  ht w (List.mem_append_right (k2_sels lw_privs) (List.mem_of_getElem? h))
theorem st_arr {ty : FieldType} {A : Array Value} {s : State} (h : (Cond.arrayClass ty).before A s = true) : ∃ cA, s.vm.findClass ("[" ++ ty.toString) = some cA ∧ ArrOfT s cA ty := by
  obtain ⟨cA, kA, comp, h1, h2, h3⟩ := Cond.arrayClass_spec h
  exact ⟨cA, h1, fun n z => ⟨fun k h => (by cases h), kA, h2, comp, h3⟩⟩
theorem st_arrO {C : String} {A : Array Value} {s : State} (h : (Cond.arrayOver (.object C)).before A s = true) : ∃ cA, ArrOfT s cA (.object C) ∧ va_RA s cA (.object C) := by
  obtain ⟨comp, cA, kA, h1, h2, h3, h4, h5⟩ := Cond.arrayOver_spec h
  exact ⟨cA, fun n z => ⟨fun k h => (by cases h), kA, h3, comp, h4⟩, kA, comp, h3, h4, h1, h5⟩
theorem st_in0 : ∀ w ∈ wsX00, w ∈ wsX8_init := fun _ h => List.mem_cons_of_mem _ (List.mem_append_left _ (List.mem_append_left _ (List.mem_append_left _ (List.mem_append_right _ h))))
theorem st_in1 : ∀ w ∈ wsX10, w ∈ wsX8_init := fun _ h => List.mem_cons_of_mem _ (List.mem_append_left _ (List.mem_append_left _ (List.mem_append_right _ h)))
theorem st_in3 : ∀ w ∈ wsX30, w ∈ wsX8_init := fun _ h => List.mem_cons_of_mem _ (List.mem_append_left _ (List.mem_append_right _ h))
theorem st_in4 : ∀ w ∈ wsX40, w ∈ wsX8_init := fun _ h => List.mem_cons_of_mem _ (List.mem_append_right _ h)
theorem st_in5 : ∀ w ∈ wsX50, w ∈ wsX8_init := fun _ h => List.mem_cons_of_mem _ (List.mem_append_left _ (List.mem_append_left _ (List.mem_append_left _ (List.mem_append_left _ (List.mem_append_left _ (List.mem_append_right _ h))))))
theorem st_in6 : ∀ w ∈ wsX60, w ∈ wsX8_init := fun _ h => List.mem_cons_of_mem _ (List.mem_append_left _ (List.mem_append_left _ (List.mem_append_left _ (List.mem_append_left _ (List.mem_append_left _ (List.mem_append_left _ (List.mem_append_left _ (List.mem_append_right _ h))))))))
theorem st_in7 : ∀ w ∈ wsX70, w ∈ wsX8_init := fun _ h => List.mem_cons_of_mem _ (List.mem_append_left _ (List.mem_append_left _ (List.mem_append_left _ (List.mem_append_left _ (List.mem_append_right _ h)))))
theorem st_in8 : ∀ w ∈ wsX80, w ∈ wsX8_init := fun _ h => List.mem_cons_of_mem _ (List.mem_append_left _ (List.mem_append_left _ (List.mem_append_left _ (List.mem_append_left _ (List.mem_append_left _ (List.mem_append_left _ (List.mem_append_right _ h)))))))
theorem st_in9 : ∀ w ∈ wsX90, w ∈ wsX9_init := fun _ h => List.mem_cons_of_mem _ (List.mem_append_right _ h)
set_option maxRecDepth 100000 in
theorem st_XK {A : Array Value} {s : State} (ht : ∀ w ∈ lw_tbl, w.before A s = true) (h8 : ∀ w ∈ wsX8_init, w.before A s = true) (h9 : ∀ w ∈ wsX9_init, w.before A s = true) : ∃ (D : va_G) (cI cZ cO : ClassId), XK D cI cZ cO s := by
  obtain ⟨c0, i0, k0⟩ := u_known (C := RX0) (T := TX0) (N := 6) (n := 6) h8 st_in0 (lw_at ht 33 (w := .instantiable RX0 6) (by decide +kernel))
  obtain ⟨c1, i1, k1⟩ := u_known (C := RX1) (T := TX1) (N := 2) (n := 2) h8 st_in1 (lw_at ht 75 (w := .instantiable RX1 2) (by decide +kernel))
  obtain ⟨c3, i3, k3⟩ := u_known (C := RX3) (T := TX3) (N := 2) (n := 2) h8 st_in3 (lw_at ht 90 (w := .instantiable RX3 2) (by decide +kernel))
  obtain ⟨c4, i4, k4⟩ := u_known (C := RX4) (T := TX4) (N := 2) (n := 2) h8 st_in4 (lw_at ht 105 (w := .instantiable RX4 2) (by decide +kernel))
  obtain ⟨c5, i5, k5⟩ := u_known (C := RX5) (T := TX5) (N := 2) (n := 2) h8 st_in5 (lw_at ht 163 (w := .instantiable RX5 2) (by decide +kernel))
  obtain ⟨c6, i6, k6⟩ := u_known (C := RX6) (T := TX6) (N := 9) (n := 9) h8 st_in6 (lw_at ht 27 (w := .instantiable RX6 9) (by decide +kernel))
  obtain ⟨c7, i7, k7⟩ := u_known (C := RX7) (T := TX7) (N := 5) (n := 5) h8 st_in7 (lw_at ht 177 (w := .instantiable RX7 5) (by decide +kernel))
  obtain ⟨c8, i8, k8⟩ := u_known (C := RX8) (T := TX8) (N := 9) (n := 9) h8 st_in8 (lw_at ht 19 (w := .instantiable RX8 9) (by decide +kernel))
  obtain ⟨c9, i9, k9⟩ := u_known (C := RX9) (T := TX9) (N := 18) (n := 18) h9 st_in9 (lw_at ht 755 (w := .instantiable RX9 18) (by decide +kernel))
  obtain ⟨cI, fI, aI⟩ := st_arr (lw_at ht 73 (w := .arrayClass .int) (by decide +kernel))
  obtain ⟨cZ, fZ, aZ⟩ := st_arr (lw_at ht 175 (w := .arrayClass .boolean) (by decide +kernel))
  obtain ⟨cO, aO, rO⟩ := st_arrO (lw_at ht 161 (w := .arrayOver (.object "LeftCrest$Stage")) (by decide +kernel))
  refine ⟨(fun k => [c0, c1, c3, c4, c5, c6, c7, c8, c9].getD k c0, fun k => [i0, i1, i3, i4, i5, i6, i7, i8, i9].getD k i0), cI, cZ, cO, ⟨fun k q hq => ?_, fun k q hq => ?_⟩, va_Nw.of rfl (lw_at ht 28 (w := .methodLinkNest RX8 9 yX6_init RX8) (by decide +kernel)), va_Nw.of rfl (lw_at ht 34 (w := .methodLinkNest RX6 9 yX0_init RX8) (by decide +kernel)), va_Nw.of rfl (lw_at ht 76 (w := .methodLinkNest RX6 18 yX1_init RX8) (by decide +kernel)), va_Nw.of rfl (lw_at ht 91 (w := .methodLinkNest RX6 25 yX3_init RX8) (by decide +kernel)), va_Nw.of rfl (lw_at ht 106 (w := .methodLinkNest RX6 32 yX4_init RX8) (by decide +kernel)), va_Nw.of rfl (lw_at ht 164 (w := .methodLinkNest RX8 29 yX5_init RX8) (by decide +kernel)), va_Nw.of rfl (lw_at ht 178 (w := .methodLinkNest RX8 36 yX7_init RX8) (by decide +kernel)), va_Nw.of rfl (lw_at ht 303 (w := .methodLinkNest RX7 104 yX8_within RX8) (by decide +kernel)), va_Nw.of rfl (lw_at ht 515 (w := .methodLinkNest RX5 37 yX8_hasBit RX8) (by decide +kernel)), va_Nw.of rfl (lw_at ht 639 (w := .methodLinkNest RX5 81 yX8_within RX8) (by decide +kernel))⟩
  · match k, hq with
    | 0, hq => cases hq; exact k0
    | 1, hq => cases hq; exact k1
    | 2, hq => cases hq; exact k3
    | 3, hq => cases hq; exact k4
    | 4, hq => cases hq; exact k5
    | 5, hq => cases hq; exact k6
    | 6, hq => cases hq; exact k7
    | 7, hq => cases hq; exact k8
    | 8, hq => cases hq; exact k9
    | k + 9, hq => simp [vwCl] at hq
  · match k, hq with
    | 0, hq => cases hq; exact ⟨aI, fI⟩
    | 1, hq => cases hq; exact ⟨aZ, fZ⟩
    | 2, hq => cases hq; exact ⟨aO, rO⟩
    | k + 3, hq => simp at hq
def strT (i : Nat) : Term := Term.string RX7 (([42, 63, 68, 73] : List Nat).getD i 0)
theorem st_m1 : ∀ i, i < 4 → Cond.exactly (strT i) "java/lang/String" ∈ flatC (Jvm.Cond.and given_1 narrow_1) := by decide +kernel
theorem st_m2 : ∀ i, i < 4 → Cond.eq (.field (strT i) "java/lang/String" "coder" "B") (.int 0) ∈ flatC (Jvm.Cond.and given_1 narrow_1) := by decide +kernel
theorem st_m3 : ∀ i, i < 4 → Cond.arrayOf (.field (strT i) "java/lang/String" "value" "[B") .byte ∈ flatC (Jvm.Cond.and given_1 narrow_1) := by decide +kernel
theorem st_m4 : ∀ i, i < 4 → Cond.eq (.length (.field (strT i) "java/lang/String" "value" "[B")) (.int (Int32.ofNat (strL.getD i 0))) ∈ flatC (Jvm.Cond.and given_1 narrow_1) := by decide +kernel
theorem st_m5 : ∀ i, i < 4 → ∀ j, j < strL.getD i 0 → Cond.eq (.elem (.field (strT i) "java/lang/String" "value" "[B") (.int (Int32.ofNat j))) (.int ((strB.getD i []).getD j 0)) ∈ flatC (Jvm.Cond.and given_1 narrow_1) := by decide +kernel
theorem st_m6 : ∀ i, i < 4 → ∀ j, j < 4 → i ≠ j → (Cond.not (Cond.eq (strT i) (strT j)) ∈ flatC (Jvm.Cond.and given_1 narrow_1) ∨ Cond.not (Cond.eq (strT j) (strT i)) ∈ flatC (Jvm.Cond.and given_1 narrow_1)) := by decide +kernel
theorem st_m7 : Cond.eq (.static "java/lang/String" "COMPACT_STRINGS" "Z") (.int 1) ∈ flatC (Jvm.Cond.and given_1 narrow_1) := by decide +kernel
theorem st_m8 : Cond.isRef (.static "jdk/internal/util/Preconditions" "SIOOBE_FORMATTER" "Ljava/util/function/BiFunction;") ∈ flatC (Jvm.Cond.and given_1 narrow_1) := by decide +kernel
theorem st_SW {args : Array Value} {s : State} {A : Nat → Prop} (ht : ∀ w ∈ lw_tbl, w.before args s = true) (hgv : (Jvm.Cond.and given_1 narrow_1).before args s = true) (hA : ∀ a : Nat, a < s.heap.size → ¬ A a) : ∃ ad av : Nat → Nat, SW ad av A s := by
  have hs := flat_of_before _ hgv
  obtain ⟨adK, adV, hV, hE⟩ := vk_Sof (N := 4) (tm := strT) (len := strL) (byt := strB) (A := A) strN (fun i hi => hs _ (st_m1 i hi)) (fun i hi => hs _ (st_m2 i hi)) (fun i hi => hs _ (st_m3 i hi)) (fun i hi => hs _ (st_m4 i hi)) (fun i hi j hj => hs _ (st_m5 i hi j hj)) (fun i j hi hj hij => (st_m6 i hi j hj hij).elim (fun h => Or.inl (hs _ h)) (fun h => Or.inr (hs _ h))) hA
  have z1 := va_Zof (A := A) (lw_at ht 322 (w := .laysStatic "java/lang/String" "COMPACT_STRINGS" "Z") (by decide +kernel)) (lw_at ht 10 (w := .initialized "java/lang/String") (by decide +kernel)) (va_eqi (hs _ st_m7)) hA
  have z2 := va_Zqof (A := A) (lw_at ht 338 (w := .laysStatic "jdk/internal/util/Preconditions" "SIOOBE_FORMATTER" "Ljava/util/function/BiFunction;") (by decide +kernel)) (lw_at ht 12 (w := .initialized "jdk/internal/util/Preconditions") (by decide +kernel)) (hs _ st_m8) hA
  refine ⟨adK, adV, fun i hi => ⟨(hV.1 i hi).1, (hV.1 i hi).2.1, (hV.1 i hi).2.2.1, (hV.1 i hi).2.2.2, z1, z2⟩, ?_, ?_, ?_, ?_⟩
  · exact vk_R.of (lw_at ht 308 (w := .stringRef RX7 42 "road") (by decide +kernel)) (hE 0 (by decide))
  · exact vk_R.of (lw_at ht 374 (w := .stringRef RX7 63 "bend") (by decide +kernel)) (hE 1 (by decide))
  · exact vk_R.of (lw_at ht 381 (w := .stringRef RX7 68 "mud") (by decide +kernel)) (hE 2 (by decide))
  · exact vk_R.of (lw_at ht 387 (w := .stringRef RX7 73 "drive") (by decide +kernel)) (hE 3 (by decide))
theorem ps_rwO {D : va_G} {cI cZ cO : ClassId} {s : State} {H : Heap} {As : List Value} {wc : va_W} (hP : va_P D vwCl wc H) {A : Nat → Prop} (hD : va_D A wc) (hX : XK D cI cZ cO s) (hO : va_AO "LeftCrest$Stage" s) : PreS s H (va_Pc As (fun U => U.heap.size = H.size ∧ va_P D vwCl wc U.heap ∧ XK D cI cZ cO U ∧ va_D (fun _ => True) wc ∧ va_AO "LeftCrest$Stage" U)) As :=
  ⟨fun a U g mk q => ⟨q.1, q.2.1, q.2.2.1, q.2.2.2.1.same rfl, q.2.2.2.2.1, va_AO.moved (u := U) (U := U.calling g mk a) (Vm.Alike.refl U.vm) q.2.2.2.2.2⟩, fun U hU hW => ⟨rfl, by rw [hU], by rw [hU]; exact hP, hX.warm hW, hD.weaken (fun _ _ _ _ => trivial), va_AO.moved hW.alike hO⟩⟩
theorem SR_0 : SR 0 0 0 0 0 0 (fun _ => 0) (fun _ => 0) (fun _ => 0) (fun _ => 0) (fun _ => 0) 0 (fun _ => 0) 0 (fun _ => 0) 0 (fun _ => 0) (fun _ => 0) := by
  have R := SR.cg (T' := fun _ => 0) (SR_begin (T := fun _ => 0) (k := 0) (f := 0) (by decide) (by decide) (fun _ => 0) (fun _ => 0) (fun _ => 0) (fun _ => 0) (fun _ => 0) (fun _ => 0) (fun _ => 0) (fun _ => 0)) (fun k _ => by
    show (0 : Int32) = bgT (fun _ => 0) (nI 0) (nI 0) k
    rw [nI_0]
    unfold bgT
    repeat' split
    all_goals rfl)
  rw [nI_0] at R
  exact R
theorem LInv_0 : LInv 0 1 0 0 0 0 0 0 (fun _ => 0) (fun _ => 0) (fun _ => 0) (fun _ => 0) (fun _ => 0) 0 (fun _ => 0) 0 (fun _ => 0) 0 (fun _ => 0) 0 0 0 0 0 0 (fun _ => 0) (fun _ => 0) (fun _ => 0) (fun _ => 0) (fun _ => 0) 0 (fun _ => 0) 0 (fun _ => 0) 0 (fun _ => 0) 0 0 0 0 0 0 (fun _ => 0) (fun _ => 0) (fun _ => 0) (fun _ => 0) (fun _ => 0) 0 (fun _ => 0) 0 (fun _ => 0) 0 (fun _ => 0) 0 0 0 0 0 0 (fun _ => 0) (fun _ => 0) (fun _ => 0) (fun _ => 0) (fun _ => 0) 0 (fun _ => 0) 0 (fun _ => 0) 0 (fun _ => 0) (fun _ => 0) (fun _ => 0) (fun _ => 0) 0 0 0 0 (fun _ => 0) (fun _ => 0) 0 1 0 0 0 0 0 (fun _ => 0) (fun _ => 0) (fun _ => 0) (fun _ => 0) (fun _ => 0) (fun _ => 0) (fun _ => 0) (fun _ => 0) (fun _ => 0) (fun _ => 0) (fun _ => 0) :=
  lmk SR_0 (fun h => absurd rfl h) (fun h => absurd rfl h) rfl rfl rfl rfl rfl rfl ⟨0, Nat.zero_le _, nI_0.symm, fun k hk => absurd hk (Nat.not_lt_zero k)⟩
