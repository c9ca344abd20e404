theorem ex_over {args : Array Value} {s : State} {C : String} (h : (Cond.arrayOver (.object C)).before args s = true) : ∃ cA : ClassId, ArrOfT s cA (.object C) ∧ va_RA s cA (.object C) := by
  obtain ⟨comp, cA, kA, h1, -, h2, h3, h4⟩ := Cond.arrayOver_spec h
  exact ⟨cA, fun n z => ⟨fun k h => (by cases h), kA, h2, comp, h3⟩, kA, comp, h2, h3, h1, h4⟩
theorem ex_int {args : Array Value} {s : State} (h : (Cond.arrayClass .int).before args s = true) : ∃ cA : ClassId, ArrOfT s cA .int ∧ va_RA s cA .int := by
  obtain ⟨cA, kA, comp, h1, h2, h3⟩ := Cond.arrayClass_spec h
  exact ⟨cA, fun n z => ⟨fun k h => (by cases h), kA, h2, comp, h3⟩, h1⟩
theorem ex_bool {args : Array Value} {s : State} (h : (Cond.arrayClass .boolean).before args s = true) : ∃ cA : ClassId, ArrOfT s cA .boolean ∧ va_RA s cA .boolean := by
  obtain ⟨cA, kA, comp, h1, h2, h3⟩ := Cond.arrayClass_spec h
  exact ⟨cA, fun n z => ⟨fun k h => (by cases h), kA, h2, comp, h3⟩, h1⟩
theorem ex_long {args : Array Value} {s : State} (h : (Cond.arrayClass .long).before args s = true) : ∃ cA : ClassId, ArrOfT s cA .long ∧ va_RA s cA .long := by
  obtain ⟨cA, kA, comp, h1, h2, h3⟩ := Cond.arrayClass_spec h
  exact ⟨cA, fun n z => ⟨fun k h => (by cases h), kA, h2, comp, h3⟩, h1⟩
theorem va_fst {A0 : Nat → Prop} {D : va_G} {cl : List vw_C} {w1 w2 : va_W} {H : Heap} (hP : va_P D cl (w1 ++ w2) H) (hD : va_D A0 (w1 ++ w2)) : va_P D cl w1 H ∧ va_D A0 w1 := by
  have hl : ∀ (k : Nat) (q : Nat × va_E), w1[k]? = some q → (w1 ++ w2)[k]? = some q := fun k q h => by rw [List.getElem?_append_left (List.getElem?_eq_some_iff.mp h).1]; exact h
  exact ⟨fun k q h => hP k q (hl k q h), fun i j x y hx hy e => hD.1 i j x y (hl i x hx) (hl j y hy) e, fun k q h => hD.2 k q (hl k q h)⟩
theorem va_ap2 {A0 : Nat → Prop} {K K2 : List (Nat × Nat)} {ad ad2 : Nat × Nat → Nat} {g g2 : Nat × Nat → va_E} (hD : va_D A0 (kW K ad g ++ kW K2 ad2 g2)) : ∀ κ, κ ∈ K → ∀ κ2, κ2 ∈ K2 → ad κ ≠ ad2 κ2 := by
  intro κ h1 κ2 h2 e
  obtain ⟨i, -, hi⟩ := kW_at (ad := ad) (g := g) h1
  obtain ⟨j, -, hj⟩ := kW_at (ad := ad2) (g := g2) h2
  have hlt := (List.getElem?_eq_some_iff.mp hi).1
  have a1 : (kW K ad g ++ kW K2 ad2 g2)[i]? = some (ad κ, g κ) := by rw [List.getElem?_append_left hlt]; exact hi
  have a2 : (kW K ad g ++ kW K2 ad2 g2)[(kW K ad g).length + j]? = some (ad2 κ2, g2 κ2) := by rw [List.getElem?_append_right (by omega), Nat.add_sub_cancel_left]; exact hj
  have := hD.1 _ _ _ _ a1 a2 e
  omega
set_option maxHeartbeats 4000000 in
set_option maxRecDepth 100000 in
/-- THE LAW, from its entry -/
theorem whole_start {p : Program} {e : Env} {s : State} {m : MethodId} {below : List Frame} {meth : Method} {c : Code} (l : Launch) {b L : Nat} {xs : Nat → Int32} (hL : L ≤ 2049) (C0 : lw_At p s m meth c b L xs) : W p l e room_1 s m #[Value.ref b] below meth c s.heap [] 0 0 (lw_Z below #[Value.ref b] s) (entryFrame m ([Value.ref b] : List Value).toArray 4) := by
  obtain ⟨hx, hb, hr, hml, hown, hts, hX, hbl, hlocks, hgv⟩ := id C0
  have hT : ∀ w ∈ kB_l, w ∈ lw_tbl := fun w h => (List.mem_filter.mp h).1
  have hw := fun w h => hts w (hT w h)
  have hA : ∀ q : Nat, s.heap.size ≤ q → (fun q : Nat => s.heap.size ≤ q) q := fun _ h => h
  have hbA : ¬ (fun q : Nat => s.heap.size ≤ q) b := Nat.not_le.mpr hbl
  obtain ⟨c0, iS0, hKn0⟩ := u_known (C := kR_B) (T := kT_B) (N := 4) (n := 4) hw ki_B (hw _ kw_19)
  obtain ⟨c1, iS1, hKn1⟩ := u_known (C := kR_N) (T := kT_N) (N := 10) (n := 10) hw ki_N (hw _ kw_49)
  obtain ⟨c2, iS2, hKn2⟩ := u_known (C := kR_S) (T := kT_S) (N := 4) (n := 4) hw ki_S (hw _ kw_8)
  obtain ⟨c3, iS3, hKn3⟩ := u_known (C := kR_M) (T := kT_M) (N := 17) (n := 17) hw ki_M (hw _ kw_236)
  obtain ⟨D, hKc⟩ : ∃ D : va_G, ∀ (k : Nat) (q : vw_C), kCl[k]? = some q → u_Kn s q.1 q.2.1 q.2.2 (D.1 k) (D.2 k) := by
    refine ⟨(fun k => if k = 0 then c0 else if k = 1 then c1 else if k = 2 then c2 else c3, fun k => if k = 0 then iS0 else if k = 1 then iS1 else if k = 2 then iS2 else iS3), ?_⟩
    intro k q hq
    match k, hq with
    | 0, hq => cases hq; exact hKn0
    | 1, hq => cases hq; exact hKn1
    | 2, hq => cases hq; exact hKn2
    | 3, hq => cases hq; exact hKn3
    | k + 4, hq => simp [kCl] at hq
  obtain ⟨cN, oN⟩ := ex_over (hts _ kw_16)
  obtain ⟨cB, oB⟩ := ex_over (hts _ kw_18)
  obtain ⟨cI, oI⟩ := ex_int (hw _ kw_293)
  obtain ⟨cZ, oZ⟩ := ex_bool (hw _ kw_294)
  obtain ⟨cL, oL⟩ := ex_long (hw _ kw_48)
  have hAN : va_AO "BusSleep$Node" s := va_AO.of (hts _ kw_16)
  have hAB : va_AO "BusSleep$Bus" s := va_AO.of (hts _ kw_18)
  have hKC : va_K D kCl (tC cN cB cL) s := ⟨hKc, fun k q h => by
    match k, h with
    | 0, h => cases h; exact oN
    | 1, h => cases h; exact oB
    | 2, h => cases h; exact oL
    | k + 3, h => simp [tC] at h⟩
  have hKM : va_K D kCl (tM cI cZ cL) s := ⟨hKc, fun k q h => by
    match k, h with
    | 0, h => cases h; exact oI
    | 1, h => cases h; exact oZ
    | 2, h => cases h; exact oL
    | k + 3, h => simp [tM] at h⟩
  have hS : va_S (fun q : Nat => s.heap.size ≤ q) s.heap s.heap [] := va_S.rf
  have hP : va_P D kCl [] s.heap := fun k q h => by simp at h
  have hD : va_D (fun q : Nat => s.heap.size ≤ q) [] := ⟨fun i j p q h => by simp at h, fun k q h => by simp at h⟩
  have hl := lv_entry ([.ref b]) (n := 4) (Nat.le_of_ble_eq_true rfl)
  rw [lg_entry_eq]
  generalize (lg_sl ([.ref b]) ++ List.replicate (4 - (lg_sl ([.ref b])).length) Slot.unset).toArray = ls at hl ⊢
  have hl : lv_has ls 4 [(0, .ref b)] := hl
  refine va_new (ci := 2) (fs := [.null, .null, .long 0, .int 0]) (C := kR_S) (T := kT_S) (N := 4) hx hb hw ki_S kt_S ko_S hown (hw _ kw_7) (hw _ kw_8) (hw _ kw_1) hKC hP hD hS hA rfl (fun j hj => by rcases (show j = 0 ∨ j = 1 ∨ j = 2 ∨ j = 3 by omega) with rfl | rfl | rfl | rfl <;> rfl) (Nat.le_of_ble_eq_true rfl) (Nat.le_of_ble_eq_true rfl) kd_L_law_0 (fun q0 H hP hD hS => ?_)
  have hP : va_P D kCl (this0 q0) H := hP
  have hD : va_D (fun q : Nat => s.heap.size ≤ q) (this0 q0) := hD
  refine W.widen (k := 1) (n := 4) (Nat.le_of_ble_eq_true rfl) (Nat.le_of_ble_eq_true rfl) ?_
  refine lv_dup hx hb kd_L_law_3 rfl ?_
  refine lv_aload_n hx hb kd_L_law_4 rfl (lv_at hl 0 rfl) ?_
  refine lv_iconst (v := 0) hx hb kd_L_law_5 (by decide) ?_
  refine va_calli (va_runS (As := [.ref b, .int 0]) (rest := [.ref q0, .ref q0]) ⟨hx, hb, hml, hown, hts⟩ (ct_L_cell l b L xs (by omega)) (va_cwS 2 hts (km_goodS hT kw_232 kw_233 kw_0 kw_234) rfl rfl rfl (by decide +kernel) ⟨Nat.le_of_ble_eq_true rfl, Nat.le_of_ble_eq_true rfl⟩) ⟨fun a U g mk z => ⟨z.1, va_X.moved (u := U) (U := U.calling g mk a) (Vm.Alike.refl U.vm) z.2.1, z.2.2⟩, fun U hU hW => ⟨rfl, by rw [hU]; exact va_X.moved hW.alike (hX.kept (hS.2.1 b hbl hbA)), by rw [hU]; exact Nat.lt_of_lt_of_le hbl hS.1⟩⟩ rfl rfl hl.1 rfl (lv_room (Nat.le_of_ble_eq_true rfl)) kd_L_law_6 ⟨Nat.le_of_ble_eq_true rfl, Nat.le_of_ble_eq_true rfl⟩) hS (fun q _ h => h.elim) (fun q h => h.elim) (fun r u t H1 locs ht hvm hw1 hB hz1 hk1 hS => ?_)
  subst hw1
  have hP := hP.kept (fun k q hq => hk1 q.1 ((hP k q hq).lt) (fun z => z))
  refine W.widen (k := 1) (n := 4) (Nat.le_of_ble_eq_true rfl) (Nat.le_of_ble_eq_true rfl) ?_
  have hFc := va_freeS (w1 := []) hD hS hA
  refine va_callv (va_runI (As := [.int (cellV L xs)]) (rest := [.ref q0]) ⟨hx, hb, hml, hown, hts⟩ (ct_S_init l D cN cB cL q0 (cellV L xs) H1.size) (cwI 1 hts (km_good hT kw_11) rfl rfl rfl (hw _ kw_1) (hw _ kw_9) (hw _ kw_10) rfl (by decide +kernel) ⟨Nat.le_of_ble_eq_true rfl, Nat.le_of_ble_eq_true rfl⟩) ⟨fun a U g mk z => by obtain ⟨z0, z1, z2, z3, zP, zK, zD⟩ := z; exact ⟨z0, z1, va_AO.moved (u := U) (U := U.calling g mk a) (Vm.Alike.refl U.vm) z2, va_AO.moved (u := U) (U := U.calling g mk a) (Vm.Alike.refl U.vm) z3, zP, va_K.moved (u := U) (U := U.calling g mk a) (Vm.Alike.refl U.vm) zK, zD⟩, fun U hU hW => ⟨rfl, by rw [hU], va_AO.moved hW.alike hAN, va_AO.moved hW.alike hAB, by rw [hU]; exact hP, va_K.moved hW.alike hKC, hD.weaken (fun _ _ _ _ => trivial)⟩⟩ rfl rfl hl.1 rfl (lv_room (Nat.le_of_ble_eq_true rfl)) kd_L_law_9 ⟨Nat.le_of_ble_eq_true rfl, Nat.le_of_ble_eq_true rfl⟩) hS (fun q _ h => hFc q h) hFc (fun aC t2 H2 locs ht2 hvm2 hw2 hB2 hz2 hk2 hS => ?_)
  obtain ⟨hPa, -, hDa⟩ := hB2
  rw [ht2] at hPa
  have hDw := hDa.weaken (fun k q _ h => hFc q.1 h)
  have hn := cnt_ok (cellV L xs)
  obtain ⟨n, hnn⟩ : ∃ n, cntN (cellV L xs) = n := ⟨_, rfl⟩
  rw [hnn] at hPa hDw hn
  subst hw2
  refine W.widen (k := 91) (n := 1068) (Nat.le_of_ble_eq_true rfl) (Nat.le_of_ble_eq_true rfl) ?_
  refine lv_astore_n (lv' := [(1, .ref (aC (0, 0))), (0, .ref b)]) hx hb kd_L_law_12 rfl hl (by decide) rfl (fun ls hl => ?_)
  refine va_new (ci := 3) (fs := [.int 0, .int 0, .null, .null, .null, .null, .null, .null, .null, .null, .null, .null, .null, .null, .null, .long 0, .int 0]) (C := kR_M) (T := kT_M) (N := 17) hx hb hw ki_M kt_M ko_M hown (hw _ kw_235) (hw _ kw_236) (hw _ kw_5) hKM hPa hDw hS hA rfl (fun j hj => by rcases (show j = 0 ∨ j = 1 ∨ j = 2 ∨ j = 3 ∨ j = 4 ∨ j = 5 ∨ j = 6 ∨ j = 7 ∨ j = 8 ∨ j = 9 ∨ j = 10 ∨ j = 11 ∨ j = 12 ∨ j = 13 ∨ j = 14 ∨ j = 15 ∨ j = 16 by omega) with rfl | rfl | rfl | rfl | rfl | rfl | rfl | rfl | rfl | rfl | rfl | rfl | rfl | rfl | rfl | rfl | rfl <;> rfl) (Nat.le_of_ble_eq_true rfl) (Nat.le_of_ble_eq_true rfl) kd_L_law_13 (fun q1 H hP hD hS => ?_)
  refine W.widen (k := 92) (n := 1085) (Nat.le_of_ble_eq_true rfl) (Nat.le_of_ble_eq_true rfl) ?_
  refine lv_dup hx hb kd_L_law_16 rfl ?_
  refine lv_aload_n hx hb kd_L_law_17 rfl (lv_at hl 1 rfl) ?_
  refine lv_iconst (v := 0) hx hb kd_L_law_18 (by decide) ?_
  refine va_calli (va_runS (As := [.ref b, .int 0]) (rest := [.ref q1, .ref q1]) ⟨hx, hb, hml, hown, hts⟩ (ct_L_cell l b L xs (by omega)) (va_cwS 2 hts (km_goodS hT kw_232 kw_233 kw_0 kw_234) rfl rfl rfl (by decide +kernel) ⟨Nat.le_of_ble_eq_true rfl, Nat.le_of_ble_eq_true rfl⟩) ⟨fun a U g mk z => ⟨z.1, va_X.moved (u := U) (U := U.calling g mk a) (Vm.Alike.refl U.vm) z.2.1, z.2.2⟩, fun U hU hW => ⟨rfl, by rw [hU]; exact va_X.moved hW.alike (hX.kept (hS.2.1 b hbl hbA)), by rw [hU]; exact Nat.lt_of_lt_of_le hbl hS.1⟩⟩ rfl rfl hl.1 rfl (lv_room (Nat.le_of_ble_eq_true rfl)) kd_L_law_19 ⟨Nat.le_of_ble_eq_true rfl, Nat.le_of_ble_eq_true rfl⟩) hS (fun q _ h => h.elim) (fun q h => h.elim) (fun r u t H1 locs ht hvm hw1 hB hz1 hk1 hS => ?_)
  subst hw1
  have hP := hP.kept (fun k q hq => hk1 q.1 ((hP k q hq).lt) (fun z => z))
  refine W.widen (k := 92) (n := 1085) (Nat.le_of_ble_eq_true rfl) (Nat.le_of_ble_eq_true rfl) ?_
  have hFc := va_freeS hD hS hA
  obtain ⟨hPc, hDc⟩ := va_snd hP hD
  refine va_callv (va_runI (As := [.int (cellV L xs)]) (rest := [.ref q1]) ⟨hx, hb, hml, hown, hts⟩ (ct_M_init l D cI cZ cL q1 (cellV L xs) H1.size) (cwI 1 hts (km_good hT kw_239) rfl rfl rfl (hw _ kw_5) (hw _ kw_237) (hw _ kw_238) rfl (by decide +kernel) ⟨Nat.le_of_ble_eq_true rfl, Nat.le_of_ble_eq_true rfl⟩) ⟨fun a U g mk z => by obtain ⟨z0, z1, zP, zK, zD⟩ := z; exact ⟨z0, z1, zP, va_K.moved (u := U) (U := U.calling g mk a) (Vm.Alike.refl U.vm) zK, zD⟩, fun U hU hW => ⟨rfl, by rw [hU], by rw [hU]; exact hPc, va_K.moved hW.alike hKM, hDc.weaken (fun _ _ _ _ => trivial)⟩⟩ rfl rfl hl.1 rfl (lv_room (Nat.le_of_ble_eq_true rfl)) kd_L_law_22 ⟨Nat.le_of_ble_eq_true rfl, Nat.le_of_ble_eq_true rfl⟩) hS (fun q _ h => hFc q h) hFc (fun aM t3 H3 locs ht3 hvm3 hw3 hB3 hz3 hk3 hS => ?_)
  obtain ⟨hPb, -, hDb⟩ := hB3
  rw [ht3] at hPb
  rw [hnn] at hPb hDb
  obtain ⟨hP9, hD9⟩ := va_jn hP hD hk3 hFc hPb hDb
  have hap := va_ap2 hD9
  obtain ⟨hPC, hDC⟩ := va_fst hP9 hD9
  obtain ⟨hPM, hDM⟩ := va_snd hP9 hD9
  subst hw3
  refine W.widen (k := 105) (n := 2320) (Nat.le_of_ble_eq_true rfl) (Nat.le_of_ble_eq_true rfl) ?_
  refine lv_astore_n (lv' := [(2, .ref (aM (0, 0))), (1, .ref (aC (0, 0))), (0, .ref b)]) hx hb kd_L_law_25 rfl hl (by decide) rfl (fun ls hl => ?_)
  refine lv_iconst (v := 1) hx hb kd_L_law_26 (by decide) ?_
  refine lv_istore_n (lv' := [(3, .int 1), (2, .ref (aM (0, 0))), (1, .ref (aC (0, 0))), (0, .ref b)]) hx hb kd_L_law_27 rfl hl (by decide) rfl (fun ls hl => ?_)
  exact law_loop hL C0 hn aC aM cN cB cL cI cZ cL hKC hKM hap (L + 1) 0 0 0 cs0 ms0 _ _ _ (Nat.zero_le L) (by omega) (Nat.zero_le _) (sim_0 hn.2) hPC hDC hPM hDM hS (lv_sub hl [3, 2, 1, 0] rfl)
