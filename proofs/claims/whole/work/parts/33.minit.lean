abbrev that0 (h0 : Nat) : va_W := [(h0, .inr (3, [.int 0, .int 0, .null, .null, .null, .null, .null, .null, .null, .null, .null, .null, .null, .null, .null, .long 0, .int 0]))]
def nmF (j : Nat) : Nat → Int32 := fun k => if 1 ≤ k ∧ k ≤ j then nI k else 0
theorem nmF_0 : (fun _ => 0 : Nat → Int32) = nmF 0 := by
  funext k
  unfold nmF
  rw [if_neg (by omega)]
theorem nmF_s (j : Nat) : upd (nmF j) (j + 1) (nI (j + 1)) = nmF (j + 1) := by
  funext k
  unfold upd nmF
  by_cases h : k = j + 1
  · subst h; simp
  · have : (1 ≤ k ∧ k ≤ j + 1) = (1 ≤ k ∧ k ≤ j) := by apply propext; omega
    simp [h, this]
def mv0 : MV := (0, 0, 0, 0, 0, 0, 0, 0, 0, 0)
/-- the reference as it begins -/
def ms0 : MS := (fun _ => mv0, nmF 8, fun _ => 0, fun _ => 0, 0, 0, 0)
def adM (h0 q1 q2 q3 q4 q5 q6 q7 q8 q9 q10 q11 q12 q13 : Nat) : Nat × Nat → Nat := fun κ => match κ.1 with
  | 0 => h0
  | 1 => q1
  | 2 => q2
  | 3 => q3
  | 4 => q4
  | 5 => q5
  | 6 => q6
  | 7 => q7
  | 8 => q8
  | 9 => q9
  | 10 => q10
  | 11 => q11
  | 12 => q12
  | _ => q13
theorem gM_0 {n h0 q1 q2 q3 q4 q5 q6 q7 q8 q9 q10 q11 q12 q13 : Nat} {cI cZ cL : ClassId} : ([(h0, .inr (3, [.int 0, .int (nI n), .ref q1, .ref q2, .ref q3, .ref q4, .ref q5, .ref q6, .ref q7, .ref q8, .ref q9, .ref q10, .ref q11, .ref q12, .ref q13, .long 0, .int 0])), (q1, .inl (cI, 65, .inl (fun _ => 0))), (q2, .inl (cZ, 65, .inl (fun _ => 0))), (q3, .inl (cZ, 65, .inl (fun _ => 0))), (q4, .inl (cZ, 65, .inl (fun _ => 0))), (q5, .inl (cI, 65, .inl (fun _ => 0))), (q6, .inl (cL, 65, .inr (.inl (fun _ => 0)))), (q7, .inl (cL, 65, .inr (.inl (fun _ => 0)))), (q8, .inl (cL, 65, .inr (.inl (fun _ => 0)))), (q9, .inl (cZ, 65, .inl (fun _ => 0))), (q10, .inl (cL, 65, .inr (.inl (fun _ => 0)))), (q11, .inl (cI, 9, .inl (nmF 8))), (q12, .inl (cL, 288, .inr (.inl (fun _ => 0)))), (q13, .inl (cZ, 288, .inl (fun _ => 0)))] : va_W) = kW kM (adM h0 q1 q2 q3 q4 q5 q6 q7 q8 q9 q10 q11 q12 q13) (gM n (adM h0 q1 q2 q3 q4 q5 q6 q7 q8 q9 q10 q11 q12 q13) cI cZ cL ms0) := rfl
set_option maxHeartbeats 4000000 in
set_option maxRecDepth 100000 in
theorem ct_M_init (l : Launch) (D : va_G) (cI cZ cL : ClassId) (h0 : Nat) (x : Int32) (sz : Nat) : Met l ky_M_init (km ky_M_init kc_M_init 3 none) ({ frames := 1, cells := 13, slots := 1235, locals := 12 }) (va_Pc [.ref h0, .int x] (fun U => U.heap.size = sz ∧ va_P D kCl (that0 h0) U.heap ∧ va_K D kCl (tM cI cZ cL) U ∧ va_D (fun _ => True) (that0 h0))) (va_Qv (fun ad : Nat × Nat → Nat => ad (0, 0) = h0) (fun ad t => va_P D kCl (kW kM ad (gM (cntN x) ad cI cZ cL ms0)) t.heap ∧ va_K D kCl (tM cI cZ cL) t ∧ va_D (va_A (that0 h0) sz) (kW kM ad (gM (cntN x) ad cI cZ cL ms0))) (va_A (that0 h0) sz)) 13 1235 (va_A (that0 h0) sz) := by
  refine Met.ofW (cc := kc_M_init) (maxL := 3) (ret := none) (by decide) rfl ?_
  intro p e s m args below meth c s₁ B hml hv
  obtain ⟨rfl, hsz, hP, hK, hD0⟩ := hv
  have hx := B.exec
  have hb := B.bytes
  have hr := B.returns
  have hts := atoms_spec (ws := km ky_M_init kc_M_init 3 none) B.pre
  have hT : ∀ w ∈ kB_l, w ∈ km ky_M_init kc_M_init 3 none := fun w h => List.mem_cons_of_mem _ h
  have hw := fun w h => hts w (hT w h)
  have hown : s.vm.findClass kR_M = some m.cls := findClass_of_methodNamed B.named
  have hlocks := B.notSynchronized
  have hin : meth.name = "<init>" := (name_of_methodNamed B.named B.method).1
  subst hsz
  have hD := hD0.self (sz := s.heap.size)
  generalize hAe : va_A (that0 h0) s.heap.size = A at hD ⊢
  have hA : ∀ q : Nat, s.heap.size ≤ q → A q := fun q h => by rw [← hAe]; exact Or.inr h
  have hS : va_S A s.heap s.heap [] := va_S.rf
  have hl := lv_entry ([.ref h0, .int x]) (n := 3) (Nat.le_of_ble_eq_true rfl)
  rw [lg_entry_eq]
  generalize (lg_sl ([.ref h0, .int x]) ++ List.replicate (3 - (lg_sl ([.ref h0, .int x])).length) Slot.unset).toArray = ls at hl ⊢
  have hl : lv_has ls 3 [(0, .ref h0), (1, .int x)] := hl
  have hn := cnt_ok x
  have hca := @cnt_a x
  have hcb := @cnt_b x
  have hcc := @cnt_c x
  generalize cntN x = n at hn hca hcb hcc ⊢
  refine lv_aload_n hx hb kd_M_init_0 rfl (lv_at hl 0 rfl) ?_
  refine W.objInit hx hb hown (hw _ kw_240) (hw _ kw_13) (hw _ kw_14) rfl (by rw [hml]; exact hl.1) rfl kd_M_init_1 (Nat.le_of_ble_eq_true rfl) (Nat.le_of_ble_eq_true rfl) ?_
  refine W.eq (g2 := F0 m 4 ls []) rfl ?_
  refine lv_aload_n hx hb kd_M_init_4 rfl (lv_at hl 0 rfl) ?_
  refine lv_bipush (v := 65) hx hb kd_M_init_5 (by decide) ?_
  refine va_newa (atype := .int) (ty := .int) (N' := 65) (a0 := (65, .inl (fun _ => 0))) hx hb (hw _ kw_293) rfl hK hP hD hS hA (fun _ => rfl) (by decide) rfl (by decide) (Nat.le_of_ble_eq_true rfl) (Nat.le_of_ble_eq_true rfl) kd_M_init_7 (fun q1 cA1 H hK1 hP hD hS => ?_)
  have ec : cA1 = cI := k_uni hK1 (i := 3) (j := 0) rfl rfl
  rw [ec] at hP hD
  have hP : va_P D kCl [(h0, .inr (3, [.int 0, .int 0, .null, .null, .null, .null, .null, .null, .null, .null, .null, .null, .null, .null, .null, .long 0, .int 0])), (q1, .inl (cI, 65, .inl (fun _ => 0)))] H := hP
  have hD : va_D A [(h0, .inr (3, [.int 0, .int 0, .null, .null, .null, .null, .null, .null, .null, .null, .null, .null, .null, .null, .null, .long 0, .int 0])), (q1, .inl (cI, 65, .inl (fun _ => 0)))] := hD
  refine W.widen (k := 1) (n := 65) (Nat.le_of_ble_eq_true rfl) (Nat.le_of_ble_eq_true rfl) ?_
  refine va_putF (D := (D)) (ci := 3) (v := .ref q1) (C := kR_M) (T := kT_M) (N := 17) hx hb hw ki_M kt_M ko_M kn_M hown hK hP hD hS 0 rfl rfl 2 (by decide) (hw _ kw_243) (fun _ h9 => h9) rfl hin rfl (ko_M 2 (by decide)) rfl rfl (Nat.le_of_ble_eq_true rfl) kd_M_init_9 (fun H locs hP hD hS => ?_)
  have hP : va_P D kCl [(h0, .inr (3, [.int 0, .int 0, .ref q1, .null, .null, .null, .null, .null, .null, .null, .null, .null, .null, .null, .null, .long 0, .int 0])), (q1, .inl (cI, 65, .inl (fun _ => 0)))] H := hP
  have hD : va_D A [(h0, .inr (3, [.int 0, .int 0, .ref q1, .null, .null, .null, .null, .null, .null, .null, .null, .null, .null, .null, .null, .long 0, .int 0])), (q1, .inl (cI, 65, .inl (fun _ => 0)))] := hD
  refine lv_aload_n hx hb kd_M_init_12 rfl (lv_at hl 0 rfl) ?_
  refine lv_bipush (v := 65) hx hb kd_M_init_13 (by decide) ?_
  refine va_newa (atype := .boolean) (ty := .boolean) (N' := 65) (a0 := (65, .inl (fun _ => 0))) hx hb (hw _ kw_294) rfl hK hP hD hS hA (fun _ => rfl) (by decide) rfl (by decide) (Nat.le_of_ble_eq_true rfl) (Nat.le_of_ble_eq_true rfl) kd_M_init_15 (fun q2 cA2 H hK1 hP hD hS => ?_)
  have ec : cA2 = cZ := k_uni hK1 (i := 3) (j := 1) rfl rfl
  rw [ec] at hP hD
  have hP : va_P D kCl [(h0, .inr (3, [.int 0, .int 0, .ref q1, .null, .null, .null, .null, .null, .null, .null, .null, .null, .null, .null, .null, .long 0, .int 0])), (q1, .inl (cI, 65, .inl (fun _ => 0))), (q2, .inl (cZ, 65, .inl (fun _ => 0)))] H := hP
  have hD : va_D A [(h0, .inr (3, [.int 0, .int 0, .ref q1, .null, .null, .null, .null, .null, .null, .null, .null, .null, .null, .null, .null, .long 0, .int 0])), (q1, .inl (cI, 65, .inl (fun _ => 0))), (q2, .inl (cZ, 65, .inl (fun _ => 0)))] := hD
  refine W.widen (k := 2) (n := 130) (Nat.le_of_ble_eq_true rfl) (Nat.le_of_ble_eq_true rfl) ?_
  refine va_putF (D := (D)) (ci := 3) (v := .ref q2) (C := kR_M) (T := kT_M) (N := 17) hx hb hw ki_M kt_M ko_M kn_M hown hK hP hD hS 0 rfl rfl 3 (by decide) (hw _ kw_244) (fun _ h9 => h9) rfl hin rfl (ko_M 3 (by decide)) rfl rfl (Nat.le_of_ble_eq_true rfl) kd_M_init_17 (fun H locs hP hD hS => ?_)
  have hP : va_P D kCl [(h0, .inr (3, [.int 0, .int 0, .ref q1, .ref q2, .null, .null, .null, .null, .null, .null, .null, .null, .null, .null, .null, .long 0, .int 0])), (q1, .inl (cI, 65, .inl (fun _ => 0))), (q2, .inl (cZ, 65, .inl (fun _ => 0)))] H := hP
  have hD : va_D A [(h0, .inr (3, [.int 0, .int 0, .ref q1, .ref q2, .null, .null, .null, .null, .null, .null, .null, .null, .null, .null, .null, .long 0, .int 0])), (q1, .inl (cI, 65, .inl (fun _ => 0))), (q2, .inl (cZ, 65, .inl (fun _ => 0)))] := hD
  refine lv_aload_n hx hb kd_M_init_20 rfl (lv_at hl 0 rfl) ?_
  refine lv_bipush (v := 65) hx hb kd_M_init_21 (by decide) ?_
  refine va_newa (atype := .boolean) (ty := .boolean) (N' := 65) (a0 := (65, .inl (fun _ => 0))) hx hb (hw _ kw_294) rfl hK hP hD hS hA (fun _ => rfl) (by decide) rfl (by decide) (Nat.le_of_ble_eq_true rfl) (Nat.le_of_ble_eq_true rfl) kd_M_init_23 (fun q3 cA3 H hK1 hP hD hS => ?_)
  have ec : cA3 = cZ := k_uni hK1 (i := 3) (j := 1) rfl rfl
  rw [ec] at hP hD
  have hP : va_P D kCl [(h0, .inr (3, [.int 0, .int 0, .ref q1, .ref q2, .null, .null, .null, .null, .null, .null, .null, .null, .null, .null, .null, .long 0, .int 0])), (q1, .inl (cI, 65, .inl (fun _ => 0))), (q2, .inl (cZ, 65, .inl (fun _ => 0))), (q3, .inl (cZ, 65, .inl (fun _ => 0)))] H := hP
  have hD : va_D A [(h0, .inr (3, [.int 0, .int 0, .ref q1, .ref q2, .null, .null, .null, .null, .null, .null, .null, .null, .null, .null, .null, .long 0, .int 0])), (q1, .inl (cI, 65, .inl (fun _ => 0))), (q2, .inl (cZ, 65, .inl (fun _ => 0))), (q3, .inl (cZ, 65, .inl (fun _ => 0)))] := hD
  refine W.widen (k := 3) (n := 195) (Nat.le_of_ble_eq_true rfl) (Nat.le_of_ble_eq_true rfl) ?_
  refine va_putF (D := (D)) (ci := 3) (v := .ref q3) (C := kR_M) (T := kT_M) (N := 17) hx hb hw ki_M kt_M ko_M kn_M hown hK hP hD hS 0 rfl rfl 4 (by decide) (hw _ kw_245) (fun _ h9 => h9) rfl hin rfl (ko_M 4 (by decide)) rfl rfl (Nat.le_of_ble_eq_true rfl) kd_M_init_25 (fun H locs hP hD hS => ?_)
  have hP : va_P D kCl [(h0, .inr (3, [.int 0, .int 0, .ref q1, .ref q2, .ref q3, .null, .null, .null, .null, .null, .null, .null, .null, .null, .null, .long 0, .int 0])), (q1, .inl (cI, 65, .inl (fun _ => 0))), (q2, .inl (cZ, 65, .inl (fun _ => 0))), (q3, .inl (cZ, 65, .inl (fun _ => 0)))] H := hP
  have hD : va_D A [(h0, .inr (3, [.int 0, .int 0, .ref q1, .ref q2, .ref q3, .null, .null, .null, .null, .null, .null, .null, .null, .null, .null, .long 0, .int 0])), (q1, .inl (cI, 65, .inl (fun _ => 0))), (q2, .inl (cZ, 65, .inl (fun _ => 0))), (q3, .inl (cZ, 65, .inl (fun _ => 0)))] := hD
  refine lv_aload_n hx hb kd_M_init_28 rfl (lv_at hl 0 rfl) ?_
  refine lv_bipush (v := 65) hx hb kd_M_init_29 (by decide) ?_
  refine va_newa (atype := .boolean) (ty := .boolean) (N' := 65) (a0 := (65, .inl (fun _ => 0))) hx hb (hw _ kw_294) rfl hK hP hD hS hA (fun _ => rfl) (by decide) rfl (by decide) (Nat.le_of_ble_eq_true rfl) (Nat.le_of_ble_eq_true rfl) kd_M_init_31 (fun q4 cA4 H hK1 hP hD hS => ?_)
  have ec : cA4 = cZ := k_uni hK1 (i := 3) (j := 1) rfl rfl
  rw [ec] at hP hD
  have hP : va_P D kCl [(h0, .inr (3, [.int 0, .int 0, .ref q1, .ref q2, .ref q3, .null, .null, .null, .null, .null, .null, .null, .null, .null, .null, .long 0, .int 0])), (q1, .inl (cI, 65, .inl (fun _ => 0))), (q2, .inl (cZ, 65, .inl (fun _ => 0))), (q3, .inl (cZ, 65, .inl (fun _ => 0))), (q4, .inl (cZ, 65, .inl (fun _ => 0)))] H := hP
  have hD : va_D A [(h0, .inr (3, [.int 0, .int 0, .ref q1, .ref q2, .ref q3, .null, .null, .null, .null, .null, .null, .null, .null, .null, .null, .long 0, .int 0])), (q1, .inl (cI, 65, .inl (fun _ => 0))), (q2, .inl (cZ, 65, .inl (fun _ => 0))), (q3, .inl (cZ, 65, .inl (fun _ => 0))), (q4, .inl (cZ, 65, .inl (fun _ => 0)))] := hD
  refine W.widen (k := 4) (n := 260) (Nat.le_of_ble_eq_true rfl) (Nat.le_of_ble_eq_true rfl) ?_
  refine va_putF (D := (D)) (ci := 3) (v := .ref q4) (C := kR_M) (T := kT_M) (N := 17) hx hb hw ki_M kt_M ko_M kn_M hown hK hP hD hS 0 rfl rfl 5 (by decide) (hw _ kw_246) (fun _ h9 => h9) rfl hin rfl (ko_M 5 (by decide)) rfl rfl (Nat.le_of_ble_eq_true rfl) kd_M_init_33 (fun H locs hP hD hS => ?_)
  have hP : va_P D kCl [(h0, .inr (3, [.int 0, .int 0, .ref q1, .ref q2, .ref q3, .ref q4, .null, .null, .null, .null, .null, .null, .null, .null, .null, .long 0, .int 0])), (q1, .inl (cI, 65, .inl (fun _ => 0))), (q2, .inl (cZ, 65, .inl (fun _ => 0))), (q3, .inl (cZ, 65, .inl (fun _ => 0))), (q4, .inl (cZ, 65, .inl (fun _ => 0)))] H := hP
  have hD : va_D A [(h0, .inr (3, [.int 0, .int 0, .ref q1, .ref q2, .ref q3, .ref q4, .null, .null, .null, .null, .null, .null, .null, .null, .null, .long 0, .int 0])), (q1, .inl (cI, 65, .inl (fun _ => 0))), (q2, .inl (cZ, 65, .inl (fun _ => 0))), (q3, .inl (cZ, 65, .inl (fun _ => 0))), (q4, .inl (cZ, 65, .inl (fun _ => 0)))] := hD
  refine lv_aload_n hx hb kd_M_init_36 rfl (lv_at hl 0 rfl) ?_
  refine lv_bipush (v := 65) hx hb kd_M_init_37 (by decide) ?_
  refine va_newa (atype := .int) (ty := .int) (N' := 65) (a0 := (65, .inl (fun _ => 0))) hx hb (hw _ kw_293) rfl hK hP hD hS hA (fun _ => rfl) (by decide) rfl (by decide) (Nat.le_of_ble_eq_true rfl) (Nat.le_of_ble_eq_true rfl) kd_M_init_39 (fun q5 cA5 H hK1 hP hD hS => ?_)
  have ec : cA5 = cI := k_uni hK1 (i := 3) (j := 0) rfl rfl
  rw [ec] at hP hD
  have hP : va_P D kCl [(h0, .inr (3, [.int 0, .int 0, .ref q1, .ref q2, .ref q3, .ref q4, .null, .null, .null, .null, .null, .null, .null, .null, .null, .long 0, .int 0])), (q1, .inl (cI, 65, .inl (fun _ => 0))), (q2, .inl (cZ, 65, .inl (fun _ => 0))), (q3, .inl (cZ, 65, .inl (fun _ => 0))), (q4, .inl (cZ, 65, .inl (fun _ => 0))), (q5, .inl (cI, 65, .inl (fun _ => 0)))] H := hP
  have hD : va_D A [(h0, .inr (3, [.int 0, .int 0, .ref q1, .ref q2, .ref q3, .ref q4, .null, .null, .null, .null, .null, .null, .null, .null, .null, .long 0, .int 0])), (q1, .inl (cI, 65, .inl (fun _ => 0))), (q2, .inl (cZ, 65, .inl (fun _ => 0))), (q3, .inl (cZ, 65, .inl (fun _ => 0))), (q4, .inl (cZ, 65, .inl (fun _ => 0))), (q5, .inl (cI, 65, .inl (fun _ => 0)))] := hD
  refine W.widen (k := 5) (n := 325) (Nat.le_of_ble_eq_true rfl) (Nat.le_of_ble_eq_true rfl) ?_
  refine va_putF (D := (D)) (ci := 3) (v := .ref q5) (C := kR_M) (T := kT_M) (N := 17) hx hb hw ki_M kt_M ko_M kn_M hown hK hP hD hS 0 rfl rfl 6 (by decide) (hw _ kw_247) (fun _ h9 => h9) rfl hin rfl (ko_M 6 (by decide)) rfl rfl (Nat.le_of_ble_eq_true rfl) kd_M_init_41 (fun H locs hP hD hS => ?_)
  have hP : va_P D kCl [(h0, .inr (3, [.int 0, .int 0, .ref q1, .ref q2, .ref q3, .ref q4, .ref q5, .null, .null, .null, .null, .null, .null, .null, .null, .long 0, .int 0])), (q1, .inl (cI, 65, .inl (fun _ => 0))), (q2, .inl (cZ, 65, .inl (fun _ => 0))), (q3, .inl (cZ, 65, .inl (fun _ => 0))), (q4, .inl (cZ, 65, .inl (fun _ => 0))), (q5, .inl (cI, 65, .inl (fun _ => 0)))] H := hP
  have hD : va_D A [(h0, .inr (3, [.int 0, .int 0, .ref q1, .ref q2, .ref q3, .ref q4, .ref q5, .null, .null, .null, .null, .null, .null, .null, .null, .long 0, .int 0])), (q1, .inl (cI, 65, .inl (fun _ => 0))), (q2, .inl (cZ, 65, .inl (fun _ => 0))), (q3, .inl (cZ, 65, .inl (fun _ => 0))), (q4, .inl (cZ, 65, .inl (fun _ => 0))), (q5, .inl (cI, 65, .inl (fun _ => 0)))] := hD
  refine lv_aload_n hx hb kd_M_init_44 rfl (lv_at hl 0 rfl) ?_
  refine lv_bipush (v := 65) hx hb kd_M_init_45 (by decide) ?_
  refine va_newa (atype := .long) (ty := .long) (N' := 65) (a0 := (65, .inr (.inl (fun _ => 0)))) hx hb (hw _ kw_48) rfl hK hP hD hS hA (fun _ => rfl) (by decide) rfl (by decide) (Nat.le_of_ble_eq_true rfl) (Nat.le_of_ble_eq_true rfl) kd_M_init_47 (fun q6 cA6 H hK1 hP hD hS => ?_)
  have ec : cA6 = cL := k_uni hK1 (i := 3) (j := 2) rfl rfl
  rw [ec] at hP hD
  have hP : va_P D kCl [(h0, .inr (3, [.int 0, .int 0, .ref q1, .ref q2, .ref q3, .ref q4, .ref q5, .null, .null, .null, .null, .null, .null, .null, .null, .long 0, .int 0])), (q1, .inl (cI, 65, .inl (fun _ => 0))), (q2, .inl (cZ, 65, .inl (fun _ => 0))), (q3, .inl (cZ, 65, .inl (fun _ => 0))), (q4, .inl (cZ, 65, .inl (fun _ => 0))), (q5, .inl (cI, 65, .inl (fun _ => 0))), (q6, .inl (cL, 65, .inr (.inl (fun _ => 0))))] H := hP
  have hD : va_D A [(h0, .inr (3, [.int 0, .int 0, .ref q1, .ref q2, .ref q3, .ref q4, .ref q5, .null, .null, .null, .null, .null, .null, .null, .null, .long 0, .int 0])), (q1, .inl (cI, 65, .inl (fun _ => 0))), (q2, .inl (cZ, 65, .inl (fun _ => 0))), (q3, .inl (cZ, 65, .inl (fun _ => 0))), (q4, .inl (cZ, 65, .inl (fun _ => 0))), (q5, .inl (cI, 65, .inl (fun _ => 0))), (q6, .inl (cL, 65, .inr (.inl (fun _ => 0))))] := hD
  refine W.widen (k := 6) (n := 390) (Nat.le_of_ble_eq_true rfl) (Nat.le_of_ble_eq_true rfl) ?_
  refine va_putF (D := (D)) (ci := 3) (v := .ref q6) (C := kR_M) (T := kT_M) (N := 17) hx hb hw ki_M kt_M ko_M kn_M hown hK hP hD hS 0 rfl rfl 7 (by decide) (hw _ kw_248) (fun _ h9 => h9) rfl hin rfl (ko_M 7 (by decide)) rfl rfl (Nat.le_of_ble_eq_true rfl) kd_M_init_49 (fun H locs hP hD hS => ?_)
  have hP : va_P D kCl [(h0, .inr (3, [.int 0, .int 0, .ref q1, .ref q2, .ref q3, .ref q4, .ref q5, .ref q6, .null, .null, .null, .null, .null, .null, .null, .long 0, .int 0])), (q1, .inl (cI, 65, .inl (fun _ => 0))), (q2, .inl (cZ, 65, .inl (fun _ => 0))), (q3, .inl (cZ, 65, .inl (fun _ => 0))), (q4, .inl (cZ, 65, .inl (fun _ => 0))), (q5, .inl (cI, 65, .inl (fun _ => 0))), (q6, .inl (cL, 65, .inr (.inl (fun _ => 0))))] H := hP
  have hD : va_D A [(h0, .inr (3, [.int 0, .int 0, .ref q1, .ref q2, .ref q3, .ref q4, .ref q5, .ref q6, .null, .null, .null, .null, .null, .null, .null, .long 0, .int 0])), (q1, .inl (cI, 65, .inl (fun _ => 0))), (q2, .inl (cZ, 65, .inl (fun _ => 0))), (q3, .inl (cZ, 65, .inl (fun _ => 0))), (q4, .inl (cZ, 65, .inl (fun _ => 0))), (q5, .inl (cI, 65, .inl (fun _ => 0))), (q6, .inl (cL, 65, .inr (.inl (fun _ => 0))))] := hD
  refine lv_aload_n hx hb kd_M_init_52 rfl (lv_at hl 0 rfl) ?_
  refine lv_bipush (v := 65) hx hb kd_M_init_53 (by decide) ?_
  refine va_newa (atype := .long) (ty := .long) (N' := 65) (a0 := (65, .inr (.inl (fun _ => 0)))) hx hb (hw _ kw_48) rfl hK hP hD hS hA (fun _ => rfl) (by decide) rfl (by decide) (Nat.le_of_ble_eq_true rfl) (Nat.le_of_ble_eq_true rfl) kd_M_init_55 (fun q7 cA7 H hK1 hP hD hS => ?_)
  have ec : cA7 = cL := k_uni hK1 (i := 3) (j := 2) rfl rfl
  rw [ec] at hP hD
  have hP : va_P D kCl [(h0, .inr (3, [.int 0, .int 0, .ref q1, .ref q2, .ref q3, .ref q4, .ref q5, .ref q6, .null, .null, .null, .null, .null, .null, .null, .long 0, .int 0])), (q1, .inl (cI, 65, .inl (fun _ => 0))), (q2, .inl (cZ, 65, .inl (fun _ => 0))), (q3, .inl (cZ, 65, .inl (fun _ => 0))), (q4, .inl (cZ, 65, .inl (fun _ => 0))), (q5, .inl (cI, 65, .inl (fun _ => 0))), (q6, .inl (cL, 65, .inr (.inl (fun _ => 0)))), (q7, .inl (cL, 65, .inr (.inl (fun _ => 0))))] H := hP
  have hD : va_D A [(h0, .inr (3, [.int 0, .int 0, .ref q1, .ref q2, .ref q3, .ref q4, .ref q5, .ref q6, .null, .null, .null, .null, .null, .null, .null, .long 0, .int 0])), (q1, .inl (cI, 65, .inl (fun _ => 0))), (q2, .inl (cZ, 65, .inl (fun _ => 0))), (q3, .inl (cZ, 65, .inl (fun _ => 0))), (q4, .inl (cZ, 65, .inl (fun _ => 0))), (q5, .inl (cI, 65, .inl (fun _ => 0))), (q6, .inl (cL, 65, .inr (.inl (fun _ => 0)))), (q7, .inl (cL, 65, .inr (.inl (fun _ => 0))))] := hD
  refine W.widen (k := 7) (n := 455) (Nat.le_of_ble_eq_true rfl) (Nat.le_of_ble_eq_true rfl) ?_
  refine va_putF (D := (D)) (ci := 3) (v := .ref q7) (C := kR_M) (T := kT_M) (N := 17) hx hb hw ki_M kt_M ko_M kn_M hown hK hP hD hS 0 rfl rfl 8 (by decide) (hw _ kw_249) (fun _ h9 => h9) rfl hin rfl (ko_M 8 (by decide)) rfl rfl (Nat.le_of_ble_eq_true rfl) kd_M_init_57 (fun H locs hP hD hS => ?_)
  have hP : va_P D kCl [(h0, .inr (3, [.int 0, .int 0, .ref q1, .ref q2, .ref q3, .ref q4, .ref q5, .ref q6, .ref q7, .null, .null, .null, .null, .null, .null, .long 0, .int 0])), (q1, .inl (cI, 65, .inl (fun _ => 0))), (q2, .inl (cZ, 65, .inl (fun _ => 0))), (q3, .inl (cZ, 65, .inl (fun _ => 0))), (q4, .inl (cZ, 65, .inl (fun _ => 0))), (q5, .inl (cI, 65, .inl (fun _ => 0))), (q6, .inl (cL, 65, .inr (.inl (fun _ => 0)))), (q7, .inl (cL, 65, .inr (.inl (fun _ => 0))))] H := hP
  have hD : va_D A [(h0, .inr (3, [.int 0, .int 0, .ref q1, .ref q2, .ref q3, .ref q4, .ref q5, .ref q6, .ref q7, .null, .null, .null, .null, .null, .null, .long 0, .int 0])), (q1, .inl (cI, 65, .inl (fun _ => 0))), (q2, .inl (cZ, 65, .inl (fun _ => 0))), (q3, .inl (cZ, 65, .inl (fun _ => 0))), (q4, .inl (cZ, 65, .inl (fun _ => 0))), (q5, .inl (cI, 65, .inl (fun _ => 0))), (q6, .inl (cL, 65, .inr (.inl (fun _ => 0)))), (q7, .inl (cL, 65, .inr (.inl (fun _ => 0))))] := hD
  refine lv_aload_n hx hb kd_M_init_60 rfl (lv_at hl 0 rfl) ?_
  refine lv_bipush (v := 65) hx hb kd_M_init_61 (by decide) ?_
  refine va_newa (atype := .long) (ty := .long) (N' := 65) (a0 := (65, .inr (.inl (fun _ => 0)))) hx hb (hw _ kw_48) rfl hK hP hD hS hA (fun _ => rfl) (by decide) rfl (by decide) (Nat.le_of_ble_eq_true rfl) (Nat.le_of_ble_eq_true rfl) kd_M_init_63 (fun q8 cA8 H hK1 hP hD hS => ?_)
  have ec : cA8 = cL := k_uni hK1 (i := 3) (j := 2) rfl rfl
  rw [ec] at hP hD
  have hP : va_P D kCl [(h0, .inr (3, [.int 0, .int 0, .ref q1, .ref q2, .ref q3, .ref q4, .ref q5, .ref q6, .ref q7, .null, .null, .null, .null, .null, .null, .long 0, .int 0])), (q1, .inl (cI, 65, .inl (fun _ => 0))), (q2, .inl (cZ, 65, .inl (fun _ => 0))), (q3, .inl (cZ, 65, .inl (fun _ => 0))), (q4, .inl (cZ, 65, .inl (fun _ => 0))), (q5, .inl (cI, 65, .inl (fun _ => 0))), (q6, .inl (cL, 65, .inr (.inl (fun _ => 0)))), (q7, .inl (cL, 65, .inr (.inl (fun _ => 0)))), (q8, .inl (cL, 65, .inr (.inl (fun _ => 0))))] H := hP
  have hD : va_D A [(h0, .inr (3, [.int 0, .int 0, .ref q1, .ref q2, .ref q3, .ref q4, .ref q5, .ref q6, .ref q7, .null, .null, .null, .null, .null, .null, .long 0, .int 0])), (q1, .inl (cI, 65, .inl (fun _ => 0))), (q2, .inl (cZ, 65, .inl (fun _ => 0))), (q3, .inl (cZ, 65, .inl (fun _ => 0))), (q4, .inl (cZ, 65, .inl (fun _ => 0))), (q5, .inl (cI, 65, .inl (fun _ => 0))), (q6, .inl (cL, 65, .inr (.inl (fun _ => 0)))), (q7, .inl (cL, 65, .inr (.inl (fun _ => 0)))), (q8, .inl (cL, 65, .inr (.inl (fun _ => 0))))] := hD
  refine W.widen (k := 8) (n := 520) (Nat.le_of_ble_eq_true rfl) (Nat.le_of_ble_eq_true rfl) ?_
  refine va_putF (D := (D)) (ci := 3) (v := .ref q8) (C := kR_M) (T := kT_M) (N := 17) hx hb hw ki_M kt_M ko_M kn_M hown hK hP hD hS 0 rfl rfl 9 (by decide) (hw _ kw_250) (fun _ h9 => h9) rfl hin rfl (ko_M 9 (by decide)) rfl rfl (Nat.le_of_ble_eq_true rfl) kd_M_init_65 (fun H locs hP hD hS => ?_)
  have hP : va_P D kCl [(h0, .inr (3, [.int 0, .int 0, .ref q1, .ref q2, .ref q3, .ref q4, .ref q5, .ref q6, .ref q7, .ref q8, .null, .null, .null, .null, .null, .long 0, .int 0])), (q1, .inl (cI, 65, .inl (fun _ => 0))), (q2, .inl (cZ, 65, .inl (fun _ => 0))), (q3, .inl (cZ, 65, .inl (fun _ => 0))), (q4, .inl (cZ, 65, .inl (fun _ => 0))), (q5, .inl (cI, 65, .inl (fun _ => 0))), (q6, .inl (cL, 65, .inr (.inl (fun _ => 0)))), (q7, .inl (cL, 65, .inr (.inl (fun _ => 0)))), (q8, .inl (cL, 65, .inr (.inl (fun _ => 0))))] H := hP
  have hD : va_D A [(h0, .inr (3, [.int 0, .int 0, .ref q1, .ref q2, .ref q3, .ref q4, .ref q5, .ref q6, .ref q7, .ref q8, .null, .null, .null, .null, .null, .long 0, .int 0])), (q1, .inl (cI, 65, .inl (fun _ => 0))), (q2, .inl (cZ, 65, .inl (fun _ => 0))), (q3, .inl (cZ, 65, .inl (fun _ => 0))), (q4, .inl (cZ, 65, .inl (fun _ => 0))), (q5, .inl (cI, 65, .inl (fun _ => 0))), (q6, .inl (cL, 65, .inr (.inl (fun _ => 0)))), (q7, .inl (cL, 65, .inr (.inl (fun _ => 0)))), (q8, .inl (cL, 65, .inr (.inl (fun _ => 0))))] := hD
  refine lv_aload_n hx hb kd_M_init_68 rfl (lv_at hl 0 rfl) ?_
  refine lv_bipush (v := 65) hx hb kd_M_init_69 (by decide) ?_
  refine va_newa (atype := .boolean) (ty := .boolean) (N' := 65) (a0 := (65, .inl (fun _ => 0))) hx hb (hw _ kw_294) rfl hK hP hD hS hA (fun _ => rfl) (by decide) rfl (by decide) (Nat.le_of_ble_eq_true rfl) (Nat.le_of_ble_eq_true rfl) kd_M_init_71 (fun q9 cA9 H hK1 hP hD hS => ?_)
  have ec : cA9 = cZ := k_uni hK1 (i := 3) (j := 1) rfl rfl
  rw [ec] at hP hD
  have hP : va_P D kCl [(h0, .inr (3, [.int 0, .int 0, .ref q1, .ref q2, .ref q3, .ref q4, .ref q5, .ref q6, .ref q7, .ref q8, .null, .null, .null, .null, .null, .long 0, .int 0])), (q1, .inl (cI, 65, .inl (fun _ => 0))), (q2, .inl (cZ, 65, .inl (fun _ => 0))), (q3, .inl (cZ, 65, .inl (fun _ => 0))), (q4, .inl (cZ, 65, .inl (fun _ => 0))), (q5, .inl (cI, 65, .inl (fun _ => 0))), (q6, .inl (cL, 65, .inr (.inl (fun _ => 0)))), (q7, .inl (cL, 65, .inr (.inl (fun _ => 0)))), (q8, .inl (cL, 65, .inr (.inl (fun _ => 0)))), (q9, .inl (cZ, 65, .inl (fun _ => 0)))] H := hP
  have hD : va_D A [(h0, .inr (3, [.int 0, .int 0, .ref q1, .ref q2, .ref q3, .ref q4, .ref q5, .ref q6, .ref q7, .ref q8, .null, .null, .null, .null, .null, .long 0, .int 0])), (q1, .inl (cI, 65, .inl (fun _ => 0))), (q2, .inl (cZ, 65, .inl (fun _ => 0))), (q3, .inl (cZ, 65, .inl (fun _ => 0))), (q4, .inl (cZ, 65, .inl (fun _ => 0))), (q5, .inl (cI, 65, .inl (fun _ => 0))), (q6, .inl (cL, 65, .inr (.inl (fun _ => 0)))), (q7, .inl (cL, 65, .inr (.inl (fun _ => 0)))), (q8, .inl (cL, 65, .inr (.inl (fun _ => 0)))), (q9, .inl (cZ, 65, .inl (fun _ => 0)))] := hD
  refine W.widen (k := 9) (n := 585) (Nat.le_of_ble_eq_true rfl) (Nat.le_of_ble_eq_true rfl) ?_
  refine va_putF (D := (D)) (ci := 3) (v := .ref q9) (C := kR_M) (T := kT_M) (N := 17) hx hb hw ki_M kt_M ko_M kn_M hown hK hP hD hS 0 rfl rfl 10 (by decide) (hw _ kw_251) (fun _ h9 => h9) rfl hin rfl (ko_M 10 (by decide)) rfl rfl (Nat.le_of_ble_eq_true rfl) kd_M_init_73 (fun H locs hP hD hS => ?_)
  have hP : va_P D kCl [(h0, .inr (3, [.int 0, .int 0, .ref q1, .ref q2, .ref q3, .ref q4, .ref q5, .ref q6, .ref q7, .ref q8, .ref q9, .null, .null, .null, .null, .long 0, .int 0])), (q1, .inl (cI, 65, .inl (fun _ => 0))), (q2, .inl (cZ, 65, .inl (fun _ => 0))), (q3, .inl (cZ, 65, .inl (fun _ => 0))), (q4, .inl (cZ, 65, .inl (fun _ => 0))), (q5, .inl (cI, 65, .inl (fun _ => 0))), (q6, .inl (cL, 65, .inr (.inl (fun _ => 0)))), (q7, .inl (cL, 65, .inr (.inl (fun _ => 0)))), (q8, .inl (cL, 65, .inr (.inl (fun _ => 0)))), (q9, .inl (cZ, 65, .inl (fun _ => 0)))] H := hP
  have hD : va_D A [(h0, .inr (3, [.int 0, .int 0, .ref q1, .ref q2, .ref q3, .ref q4, .ref q5, .ref q6, .ref q7, .ref q8, .ref q9, .null, .null, .null, .null, .long 0, .int 0])), (q1, .inl (cI, 65, .inl (fun _ => 0))), (q2, .inl (cZ, 65, .inl (fun _ => 0))), (q3, .inl (cZ, 65, .inl (fun _ => 0))), (q4, .inl (cZ, 65, .inl (fun _ => 0))), (q5, .inl (cI, 65, .inl (fun _ => 0))), (q6, .inl (cL, 65, .inr (.inl (fun _ => 0)))), (q7, .inl (cL, 65, .inr (.inl (fun _ => 0)))), (q8, .inl (cL, 65, .inr (.inl (fun _ => 0)))), (q9, .inl (cZ, 65, .inl (fun _ => 0)))] := hD
  refine lv_aload_n hx hb kd_M_init_76 rfl (lv_at hl 0 rfl) ?_
  refine lv_bipush (v := 65) hx hb kd_M_init_77 (by decide) ?_
  refine va_newa (atype := .long) (ty := .long) (N' := 65) (a0 := (65, .inr (.inl (fun _ => 0)))) hx hb (hw _ kw_48) rfl hK hP hD hS hA (fun _ => rfl) (by decide) rfl (by decide) (Nat.le_of_ble_eq_true rfl) (Nat.le_of_ble_eq_true rfl) kd_M_init_79 (fun q10 cA10 H hK1 hP hD hS => ?_)
  have ec : cA10 = cL := k_uni hK1 (i := 3) (j := 2) rfl rfl
  rw [ec] at hP hD
  have hP : va_P D kCl [(h0, .inr (3, [.int 0, .int 0, .ref q1, .ref q2, .ref q3, .ref q4, .ref q5, .ref q6, .ref q7, .ref q8, .ref q9, .null, .null, .null, .null, .long 0, .int 0])), (q1, .inl (cI, 65, .inl (fun _ => 0))), (q2, .inl (cZ, 65, .inl (fun _ => 0))), (q3, .inl (cZ, 65, .inl (fun _ => 0))), (q4, .inl (cZ, 65, .inl (fun _ => 0))), (q5, .inl (cI, 65, .inl (fun _ => 0))), (q6, .inl (cL, 65, .inr (.inl (fun _ => 0)))), (q7, .inl (cL, 65, .inr (.inl (fun _ => 0)))), (q8, .inl (cL, 65, .inr (.inl (fun _ => 0)))), (q9, .inl (cZ, 65, .inl (fun _ => 0))), (q10, .inl (cL, 65, .inr (.inl (fun _ => 0))))] H := hP
  have hD : va_D A [(h0, .inr (3, [.int 0, .int 0, .ref q1, .ref q2, .ref q3, .ref q4, .ref q5, .ref q6, .ref q7, .ref q8, .ref q9, .null, .null, .null, .null, .long 0, .int 0])), (q1, .inl (cI, 65, .inl (fun _ => 0))), (q2, .inl (cZ, 65, .inl (fun _ => 0))), (q3, .inl (cZ, 65, .inl (fun _ => 0))), (q4, .inl (cZ, 65, .inl (fun _ => 0))), (q5, .inl (cI, 65, .inl (fun _ => 0))), (q6, .inl (cL, 65, .inr (.inl (fun _ => 0)))), (q7, .inl (cL, 65, .inr (.inl (fun _ => 0)))), (q8, .inl (cL, 65, .inr (.inl (fun _ => 0)))), (q9, .inl (cZ, 65, .inl (fun _ => 0))), (q10, .inl (cL, 65, .inr (.inl (fun _ => 0))))] := hD
  refine W.widen (k := 10) (n := 650) (Nat.le_of_ble_eq_true rfl) (Nat.le_of_ble_eq_true rfl) ?_
  refine va_putF (D := (D)) (ci := 3) (v := .ref q10) (C := kR_M) (T := kT_M) (N := 17) hx hb hw ki_M kt_M ko_M kn_M hown hK hP hD hS 0 rfl rfl 11 (by decide) (hw _ kw_252) (fun _ h9 => h9) rfl hin rfl (ko_M 11 (by decide)) rfl rfl (Nat.le_of_ble_eq_true rfl) kd_M_init_81 (fun H locs hP hD hS => ?_)
  have hP : va_P D kCl [(h0, .inr (3, [.int 0, .int 0, .ref q1, .ref q2, .ref q3, .ref q4, .ref q5, .ref q6, .ref q7, .ref q8, .ref q9, .ref q10, .null, .null, .null, .long 0, .int 0])), (q1, .inl (cI, 65, .inl (fun _ => 0))), (q2, .inl (cZ, 65, .inl (fun _ => 0))), (q3, .inl (cZ, 65, .inl (fun _ => 0))), (q4, .inl (cZ, 65, .inl (fun _ => 0))), (q5, .inl (cI, 65, .inl (fun _ => 0))), (q6, .inl (cL, 65, .inr (.inl (fun _ => 0)))), (q7, .inl (cL, 65, .inr (.inl (fun _ => 0)))), (q8, .inl (cL, 65, .inr (.inl (fun _ => 0)))), (q9, .inl (cZ, 65, .inl (fun _ => 0))), (q10, .inl (cL, 65, .inr (.inl (fun _ => 0))))] H := hP
  have hD : va_D A [(h0, .inr (3, [.int 0, .int 0, .ref q1, .ref q2, .ref q3, .ref q4, .ref q5, .ref q6, .ref q7, .ref q8, .ref q9, .ref q10, .null, .null, .null, .long 0, .int 0])), (q1, .inl (cI, 65, .inl (fun _ => 0))), (q2, .inl (cZ, 65, .inl (fun _ => 0))), (q3, .inl (cZ, 65, .inl (fun _ => 0))), (q4, .inl (cZ, 65, .inl (fun _ => 0))), (q5, .inl (cI, 65, .inl (fun _ => 0))), (q6, .inl (cL, 65, .inr (.inl (fun _ => 0)))), (q7, .inl (cL, 65, .inr (.inl (fun _ => 0)))), (q8, .inl (cL, 65, .inr (.inl (fun _ => 0)))), (q9, .inl (cZ, 65, .inl (fun _ => 0))), (q10, .inl (cL, 65, .inr (.inl (fun _ => 0))))] := hD
  refine lv_aload_n hx hb kd_M_init_84 rfl (lv_at hl 0 rfl) ?_
  refine lv_bipush (v := 9) hx hb kd_M_init_85 (by decide) ?_
  refine va_newa (atype := .int) (ty := .int) (N' := 9) (a0 := (9, .inl (fun _ => 0))) hx hb (hw _ kw_293) rfl hK hP hD hS hA (fun _ => rfl) (by decide) rfl (by decide) (Nat.le_of_ble_eq_true rfl) (Nat.le_of_ble_eq_true rfl) kd_M_init_87 (fun q11 cA11 H hK1 hP hD hS => ?_)
  have ec : cA11 = cI := k_uni hK1 (i := 3) (j := 0) rfl rfl
  rw [ec] at hP hD
  have hP : va_P D kCl [(h0, .inr (3, [.int 0, .int 0, .ref q1, .ref q2, .ref q3, .ref q4, .ref q5, .ref q6, .ref q7, .ref q8, .ref q9, .ref q10, .null, .null, .null, .long 0, .int 0])), (q1, .inl (cI, 65, .inl (fun _ => 0))), (q2, .inl (cZ, 65, .inl (fun _ => 0))), (q3, .inl (cZ, 65, .inl (fun _ => 0))), (q4, .inl (cZ, 65, .inl (fun _ => 0))), (q5, .inl (cI, 65, .inl (fun _ => 0))), (q6, .inl (cL, 65, .inr (.inl (fun _ => 0)))), (q7, .inl (cL, 65, .inr (.inl (fun _ => 0)))), (q8, .inl (cL, 65, .inr (.inl (fun _ => 0)))), (q9, .inl (cZ, 65, .inl (fun _ => 0))), (q10, .inl (cL, 65, .inr (.inl (fun _ => 0)))), (q11, .inl (cI, 9, .inl (fun _ => 0)))] H := hP
  have hD : va_D A [(h0, .inr (3, [.int 0, .int 0, .ref q1, .ref q2, .ref q3, .ref q4, .ref q5, .ref q6, .ref q7, .ref q8, .ref q9, .ref q10, .null, .null, .null, .long 0, .int 0])), (q1, .inl (cI, 65, .inl (fun _ => 0))), (q2, .inl (cZ, 65, .inl (fun _ => 0))), (q3, .inl (cZ, 65, .inl (fun _ => 0))), (q4, .inl (cZ, 65, .inl (fun _ => 0))), (q5, .inl (cI, 65, .inl (fun _ => 0))), (q6, .inl (cL, 65, .inr (.inl (fun _ => 0)))), (q7, .inl (cL, 65, .inr (.inl (fun _ => 0)))), (q8, .inl (cL, 65, .inr (.inl (fun _ => 0)))), (q9, .inl (cZ, 65, .inl (fun _ => 0))), (q10, .inl (cL, 65, .inr (.inl (fun _ => 0)))), (q11, .inl (cI, 9, .inl (fun _ => 0)))] := hD
  refine W.widen (k := 11) (n := 659) (Nat.le_of_ble_eq_true rfl) (Nat.le_of_ble_eq_true rfl) ?_
  refine va_putF (D := (D)) (ci := 3) (v := .ref q11) (C := kR_M) (T := kT_M) (N := 17) hx hb hw ki_M kt_M ko_M kn_M hown hK hP hD hS 0 rfl rfl 12 (by decide) (hw _ kw_253) (fun _ h9 => h9) rfl hin rfl (ko_M 12 (by decide)) rfl rfl (Nat.le_of_ble_eq_true rfl) kd_M_init_89 (fun H locs hP hD hS => ?_)
  have hP : va_P D kCl [(h0, .inr (3, [.int 0, .int 0, .ref q1, .ref q2, .ref q3, .ref q4, .ref q5, .ref q6, .ref q7, .ref q8, .ref q9, .ref q10, .ref q11, .null, .null, .long 0, .int 0])), (q1, .inl (cI, 65, .inl (fun _ => 0))), (q2, .inl (cZ, 65, .inl (fun _ => 0))), (q3, .inl (cZ, 65, .inl (fun _ => 0))), (q4, .inl (cZ, 65, .inl (fun _ => 0))), (q5, .inl (cI, 65, .inl (fun _ => 0))), (q6, .inl (cL, 65, .inr (.inl (fun _ => 0)))), (q7, .inl (cL, 65, .inr (.inl (fun _ => 0)))), (q8, .inl (cL, 65, .inr (.inl (fun _ => 0)))), (q9, .inl (cZ, 65, .inl (fun _ => 0))), (q10, .inl (cL, 65, .inr (.inl (fun _ => 0)))), (q11, .inl (cI, 9, .inl (fun _ => 0)))] H := hP
  have hD : va_D A [(h0, .inr (3, [.int 0, .int 0, .ref q1, .ref q2, .ref q3, .ref q4, .ref q5, .ref q6, .ref q7, .ref q8, .ref q9, .ref q10, .ref q11, .null, .null, .long 0, .int 0])), (q1, .inl (cI, 65, .inl (fun _ => 0))), (q2, .inl (cZ, 65, .inl (fun _ => 0))), (q3, .inl (cZ, 65, .inl (fun _ => 0))), (q4, .inl (cZ, 65, .inl (fun _ => 0))), (q5, .inl (cI, 65, .inl (fun _ => 0))), (q6, .inl (cL, 65, .inr (.inl (fun _ => 0)))), (q7, .inl (cL, 65, .inr (.inl (fun _ => 0)))), (q8, .inl (cL, 65, .inr (.inl (fun _ => 0)))), (q9, .inl (cZ, 65, .inl (fun _ => 0))), (q10, .inl (cL, 65, .inr (.inl (fun _ => 0)))), (q11, .inl (cI, 9, .inl (fun _ => 0)))] := hD
  refine lv_aload_n hx hb kd_M_init_92 rfl (lv_at hl 0 rfl) ?_
  refine lv_sipush (v := 288) hx hb kd_M_init_93 (by decide) ?_
  refine va_newa (atype := .long) (ty := .long) (N' := 288) (a0 := (288, .inr (.inl (fun _ => 0)))) hx hb (hw _ kw_48) rfl hK hP hD hS hA (fun _ => rfl) (by decide) rfl (by decide) (Nat.le_of_ble_eq_true rfl) (Nat.le_of_ble_eq_true rfl) kd_M_init_96 (fun q12 cA12 H hK1 hP hD hS => ?_)
  have ec : cA12 = cL := k_uni hK1 (i := 3) (j := 2) rfl rfl
  rw [ec] at hP hD
  have hP : va_P D kCl [(h0, .inr (3, [.int 0, .int 0, .ref q1, .ref q2, .ref q3, .ref q4, .ref q5, .ref q6, .ref q7, .ref q8, .ref q9, .ref q10, .ref q11, .null, .null, .long 0, .int 0])), (q1, .inl (cI, 65, .inl (fun _ => 0))), (q2, .inl (cZ, 65, .inl (fun _ => 0))), (q3, .inl (cZ, 65, .inl (fun _ => 0))), (q4, .inl (cZ, 65, .inl (fun _ => 0))), (q5, .inl (cI, 65, .inl (fun _ => 0))), (q6, .inl (cL, 65, .inr (.inl (fun _ => 0)))), (q7, .inl (cL, 65, .inr (.inl (fun _ => 0)))), (q8, .inl (cL, 65, .inr (.inl (fun _ => 0)))), (q9, .inl (cZ, 65, .inl (fun _ => 0))), (q10, .inl (cL, 65, .inr (.inl (fun _ => 0)))), (q11, .inl (cI, 9, .inl (fun _ => 0))), (q12, .inl (cL, 288, .inr (.inl (fun _ => 0))))] H := hP
  have hD : va_D A [(h0, .inr (3, [.int 0, .int 0, .ref q1, .ref q2, .ref q3, .ref q4, .ref q5, .ref q6, .ref q7, .ref q8, .ref q9, .ref q10, .ref q11, .null, .null, .long 0, .int 0])), (q1, .inl (cI, 65, .inl (fun _ => 0))), (q2, .inl (cZ, 65, .inl (fun _ => 0))), (q3, .inl (cZ, 65, .inl (fun _ => 0))), (q4, .inl (cZ, 65, .inl (fun _ => 0))), (q5, .inl (cI, 65, .inl (fun _ => 0))), (q6, .inl (cL, 65, .inr (.inl (fun _ => 0)))), (q7, .inl (cL, 65, .inr (.inl (fun _ => 0)))), (q8, .inl (cL, 65, .inr (.inl (fun _ => 0)))), (q9, .inl (cZ, 65, .inl (fun _ => 0))), (q10, .inl (cL, 65, .inr (.inl (fun _ => 0)))), (q11, .inl (cI, 9, .inl (fun _ => 0))), (q12, .inl (cL, 288, .inr (.inl (fun _ => 0))))] := hD
  refine W.widen (k := 12) (n := 947) (Nat.le_of_ble_eq_true rfl) (Nat.le_of_ble_eq_true rfl) ?_
  refine va_putF (D := (D)) (ci := 3) (v := .ref q12) (C := kR_M) (T := kT_M) (N := 17) hx hb hw ki_M kt_M ko_M kn_M hown hK hP hD hS 0 rfl rfl 13 (by decide) (hw _ kw_254) (fun _ h9 => h9) rfl hin rfl (ko_M 13 (by decide)) rfl rfl (Nat.le_of_ble_eq_true rfl) kd_M_init_98 (fun H locs hP hD hS => ?_)
  have hP : va_P D kCl [(h0, .inr (3, [.int 0, .int 0, .ref q1, .ref q2, .ref q3, .ref q4, .ref q5, .ref q6, .ref q7, .ref q8, .ref q9, .ref q10, .ref q11, .ref q12, .null, .long 0, .int 0])), (q1, .inl (cI, 65, .inl (fun _ => 0))), (q2, .inl (cZ, 65, .inl (fun _ => 0))), (q3, .inl (cZ, 65, .inl (fun _ => 0))), (q4, .inl (cZ, 65, .inl (fun _ => 0))), (q5, .inl (cI, 65, .inl (fun _ => 0))), (q6, .inl (cL, 65, .inr (.inl (fun _ => 0)))), (q7, .inl (cL, 65, .inr (.inl (fun _ => 0)))), (q8, .inl (cL, 65, .inr (.inl (fun _ => 0)))), (q9, .inl (cZ, 65, .inl (fun _ => 0))), (q10, .inl (cL, 65, .inr (.inl (fun _ => 0)))), (q11, .inl (cI, 9, .inl (fun _ => 0))), (q12, .inl (cL, 288, .inr (.inl (fun _ => 0))))] H := hP
  have hD : va_D A [(h0, .inr (3, [.int 0, .int 0, .ref q1, .ref q2, .ref q3, .ref q4, .ref q5, .ref q6, .ref q7, .ref q8, .ref q9, .ref q10, .ref q11, .ref q12, .null, .long 0, .int 0])), (q1, .inl (cI, 65, .inl (fun _ => 0))), (q2, .inl (cZ, 65, .inl (fun _ => 0))), (q3, .inl (cZ, 65, .inl (fun _ => 0))), (q4, .inl (cZ, 65, .inl (fun _ => 0))), (q5, .inl (cI, 65, .inl (fun _ => 0))), (q6, .inl (cL, 65, .inr (.inl (fun _ => 0)))), (q7, .inl (cL, 65, .inr (.inl (fun _ => 0)))), (q8, .inl (cL, 65, .inr (.inl (fun _ => 0)))), (q9, .inl (cZ, 65, .inl (fun _ => 0))), (q10, .inl (cL, 65, .inr (.inl (fun _ => 0)))), (q11, .inl (cI, 9, .inl (fun _ => 0))), (q12, .inl (cL, 288, .inr (.inl (fun _ => 0))))] := hD
  refine lv_aload_n hx hb kd_M_init_101 rfl (lv_at hl 0 rfl) ?_
  refine lv_sipush (v := 288) hx hb kd_M_init_102 (by decide) ?_
  refine va_newa (atype := .boolean) (ty := .boolean) (N' := 288) (a0 := (288, .inl (fun _ => 0))) hx hb (hw _ kw_294) rfl hK hP hD hS hA (fun _ => rfl) (by decide) rfl (by decide) (Nat.le_of_ble_eq_true rfl) (Nat.le_of_ble_eq_true rfl) kd_M_init_105 (fun q13 cA13 H hK1 hP hD hS => ?_)
  have ec : cA13 = cZ := k_uni hK1 (i := 3) (j := 1) rfl rfl
  rw [ec] at hP hD
  have hP : va_P D kCl [(h0, .inr (3, [.int 0, .int 0, .ref q1, .ref q2, .ref q3, .ref q4, .ref q5, .ref q6, .ref q7, .ref q8, .ref q9, .ref q10, .ref q11, .ref q12, .null, .long 0, .int 0])), (q1, .inl (cI, 65, .inl (fun _ => 0))), (q2, .inl (cZ, 65, .inl (fun _ => 0))), (q3, .inl (cZ, 65, .inl (fun _ => 0))), (q4, .inl (cZ, 65, .inl (fun _ => 0))), (q5, .inl (cI, 65, .inl (fun _ => 0))), (q6, .inl (cL, 65, .inr (.inl (fun _ => 0)))), (q7, .inl (cL, 65, .inr (.inl (fun _ => 0)))), (q8, .inl (cL, 65, .inr (.inl (fun _ => 0)))), (q9, .inl (cZ, 65, .inl (fun _ => 0))), (q10, .inl (cL, 65, .inr (.inl (fun _ => 0)))), (q11, .inl (cI, 9, .inl (fun _ => 0))), (q12, .inl (cL, 288, .inr (.inl (fun _ => 0)))), (q13, .inl (cZ, 288, .inl (fun _ => 0)))] H := hP
  have hD : va_D A [(h0, .inr (3, [.int 0, .int 0, .ref q1, .ref q2, .ref q3, .ref q4, .ref q5, .ref q6, .ref q7, .ref q8, .ref q9, .ref q10, .ref q11, .ref q12, .null, .long 0, .int 0])), (q1, .inl (cI, 65, .inl (fun _ => 0))), (q2, .inl (cZ, 65, .inl (fun _ => 0))), (q3, .inl (cZ, 65, .inl (fun _ => 0))), (q4, .inl (cZ, 65, .inl (fun _ => 0))), (q5, .inl (cI, 65, .inl (fun _ => 0))), (q6, .inl (cL, 65, .inr (.inl (fun _ => 0)))), (q7, .inl (cL, 65, .inr (.inl (fun _ => 0)))), (q8, .inl (cL, 65, .inr (.inl (fun _ => 0)))), (q9, .inl (cZ, 65, .inl (fun _ => 0))), (q10, .inl (cL, 65, .inr (.inl (fun _ => 0)))), (q11, .inl (cI, 9, .inl (fun _ => 0))), (q12, .inl (cL, 288, .inr (.inl (fun _ => 0)))), (q13, .inl (cZ, 288, .inl (fun _ => 0)))] := hD
  refine W.widen (k := 13) (n := 1235) (Nat.le_of_ble_eq_true rfl) (Nat.le_of_ble_eq_true rfl) ?_
  refine va_putF (D := (D)) (ci := 3) (v := .ref q13) (C := kR_M) (T := kT_M) (N := 17) hx hb hw ki_M kt_M ko_M kn_M hown hK hP hD hS 0 rfl rfl 14 (by decide) (hw _ kw_255) (fun _ h9 => h9) rfl hin rfl (ko_M 14 (by decide)) rfl rfl (Nat.le_of_ble_eq_true rfl) kd_M_init_107 (fun H locs hP hD hS => ?_)
  have hP : va_P D kCl [(h0, .inr (3, [.int 0, .int 0, .ref q1, .ref q2, .ref q3, .ref q4, .ref q5, .ref q6, .ref q7, .ref q8, .ref q9, .ref q10, .ref q11, .ref q12, .ref q13, .long 0, .int 0])), (q1, .inl (cI, 65, .inl (fun _ => 0))), (q2, .inl (cZ, 65, .inl (fun _ => 0))), (q3, .inl (cZ, 65, .inl (fun _ => 0))), (q4, .inl (cZ, 65, .inl (fun _ => 0))), (q5, .inl (cI, 65, .inl (fun _ => 0))), (q6, .inl (cL, 65, .inr (.inl (fun _ => 0)))), (q7, .inl (cL, 65, .inr (.inl (fun _ => 0)))), (q8, .inl (cL, 65, .inr (.inl (fun _ => 0)))), (q9, .inl (cZ, 65, .inl (fun _ => 0))), (q10, .inl (cL, 65, .inr (.inl (fun _ => 0)))), (q11, .inl (cI, 9, .inl (fun _ => 0))), (q12, .inl (cL, 288, .inr (.inl (fun _ => 0)))), (q13, .inl (cZ, 288, .inl (fun _ => 0)))] H := hP
  have hD : va_D A [(h0, .inr (3, [.int 0, .int 0, .ref q1, .ref q2, .ref q3, .ref q4, .ref q5, .ref q6, .ref q7, .ref q8, .ref q9, .ref q10, .ref q11, .ref q12, .ref q13, .long 0, .int 0])), (q1, .inl (cI, 65, .inl (fun _ => 0))), (q2, .inl (cZ, 65, .inl (fun _ => 0))), (q3, .inl (cZ, 65, .inl (fun _ => 0))), (q4, .inl (cZ, 65, .inl (fun _ => 0))), (q5, .inl (cI, 65, .inl (fun _ => 0))), (q6, .inl (cL, 65, .inr (.inl (fun _ => 0)))), (q7, .inl (cL, 65, .inr (.inl (fun _ => 0)))), (q8, .inl (cL, 65, .inr (.inl (fun _ => 0)))), (q9, .inl (cZ, 65, .inl (fun _ => 0))), (q10, .inl (cL, 65, .inr (.inl (fun _ => 0)))), (q11, .inl (cI, 9, .inl (fun _ => 0))), (q12, .inl (cL, 288, .inr (.inl (fun _ => 0)))), (q13, .inl (cZ, 288, .inl (fun _ => 0)))] := hD
  have rest : W p l e (headSpec (km ky_M_init kc_M_init 3 none) ({ frames := 1, cells := 13, slots := 1235, locals := 12 })).room s m [.ref h0, .int x].toArray below meth c H locs 13 1235 (MQ below (va_Qv (fun ad : Nat × Nat → Nat => ad (0, 0) = h0) (fun ad t => va_P D kCl (kW kM ad (gM n ad cI cZ cL ms0)) t.heap ∧ va_K D kCl (tM cI cZ cL) t ∧ va_D A (kW kM ad (gM n ad cI cZ cL ms0))) A) [.ref h0, .int x].toArray s 13 1235 A) (F0 m 128 ls [.int (nI n), .ref h0]) := by
    refine va_putF (D := (D)) (ci := 3) (v := .int (nI n)) (C := kR_M) (T := kT_M) (N := 17) hx hb hw ki_M kt_M ko_M kn_M hown hK hP hD hS 0 rfl rfl 1 (by decide) (hw _ kw_242) (fun _ h9 => h9) rfl hin rfl (ko_M 1 (by decide)) rfl rfl (Nat.le_of_ble_eq_true rfl) kd_M_init_128 (fun H locs hP hD hS => ?_)
    have hP : va_P D kCl [(h0, .inr (3, [.int 0, .int (nI n), .ref q1, .ref q2, .ref q3, .ref q4, .ref q5, .ref q6, .ref q7, .ref q8, .ref q9, .ref q10, .ref q11, .ref q12, .ref q13, .long 0, .int 0])), (q1, .inl (cI, 65, .inl (fun _ => 0))), (q2, .inl (cZ, 65, .inl (fun _ => 0))), (q3, .inl (cZ, 65, .inl (fun _ => 0))), (q4, .inl (cZ, 65, .inl (fun _ => 0))), (q5, .inl (cI, 65, .inl (fun _ => 0))), (q6, .inl (cL, 65, .inr (.inl (fun _ => 0)))), (q7, .inl (cL, 65, .inr (.inl (fun _ => 0)))), (q8, .inl (cL, 65, .inr (.inl (fun _ => 0)))), (q9, .inl (cZ, 65, .inl (fun _ => 0))), (q10, .inl (cL, 65, .inr (.inl (fun _ => 0)))), (q11, .inl (cI, 9, .inl (fun _ => 0))), (q12, .inl (cL, 288, .inr (.inl (fun _ => 0)))), (q13, .inl (cZ, 288, .inl (fun _ => 0)))] H := hP
    have hD : va_D A [(h0, .inr (3, [.int 0, .int (nI n), .ref q1, .ref q2, .ref q3, .ref q4, .ref q5, .ref q6, .ref q7, .ref q8, .ref q9, .ref q10, .ref q11, .ref q12, .ref q13, .long 0, .int 0])), (q1, .inl (cI, 65, .inl (fun _ => 0))), (q2, .inl (cZ, 65, .inl (fun _ => 0))), (q3, .inl (cZ, 65, .inl (fun _ => 0))), (q4, .inl (cZ, 65, .inl (fun _ => 0))), (q5, .inl (cI, 65, .inl (fun _ => 0))), (q6, .inl (cL, 65, .inr (.inl (fun _ => 0)))), (q7, .inl (cL, 65, .inr (.inl (fun _ => 0)))), (q8, .inl (cL, 65, .inr (.inl (fun _ => 0)))), (q9, .inl (cZ, 65, .inl (fun _ => 0))), (q10, .inl (cL, 65, .inr (.inl (fun _ => 0)))), (q11, .inl (cI, 9, .inl (fun _ => 0))), (q12, .inl (cL, 288, .inr (.inl (fun _ => 0)))), (q13, .inl (cZ, 288, .inl (fun _ => 0)))] := hD
    have hP : va_P D kCl [(h0, .inr (3, [.int 0, .int (nI n), .ref q1, .ref q2, .ref q3, .ref q4, .ref q5, .ref q6, .ref q7, .ref q8, .ref q9, .ref q10, .ref q11, .ref q12, .ref q13, .long 0, .int 0])), (q1, .inl (cI, 65, .inl (fun _ => 0))), (q2, .inl (cZ, 65, .inl (fun _ => 0))), (q3, .inl (cZ, 65, .inl (fun _ => 0))), (q4, .inl (cZ, 65, .inl (fun _ => 0))), (q5, .inl (cI, 65, .inl (fun _ => 0))), (q6, .inl (cL, 65, .inr (.inl (fun _ => 0)))), (q7, .inl (cL, 65, .inr (.inl (fun _ => 0)))), (q8, .inl (cL, 65, .inr (.inl (fun _ => 0)))), (q9, .inl (cZ, 65, .inl (fun _ => 0))), (q10, .inl (cL, 65, .inr (.inl (fun _ => 0)))), (q11, .inl (cI, 9, .inl (nmF 0))), (q12, .inl (cL, 288, .inr (.inl (fun _ => 0)))), (q13, .inl (cZ, 288, .inl (fun _ => 0)))] H := by rw [← nmF_0]; exact hP
    have hD : va_D A [(h0, .inr (3, [.int 0, .int (nI n), .ref q1, .ref q2, .ref q3, .ref q4, .ref q5, .ref q6, .ref q7, .ref q8, .ref q9, .ref q10, .ref q11, .ref q12, .ref q13, .long 0, .int 0])), (q1, .inl (cI, 65, .inl (fun _ => 0))), (q2, .inl (cZ, 65, .inl (fun _ => 0))), (q3, .inl (cZ, 65, .inl (fun _ => 0))), (q4, .inl (cZ, 65, .inl (fun _ => 0))), (q5, .inl (cI, 65, .inl (fun _ => 0))), (q6, .inl (cL, 65, .inr (.inl (fun _ => 0)))), (q7, .inl (cL, 65, .inr (.inl (fun _ => 0)))), (q8, .inl (cL, 65, .inr (.inl (fun _ => 0)))), (q9, .inl (cZ, 65, .inl (fun _ => 0))), (q10, .inl (cL, 65, .inr (.inl (fun _ => 0)))), (q11, .inl (cI, 9, .inl (nmF 0))), (q12, .inl (cL, 288, .inr (.inl (fun _ => 0)))), (q13, .inl (cZ, 288, .inl (fun _ => 0)))] := by rw [← nmF_0]; exact hD
    refine lv_iconst (v := 1) hx hb kd_M_init_131 (by decide) ?_
    refine lv_istore_n (lv' := [(2, .int 1), (0, .ref h0), (1, .int x)]) hx hb kd_M_init_132 rfl hl (by decide) rfl (fun ls hl => ?_)
    have loop : ∀ (q j : Nat) (H : Heap) (locs : List Loc) (ls : Array Slot), j ≤ 8 → 8 < j + q → va_P D kCl [(h0, .inr (3, [.int 0, .int (nI n), .ref q1, .ref q2, .ref q3, .ref q4, .ref q5, .ref q6, .ref q7, .ref q8, .ref q9, .ref q10, .ref q11, .ref q12, .ref q13, .long 0, .int 0])), (q1, .inl (cI, 65, .inl (fun _ => 0))), (q2, .inl (cZ, 65, .inl (fun _ => 0))), (q3, .inl (cZ, 65, .inl (fun _ => 0))), (q4, .inl (cZ, 65, .inl (fun _ => 0))), (q5, .inl (cI, 65, .inl (fun _ => 0))), (q6, .inl (cL, 65, .inr (.inl (fun _ => 0)))), (q7, .inl (cL, 65, .inr (.inl (fun _ => 0)))), (q8, .inl (cL, 65, .inr (.inl (fun _ => 0)))), (q9, .inl (cZ, 65, .inl (fun _ => 0))), (q10, .inl (cL, 65, .inr (.inl (fun _ => 0)))), (q11, .inl (cI, 9, .inl (nmF j))), (q12, .inl (cL, 288, .inr (.inl (fun _ => 0)))), (q13, .inl (cZ, 288, .inl (fun _ => 0)))] H → va_D A [(h0, .inr (3, [.int 0, .int (nI n), .ref q1, .ref q2, .ref q3, .ref q4, .ref q5, .ref q6, .ref q7, .ref q8, .ref q9, .ref q10, .ref q11, .ref q12, .ref q13, .long 0, .int 0])), (q1, .inl (cI, 65, .inl (fun _ => 0))), (q2, .inl (cZ, 65, .inl (fun _ => 0))), (q3, .inl (cZ, 65, .inl (fun _ => 0))), (q4, .inl (cZ, 65, .inl (fun _ => 0))), (q5, .inl (cI, 65, .inl (fun _ => 0))), (q6, .inl (cL, 65, .inr (.inl (fun _ => 0)))), (q7, .inl (cL, 65, .inr (.inl (fun _ => 0)))), (q8, .inl (cL, 65, .inr (.inl (fun _ => 0)))), (q9, .inl (cZ, 65, .inl (fun _ => 0))), (q10, .inl (cL, 65, .inr (.inl (fun _ => 0)))), (q11, .inl (cI, 9, .inl (nmF j))), (q12, .inl (cL, 288, .inr (.inl (fun _ => 0)))), (q13, .inl (cZ, 288, .inl (fun _ => 0)))] → va_S A s.heap H locs → lv_has ls 3 [(0, .ref h0), (2, .int (nI (j + 1)))] → W p l e (headSpec (km ky_M_init kc_M_init 3 none) ({ frames := 1, cells := 13, slots := 1235, locals := 12 })).room s m [.ref h0, .int x].toArray below meth c H locs 13 1235 (MQ below (va_Qv (fun ad : Nat × Nat → Nat => ad (0, 0) = h0) (fun ad t => va_P D kCl (kW kM ad (gM n ad cI cZ cL ms0)) t.heap ∧ va_K D kCl (tM cI cZ cL) t ∧ va_D A (kW kM ad (gM n ad cI cZ cL ms0))) A) [.ref h0, .int x].toArray s 13 1235 A) (F0 m 133 ls []) := by
      intro q
      induction q with
      | zero => intro j H locs ls h1 h2; exact absurd h2 (by omega)
      | succ q ih =>
        intro j H locs ls hj hq hP hD hS hl
        refine lv_iload_n hx hb kd_M_init_133 rfl (lv_at hl 1 rfl) ?_
        refine lv_bipush (v := 9) hx hb kd_M_init_134 (by decide) ?_
        refine lv_icmp_ge (tgt := 152) hx hb kd_M_init_136 (by decide) (fun c1 => ?_) (fun c1 => ?_)
        · have hje : j = 8 := lp_end1 (N := 8) (by decide) hj c1
          subst hje
          rw [gM_0] at hP hD
          exact W.vret hx hb hr (fun t ht hW => ⟨⟨_, rfl, rfl, by rw [ht]; exact hP, va_K.moved hW.alike hK, hD⟩, hS.F ht⟩) hS.2.2 kd_M_init_152
        · have hlt : j < 8 := lp_go1 (N := 8) (by decide) hj c1
          refine lv_aload_n hx hb kd_M_init_139 rfl (lv_at hl 0 rfl) ?_
          refine va_get (D := D) (ci := 3) (v := .ref q11) (C := kR_M) (T := kT_M) (N := 17) hx hb hw ki_M hown hK hP 0 rfl rfl 12 (by decide) (hw _ kw_253) (fun _ h9 => h9) rfl kd_M_init_140 ?_
          refine lv_iload_n hx hb kd_M_init_143 rfl (lv_at hl 1 rfl) ?_
          refine lv_iload_n hx hb kd_M_init_144 rfl (lv_at hl 1 rfl) ?_
          refine va_iast hx hb hK hP hD hS 11 0 rfl rfl (vp_in_nI (by omega) (by decide)) kd_M_init_145 (fun H locs hP hD hS => ?_)
          rw [nI_clamp (by omega), nmF_s] at hP hD
          refine lv_iinc (v := nI (j + 1 + 1)) (lv' := [(2, .int (nI (j + 1 + 1))), (0, .ref h0)]) hx hb kd_M_init_146 hl (k := 1) rfl (nI_1 (j + 1)) (by decide) rfl (fun ls hl => ?_)
          refine lv_goto (tgt := 133) hx hb kd_M_init_149 (by decide) ?_
          exact ih (j + 1) _ _ _ hlt (by omega) hP hD hS (lv_sub hl [1, 0] rfl)
    exact loop 9 0 _ _ _ (by omega) (by omega) hP hD hS (lv_sub hl [1, 0] rfl)
  refine lv_aload_n hx hb kd_M_init_110 rfl (lv_at hl 0 rfl) ?_
  refine lv_iload_n hx hb kd_M_init_111 rfl (lv_at hl 1 rfl) ?_
  refine lv_iconst (v := 1) hx hb kd_M_init_112 (by decide) ?_
  refine lv_icmp_lt (tgt := 122) hx hb kd_M_init_113 (by decide) (fun c1 => ?_) (fun c1 => ?_)
  · refine lv_bipush (v := 8) hx hb kd_M_init_122 (by decide) ?_
    refine lv_goto (tgt := 128) hx hb kd_M_init_124 (by decide) ?_
    rw [show nI n = 8 by rw [hca c1]; rfl] at rest
    exact rest
  · refine lv_iload_n hx hb kd_M_init_116 rfl (lv_at hl 1 rfl) ?_
    refine lv_bipush (v := 64) hx hb kd_M_init_117 (by decide) ?_
    refine lv_icmp_le (tgt := 127) hx hb kd_M_init_119 (by decide) (fun c2 => ?_) (fun c2 => ?_)
    · refine lv_iload_n hx hb kd_M_init_127 rfl (lv_at hl 1 rfl) ?_
      have e1 := (hcc c1 (Int32.not_lt.mpr c2)).1
      rw [e1] at rest
      exact rest
    · refine lv_bipush (v := 8) hx hb kd_M_init_122 (by decide) ?_
      refine lv_goto (tgt := 128) hx hb kd_M_init_124 (by decide) ?_
      rw [show nI n = 8 by rw [hcb c1 (Int32.not_le.mp c2)]; rfl] at rest
      exact rest
